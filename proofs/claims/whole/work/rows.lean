section
-- ===== PART A: goes FIRST, ahead of the names: the tables' words, and 'selects' of the private methods out of them =====
/-- a private method of a class that the tables say can be made, by its rows of tables_1 -/
def lw_okq (q : MethodName × Nat) : Prop := (q.1.cls ≠ "java/lang/invoke/MethodHandle" ∧ q.1.cls ≠ "java/lang/invoke/VarHandle") ∧ Cond.instantiable q.1.cls q.2 ∈ tables_1 ∧ Cond.privateMethod q.1 ∈ tables_1 ∧ Cond.instanceMethod q.1 ∈ tables_1
theorem lw_p0 : lw_okq (⟨"SturmianWords", "changeSlope", "(LSturmianWords$Slope;)V"⟩, 3) := ⟨⟨by decide +kernel, by decide +kernel⟩, List.mem_of_getElem? (i := 14) (by decide +kernel), List.mem_of_getElem? (i := 128) (by decide +kernel), List.mem_of_getElem? (i := 129) (by decide +kernel)⟩
theorem lw_p1 : lw_okq (⟨"SturmianWords", "changeWord", "(LSturmianWords$Word;)V"⟩, 3) := ⟨⟨by decide +kernel, by decide +kernel⟩, List.mem_of_getElem? (i := 14) (by decide +kernel), List.mem_of_getElem? (i := 180) (by decide +kernel), List.mem_of_getElem? (i := 181) (by decide +kernel)⟩
theorem lw_p2 : lw_okq (⟨"SturmianWordsModel", "save", "()V"⟩, 11) := ⟨⟨by decide +kernel, by decide +kernel⟩, List.mem_of_getElem? (i := 437) (by decide +kernel), List.mem_of_getElem? (i := 484) (by decide +kernel), List.mem_of_getElem? (i := 485) (by decide +kernel)⟩
theorem lw_p3 : lw_okq (⟨"SturmianWordsModel", "expand", "()V"⟩, 11) := ⟨⟨by decide +kernel, by decide +kernel⟩, List.mem_of_getElem? (i := 437) (by decide +kernel), List.mem_of_getElem? (i := 510) (by decide +kernel), List.mem_of_getElem? (i := 511) (by decide +kernel)⟩
theorem lw_p4 : lw_okq (⟨"SturmianWordsModel", "letterOf", "(IZ)I"⟩, 11) := ⟨⟨by decide +kernel, by decide +kernel⟩, List.mem_of_getElem? (i := 437) (by decide +kernel), List.mem_of_getElem? (i := 519) (by decide +kernel), List.mem_of_getElem? (i := 520) (by decide +kernel)⟩
theorem lw_p5 : lw_okq (⟨"SturmianWordsModel", "take", "()V"⟩, 11) := ⟨⟨by decide +kernel, by decide +kernel⟩, List.mem_of_getElem? (i := 437) (by decide +kernel), List.mem_of_getElem? (i := 530) (by decide +kernel), List.mem_of_getElem? (i := 531) (by decide +kernel)⟩
theorem lw_p6 : lw_okq (⟨"SturmianWordsModel", "further", "(I)Z"⟩, 11) := ⟨⟨by decide +kernel, by decide +kernel⟩, List.mem_of_getElem? (i := 437) (by decide +kernel), List.mem_of_getElem? (i := 541) (by decide +kernel), List.mem_of_getElem? (i := 542) (by decide +kernel)⟩
theorem lw_p7 : lw_okq (⟨"SturmianWordsModel", "appendTo", "(I)V"⟩, 11) := ⟨⟨by decide +kernel, by decide +kernel⟩, List.mem_of_getElem? (i := 437) (by decide +kernel), List.mem_of_getElem? (i := 545) (by decide +kernel), List.mem_of_getElem? (i := 546) (by decide +kernel)⟩
theorem lw_p8 : lw_okq (⟨"SturmianWordsModel", "isPalindrome", "(II)Z"⟩, 11) := ⟨⟨by decide +kernel, by decide +kernel⟩, List.mem_of_getElem? (i := 437) (by decide +kernel), List.mem_of_getElem? (i := 565) (by decide +kernel), List.mem_of_getElem? (i := 566) (by decide +kernel)⟩
theorem lw_p9 : lw_okq (⟨"SturmianWordsModel", "stands", "(II)Z"⟩, 11) := ⟨⟨by decide +kernel, by decide +kernel⟩, List.mem_of_getElem? (i := 437) (by decide +kernel), List.mem_of_getElem? (i := 580) (by decide +kernel), List.mem_of_getElem? (i := 581) (by decide +kernel)⟩
theorem lw_p10 : lw_okq (⟨"SturmianWordsModel", "isFirst", "(II)Z"⟩, 11) := ⟨⟨by decide +kernel, by decide +kernel⟩, List.mem_of_getElem? (i := 437) (by decide +kernel), List.mem_of_getElem? (i := 604) (by decide +kernel), List.mem_of_getElem? (i := 605) (by decide +kernel)⟩
theorem lw_p11 : lw_okq (⟨"SturmianWordsModel", "compare", "(III)I"⟩, 11) := ⟨⟨by decide +kernel, by decide +kernel⟩, List.mem_of_getElem? (i := 437) (by decide +kernel), List.mem_of_getElem? (i := 608) (by decide +kernel), List.mem_of_getElem? (i := 609) (by decide +kernel)⟩
theorem lw_p12 : lw_okq (⟨"SturmianWordsModel", "numberAt", "(II)I"⟩, 11) := ⟨⟨by decide +kernel, by decide +kernel⟩, List.mem_of_getElem? (i := 437) (by decide +kernel), List.mem_of_getElem? (i := 616) (by decide +kernel), List.mem_of_getElem? (i := 617) (by decide +kernel)⟩
theorem lw_p13 : lw_okq (⟨"SturmianWordsModel", "isPeriod", "(I)Z"⟩, 11) := ⟨⟨by decide +kernel, by decide +kernel⟩, List.mem_of_getElem? (i := 437) (by decide +kernel), List.mem_of_getElem? (i := 636) (by decide +kernel), List.mem_of_getElem? (i := 637) (by decide +kernel)⟩
theorem lw_p14 : lw_okq (⟨"SturmianWordsModel", "simplest", "(I)I"⟩, 11) := ⟨⟨by decide +kernel, by decide +kernel⟩, List.mem_of_getElem? (i := 437) (by decide +kernel), List.mem_of_getElem? (i := 648) (by decide +kernel), List.mem_of_getElem? (i := 649) (by decide +kernel)⟩
theorem lw_p15 : lw_okq (⟨"SturmianWordsModel", "begins", "(III)Z"⟩, 11) := ⟨⟨by decide +kernel, by decide +kernel⟩, List.mem_of_getElem? (i := 437) (by decide +kernel), List.mem_of_getElem? (i := 652) (by decide +kernel), List.mem_of_getElem? (i := 653) (by decide +kernel)⟩
def lw_privs_1 : List (MethodName × Nat) := [(⟨"SturmianWords", "changeSlope", "(LSturmianWords$Slope;)V"⟩, 3), (⟨"SturmianWords", "changeWord", "(LSturmianWords$Word;)V"⟩, 3), (⟨"SturmianWordsModel", "save", "()V"⟩, 11), (⟨"SturmianWordsModel", "expand", "()V"⟩, 11), (⟨"SturmianWordsModel", "letterOf", "(IZ)I"⟩, 11), (⟨"SturmianWordsModel", "take", "()V"⟩, 11), (⟨"SturmianWordsModel", "further", "(I)Z"⟩, 11), (⟨"SturmianWordsModel", "appendTo", "(I)V"⟩, 11), (⟨"SturmianWordsModel", "isPalindrome", "(II)Z"⟩, 11), (⟨"SturmianWordsModel", "stands", "(II)Z"⟩, 11), (⟨"SturmianWordsModel", "isFirst", "(II)Z"⟩, 11), (⟨"SturmianWordsModel", "compare", "(III)I"⟩, 11), (⟨"SturmianWordsModel", "numberAt", "(II)I"⟩, 11), (⟨"SturmianWordsModel", "isPeriod", "(I)Z"⟩, 11), (⟨"SturmianWordsModel", "simplest", "(I)I"⟩, 11), (⟨"SturmianWordsModel", "begins", "(III)Z"⟩, 11)]
theorem lw_r1 : ∀ q ∈ lw_privs_1, lw_okq q := List.forall_mem_cons.mpr ⟨lw_p0, List.forall_mem_cons.mpr ⟨lw_p1, List.forall_mem_cons.mpr ⟨lw_p2, List.forall_mem_cons.mpr ⟨lw_p3, List.forall_mem_cons.mpr ⟨lw_p4, List.forall_mem_cons.mpr ⟨lw_p5, List.forall_mem_cons.mpr ⟨lw_p6, List.forall_mem_cons.mpr ⟨lw_p7, List.forall_mem_cons.mpr ⟨lw_p8, List.forall_mem_cons.mpr ⟨lw_p9, List.forall_mem_cons.mpr ⟨lw_p10, List.forall_mem_cons.mpr ⟨lw_p11, List.forall_mem_cons.mpr ⟨lw_p12, List.forall_mem_cons.mpr ⟨lw_p13, List.forall_mem_cons.mpr ⟨lw_p14, List.forall_mem_cons.mpr ⟨lw_p15, fun _ h => absurd h List.not_mem_nil⟩⟩⟩⟩⟩⟩⟩⟩⟩⟩⟩⟩⟩⟩⟩⟩
theorem lw_p16 : lw_okq (⟨"SturmianWordsModel", "sizeAt", "(II)I"⟩, 11) := ⟨⟨by decide +kernel, by decide +kernel⟩, List.mem_of_getElem? (i := 437) (by decide +kernel), List.mem_of_getElem? (i := 660) (by decide +kernel), List.mem_of_getElem? (i := 661) (by decide +kernel)⟩
theorem lw_p17 : lw_okq (⟨"SturmianWordsModel", "layPoints", "(I)V"⟩, 11) := ⟨⟨by decide +kernel, by decide +kernel⟩, List.mem_of_getElem? (i := 437) (by decide +kernel), List.mem_of_getElem? (i := 664) (by decide +kernel), List.mem_of_getElem? (i := 665) (by decide +kernel)⟩
theorem lw_p18 : lw_okq (⟨"SturmianWordsModel", "gapsWith", "(I)I"⟩, 11) := ⟨⟨by decide +kernel, by decide +kernel⟩, List.mem_of_getElem? (i := 437) (by decide +kernel), List.mem_of_getElem? (i := 668) (by decide +kernel), List.mem_of_getElem? (i := 669) (by decide +kernel)⟩
def lw_privs_2 : List (MethodName × Nat) := [(⟨"SturmianWordsModel", "sizeAt", "(II)I"⟩, 11), (⟨"SturmianWordsModel", "layPoints", "(I)V"⟩, 11), (⟨"SturmianWordsModel", "gapsWith", "(I)I"⟩, 11)]
theorem lw_r2 : ∀ q ∈ lw_privs_2, lw_okq q := List.forall_mem_cons.mpr ⟨lw_p16, List.forall_mem_cons.mpr ⟨lw_p17, List.forall_mem_cons.mpr ⟨lw_p18, fun _ h => absurd h List.not_mem_nil⟩⟩⟩
def lw_privs : List (MethodName × Nat) := lw_privs_1 ++ (lw_privs_2)
def lw_tbl : List Cond := k2_sels lw_privs ++ tables_1
theorem lw_privs_ok : ∀ q ∈ lw_privs, lw_okq q := by
  show ∀ q ∈ lw_privs_1 ++ (lw_privs_2), lw_okq q
  exact List.forall_mem_append.mpr ⟨lw_r1, lw_r2⟩
end
section
/-! ===== BEGIN words of one list among another's, by their places ===== -/
theorem goodIn_r {big : List Cond} (ws : List Cond) (ps : List Nat) (hp : ws = ps.filterMap (fun i => big[i]?)) (h : ws.all goodWord = true) : GoodIn big ws := by
  intro w hw
  have h1 := List.all_eq_true.mp h w hw
  rw [hp] at hw
  obtain ⟨i, -, hi⟩ := List.mem_filterMap.mp hw
  have hm : w ∈ big := by first | exact List.mem_of_getElem? hi | exact List.getElem?_mem hi
  exact ⟨hm, good_of_word h1⟩
theorem goodIn_app {big a b : List Cond} (ha : GoodIn big a) (hb : GoodIn big b) : GoodIn big (a ++ b) := fun w h => (List.mem_append.mp h).elim (ha w) (hb w)
theorem goodIn_ca {big a b : List Cond} {c : Cond} (ha : GoodIn big (c :: a)) (hb : GoodIn big b) : GoodIn big (c :: (a ++ b)) := fun w h => (List.mem_cons.mp h).elim (fun e => ha w (List.mem_cons.mpr (Or.inl e))) (fun h => (List.mem_append.mp h).elim (fun h => ha w (List.mem_cons.mpr (Or.inr h))) (hb w))
theorem goodIn_sub {big ws : List Cond} (hm : ∀ w ∈ ws, w ∈ big) (h : ws.all goodWord = true) : GoodIn big ws := fun w hw => ⟨hm w hw, good_of_word (List.all_eq_true.mp h w hw)⟩
/-! ===== END ===== -/

/-! ===== BEGIN printed: names, fields, word lists, decode rows ===== -/
def RX0 : String := "SturmianWords$Circle"
def TX0 : u_T := fun k => match k with
  | 0 => ("SturmianWords$Circle", "points", "[Z", true)
  | _ => ("SturmianWords$Circle", "gaps", "[I", true)
def tyX0 : Nat → FieldType := fun k => match k with
  | 0 => .array .boolean
  | _ => .array .int
abbrev wsX00 : List Cond := u_ws RX0 TX0 2
theorem nmX0 : ∀ a, a < 2 → ∀ b, b < 2 → a ≠ b → (TX0 a).2.1 ≠ (TX0 b).2.1 := by decide +kernel
theorem tyX0_ok : ∀ k, k < 2 → parseFieldDescriptor (TX0 k).2.2.1 = some (tyX0 k) := by decide +kernel
abbrev cX0_init : ByteArray := prog_2_method_1_code
def yX0_init : MethodName := ⟨RX0, "<init>", "()V"⟩
abbrev cX0_measure : ByteArray := prog_2_method_2_code
def yX0_measure : MethodName := ⟨RX0, "measure", "(LSturmianWords$Slope;I)V"⟩
abbrev cX0_markPoints : ByteArray := prog_2_method_3_code
def yX0_markPoints : MethodName := ⟨RX0, "markPoints", "(LSturmianWords$Slope;I)V"⟩
abbrev cX0_isPoint : ByteArray := prog_2_method_4_code
def yX0_isPoint : MethodName := ⟨RX0, "isPoint", "(I)Z"⟩
abbrev cX0_addGap : ByteArray := prog_2_method_5_code
def yX0_addGap : MethodName := ⟨RX0, "addGap", "(I)V"⟩
abbrev cX0_gapsWith : ByteArray := prog_2_method_6_code
def yX0_gapsWith : MethodName := ⟨RX0, "gapsWith", "(I)I"⟩
abbrev cX0_differentSizes : ByteArray := prog_2_method_7_code
def yX0_differentSizes : MethodName := ⟨RX0, "differentSizes", "()I"⟩
abbrev cX0_listedSize : ByteArray := prog_2_method_8_code
def yX0_listedSize : MethodName := ⟨RX0, "listedSize", "(I)I"⟩
def RX1 : String := "SturmianWords$History"
def TX1 : u_T := fun k => match k with
  | 0 => ("SturmianWords$History", "rows", "[LSturmianWords$State;", true)
  | 1 => ("SturmianWords$History", "next", "I", false)
  | _ => ("SturmianWords$History", "kept", "I", false)
def tyX1 : Nat → FieldType := fun k => match k with
  | 0 => .array (.object "SturmianWords$State")
  | 1 => .int
  | _ => .int
abbrev wsX10 : List Cond := u_ws RX1 TX1 3
theorem nmX1 : ∀ a, a < 3 → ∀ b, b < 3 → a ≠ b → (TX1 a).2.1 ≠ (TX1 b).2.1 := by decide +kernel
theorem tyX1_ok : ∀ k, k < 3 → parseFieldDescriptor (TX1 k).2.2.1 = some (tyX1 k) := by decide +kernel
abbrev cX1_init : ByteArray := prog_3_method_1_code
def yX1_init : MethodName := ⟨RX1, "<init>", "()V"⟩
abbrev cX1_keep : ByteArray := prog_3_method_2_code
def yX1_keep : MethodName := ⟨RX1, "keep", "(LSturmianWords$State;)V"⟩
abbrev cX1_takeLatest : ByteArray := prog_3_method_3_code
def yX1_takeLatest : MethodName := ⟨RX1, "takeLatest", "()LSturmianWords$State;"⟩
def RX2 : String := "SturmianWords$Morphism"
def TX2 : u_T := fun k => match k with
  | _ => ("", "", "", false)
def tyX2 : Nat → FieldType := fun k => match k with
  | _ => .int
abbrev wsX20 : List Cond := u_ws RX2 TX2 0
theorem nmX2 : ∀ a, a < 0 → ∀ b, b < 0 → a ≠ b → (TX2 a).2.1 ≠ (TX2 b).2.1 := by decide +kernel
theorem tyX2_ok : ∀ k, k < 0 → parseFieldDescriptor (TX2 k).2.2.1 = some (tyX2 k) := by decide +kernel
abbrev cX2_numbered : ByteArray := prog_4_method_4_code
def yX2_numbered : MethodName := ⟨RX2, "numbered", "(I)LSturmianWords$Morphism;"⟩
abbrev cX2_bitsOf : ByteArray := prog_4_method_5_code
def yX2_bitsOf : MethodName := ⟨RX2, "bitsOf", "(I)I"⟩
abbrev cX2_sizeOf : ByteArray := prog_4_method_6_code
def yX2_sizeOf : MethodName := ⟨RX2, "sizeOf", "(I)I"⟩
abbrev cX2_imageOf : ByteArray := prog_4_method_7_code
def yX2_imageOf : MethodName := ⟨RX2, "imageOf", "(LSturmianWords$Word;)LSturmianWords$Word;"⟩
abbrev cX2_originOf : ByteArray := prog_4_method_8_code
def yX2_originOf : MethodName := ⟨RX2, "originOf", "(LSturmianWords$Word;)LSturmianWords$Word;"⟩
abbrev cX2_letterBehind : ByteArray := prog_4_method_9_code
def yX2_letterBehind : MethodName := ⟨RX2, "letterBehind", "(LSturmianWords$Word;I)I"⟩
abbrev cX2_hasImageAt : ByteArray := prog_4_method_10_code
def yX2_hasImageAt : MethodName := ⟨RX2, "hasImageAt", "(LSturmianWords$Word;II)Z"⟩
def RX3 : String := "SturmianWords$Slope"
def TX3 : u_T := fun k => match k with
  | 0 => ("SturmianWords$Slope", "numerator", "I", true)
  | 1 => ("SturmianWords$Slope", "denominator", "I", true)
  | _ => ("SturmianWords$Slope", "intercept", "I", true)
def tyX3 : Nat → FieldType := fun k => match k with
  | 0 => .int
  | 1 => .int
  | _ => .int
abbrev wsX30 : List Cond := u_ws RX3 TX3 3
theorem nmX3 : ∀ a, a < 3 → ∀ b, b < 3 → a ≠ b → (TX3 a).2.1 ≠ (TX3 b).2.1 := by decide +kernel
theorem tyX3_ok : ∀ k, k < 3 → parseFieldDescriptor (TX3 k).2.2.1 = some (tyX3 k) := by decide +kernel
abbrev cX3_init : ByteArray := prog_5_method_1_code
def yX3_init : MethodName := ⟨RX3, "<init>", "(III)V"⟩
abbrev cX3_term : ByteArray := prog_5_method_2_code
def yX3_term : MethodName := ⟨RX3, "term", "(I)I"⟩
abbrev cX3_letter : ByteArray := prog_5_method_3_code
def yX3_letter : MethodName := ⟨RX3, "letter", "(IZ)I"⟩
abbrev cX3_firstLetters : ByteArray := prog_5_method_4_code
def yX3_firstLetters : MethodName := ⟨RX3, "firstLetters", "(IZ)LSturmianWords$Word;"⟩
abbrev cX3_standardWord : ByteArray := prog_5_method_5_code
def yX3_standardWord : MethodName := ⟨RX3, "standardWord", "(I)LSturmianWords$Word;"⟩
def RX4 : String := "SturmianWords$State"
def TX4 : u_T := fun k => match k with
  | 0 => ("SturmianWords$State", "slope", "LSturmianWords$Slope;", true)
  | _ => ("SturmianWords$State", "word", "LSturmianWords$Word;", true)
def tyX4 : Nat → FieldType := fun k => match k with
  | 0 => .object "SturmianWords$Slope"
  | _ => .object "SturmianWords$Word"
abbrev wsX40 : List Cond := u_ws RX4 TX4 2
theorem nmX4 : ∀ a, a < 2 → ∀ b, b < 2 → a ≠ b → (TX4 a).2.1 ≠ (TX4 b).2.1 := by decide +kernel
theorem tyX4_ok : ∀ k, k < 2 → parseFieldDescriptor (TX4 k).2.2.1 = some (tyX4 k) := by decide +kernel
abbrev cX4_init : ByteArray := prog_6_method_1_code
def yX4_init : MethodName := ⟨RX4, "<init>", "(LSturmianWords$Slope;LSturmianWords$Word;)V"⟩
def RX5 : String := "SturmianWords$Word"
def TX5 : u_T := fun k => match k with
  | 0 => ("SturmianWords$Word", "bits", "J", true)
  | _ => ("SturmianWords$Word", "size", "I", true)
def tyX5 : Nat → FieldType := fun k => match k with
  | 0 => .long
  | _ => .int
abbrev wsX50 : List Cond := u_ws RX5 TX5 2
theorem nmX5 : ∀ a, a < 2 → ∀ b, b < 2 → a ≠ b → (TX5 a).2.1 ≠ (TX5 b).2.1 := by decide +kernel
theorem tyX5_ok : ∀ k, k < 2 → parseFieldDescriptor (TX5 k).2.2.1 = some (tyX5 k) := by decide +kernel
abbrev cX5_init : ByteArray := prog_7_method_1_code
def yX5_init : MethodName := ⟨RX5, "<init>", "(JI)V"⟩
abbrev cX5_letter : ByteArray := prog_7_method_2_code
def yX5_letter : MethodName := ⟨RX5, "letter", "(I)I"⟩
abbrev cX5_factor : ByteArray := prog_7_method_3_code
def yX5_factor : MethodName := ⟨RX5, "factor", "(II)J"⟩
abbrev cX5_ones : ByteArray := prog_7_method_4_code
def yX5_ones : MethodName := ⟨RX5, "ones", "()I"⟩
abbrev cX5_reversed : ByteArray := prog_7_method_5_code
def yX5_reversed : MethodName := ⟨RX5, "reversed", "()LSturmianWords$Word;"⟩
abbrev cX5_repeatedThen : ByteArray := prog_7_method_6_code
def yX5_repeatedThen : MethodName := ⟨RX5, "repeatedThen", "(ILSturmianWords$Word;)LSturmianWords$Word;"⟩
abbrev cX5_isNew : ByteArray := prog_7_method_7_code
def yX5_isNew : MethodName := ⟨RX5, "isNew", "(II)Z"⟩
abbrev cX5_differentFactors : ByteArray := prog_7_method_8_code
def yX5_differentFactors : MethodName := ⟨RX5, "differentFactors", "(I)I"⟩
abbrev cX5_listedFactor : ByteArray := prog_7_method_9_code
def yX5_listedFactor : MethodName := ⟨RX5, "listedFactor", "(II)J"⟩
abbrev cX5_nextFactor : ByteArray := prog_7_method_10_code
def yX5_nextFactor : MethodName := ⟨RX5, "nextFactor", "(IJ)J"⟩
abbrev cX5_weightSpread : ByteArray := prog_7_method_11_code
def yX5_weightSpread : MethodName := ⟨RX5, "weightSpread", "(I)I"⟩
abbrev cX5_isPalindrome : ByteArray := prog_7_method_12_code
def yX5_isPalindrome : MethodName := ⟨RX5, "isPalindrome", "(IILSturmianWords$Word;)Z"⟩
abbrev cX5_differentPalindromes : ByteArray := prog_7_method_13_code
def yX5_differentPalindromes : MethodName := ⟨RX5, "differentPalindromes", "()I"⟩
abbrev cX5_hasPeriod : ByteArray := prog_7_method_14_code
def yX5_hasPeriod : MethodName := ⟨RX5, "hasPeriod", "(I)Z"⟩
abbrev cX5_simplest : ByteArray := prog_7_method_15_code
def yX5_simplest : MethodName := ⟨RX5, "simplest", "()LSturmianWords$Slope;"⟩
abbrev cX5_leastIntercept : ByteArray := prog_7_method_16_code
def yX5_leastIntercept : MethodName := ⟨RX5, "leastIntercept", "(II)I"⟩
def RX6 : String := "SturmianWords"
def TX6 : u_T := fun k => match k with
  | 0 => ("SturmianWords", "history", "LSturmianWords$History;", true)
  | 1 => ("SturmianWords", "circle", "LSturmianWords$Circle;", true)
  | _ => ("SturmianWords", "state", "LSturmianWords$State;", false)
def tyX6 : Nat → FieldType := fun k => match k with
  | 0 => .object "SturmianWords$History"
  | 1 => .object "SturmianWords$Circle"
  | _ => .object "SturmianWords$State"
abbrev wsX60 : List Cond := u_ws RX6 TX6 3
theorem nmX6 : ∀ a, a < 3 → ∀ b, b < 3 → a ≠ b → (TX6 a).2.1 ≠ (TX6 b).2.1 := by decide +kernel
theorem tyX6_ok : ∀ k, k < 3 → parseFieldDescriptor (TX6 k).2.2.1 = some (tyX6 k) := by decide +kernel
abbrev cX6_init : ByteArray := prog_1_method_1_code
def yX6_init : MethodName := ⟨RX6, "<init>", "()V"⟩
abbrev cX6_setSlope : ByteArray := prog_1_method_2_code
def yX6_setSlope : MethodName := ⟨RX6, "setSlope", "(II)I"⟩
abbrev cX6_setIntercept : ByteArray := prog_1_method_3_code
def yX6_setIntercept : MethodName := ⟨RX6, "setIntercept", "(I)I"⟩
abbrev cX6_slopeNumerator : ByteArray := prog_1_method_4_code
def yX6_slopeNumerator : MethodName := ⟨RX6, "slopeNumerator", "()I"⟩
abbrev cX6_slopeDenominator : ByteArray := prog_1_method_5_code
def yX6_slopeDenominator : MethodName := ⟨RX6, "slopeDenominator", "()I"⟩
abbrev cX6_continuedFractionTerm : ByteArray := prog_1_method_6_code
def yX6_continuedFractionTerm : MethodName := ⟨RX6, "continuedFractionTerm", "(I)I"⟩
abbrev cX6_mechanicalLetter : ByteArray := prog_1_method_7_code
def yX6_mechanicalLetter : MethodName := ⟨RX6, "mechanicalLetter", "(IZ)I"⟩
abbrev cX6_loadMechanical : ByteArray := prog_1_method_8_code
def yX6_loadMechanical : MethodName := ⟨RX6, "loadMechanical", "(IZ)I"⟩
abbrev cX6_loadStandard : ByteArray := prog_1_method_9_code
def yX6_loadStandard : MethodName := ⟨RX6, "loadStandard", "(I)I"⟩
abbrev cX6_append : ByteArray := prog_1_method_10_code
def yX6_append : MethodName := ⟨RX6, "append", "(I)I"⟩
abbrev cX6_removeLast : ByteArray := prog_1_method_11_code
def yX6_removeLast : MethodName := ⟨RX6, "removeLast", "()I"⟩
abbrev cX6_clear : ByteArray := prog_1_method_12_code
def yX6_clear : MethodName := ⟨RX6, "clear", "()I"⟩
abbrev cX6_reverse : ByteArray := prog_1_method_13_code
def yX6_reverse : MethodName := ⟨RX6, "reverse", "()I"⟩
abbrev cX6_applyMorphism : ByteArray := prog_1_method_14_code
def yX6_applyMorphism : MethodName := ⟨RX6, "applyMorphism", "(I)I"⟩
abbrev cX6_invertMorphism : ByteArray := prog_1_method_15_code
def yX6_invertMorphism : MethodName := ⟨RX6, "invertMorphism", "(I)I"⟩
abbrev cX6_undo : ByteArray := prog_1_method_16_code
def yX6_undo : MethodName := ⟨RX6, "undo", "()I"⟩
abbrev cX6_length : ByteArray := prog_1_method_17_code
def yX6_length : MethodName := ⟨RX6, "length", "()I"⟩
abbrev cX6_weight : ByteArray := prog_1_method_18_code
def yX6_weight : MethodName := ⟨RX6, "weight", "()I"⟩
abbrev cX6_letterAt : ByteArray := prog_1_method_19_code
def yX6_letterAt : MethodName := ⟨RX6, "letterAt", "(I)I"⟩
abbrev cX6_factorCount : ByteArray := prog_1_method_20_code
def yX6_factorCount : MethodName := ⟨RX6, "factorCount", "(I)I"⟩
abbrev cX6_factorAt : ByteArray := prog_1_method_21_code
def yX6_factorAt : MethodName := ⟨RX6, "factorAt", "(II)I"⟩
abbrev cX6_unbalancedLength : ByteArray := prog_1_method_22_code
def yX6_unbalancedLength : MethodName := ⟨RX6, "unbalancedLength", "()I"⟩
abbrev cX6_palindromeCount : ByteArray := prog_1_method_23_code
def yX6_palindromeCount : MethodName := ⟨RX6, "palindromeCount", "()I"⟩
abbrev cX6_longestPalindromicPrefix : ByteArray := prog_1_method_24_code
def yX6_longestPalindromicPrefix : MethodName := ⟨RX6, "longestPalindromicPrefix", "()I"⟩
abbrev cX6_leastPeriod : ByteArray := prog_1_method_25_code
def yX6_leastPeriod : MethodName := ⟨RX6, "leastPeriod", "()I"⟩
abbrev cX6_isCentral : ByteArray := prog_1_method_26_code
def yX6_isCentral : MethodName := ⟨RX6, "isCentral", "()I"⟩
abbrev cX6_simplestSlope : ByteArray := prog_1_method_27_code
def yX6_simplestSlope : MethodName := ⟨RX6, "simplestSlope", "(I)I"⟩
abbrev cX6_gapSizeCount : ByteArray := prog_1_method_28_code
def yX6_gapSizeCount : MethodName := ⟨RX6, "gapSizeCount", "(I)I"⟩
abbrev cX6_gapSize : ByteArray := prog_1_method_29_code
def yX6_gapSize : MethodName := ⟨RX6, "gapSize", "(II)I"⟩
abbrev cX6_gapsOfSize : ByteArray := prog_1_method_30_code
def yX6_gapsOfSize : MethodName := ⟨RX6, "gapsOfSize", "(II)I"⟩
abbrev cX6_historySize : ByteArray := prog_1_method_31_code
def yX6_historySize : MethodName := ⟨RX6, "historySize", "()I"⟩
abbrev cX6_changeSlope : ByteArray := prog_1_method_32_code
def yX6_changeSlope : MethodName := ⟨RX6, "changeSlope", "(LSturmianWords$Slope;)V"⟩
abbrev cX6_changeWord : ByteArray := prog_1_method_33_code
def yX6_changeWord : MethodName := ⟨RX6, "changeWord", "(LSturmianWords$Word;)V"⟩
abbrev cX6_quotient : ByteArray := prog_1_method_34_code
def yX6_quotient : MethodName := ⟨RX6, "quotient", "(JJ)J"⟩
abbrev cX6_commonDivisor : ByteArray := prog_1_method_35_code
def yX6_commonDivisor : MethodName := ⟨RX6, "commonDivisor", "(II)I"⟩
def RX7 : String := "SturmianWordsModel"
def TX7 : u_T := fun k => match k with
  | 0 => ("SturmianWordsModel", "now", "[I", true)
  | 1 => ("SturmianWordsModel", "next", "[I", true)
  | 2 => ("SturmianWordsModel", "past", "[I", true)
  | 3 => ("SturmianWordsModel", "edits", "I", false)
  | 4 => ("SturmianWordsModel", "terms", "[I", true)
  | 5 => ("SturmianWordsModel", "termCount", "I", false)
  | 6 => ("SturmianWordsModel", "older", "[I", true)
  | 7 => ("SturmianWordsModel", "olderLength", "I", false)
  | 8 => ("SturmianWordsModel", "newer", "[I", true)
  | 9 => ("SturmianWordsModel", "newerLength", "I", false)
  | _ => ("SturmianWordsModel", "points", "[Z", true)
def tyX7 : Nat → FieldType := fun k => match k with
  | 0 => .array .int
  | 1 => .array .int
  | 2 => .array .int
  | 3 => .int
  | 4 => .array .int
  | 5 => .int
  | 6 => .array .int
  | 7 => .int
  | 8 => .array .int
  | 9 => .int
  | _ => .array .boolean
abbrev wsX70 : List Cond := u_ws RX7 TX7 11
theorem nmX7 : ∀ a, a < 11 → ∀ b, b < 11 → a ≠ b → (TX7 a).2.1 ≠ (TX7 b).2.1 := by decide +kernel
theorem tyX7_ok : ∀ k, k < 11 → parseFieldDescriptor (TX7 k).2.2.1 = some (tyX7 k) := by decide +kernel
abbrev cX7_init : ByteArray := prog_9_method_1_code
def yX7_init : MethodName := ⟨RX7, "<init>", "()V"⟩
abbrev cX7_in : ByteArray := prog_9_method_3_code
def yX7_in : MethodName := ⟨RX7, "in", "(III)Z"⟩
abbrev cX7_copy : ByteArray := prog_9_method_4_code
def yX7_copy : MethodName := ⟨RX7, "copy", "([II[II)V"⟩
abbrev cX7_save : ByteArray := prog_9_method_5_code
def yX7_save : MethodName := ⟨RX7, "save", "()V"⟩
abbrev cX7_take : ByteArray := prog_9_method_6_code
def yX7_take : MethodName := ⟨RX7, "take", "()V"⟩
abbrev cX7_divisor : ByteArray := prog_9_method_7_code
def yX7_divisor : MethodName := ⟨RX7, "divisor", "(II)I"⟩
abbrev cX7_setSlope : ByteArray := prog_9_method_8_code
def yX7_setSlope : MethodName := ⟨RX7, "setSlope", "(II)I"⟩
abbrev cX7_setIntercept : ByteArray := prog_9_method_9_code
def yX7_setIntercept : MethodName := ⟨RX7, "setIntercept", "(I)I"⟩
abbrev cX7_slopeNumerator : ByteArray := prog_9_method_10_code
def yX7_slopeNumerator : MethodName := ⟨RX7, "slopeNumerator", "()I"⟩
abbrev cX7_slopeDenominator : ByteArray := prog_9_method_11_code
def yX7_slopeDenominator : MethodName := ⟨RX7, "slopeDenominator", "()I"⟩
abbrev cX7_expand : ByteArray := prog_9_method_12_code
def yX7_expand : MethodName := ⟨RX7, "expand", "()V"⟩
abbrev cX7_continuedFractionTerm : ByteArray := prog_9_method_13_code
def yX7_continuedFractionTerm : MethodName := ⟨RX7, "continuedFractionTerm", "(I)I"⟩
abbrev cX7_roundedUp : ByteArray := prog_9_method_14_code
def yX7_roundedUp : MethodName := ⟨RX7, "roundedUp", "(II)I"⟩
abbrev cX7_letterOf : ByteArray := prog_9_method_15_code
def yX7_letterOf : MethodName := ⟨RX7, "letterOf", "(IZ)I"⟩
abbrev cX7_mechanicalLetter : ByteArray := prog_9_method_16_code
def yX7_mechanicalLetter : MethodName := ⟨RX7, "mechanicalLetter", "(IZ)I"⟩
abbrev cX7_weightOf : ByteArray := prog_9_method_17_code
def yX7_weightOf : MethodName := ⟨RX7, "weightOf", "([I)I"⟩
abbrev cX7_loadMechanical : ByteArray := prog_9_method_18_code
def yX7_loadMechanical : MethodName := ⟨RX7, "loadMechanical", "(IZ)I"⟩
abbrev cX7_appendTo : ByteArray := prog_9_method_19_code
def yX7_appendTo : MethodName := ⟨RX7, "appendTo", "(I)V"⟩
abbrev cX7_further : ByteArray := prog_9_method_20_code
def yX7_further : MethodName := ⟨RX7, "further", "(I)Z"⟩
abbrev cX7_loadStandard : ByteArray := prog_9_method_21_code
def yX7_loadStandard : MethodName := ⟨RX7, "loadStandard", "(I)I"⟩
abbrev cX7_append : ByteArray := prog_9_method_22_code
def yX7_append : MethodName := ⟨RX7, "append", "(I)I"⟩
abbrev cX7_removeLast : ByteArray := prog_9_method_23_code
def yX7_removeLast : MethodName := ⟨RX7, "removeLast", "()I"⟩
abbrev cX7_clear : ByteArray := prog_9_method_24_code
def yX7_clear : MethodName := ⟨RX7, "clear", "()I"⟩
abbrev cX7_isPalindrome : ByteArray := prog_9_method_25_code
def yX7_isPalindrome : MethodName := ⟨RX7, "isPalindrome", "(II)Z"⟩
abbrev cX7_reverse : ByteArray := prog_9_method_26_code
def yX7_reverse : MethodName := ⟨RX7, "reverse", "()I"⟩
abbrev cX7_imageOf : ByteArray := prog_9_method_27_code
def yX7_imageOf : MethodName := ⟨RX7, "imageOf", "(II)I"⟩
abbrev cX7_applyMorphism : ByteArray := prog_9_method_28_code
def yX7_applyMorphism : MethodName := ⟨RX7, "applyMorphism", "(I)I"⟩
abbrev cX7_stands : ByteArray := prog_9_method_29_code
def yX7_stands : MethodName := ⟨RX7, "stands", "(II)Z"⟩
abbrev cX7_invertMorphism : ByteArray := prog_9_method_30_code
def yX7_invertMorphism : MethodName := ⟨RX7, "invertMorphism", "(I)I"⟩
abbrev cX7_undo : ByteArray := prog_9_method_31_code
def yX7_undo : MethodName := ⟨RX7, "undo", "()I"⟩
abbrev cX7_length : ByteArray := prog_9_method_32_code
def yX7_length : MethodName := ⟨RX7, "length", "()I"⟩
abbrev cX7_weight : ByteArray := prog_9_method_33_code
def yX7_weight : MethodName := ⟨RX7, "weight", "()I"⟩
abbrev cX7_letterAt : ByteArray := prog_9_method_34_code
def yX7_letterAt : MethodName := ⟨RX7, "letterAt", "(I)I"⟩
abbrev cX7_compare : ByteArray := prog_9_method_35_code
def yX7_compare : MethodName := ⟨RX7, "compare", "(III)I"⟩
abbrev cX7_isFirst : ByteArray := prog_9_method_36_code
def yX7_isFirst : MethodName := ⟨RX7, "isFirst", "(II)Z"⟩
abbrev cX7_factorCount : ByteArray := prog_9_method_37_code
def yX7_factorCount : MethodName := ⟨RX7, "factorCount", "(I)I"⟩
abbrev cX7_numberAt : ByteArray := prog_9_method_38_code
def yX7_numberAt : MethodName := ⟨RX7, "numberAt", "(II)I"⟩
abbrev cX7_factorAt : ByteArray := prog_9_method_39_code
def yX7_factorAt : MethodName := ⟨RX7, "factorAt", "(II)I"⟩
abbrev cX7_unbalancedLength : ByteArray := prog_9_method_40_code
def yX7_unbalancedLength : MethodName := ⟨RX7, "unbalancedLength", "()I"⟩
abbrev cX7_palindromeCount : ByteArray := prog_9_method_41_code
def yX7_palindromeCount : MethodName := ⟨RX7, "palindromeCount", "()I"⟩
abbrev cX7_longestPalindromicPrefix : ByteArray := prog_9_method_42_code
def yX7_longestPalindromicPrefix : MethodName := ⟨RX7, "longestPalindromicPrefix", "()I"⟩
abbrev cX7_isPeriod : ByteArray := prog_9_method_43_code
def yX7_isPeriod : MethodName := ⟨RX7, "isPeriod", "(I)Z"⟩
abbrev cX7_leastPeriod : ByteArray := prog_9_method_44_code
def yX7_leastPeriod : MethodName := ⟨RX7, "leastPeriod", "()I"⟩
abbrev cX7_isCentral : ByteArray := prog_9_method_45_code
def yX7_isCentral : MethodName := ⟨RX7, "isCentral", "()I"⟩
abbrev cX7_begins : ByteArray := prog_9_method_46_code
def yX7_begins : MethodName := ⟨RX7, "begins", "(III)Z"⟩
abbrev cX7_simplest : ByteArray := prog_9_method_47_code
def yX7_simplest : MethodName := ⟨RX7, "simplest", "(I)I"⟩
abbrev cX7_simplestSlope : ByteArray := prog_9_method_48_code
def yX7_simplestSlope : MethodName := ⟨RX7, "simplestSlope", "(I)I"⟩
abbrev cX7_layPoints : ByteArray := prog_9_method_49_code
def yX7_layPoints : MethodName := ⟨RX7, "layPoints", "(I)V"⟩
abbrev cX7_gapsWith : ByteArray := prog_9_method_50_code
def yX7_gapsWith : MethodName := ⟨RX7, "gapsWith", "(I)I"⟩
abbrev cX7_sizeAt : ByteArray := prog_9_method_51_code
def yX7_sizeAt : MethodName := ⟨RX7, "sizeAt", "(II)I"⟩
abbrev cX7_gapSizeCount : ByteArray := prog_9_method_52_code
def yX7_gapSizeCount : MethodName := ⟨RX7, "gapSizeCount", "(I)I"⟩
abbrev cX7_gapSize : ByteArray := prog_9_method_53_code
def yX7_gapSize : MethodName := ⟨RX7, "gapSize", "(II)I"⟩
abbrev cX7_gapsOfSize : ByteArray := prog_9_method_54_code
def yX7_gapsOfSize : MethodName := ⟨RX7, "gapsOfSize", "(II)I"⟩
abbrev cX7_historySize : ByteArray := prog_9_method_55_code
def yX7_historySize : MethodName := ⟨RX7, "historySize", "()I"⟩
def RJx29ce0 : String := "java/lang/Enum"
def TJx29ce0 : u_T := fun k => match k with
  | _ => ("", "", "", false)
def tyJx29ce0 : Nat → FieldType := fun k => match k with
  | _ => .int
abbrev wsJx29ce00 : List Cond := u_ws RJx29ce0 TJx29ce0 0
theorem nmJx29ce0 : ∀ a, a < 0 → ∀ b, b < 0 → a ≠ b → (TJx29ce0 a).2.1 ≠ (TJx29ce0 b).2.1 := by decide +kernel
theorem tyJx29ce0_ok : ∀ k, k < 0 → parseFieldDescriptor (TJx29ce0 k).2.2.1 = some (tyJx29ce0 k) := by decide +kernel
def RJ13 : String := "java/lang/Long"
def TJ13 : u_T := fun k => match k with
  | _ => ("", "", "", false)
def tyJ13 : Nat → FieldType := fun k => match k with
  | _ => .int
abbrev wsJ130 : List Cond := u_ws RJ13 TJ13 0
theorem nmJ13 : ∀ a, a < 0 → ∀ b, b < 0 → a ≠ b → (TJ13 a).2.1 ≠ (TJ13 b).2.1 := by decide +kernel
theorem tyJ13_ok : ∀ k, k < 0 → parseFieldDescriptor (TJ13 k).2.2.1 = some (tyJ13 k) := by decide +kernel
abbrev cJ13_bitCount_95d88 : ByteArray := prog_11_method_50_code
def yJ13_bitCount_95d88 : MethodName := ⟨RJ13, "bitCount", "(J)I"⟩
def RJ9 : String := "java/lang/Math"
def TJ9 : u_T := fun k => match k with
  | _ => ("", "", "", false)
def tyJ9 : Nat → FieldType := fun k => match k with
  | _ => .int
abbrev wsJ90 : List Cond := u_ws RJ9 TJ9 0
theorem nmJ9 : ∀ a, a < 0 → ∀ b, b < 0 → a ≠ b → (TJ9 a).2.1 ≠ (TJ9 b).2.1 := by decide +kernel
theorem tyJ9_ok : ∀ k, k < 0 → parseFieldDescriptor (TJ9 k).2.2.1 = some (tyJ9 k) := by decide +kernel
abbrev cJ9_max_7cf53 : ByteArray := prog_12_method_65_code
def yJ9_max_7cf53 : MethodName := ⟨RJ9, "max", "(II)I"⟩
abbrev cJ9_min_7cf53 : ByteArray := prog_12_method_69_code
def yJ9_min_7cf53 : MethodName := ⟨RJ9, "min", "(II)I"⟩
def RJ7 : String := "java/util/Arrays"
def TJ7 : u_T := fun k => match k with
  | _ => ("", "", "", false)
def tyJ7 : Nat → FieldType := fun k => match k with
  | _ => .int
abbrev wsJ70 : List Cond := u_ws RJ7 TJ7 0
theorem nmJ7 : ∀ a, a < 0 → ∀ b, b < 0 → a ≠ b → (TJ7 a).2.1 ≠ (TJ7 b).2.1 := by decide +kernel
theorem tyJ7_ok : ∀ k, k < 0 → parseFieldDescriptor (TJ7 k).2.2.1 = some (tyJ7 k) := by decide +kernel
abbrev cJ7_fill_53178 : ByteArray := prog_13_method_103_code
def yJ7_fill_53178 : MethodName := ⟨RJ7, "fill", "([II)V"⟩
def RL : String := "SturmianWordsLaw"
abbrev cL_law : ByteArray := code
def yL_law : MethodName := ⟨RL, "law", "([I)Z"⟩
def wsX0_init : List Cond := .code yX0_init cX0_init 1 none :: ([.methodLink RX0 3 objectInit, .instanceMethod objectInit, .code objectInit ⟨#[0xb1]⟩ 1 none, .arrayClass .boolean, .fieldLink RX0 9 "SturmianWords$Circle" "points" "[Z", .arrayClass .int, .fieldLink RX0 15 "SturmianWords$Circle" "gaps" "[I"] ++ wsX00)
def wsX0_markPoints : List Cond := .code yX0_markPoints cX0_markPoints 5 none :: ([.fieldLink RX0 9 "SturmianWords$Circle" "points" "[Z"] ++ wsX00 ++ wsX30)
def wsJ7_fill_53178 : List Cond := .code yJ7_fill_53178 cJ7_fill_53178 4 none :: ([])
def wsX0_isPoint : List Cond := .code yX0_isPoint cX0_isPoint 2 (some .boolean) :: ([.fieldLink RX0 9 "SturmianWords$Circle" "points" "[Z"] ++ wsX00)
def wsX0_addGap : List Cond := .code yX0_addGap cX0_addGap 2 none :: ([.fieldLink RX0 15 "SturmianWords$Circle" "gaps" "[I"] ++ wsX00)
def wsX0_measure : List Cond := .code yX0_measure cX0_measure 5 none :: ([.fieldLink RX0 15 "SturmianWords$Circle" "gaps" "[I", .methodLink RX0 19 yX0_markPoints, .instanceMethod yX0_markPoints, .selects RX0 yX0_markPoints yX0_markPoints, .initialized RX0, .code yX0_markPoints cX0_markPoints 5 none, .fieldLink RX0 9 "SturmianWords$Circle" "points" "[Z", .methodLink RX0 23 yJ7_fill_53178, .static yJ7_fill_53178, .initialized RJ7, .code yJ7_fill_53178 cJ7_fill_53178 4 none, .methodLink RX0 35 yX0_isPoint, .instanceMethod yX0_isPoint, .selects RX0 yX0_isPoint yX0_isPoint, .code yX0_isPoint cX0_isPoint 2 (some .boolean), .methodLink RX0 39 yX0_addGap, .instanceMethod yX0_addGap, .selects RX0 yX0_addGap yX0_addGap, .code yX0_addGap cX0_addGap 2 none] ++ wsX00 ++ wsX30)
def wsX0_gapsWith : List Cond := .code yX0_gapsWith cX0_gapsWith 2 (some .int) :: ([.fieldLink RX0 15 "SturmianWords$Circle" "gaps" "[I"] ++ wsX00)
def wsX0_differentSizes : List Cond := .code yX0_differentSizes cX0_differentSizes 3 (some .int) :: ([.fieldLink RX0 15 "SturmianWords$Circle" "gaps" "[I"] ++ wsX00)
def wsX0_listedSize : List Cond := .code yX0_listedSize cX0_listedSize 4 (some .int) :: ([.fieldLink RX0 15 "SturmianWords$Circle" "gaps" "[I"] ++ wsX00)
def wsX1_init : List Cond := .code yX1_init cX1_init 1 none :: ([.methodLink RX1 3 objectInit, .instanceMethod objectInit, .code objectInit ⟨#[0xb1]⟩ 1 none, .classLink RX1 9 RX4, .fieldLink RX1 11 "SturmianWords$History" "rows" "[LSturmianWords$State;", .fieldLink RX1 17 "SturmianWords$History" "next" "I", .fieldLink RX1 21 "SturmianWords$History" "kept" "I"] ++ wsX10)
def wsX1_keep : List Cond := .code yX1_keep cX1_keep 2 none :: ([.fieldLink RX1 17 "SturmianWords$History" "next" "I", .fieldLink RX1 11 "SturmianWords$History" "rows" "[LSturmianWords$State;", .fieldLink RX1 21 "SturmianWords$History" "kept" "I", .methodLink RX1 24 Lib.Math.min.name, .static Lib.Math.min.name, .initialized "java/lang/Math", .code Lib.Math.min.name Lib.Math.min.code 2 (some .int)] ++ wsX10)
def wsX1_takeLatest : List Cond := .code yX1_takeLatest cX1_takeLatest 2 (some (.object "SturmianWords$State")) :: ([.fieldLink RX1 17 "SturmianWords$History" "next" "I", .fieldLink RX1 11 "SturmianWords$History" "rows" "[LSturmianWords$State;", .fieldLink RX1 21 "SturmianWords$History" "kept" "I"] ++ wsX10)
def wsX2_numbered : List Cond := .code yX2_numbered cX2_numbered 1 (some (.object "SturmianWords$Morphism")) :: ([.fieldLink RX2 5 "SturmianWords$Morphism" "EXCHANGE" "LSturmianWords$Morphism;", .fieldLink RX2 9 "SturmianWords$Morphism" "ZERO_TO_01" "LSturmianWords$Morphism;", .fieldLink RX2 12 "SturmianWords$Morphism" "ZERO_TO_10" "LSturmianWords$Morphism;", .fieldLink RX2 15 "SturmianWords$Morphism" "ONE_TO_01" "LSturmianWords$Morphism;", .fieldLink RX2 18 "SturmianWords$Morphism" "ONE_TO_10" "LSturmianWords$Morphism;"])
def wsX2_bitsOf : List Cond := .code yX2_bitsOf cX2_bitsOf 2 (some .int) :: ([.fieldLink RX2 40 "SturmianWords$Morphism" "bitsOfZero" "I", .fieldLink RX2 47 "SturmianWords$Morphism" "bitsOfOne" "I"])
def wsX2_sizeOf : List Cond := .code yX2_sizeOf cX2_sizeOf 2 (some .int) :: ([.fieldLink RX2 44 "SturmianWords$Morphism" "sizeOfZero" "I", .fieldLink RX2 50 "SturmianWords$Morphism" "sizeOfOne" "I"])
def wsX5_factor : List Cond := .code yX5_factor cX5_factor 3 (some .long) :: ([.fieldLink RX5 9 "SturmianWords$Word" "bits" "J", .fieldLink RX5 15 "SturmianWords$Word" "size" "I"] ++ wsX50)
def wsX5_letter : List Cond := .code yX5_letter cX5_letter 2 (some .int) :: ([.methodLink RX5 19 yX5_factor, .instanceMethod yX5_factor, .selects RX5 yX5_factor yX5_factor, .initialized RX5, .code yX5_factor cX5_factor 3 (some .long), .fieldLink RX5 9 "SturmianWords$Word" "bits" "J", .fieldLink RX5 15 "SturmianWords$Word" "size" "I"] ++ wsX50)
def wsX5_init : List Cond := .code yX5_init cX5_init 4 none :: ([.methodLink RX5 3 objectInit, .instanceMethod objectInit, .code objectInit ⟨#[0xb1]⟩ 1 none, .fieldLink RX5 9 "SturmianWords$Word" "bits" "J", .fieldLink RX5 15 "SturmianWords$Word" "size" "I"] ++ wsX50)
def wsX2_imageOf_r1 : List Cond := [Cond.classLink RX2 54 RX5, Cond.instantiable RX5 2, Cond.initialized RX5, Cond.methodLink RX2 58 yX5_letter, Cond.instanceMethod yX5_letter, Cond.selects RX5 yX5_letter yX5_letter, Cond.code yX5_letter cX5_letter 2 (some .int), Cond.methodLink RX5 19 yX5_factor, Cond.instanceMethod yX5_factor, Cond.selects RX5 yX5_factor yX5_factor, Cond.code yX5_factor cX5_factor 3 (some .long), Cond.fieldLink RX5 9 "SturmianWords$Word" "bits" "J", Cond.fieldLink RX5 15 "SturmianWords$Word" "size" "I", Cond.methodLink RX2 62 yX2_sizeOf, Cond.instanceMethod yX2_sizeOf, Cond.selects RX2 yX2_sizeOf yX2_sizeOf, Cond.initialized RX2, Cond.code yX2_sizeOf cX2_sizeOf 2 (some .int), Cond.fieldLink RX2 44 "SturmianWords$Morphism" "sizeOfZero" "I", Cond.fieldLink RX2 50 "SturmianWords$Morphism" "sizeOfOne" "I", Cond.methodLink RX2 65 yX2_bitsOf, Cond.instanceMethod yX2_bitsOf, Cond.selects RX2 yX2_bitsOf yX2_bitsOf, Cond.code yX2_bitsOf cX2_bitsOf 2 (some .int)]
def wsX2_imageOf_r2 : List Cond := [Cond.fieldLink RX2 40 "SturmianWords$Morphism" "bitsOfZero" "I", Cond.fieldLink RX2 47 "SturmianWords$Morphism" "bitsOfOne" "I", Cond.methodLink RX2 68 yX5_init, Cond.instanceMethod yX5_init, Cond.code yX5_init cX5_init 4 none, Cond.methodLink RX5 3 objectInit, Cond.instanceMethod objectInit, Cond.code objectInit ⟨#[0xb1]⟩ 1 none]
def wsX2_imageOf : List Cond := .code yX2_imageOf cX2_imageOf 7 (some (.object "SturmianWords$Word")) :: ((wsX2_imageOf_r1 ++ wsX2_imageOf_r2) ++ wsX50)
def wsX2_hasImageAt : List Cond := .code yX2_hasImageAt cX2_hasImageAt 5 (some .boolean) :: ([.methodLink RX2 62 yX2_sizeOf, .instanceMethod yX2_sizeOf, .selects RX2 yX2_sizeOf yX2_sizeOf, .initialized RX2, .code yX2_sizeOf cX2_sizeOf 2 (some .int), .fieldLink RX2 44 "SturmianWords$Morphism" "sizeOfZero" "I", .fieldLink RX2 50 "SturmianWords$Morphism" "sizeOfOne" "I", .methodLink RX2 79 yX5_factor, .instanceMethod yX5_factor, .selects RX5 yX5_factor yX5_factor, .initialized RX5, .code yX5_factor cX5_factor 3 (some .long), .fieldLink RX5 9 "SturmianWords$Word" "bits" "J", .fieldLink RX5 15 "SturmianWords$Word" "size" "I", .methodLink RX2 65 yX2_bitsOf, .instanceMethod yX2_bitsOf, .selects RX2 yX2_bitsOf yX2_bitsOf, .code yX2_bitsOf cX2_bitsOf 2 (some .int), .fieldLink RX2 40 "SturmianWords$Morphism" "bitsOfZero" "I", .fieldLink RX2 47 "SturmianWords$Morphism" "bitsOfOne" "I"] ++ wsX50)
def wsX2_letterBehind : List Cond := .code yX2_letterBehind cX2_letterBehind 4 (some .int) :: ([.fieldLink RX2 50 "SturmianWords$Morphism" "sizeOfOne" "I", .fieldLink RX2 44 "SturmianWords$Morphism" "sizeOfZero" "I", .methodLink RX2 75 yX2_hasImageAt, .instanceMethod yX2_hasImageAt, .selects RX2 yX2_hasImageAt yX2_hasImageAt, .initialized RX2, .code yX2_hasImageAt cX2_hasImageAt 5 (some .boolean), .methodLink RX2 62 yX2_sizeOf, .instanceMethod yX2_sizeOf, .selects RX2 yX2_sizeOf yX2_sizeOf, .code yX2_sizeOf cX2_sizeOf 2 (some .int), .methodLink RX2 79 yX5_factor, .instanceMethod yX5_factor, .selects RX5 yX5_factor yX5_factor, .initialized RX5, .code yX5_factor cX5_factor 3 (some .long), .fieldLink RX5 9 "SturmianWords$Word" "bits" "J", .fieldLink RX5 15 "SturmianWords$Word" "size" "I", .methodLink RX2 65 yX2_bitsOf, .instanceMethod yX2_bitsOf, .selects RX2 yX2_bitsOf yX2_bitsOf, .code yX2_bitsOf cX2_bitsOf 2 (some .int), .fieldLink RX2 40 "SturmianWords$Morphism" "bitsOfZero" "I", .fieldLink RX2 47 "SturmianWords$Morphism" "bitsOfOne" "I"] ++ wsX50)
def wsX2_originOf_r1 : List Cond := [Cond.classLink RX2 54 RX5, Cond.instantiable RX5 2, Cond.initialized RX5, Cond.methodLink RX2 71 yX2_letterBehind, Cond.instanceMethod yX2_letterBehind, Cond.selects RX2 yX2_letterBehind yX2_letterBehind, Cond.initialized RX2, Cond.code yX2_letterBehind cX2_letterBehind 4 (some .int), Cond.fieldLink RX2 50 "SturmianWords$Morphism" "sizeOfOne" "I", Cond.fieldLink RX2 44 "SturmianWords$Morphism" "sizeOfZero" "I", Cond.methodLink RX2 75 yX2_hasImageAt, Cond.instanceMethod yX2_hasImageAt, Cond.selects RX2 yX2_hasImageAt yX2_hasImageAt, Cond.code yX2_hasImageAt cX2_hasImageAt 5 (some .boolean), Cond.methodLink RX2 62 yX2_sizeOf, Cond.instanceMethod yX2_sizeOf, Cond.selects RX2 yX2_sizeOf yX2_sizeOf, Cond.code yX2_sizeOf cX2_sizeOf 2 (some .int), Cond.methodLink RX2 79 yX5_factor, Cond.instanceMethod yX5_factor, Cond.selects RX5 yX5_factor yX5_factor, Cond.code yX5_factor cX5_factor 3 (some .long), Cond.fieldLink RX5 9 "SturmianWords$Word" "bits" "J", Cond.fieldLink RX5 15 "SturmianWords$Word" "size" "I"]
def wsX2_originOf_r2 : List Cond := [Cond.methodLink RX2 65 yX2_bitsOf, Cond.instanceMethod yX2_bitsOf, Cond.selects RX2 yX2_bitsOf yX2_bitsOf, Cond.code yX2_bitsOf cX2_bitsOf 2 (some .int), Cond.fieldLink RX2 40 "SturmianWords$Morphism" "bitsOfZero" "I", Cond.fieldLink RX2 47 "SturmianWords$Morphism" "bitsOfOne" "I", Cond.methodLink RX2 68 yX5_init, Cond.instanceMethod yX5_init, Cond.code yX5_init cX5_init 4 none, Cond.methodLink RX5 3 objectInit, Cond.instanceMethod objectInit, Cond.code objectInit ⟨#[0xb1]⟩ 1 none]
def wsX2_originOf : List Cond := .code yX2_originOf cX2_originOf 7 (some (.object "SturmianWords$Word")) :: ((wsX2_originOf_r1 ++ wsX2_originOf_r2) ++ wsX50)
def wsX3_init : List Cond := .code yX3_init cX3_init 4 none :: ([.methodLink RX3 3 objectInit, .instanceMethod objectInit, .code objectInit ⟨#[0xb1]⟩ 1 none, .fieldLink RX3 9 "SturmianWords$Slope" "numerator" "I", .fieldLink RX3 15 "SturmianWords$Slope" "denominator" "I", .fieldLink RX3 18 "SturmianWords$Slope" "intercept" "I"] ++ wsX30)
def wsX6_quotient : List Cond := .code yX6_quotient cX6_quotient 4 (some .long) :: ([])
def wsX3_term : List Cond := .code yX3_term cX3_term 7 (some .int) :: ([.fieldLink RX3 15 "SturmianWords$Slope" "denominator" "I", .fieldLink RX3 9 "SturmianWords$Slope" "numerator" "I", .static yX6_quotient, .initialized RX6, .code yX6_quotient cX6_quotient 4 (some .long)] ++ wsX30)
def wsX3_letter : List Cond := .code yX3_letter cX3_letter 7 (some .int) :: ([.fieldLink RX3 15 "SturmianWords$Slope" "denominator" "I", .fieldLink RX3 9 "SturmianWords$Slope" "numerator" "I", .fieldLink RX3 18 "SturmianWords$Slope" "intercept" "I", .static yX6_quotient, .initialized RX6, .code yX6_quotient cX6_quotient 4 (some .long)] ++ wsX30)
def wsX3_firstLetters : List Cond := .code yX3_firstLetters cX3_firstLetters 6 (some (.object "SturmianWords$Word")) :: ([.classLink RX3 29 RX5, .instantiable RX5 2, .initialized RX5, .methodLink RX3 25 yX3_letter, .instanceMethod yX3_letter, .selects RX3 yX3_letter yX3_letter, .initialized RX3, .code yX3_letter cX3_letter 7 (some .int), .fieldLink RX3 15 "SturmianWords$Slope" "denominator" "I", .fieldLink RX3 9 "SturmianWords$Slope" "numerator" "I", .fieldLink RX3 18 "SturmianWords$Slope" "intercept" "I", .static yX6_quotient, .initialized RX6, .code yX6_quotient cX6_quotient 4 (some .long), .methodLink RX3 31 yX5_init, .instanceMethod yX5_init, .code yX5_init cX5_init 4 none, .methodLink RX5 3 objectInit, .instanceMethod objectInit, .code objectInit ⟨#[0xb1]⟩ 1 none, .fieldLink RX5 9 "SturmianWords$Word" "bits" "J", .fieldLink RX5 15 "SturmianWords$Word" "size" "I"] ++ wsX50 ++ wsX30)
def wsX5_repeatedThen : List Cond := .code yX5_repeatedThen cX5_repeatedThen 7 (some (.object "SturmianWords$Word")) :: ([.fieldLink RX5 15 "SturmianWords$Word" "size" "I", .fieldLink RX5 9 "SturmianWords$Word" "bits" "J", .classLink RX5 10 RX5, .instantiable RX5 2, .initialized RX5, .methodLink RX5 29 yX5_init, .instanceMethod yX5_init, .code yX5_init cX5_init 4 none, .methodLink RX5 3 objectInit, .instanceMethod objectInit, .code objectInit ⟨#[0xb1]⟩ 1 none] ++ wsX50)
def wsX3_standardWord_r1 : List Cond := [Cond.classLink RX3 29 RX5, Cond.instantiable RX5 2, Cond.initialized RX5, Cond.methodLink RX3 31 yX5_init, Cond.instanceMethod yX5_init, Cond.code yX5_init cX5_init 4 none, Cond.methodLink RX5 3 objectInit, Cond.instanceMethod objectInit, Cond.code objectInit ⟨#[0xb1]⟩ 1 none, Cond.fieldLink RX5 9 "SturmianWords$Word" "bits" "J", Cond.fieldLink RX5 15 "SturmianWords$Word" "size" "I", Cond.methodLink RX3 34 yX3_term, Cond.instanceMethod yX3_term, Cond.selects RX3 yX3_term yX3_term, Cond.initialized RX3, Cond.code yX3_term cX3_term 7 (some .int), Cond.fieldLink RX3 15 "SturmianWords$Slope" "denominator" "I", Cond.fieldLink RX3 9 "SturmianWords$Slope" "numerator" "I", Cond.static yX6_quotient, Cond.initialized RX6, Cond.code yX6_quotient cX6_quotient 4 (some .long), Cond.methodLink RX3 38 yX5_repeatedThen, Cond.instanceMethod yX5_repeatedThen, Cond.selects RX5 yX5_repeatedThen yX5_repeatedThen]
def wsX3_standardWord_r2 : List Cond := [Cond.code yX5_repeatedThen cX5_repeatedThen 7 (some (.object "SturmianWords$Word")), Cond.classLink RX5 10 RX5, Cond.methodLink RX5 29 yX5_init]
def wsX3_standardWord : List Cond := .code yX3_standardWord cX3_standardWord 7 (some (.object "SturmianWords$Word")) :: ((wsX3_standardWord_r1 ++ wsX3_standardWord_r2) ++ wsX50 ++ wsX30)
def wsX4_init : List Cond := .code yX4_init cX4_init 3 none :: ([.methodLink RX4 1 objectInit, .instanceMethod objectInit, .code objectInit ⟨#[0xb1]⟩ 1 none, .fieldLink RX4 7 "SturmianWords$State" "slope" "LSturmianWords$Slope;", .fieldLink RX4 13 "SturmianWords$State" "word" "LSturmianWords$Word;"] ++ wsX40)
def wsJ13_bitCount_95d88 : List Cond := .code yJ13_bitCount_95d88 cJ13_bitCount_95d88 2 (some .int) :: ([.constantLong RJ13 314 (6148914691236517205), .constantLong RJ13 316 (3689348814741910323), .constantLong RJ13 318 (1085102592571150095)])
def wsX5_ones : List Cond := .code yX5_ones cX5_ones 1 (some .int) :: ([.fieldLink RX5 9 "SturmianWords$Word" "bits" "J", .methodLink RX5 23 yJ13_bitCount_95d88, .static yJ13_bitCount_95d88, .initialized RJ13, .code yJ13_bitCount_95d88 cJ13_bitCount_95d88 2 (some .int), .constantLong RJ13 314 (6148914691236517205), .constantLong RJ13 316 (3689348814741910323), .constantLong RJ13 318 (1085102592571150095)] ++ wsX50)
def wsX5_reversed : List Cond := .code yX5_reversed cX5_reversed 4 (some (.object "SturmianWords$Word")) :: ([.fieldLink RX5 15 "SturmianWords$Word" "size" "I", .fieldLink RX5 9 "SturmianWords$Word" "bits" "J", .classLink RX5 10 RX5, .instantiable RX5 2, .initialized RX5, .methodLink RX5 29 yX5_init, .instanceMethod yX5_init, .code yX5_init cX5_init 4 none, .methodLink RX5 3 objectInit, .instanceMethod objectInit, .code objectInit ⟨#[0xb1]⟩ 1 none] ++ wsX50)
def wsX5_isNew : List Cond := .code yX5_isNew cX5_isNew 6 (some .boolean) :: ([.methodLink RX5 19 yX5_factor, .instanceMethod yX5_factor, .selects RX5 yX5_factor yX5_factor, .initialized RX5, .code yX5_factor cX5_factor 3 (some .long), .fieldLink RX5 9 "SturmianWords$Word" "bits" "J", .fieldLink RX5 15 "SturmianWords$Word" "size" "I"] ++ wsX50)
def wsX5_differentFactors : List Cond := .code yX5_differentFactors cX5_differentFactors 4 (some .int) :: ([.fieldLink RX5 15 "SturmianWords$Word" "size" "I", .methodLink RX5 32 yX5_isNew, .instanceMethod yX5_isNew, .selects RX5 yX5_isNew yX5_isNew, .initialized RX5, .code yX5_isNew cX5_isNew 6 (some .boolean), .methodLink RX5 19 yX5_factor, .instanceMethod yX5_factor, .selects RX5 yX5_factor yX5_factor, .code yX5_factor cX5_factor 3 (some .long), .fieldLink RX5 9 "SturmianWords$Word" "bits" "J"] ++ wsX50)
def wsX5_nextFactor : List Cond := .code yX5_nextFactor cX5_nextFactor 9 (some .long) :: ([.constantLong RX5 36 (-1), .fieldLink RX5 15 "SturmianWords$Word" "size" "I", .methodLink RX5 19 yX5_factor, .instanceMethod yX5_factor, .selects RX5 yX5_factor yX5_factor, .initialized RX5, .code yX5_factor cX5_factor 3 (some .long), .fieldLink RX5 9 "SturmianWords$Word" "bits" "J"] ++ wsX50)
def wsX5_listedFactor : List Cond := .code yX5_listedFactor cX5_listedFactor 6 (some .long) :: ([.fieldLink RX5 15 "SturmianWords$Word" "size" "I", .constantLong RX5 36 (-1), .methodLink RX5 38 yX5_nextFactor, .instanceMethod yX5_nextFactor, .selects RX5 yX5_nextFactor yX5_nextFactor, .initialized RX5, .code yX5_nextFactor cX5_nextFactor 9 (some .long), .methodLink RX5 19 yX5_factor, .instanceMethod yX5_factor, .selects RX5 yX5_factor yX5_factor, .code yX5_factor cX5_factor 3 (some .long), .fieldLink RX5 9 "SturmianWords$Word" "bits" "J"] ++ wsX50)
def wsX5_weightSpread : List Cond := .code yX5_weightSpread cX5_weightSpread 6 (some .int) :: ([.fieldLink RX5 15 "SturmianWords$Word" "size" "I", .methodLink RX5 42 Lib.Math.min.name, .static Lib.Math.min.name, .initialized "java/lang/Math", .code Lib.Math.min.name Lib.Math.min.code 2 (some .int), .methodLink RX5 48 Lib.Math.max.name, .static Lib.Math.max.name, .code Lib.Math.max.name Lib.Math.max.code 2 (some .int), .methodLink RX5 19 yX5_factor, .instanceMethod yX5_factor, .selects RX5 yX5_factor yX5_factor, .initialized RX5, .code yX5_factor cX5_factor 3 (some .long), .fieldLink RX5 9 "SturmianWords$Word" "bits" "J", .methodLink RX5 23 yJ13_bitCount_95d88, .static yJ13_bitCount_95d88, .initialized RJ13, .code yJ13_bitCount_95d88 cJ13_bitCount_95d88 2 (some .int), .constantLong RJ13 314 (6148914691236517205), .constantLong RJ13 316 (3689348814741910323), .constantLong RJ13 318 (1085102592571150095)] ++ wsX50)
def wsX5_isPalindrome : List Cond := .code yX5_isPalindrome cX5_isPalindrome 4 (some .boolean) :: ([.fieldLink RX5 15 "SturmianWords$Word" "size" "I", .methodLink RX5 19 yX5_factor, .instanceMethod yX5_factor, .selects RX5 yX5_factor yX5_factor, .initialized RX5, .code yX5_factor cX5_factor 3 (some .long), .fieldLink RX5 9 "SturmianWords$Word" "bits" "J"] ++ wsX50)
def wsX5_differentPalindromes_r1 : List Cond := [Cond.fieldLink RX5 15 "SturmianWords$Word" "size" "I", Cond.methodLink RX5 51 yX5_reversed, Cond.instanceMethod yX5_reversed, Cond.selects RX5 yX5_reversed yX5_reversed, Cond.initialized RX5, Cond.code yX5_reversed cX5_reversed 4 (some (.object "SturmianWords$Word")), Cond.fieldLink RX5 9 "SturmianWords$Word" "bits" "J", Cond.classLink RX5 10 RX5, Cond.instantiable RX5 2, Cond.methodLink RX5 29 yX5_init, Cond.instanceMethod yX5_init, Cond.code yX5_init cX5_init 4 none, Cond.methodLink RX5 3 objectInit, Cond.instanceMethod objectInit, Cond.code objectInit ⟨#[0xb1]⟩ 1 none, Cond.methodLink RX5 55 yX5_isPalindrome, Cond.instanceMethod yX5_isPalindrome, Cond.selects RX5 yX5_isPalindrome yX5_isPalindrome, Cond.code yX5_isPalindrome cX5_isPalindrome 4 (some .boolean), Cond.methodLink RX5 19 yX5_factor, Cond.instanceMethod yX5_factor, Cond.selects RX5 yX5_factor yX5_factor, Cond.code yX5_factor cX5_factor 3 (some .long), Cond.methodLink RX5 32 yX5_isNew]
def wsX5_differentPalindromes_r2 : List Cond := [Cond.instanceMethod yX5_isNew, Cond.selects RX5 yX5_isNew yX5_isNew, Cond.code yX5_isNew cX5_isNew 6 (some .boolean)]
def wsX5_differentPalindromes : List Cond := .code yX5_differentPalindromes cX5_differentPalindromes 5 (some .int) :: ((wsX5_differentPalindromes_r1 ++ wsX5_differentPalindromes_r2) ++ wsX50)
def wsX5_hasPeriod : List Cond := .code yX5_hasPeriod cX5_hasPeriod 2 (some .boolean) :: ([.fieldLink RX5 15 "SturmianWords$Word" "size" "I", .methodLink RX5 19 yX5_factor, .instanceMethod yX5_factor, .selects RX5 yX5_factor yX5_factor, .initialized RX5, .code yX5_factor cX5_factor 3 (some .long), .fieldLink RX5 9 "SturmianWords$Word" "bits" "J"] ++ wsX50)
def wsX5_leastIntercept : List Cond := .code yX5_leastIntercept cX5_leastIntercept 8 (some .int) :: ([.fieldLink RX5 15 "SturmianWords$Word" "size" "I", .methodLink RX5 48 Lib.Math.max.name, .static Lib.Math.max.name, .initialized "java/lang/Math", .code Lib.Math.max.name Lib.Math.max.code 2 (some .int), .methodLink RX5 42 Lib.Math.min.name, .static Lib.Math.min.name, .code Lib.Math.min.name Lib.Math.min.code 2 (some .int), .methodLink RX5 70 yX5_letter, .instanceMethod yX5_letter, .selects RX5 yX5_letter yX5_letter, .initialized RX5, .code yX5_letter cX5_letter 2 (some .int), .methodLink RX5 19 yX5_factor, .instanceMethod yX5_factor, .selects RX5 yX5_factor yX5_factor, .code yX5_factor cX5_factor 3 (some .long), .fieldLink RX5 9 "SturmianWords$Word" "bits" "J"] ++ wsX50)
def wsX6_commonDivisor : List Cond := .code yX6_commonDivisor cX6_commonDivisor 6 (some .int) :: ([.methodLink RX6 46 yX6_quotient, .static yX6_quotient, .initialized RX6, .code yX6_quotient cX6_quotient 4 (some .long)])
def wsX5_simplest_r1 : List Cond := [Cond.classLink RX5 65 RX3, Cond.instantiable RX3 3, Cond.initialized RX3, Cond.methodLink RX5 59 yX5_leastIntercept, Cond.instanceMethod yX5_leastIntercept, Cond.selects RX5 yX5_leastIntercept yX5_leastIntercept, Cond.initialized RX5, Cond.code yX5_leastIntercept cX5_leastIntercept 8 (some .int), Cond.fieldLink RX5 15 "SturmianWords$Word" "size" "I", Cond.methodLink RX5 48 Lib.Math.max.name, Cond.static Lib.Math.max.name, Cond.initialized "java/lang/Math", Cond.code Lib.Math.max.name Lib.Math.max.code 2 (some .int), Cond.methodLink RX5 42 Lib.Math.min.name, Cond.static Lib.Math.min.name, Cond.code Lib.Math.min.name Lib.Math.min.code 2 (some .int), Cond.methodLink RX5 70 yX5_letter, Cond.instanceMethod yX5_letter, Cond.selects RX5 yX5_letter yX5_letter, Cond.code yX5_letter cX5_letter 2 (some .int), Cond.methodLink RX5 19 yX5_factor, Cond.instanceMethod yX5_factor, Cond.selects RX5 yX5_factor yX5_factor, Cond.code yX5_factor cX5_factor 3 (some .long)]
def wsX5_simplest_r2 : List Cond := [Cond.fieldLink RX5 9 "SturmianWords$Word" "bits" "J", Cond.static yX6_commonDivisor, Cond.initialized RX6, Cond.code yX6_commonDivisor cX6_commonDivisor 6 (some .int), Cond.methodLink RX6 46 yX6_quotient, Cond.static yX6_quotient, Cond.code yX6_quotient cX6_quotient 4 (some .long), Cond.methodLink RX5 67 yX3_init, Cond.instanceMethod yX3_init, Cond.code yX3_init cX3_init 4 none, Cond.methodLink RX3 3 objectInit, Cond.instanceMethod objectInit, Cond.code objectInit ⟨#[0xb1]⟩ 1 none, Cond.fieldLink RX3 9 "SturmianWords$Slope" "numerator" "I", Cond.fieldLink RX3 15 "SturmianWords$Slope" "denominator" "I", Cond.fieldLink RX3 18 "SturmianWords$Slope" "intercept" "I"]
def wsX5_simplest : List Cond := .code yX5_simplest cX5_simplest 4 (some (.object "SturmianWords$Slope")) :: ((wsX5_simplest_r1 ++ wsX5_simplest_r2) ++ wsX30 ++ wsX50)
def wsX6_init_r1 : List Cond := [Cond.methodLink RX6 1 objectInit, Cond.instanceMethod objectInit, Cond.code objectInit ⟨#[0xb1]⟩ 1 none, Cond.classLink RX6 7 RX1, Cond.instantiable RX1 3, Cond.initialized RX1, Cond.fieldLink RX6 10 "SturmianWords" "history" "LSturmianWords$History;", Cond.classLink RX6 16 RX0, Cond.instantiable RX0 2, Cond.initialized RX0, Cond.fieldLink RX6 19 "SturmianWords" "circle" "LSturmianWords$Circle;", Cond.classLink RX6 23 RX4, Cond.instantiable RX4 2, Cond.initialized RX4, Cond.classLink RX6 25 RX3, Cond.instantiable RX3 3, Cond.initialized RX3, Cond.classLink RX6 30 RX5, Cond.instantiable RX5 2, Cond.initialized RX5, Cond.fieldLink RX6 38 "SturmianWords" "state" "LSturmianWords$State;", Cond.instanceMethod yX1_init, Cond.code yX1_init cX1_init 1 none, Cond.methodLink RX1 3 objectInit]
def wsX6_init_r2 : List Cond := [Cond.classLink RX1 9 RX4, Cond.fieldLink RX1 11 "SturmianWords$History" "rows" "[LSturmianWords$State;", Cond.fieldLink RX1 17 "SturmianWords$History" "next" "I", Cond.fieldLink RX1 21 "SturmianWords$History" "kept" "I", Cond.instanceMethod yX0_init, Cond.code yX0_init cX0_init 1 none, Cond.methodLink RX0 3 objectInit, Cond.arrayClass .boolean, Cond.fieldLink RX0 9 "SturmianWords$Circle" "points" "[Z", Cond.arrayClass .int, Cond.fieldLink RX0 15 "SturmianWords$Circle" "gaps" "[I", Cond.methodLink RX6 27 yX3_init, Cond.instanceMethod yX3_init, Cond.code yX3_init cX3_init 4 none, Cond.methodLink RX3 3 objectInit, Cond.fieldLink RX3 9 "SturmianWords$Slope" "numerator" "I", Cond.fieldLink RX3 15 "SturmianWords$Slope" "denominator" "I", Cond.fieldLink RX3 18 "SturmianWords$Slope" "intercept" "I", Cond.methodLink RX6 32 yX5_init, Cond.instanceMethod yX5_init, Cond.code yX5_init cX5_init 4 none, Cond.methodLink RX5 3 objectInit, Cond.fieldLink RX5 9 "SturmianWords$Word" "bits" "J", Cond.fieldLink RX5 15 "SturmianWords$Word" "size" "I"]
def wsX6_init_r3 : List Cond := [Cond.methodLink RX6 35 yX4_init, Cond.instanceMethod yX4_init, Cond.code yX4_init cX4_init 3 none, Cond.methodLink RX4 1 objectInit, Cond.fieldLink RX4 7 "SturmianWords$State" "slope" "LSturmianWords$Slope;", Cond.fieldLink RX4 13 "SturmianWords$State" "word" "LSturmianWords$Word;"]
def wsX6_init : List Cond := .code yX6_init cX6_init 1 none :: ((wsX6_init_r1 ++ (wsX6_init_r2 ++ wsX6_init_r3)) ++ wsX10 ++ wsX60 ++ wsX00 ++ wsX40 ++ wsX30 ++ wsX50)
def wsX6_changeSlope_r1 : List Cond := [Cond.fieldLink RX6 10 "SturmianWords" "history" "LSturmianWords$History;", Cond.fieldLink RX6 38 "SturmianWords" "state" "LSturmianWords$State;", Cond.classLink RX6 23 RX4, Cond.instantiable RX4 2, Cond.initialized RX4, Cond.methodLink RX6 170 yX1_keep, Cond.instanceMethod yX1_keep, Cond.selects RX1 yX1_keep yX1_keep, Cond.initialized RX1, Cond.code yX1_keep cX1_keep 2 none, Cond.fieldLink RX1 17 "SturmianWords$History" "next" "I", Cond.fieldLink RX1 11 "SturmianWords$History" "rows" "[LSturmianWords$State;", Cond.fieldLink RX1 21 "SturmianWords$History" "kept" "I", Cond.methodLink RX1 24 Lib.Math.min.name, Cond.static Lib.Math.min.name, Cond.initialized "java/lang/Math", Cond.code Lib.Math.min.name Lib.Math.min.code 2 (some .int), Cond.methodLink RX6 35 yX4_init, Cond.instanceMethod yX4_init, Cond.code yX4_init cX4_init 3 none, Cond.methodLink RX4 1 objectInit, Cond.instanceMethod objectInit, Cond.code objectInit ⟨#[0xb1]⟩ 1 none, Cond.fieldLink RX4 7 "SturmianWords$State" "slope" "LSturmianWords$Slope;"]
def wsX6_changeSlope_r2 : List Cond := [Cond.fieldLink RX4 13 "SturmianWords$State" "word" "LSturmianWords$Word;"]
def wsX6_changeSlope : List Cond := .code yX6_changeSlope cX6_changeSlope 2 none :: ((wsX6_changeSlope_r1 ++ wsX6_changeSlope_r2) ++ wsX60 ++ wsX40 ++ wsX10)
def wsX6_setSlope_r1 : List Cond := [Cond.classLink RX6 25 RX3, Cond.instantiable RX3 3, Cond.initialized RX3, Cond.methodLink RX6 42 yX6_commonDivisor, Cond.static yX6_commonDivisor, Cond.initialized RX6, Cond.code yX6_commonDivisor cX6_commonDivisor 6 (some .int), Cond.methodLink RX6 46 yX6_quotient, Cond.static yX6_quotient, Cond.code yX6_quotient cX6_quotient 4 (some .long), Cond.methodLink RX6 27 yX3_init, Cond.instanceMethod yX3_init, Cond.code yX3_init cX3_init 4 none, Cond.methodLink RX3 3 objectInit, Cond.instanceMethod objectInit, Cond.code objectInit ⟨#[0xb1]⟩ 1 none, Cond.fieldLink RX3 9 "SturmianWords$Slope" "numerator" "I", Cond.fieldLink RX3 15 "SturmianWords$Slope" "denominator" "I", Cond.fieldLink RX3 18 "SturmianWords$Slope" "intercept" "I", Cond.methodLink RX6 50 yX6_changeSlope, Cond.instanceMethod yX6_changeSlope, Cond.selects RX6 yX6_changeSlope yX6_changeSlope, Cond.code yX6_changeSlope cX6_changeSlope 2 none, Cond.fieldLink RX6 10 "SturmianWords" "history" "LSturmianWords$History;"]
def wsX6_setSlope_r2 : List Cond := [Cond.fieldLink RX6 38 "SturmianWords" "state" "LSturmianWords$State;", Cond.classLink RX6 23 RX4, Cond.instantiable RX4 2, Cond.initialized RX4, Cond.methodLink RX6 170 yX1_keep, Cond.instanceMethod yX1_keep, Cond.selects RX1 yX1_keep yX1_keep, Cond.initialized RX1, Cond.code yX1_keep cX1_keep 2 none, Cond.fieldLink RX1 17 "SturmianWords$History" "next" "I", Cond.fieldLink RX1 11 "SturmianWords$History" "rows" "[LSturmianWords$State;", Cond.fieldLink RX1 21 "SturmianWords$History" "kept" "I", Cond.methodLink RX1 24 Lib.Math.min.name, Cond.static Lib.Math.min.name, Cond.initialized "java/lang/Math", Cond.code Lib.Math.min.name Lib.Math.min.code 2 (some .int), Cond.methodLink RX6 35 yX4_init, Cond.instanceMethod yX4_init, Cond.code yX4_init cX4_init 3 none, Cond.methodLink RX4 1 objectInit, Cond.fieldLink RX4 7 "SturmianWords$State" "slope" "LSturmianWords$Slope;", Cond.fieldLink RX4 13 "SturmianWords$State" "word" "LSturmianWords$Word;"]
def wsX6_setSlope : List Cond := .code yX6_setSlope cX6_setSlope 5 (some .int) :: ((wsX6_setSlope_r1 ++ wsX6_setSlope_r2) ++ wsX30 ++ wsX60 ++ wsX40 ++ wsX10)
def wsX6_setIntercept_r1 : List Cond := [Cond.fieldLink RX6 38 "SturmianWords" "state" "LSturmianWords$State;", Cond.classLink RX6 25 RX3, Cond.instantiable RX3 3, Cond.initialized RX3, Cond.methodLink RX6 27 yX3_init, Cond.instanceMethod yX3_init, Cond.code yX3_init cX3_init 4 none, Cond.methodLink RX3 3 objectInit, Cond.instanceMethod objectInit, Cond.code objectInit ⟨#[0xb1]⟩ 1 none, Cond.fieldLink RX3 9 "SturmianWords$Slope" "numerator" "I", Cond.fieldLink RX3 15 "SturmianWords$Slope" "denominator" "I", Cond.fieldLink RX3 18 "SturmianWords$Slope" "intercept" "I", Cond.methodLink RX6 50 yX6_changeSlope, Cond.instanceMethod yX6_changeSlope, Cond.selects RX6 yX6_changeSlope yX6_changeSlope, Cond.initialized RX6, Cond.code yX6_changeSlope cX6_changeSlope 2 none, Cond.fieldLink RX6 10 "SturmianWords" "history" "LSturmianWords$History;", Cond.classLink RX6 23 RX4, Cond.instantiable RX4 2, Cond.initialized RX4, Cond.methodLink RX6 170 yX1_keep, Cond.instanceMethod yX1_keep]
def wsX6_setIntercept_r2 : List Cond := [Cond.selects RX1 yX1_keep yX1_keep, Cond.initialized RX1, Cond.code yX1_keep cX1_keep 2 none, Cond.fieldLink RX1 17 "SturmianWords$History" "next" "I", Cond.fieldLink RX1 11 "SturmianWords$History" "rows" "[LSturmianWords$State;", Cond.fieldLink RX1 21 "SturmianWords$History" "kept" "I", Cond.methodLink RX1 24 Lib.Math.min.name, Cond.static Lib.Math.min.name, Cond.initialized "java/lang/Math", Cond.code Lib.Math.min.name Lib.Math.min.code 2 (some .int), Cond.methodLink RX6 35 yX4_init, Cond.instanceMethod yX4_init, Cond.code yX4_init cX4_init 3 none, Cond.methodLink RX4 1 objectInit, Cond.fieldLink RX4 7 "SturmianWords$State" "slope" "LSturmianWords$Slope;", Cond.fieldLink RX4 13 "SturmianWords$State" "word" "LSturmianWords$Word;"]
def wsX6_setIntercept : List Cond := .code yX6_setIntercept cX6_setIntercept 3 (some .int) :: ((wsX6_setIntercept_r1 ++ wsX6_setIntercept_r2) ++ wsX60 ++ wsX40 ++ wsX30 ++ wsX10)
def wsX6_slopeNumerator : List Cond := .code yX6_slopeNumerator cX6_slopeNumerator 1 (some .int) :: ([.fieldLink RX6 38 "SturmianWords" "state" "LSturmianWords$State;"] ++ wsX60 ++ wsX40 ++ wsX30)
def wsX6_slopeDenominator : List Cond := .code yX6_slopeDenominator cX6_slopeDenominator 1 (some .int) :: ([.fieldLink RX6 38 "SturmianWords" "state" "LSturmianWords$State;"] ++ wsX60 ++ wsX40 ++ wsX30)
def wsX6_continuedFractionTerm : List Cond := .code yX6_continuedFractionTerm cX6_continuedFractionTerm 3 (some .int) :: ([.fieldLink RX6 38 "SturmianWords" "state" "LSturmianWords$State;", .methodLink RX6 68 yX3_term, .instanceMethod yX3_term, .selects RX3 yX3_term yX3_term, .initialized RX3, .code yX3_term cX3_term 7 (some .int), .fieldLink RX3 15 "SturmianWords$Slope" "denominator" "I", .fieldLink RX3 9 "SturmianWords$Slope" "numerator" "I", .static yX6_quotient, .initialized RX6, .code yX6_quotient cX6_quotient 4 (some .long)] ++ wsX60 ++ wsX40 ++ wsX30)
def wsX6_mechanicalLetter : List Cond := .code yX6_mechanicalLetter cX6_mechanicalLetter 3 (some .int) :: ([.constant RX6 72 (1000000), .fieldLink RX6 38 "SturmianWords" "state" "LSturmianWords$State;", .methodLink RX6 73 yX3_letter, .instanceMethod yX3_letter, .selects RX3 yX3_letter yX3_letter, .initialized RX3, .code yX3_letter cX3_letter 7 (some .int), .fieldLink RX3 15 "SturmianWords$Slope" "denominator" "I", .fieldLink RX3 9 "SturmianWords$Slope" "numerator" "I", .fieldLink RX3 18 "SturmianWords$Slope" "intercept" "I", .static yX6_quotient, .initialized RX6, .code yX6_quotient cX6_quotient 4 (some .long)] ++ wsX60 ++ wsX40 ++ wsX30)
def wsX6_changeWord_r1 : List Cond := [Cond.fieldLink RX6 10 "SturmianWords" "history" "LSturmianWords$History;", Cond.fieldLink RX6 38 "SturmianWords" "state" "LSturmianWords$State;", Cond.classLink RX6 23 RX4, Cond.instantiable RX4 2, Cond.initialized RX4, Cond.methodLink RX6 170 yX1_keep, Cond.instanceMethod yX1_keep, Cond.selects RX1 yX1_keep yX1_keep, Cond.initialized RX1, Cond.code yX1_keep cX1_keep 2 none, Cond.fieldLink RX1 17 "SturmianWords$History" "next" "I", Cond.fieldLink RX1 11 "SturmianWords$History" "rows" "[LSturmianWords$State;", Cond.fieldLink RX1 21 "SturmianWords$History" "kept" "I", Cond.methodLink RX1 24 Lib.Math.min.name, Cond.static Lib.Math.min.name, Cond.initialized "java/lang/Math", Cond.code Lib.Math.min.name Lib.Math.min.code 2 (some .int), Cond.methodLink RX6 35 yX4_init, Cond.instanceMethod yX4_init, Cond.code yX4_init cX4_init 3 none, Cond.methodLink RX4 1 objectInit, Cond.instanceMethod objectInit, Cond.code objectInit ⟨#[0xb1]⟩ 1 none, Cond.fieldLink RX4 7 "SturmianWords$State" "slope" "LSturmianWords$Slope;"]
def wsX6_changeWord_r2 : List Cond := [Cond.fieldLink RX4 13 "SturmianWords$State" "word" "LSturmianWords$Word;"]
def wsX6_changeWord : List Cond := .code yX6_changeWord cX6_changeWord 2 none :: ((wsX6_changeWord_r1 ++ wsX6_changeWord_r2) ++ wsX60 ++ wsX40 ++ wsX10)
def wsX6_loadMechanical_r1 : List Cond := [Cond.fieldLink RX6 38 "SturmianWords" "state" "LSturmianWords$State;", Cond.methodLink RX6 77 yX3_firstLetters, Cond.instanceMethod yX3_firstLetters, Cond.selects RX3 yX3_firstLetters yX3_firstLetters, Cond.initialized RX3, Cond.code yX3_firstLetters cX3_firstLetters 6 (some (.object "SturmianWords$Word")), Cond.classLink RX3 29 RX5, Cond.instantiable RX5 2, Cond.initialized RX5, Cond.methodLink RX3 25 yX3_letter, Cond.instanceMethod yX3_letter, Cond.selects RX3 yX3_letter yX3_letter, Cond.code yX3_letter cX3_letter 7 (some .int), Cond.fieldLink RX3 15 "SturmianWords$Slope" "denominator" "I", Cond.fieldLink RX3 9 "SturmianWords$Slope" "numerator" "I", Cond.fieldLink RX3 18 "SturmianWords$Slope" "intercept" "I", Cond.static yX6_quotient, Cond.initialized RX6, Cond.code yX6_quotient cX6_quotient 4 (some .long), Cond.methodLink RX3 31 yX5_init, Cond.instanceMethod yX5_init, Cond.code yX5_init cX5_init 4 none, Cond.methodLink RX5 3 objectInit, Cond.instanceMethod objectInit]
def wsX6_loadMechanical_r2 : List Cond := [Cond.code objectInit ⟨#[0xb1]⟩ 1 none, Cond.fieldLink RX5 9 "SturmianWords$Word" "bits" "J", Cond.fieldLink RX5 15 "SturmianWords$Word" "size" "I", Cond.methodLink RX6 81 yX6_changeWord, Cond.instanceMethod yX6_changeWord, Cond.selects RX6 yX6_changeWord yX6_changeWord, Cond.code yX6_changeWord cX6_changeWord 2 none, Cond.fieldLink RX6 10 "SturmianWords" "history" "LSturmianWords$History;", Cond.classLink RX6 23 RX4, Cond.instantiable RX4 2, Cond.initialized RX4, Cond.methodLink RX6 170 yX1_keep, Cond.instanceMethod yX1_keep, Cond.selects RX1 yX1_keep yX1_keep, Cond.initialized RX1, Cond.code yX1_keep cX1_keep 2 none, Cond.fieldLink RX1 17 "SturmianWords$History" "next" "I", Cond.fieldLink RX1 11 "SturmianWords$History" "rows" "[LSturmianWords$State;", Cond.fieldLink RX1 21 "SturmianWords$History" "kept" "I", Cond.methodLink RX1 24 Lib.Math.min.name, Cond.static Lib.Math.min.name, Cond.initialized "java/lang/Math", Cond.code Lib.Math.min.name Lib.Math.min.code 2 (some .int), Cond.methodLink RX6 35 yX4_init]
def wsX6_loadMechanical_r3 : List Cond := [Cond.instanceMethod yX4_init, Cond.code yX4_init cX4_init 3 none, Cond.methodLink RX4 1 objectInit, Cond.fieldLink RX4 7 "SturmianWords$State" "slope" "LSturmianWords$Slope;", Cond.fieldLink RX4 13 "SturmianWords$State" "word" "LSturmianWords$Word;", Cond.methodLink RX6 85 yX5_ones, Cond.instanceMethod yX5_ones, Cond.selects RX5 yX5_ones yX5_ones, Cond.code yX5_ones cX5_ones 1 (some .int), Cond.methodLink RX5 23 yJ13_bitCount_95d88, Cond.static yJ13_bitCount_95d88, Cond.initialized RJ13, Cond.code yJ13_bitCount_95d88 cJ13_bitCount_95d88 2 (some .int), Cond.constantLong RJ13 314 (6148914691236517205), Cond.constantLong RJ13 316 (3689348814741910323), Cond.constantLong RJ13 318 (1085102592571150095)]
def wsX6_loadMechanical : List Cond := .code yX6_loadMechanical cX6_loadMechanical 4 (some .int) :: ((wsX6_loadMechanical_r1 ++ (wsX6_loadMechanical_r2 ++ wsX6_loadMechanical_r3)) ++ wsX60 ++ wsX40 ++ wsX50 ++ wsX30 ++ wsX10)
def wsX6_loadStandard_r1 : List Cond := [Cond.fieldLink RX6 38 "SturmianWords" "state" "LSturmianWords$State;", Cond.methodLink RX6 68 yX3_term, Cond.instanceMethod yX3_term, Cond.selects RX3 yX3_term yX3_term, Cond.initialized RX3, Cond.code yX3_term cX3_term 7 (some .int), Cond.fieldLink RX3 15 "SturmianWords$Slope" "denominator" "I", Cond.fieldLink RX3 9 "SturmianWords$Slope" "numerator" "I", Cond.static yX6_quotient, Cond.initialized RX6, Cond.code yX6_quotient cX6_quotient 4 (some .long), Cond.methodLink RX6 89 yX3_standardWord, Cond.instanceMethod yX3_standardWord, Cond.selects RX3 yX3_standardWord yX3_standardWord, Cond.code yX3_standardWord cX3_standardWord 7 (some (.object "SturmianWords$Word")), Cond.classLink RX3 29 RX5, Cond.instantiable RX5 2, Cond.initialized RX5, Cond.methodLink RX3 31 yX5_init, Cond.instanceMethod yX5_init, Cond.code yX5_init cX5_init 4 none, Cond.methodLink RX5 3 objectInit, Cond.instanceMethod objectInit, Cond.code objectInit ⟨#[0xb1]⟩ 1 none]
def wsX6_loadStandard_r2 : List Cond := [Cond.fieldLink RX5 9 "SturmianWords$Word" "bits" "J", Cond.fieldLink RX5 15 "SturmianWords$Word" "size" "I", Cond.methodLink RX3 34 yX3_term, Cond.methodLink RX3 38 yX5_repeatedThen, Cond.instanceMethod yX5_repeatedThen, Cond.selects RX5 yX5_repeatedThen yX5_repeatedThen, Cond.code yX5_repeatedThen cX5_repeatedThen 7 (some (.object "SturmianWords$Word")), Cond.classLink RX5 10 RX5, Cond.methodLink RX5 29 yX5_init, Cond.methodLink RX6 81 yX6_changeWord, Cond.instanceMethod yX6_changeWord, Cond.selects RX6 yX6_changeWord yX6_changeWord, Cond.code yX6_changeWord cX6_changeWord 2 none, Cond.fieldLink RX6 10 "SturmianWords" "history" "LSturmianWords$History;", Cond.classLink RX6 23 RX4, Cond.instantiable RX4 2, Cond.initialized RX4, Cond.methodLink RX6 170 yX1_keep, Cond.instanceMethod yX1_keep, Cond.selects RX1 yX1_keep yX1_keep, Cond.initialized RX1, Cond.code yX1_keep cX1_keep 2 none, Cond.fieldLink RX1 17 "SturmianWords$History" "next" "I", Cond.fieldLink RX1 11 "SturmianWords$History" "rows" "[LSturmianWords$State;"]
def wsX6_loadStandard_r3 : List Cond := [Cond.fieldLink RX1 21 "SturmianWords$History" "kept" "I", Cond.methodLink RX1 24 Lib.Math.min.name, Cond.static Lib.Math.min.name, Cond.initialized "java/lang/Math", Cond.code Lib.Math.min.name Lib.Math.min.code 2 (some .int), Cond.methodLink RX6 35 yX4_init, Cond.instanceMethod yX4_init, Cond.code yX4_init cX4_init 3 none, Cond.methodLink RX4 1 objectInit, Cond.fieldLink RX4 7 "SturmianWords$State" "slope" "LSturmianWords$Slope;", Cond.fieldLink RX4 13 "SturmianWords$State" "word" "LSturmianWords$Word;"]
def wsX6_loadStandard : List Cond := .code yX6_loadStandard cX6_loadStandard 3 (some .int) :: ((wsX6_loadStandard_r1 ++ (wsX6_loadStandard_r2 ++ wsX6_loadStandard_r3)) ++ wsX60 ++ wsX40 ++ wsX50 ++ wsX30 ++ wsX10)
def wsX6_append_r1 : List Cond := [Cond.fieldLink RX6 38 "SturmianWords" "state" "LSturmianWords$State;", Cond.classLink RX6 30 RX5, Cond.instantiable RX5 2, Cond.initialized RX5, Cond.methodLink RX6 32 yX5_init, Cond.instanceMethod yX5_init, Cond.code yX5_init cX5_init 4 none, Cond.methodLink RX5 3 objectInit, Cond.instanceMethod objectInit, Cond.code objectInit ⟨#[0xb1]⟩ 1 none, Cond.fieldLink RX5 9 "SturmianWords$Word" "bits" "J", Cond.fieldLink RX5 15 "SturmianWords$Word" "size" "I", Cond.methodLink RX6 81 yX6_changeWord, Cond.instanceMethod yX6_changeWord, Cond.selects RX6 yX6_changeWord yX6_changeWord, Cond.initialized RX6, Cond.code yX6_changeWord cX6_changeWord 2 none, Cond.fieldLink RX6 10 "SturmianWords" "history" "LSturmianWords$History;", Cond.classLink RX6 23 RX4, Cond.instantiable RX4 2, Cond.initialized RX4, Cond.methodLink RX6 170 yX1_keep, Cond.instanceMethod yX1_keep, Cond.selects RX1 yX1_keep yX1_keep]
def wsX6_append_r2 : List Cond := [Cond.initialized RX1, Cond.code yX1_keep cX1_keep 2 none, Cond.fieldLink RX1 17 "SturmianWords$History" "next" "I", Cond.fieldLink RX1 11 "SturmianWords$History" "rows" "[LSturmianWords$State;", Cond.fieldLink RX1 21 "SturmianWords$History" "kept" "I", Cond.methodLink RX1 24 Lib.Math.min.name, Cond.static Lib.Math.min.name, Cond.initialized "java/lang/Math", Cond.code Lib.Math.min.name Lib.Math.min.code 2 (some .int), Cond.methodLink RX6 35 yX4_init, Cond.instanceMethod yX4_init, Cond.code yX4_init cX4_init 3 none, Cond.methodLink RX4 1 objectInit, Cond.fieldLink RX4 7 "SturmianWords$State" "slope" "LSturmianWords$Slope;", Cond.fieldLink RX4 13 "SturmianWords$State" "word" "LSturmianWords$Word;"]
def wsX6_append : List Cond := .code yX6_append cX6_append 3 (some .int) :: ((wsX6_append_r1 ++ wsX6_append_r2) ++ wsX60 ++ wsX40 ++ wsX50 ++ wsX10)
def wsX6_removeLast_r1 : List Cond := [Cond.fieldLink RX6 38 "SturmianWords" "state" "LSturmianWords$State;", Cond.classLink RX6 30 RX5, Cond.instantiable RX5 2, Cond.initialized RX5, Cond.methodLink RX6 32 yX5_init, Cond.instanceMethod yX5_init, Cond.code yX5_init cX5_init 4 none, Cond.methodLink RX5 3 objectInit, Cond.instanceMethod objectInit, Cond.code objectInit ⟨#[0xb1]⟩ 1 none, Cond.fieldLink RX5 9 "SturmianWords$Word" "bits" "J", Cond.fieldLink RX5 15 "SturmianWords$Word" "size" "I", Cond.methodLink RX6 81 yX6_changeWord, Cond.instanceMethod yX6_changeWord, Cond.selects RX6 yX6_changeWord yX6_changeWord, Cond.initialized RX6, Cond.code yX6_changeWord cX6_changeWord 2 none, Cond.fieldLink RX6 10 "SturmianWords" "history" "LSturmianWords$History;", Cond.classLink RX6 23 RX4, Cond.instantiable RX4 2, Cond.initialized RX4, Cond.methodLink RX6 170 yX1_keep, Cond.instanceMethod yX1_keep, Cond.selects RX1 yX1_keep yX1_keep]
def wsX6_removeLast_r2 : List Cond := [Cond.initialized RX1, Cond.code yX1_keep cX1_keep 2 none, Cond.fieldLink RX1 17 "SturmianWords$History" "next" "I", Cond.fieldLink RX1 11 "SturmianWords$History" "rows" "[LSturmianWords$State;", Cond.fieldLink RX1 21 "SturmianWords$History" "kept" "I", Cond.methodLink RX1 24 Lib.Math.min.name, Cond.static Lib.Math.min.name, Cond.initialized "java/lang/Math", Cond.code Lib.Math.min.name Lib.Math.min.code 2 (some .int), Cond.methodLink RX6 35 yX4_init, Cond.instanceMethod yX4_init, Cond.code yX4_init cX4_init 3 none, Cond.methodLink RX4 1 objectInit, Cond.fieldLink RX4 7 "SturmianWords$State" "slope" "LSturmianWords$Slope;", Cond.fieldLink RX4 13 "SturmianWords$State" "word" "LSturmianWords$Word;", Cond.methodLink RX6 104 yX5_letter, Cond.instanceMethod yX5_letter, Cond.selects RX5 yX5_letter yX5_letter, Cond.code yX5_letter cX5_letter 2 (some .int), Cond.methodLink RX5 19 yX5_factor, Cond.instanceMethod yX5_factor, Cond.selects RX5 yX5_factor yX5_factor, Cond.code yX5_factor cX5_factor 3 (some .long)]
def wsX6_removeLast : List Cond := .code yX6_removeLast cX6_removeLast 2 (some .int) :: ((wsX6_removeLast_r1 ++ wsX6_removeLast_r2) ++ wsX60 ++ wsX40 ++ wsX50 ++ wsX10)
def wsX6_clear_r1 : List Cond := [Cond.fieldLink RX6 38 "SturmianWords" "state" "LSturmianWords$State;", Cond.classLink RX6 30 RX5, Cond.instantiable RX5 2, Cond.initialized RX5, Cond.methodLink RX6 32 yX5_init, Cond.instanceMethod yX5_init, Cond.code yX5_init cX5_init 4 none, Cond.methodLink RX5 3 objectInit, Cond.instanceMethod objectInit, Cond.code objectInit ⟨#[0xb1]⟩ 1 none, Cond.fieldLink RX5 9 "SturmianWords$Word" "bits" "J", Cond.fieldLink RX5 15 "SturmianWords$Word" "size" "I", Cond.methodLink RX6 81 yX6_changeWord, Cond.instanceMethod yX6_changeWord, Cond.selects RX6 yX6_changeWord yX6_changeWord, Cond.initialized RX6, Cond.code yX6_changeWord cX6_changeWord 2 none, Cond.fieldLink RX6 10 "SturmianWords" "history" "LSturmianWords$History;", Cond.classLink RX6 23 RX4, Cond.instantiable RX4 2, Cond.initialized RX4, Cond.methodLink RX6 170 yX1_keep, Cond.instanceMethod yX1_keep, Cond.selects RX1 yX1_keep yX1_keep]
def wsX6_clear_r2 : List Cond := [Cond.initialized RX1, Cond.code yX1_keep cX1_keep 2 none, Cond.fieldLink RX1 17 "SturmianWords$History" "next" "I", Cond.fieldLink RX1 11 "SturmianWords$History" "rows" "[LSturmianWords$State;", Cond.fieldLink RX1 21 "SturmianWords$History" "kept" "I", Cond.methodLink RX1 24 Lib.Math.min.name, Cond.static Lib.Math.min.name, Cond.initialized "java/lang/Math", Cond.code Lib.Math.min.name Lib.Math.min.code 2 (some .int), Cond.methodLink RX6 35 yX4_init, Cond.instanceMethod yX4_init, Cond.code yX4_init cX4_init 3 none, Cond.methodLink RX4 1 objectInit, Cond.fieldLink RX4 7 "SturmianWords$State" "slope" "LSturmianWords$Slope;", Cond.fieldLink RX4 13 "SturmianWords$State" "word" "LSturmianWords$Word;"]
def wsX6_clear : List Cond := .code yX6_clear cX6_clear 2 (some .int) :: ((wsX6_clear_r1 ++ wsX6_clear_r2) ++ wsX60 ++ wsX40 ++ wsX50 ++ wsX10)
def wsX6_reverse_r1 : List Cond := [Cond.fieldLink RX6 38 "SturmianWords" "state" "LSturmianWords$State;", Cond.methodLink RX6 106 yX5_reversed, Cond.instanceMethod yX5_reversed, Cond.selects RX5 yX5_reversed yX5_reversed, Cond.initialized RX5, Cond.code yX5_reversed cX5_reversed 4 (some (.object "SturmianWords$Word")), Cond.fieldLink RX5 15 "SturmianWords$Word" "size" "I", Cond.fieldLink RX5 9 "SturmianWords$Word" "bits" "J", Cond.classLink RX5 10 RX5, Cond.instantiable RX5 2, Cond.methodLink RX5 29 yX5_init, Cond.instanceMethod yX5_init, Cond.code yX5_init cX5_init 4 none, Cond.methodLink RX5 3 objectInit, Cond.instanceMethod objectInit, Cond.code objectInit ⟨#[0xb1]⟩ 1 none, Cond.methodLink RX6 81 yX6_changeWord, Cond.instanceMethod yX6_changeWord, Cond.selects RX6 yX6_changeWord yX6_changeWord, Cond.initialized RX6, Cond.code yX6_changeWord cX6_changeWord 2 none, Cond.fieldLink RX6 10 "SturmianWords" "history" "LSturmianWords$History;", Cond.classLink RX6 23 RX4, Cond.instantiable RX4 2]
def wsX6_reverse_r2 : List Cond := [Cond.initialized RX4, Cond.methodLink RX6 170 yX1_keep, Cond.instanceMethod yX1_keep, Cond.selects RX1 yX1_keep yX1_keep, Cond.initialized RX1, Cond.code yX1_keep cX1_keep 2 none, Cond.fieldLink RX1 17 "SturmianWords$History" "next" "I", Cond.fieldLink RX1 11 "SturmianWords$History" "rows" "[LSturmianWords$State;", Cond.fieldLink RX1 21 "SturmianWords$History" "kept" "I", Cond.methodLink RX1 24 Lib.Math.min.name, Cond.static Lib.Math.min.name, Cond.initialized "java/lang/Math", Cond.code Lib.Math.min.name Lib.Math.min.code 2 (some .int), Cond.methodLink RX6 35 yX4_init, Cond.instanceMethod yX4_init, Cond.code yX4_init cX4_init 3 none, Cond.methodLink RX4 1 objectInit, Cond.fieldLink RX4 7 "SturmianWords$State" "slope" "LSturmianWords$Slope;", Cond.fieldLink RX4 13 "SturmianWords$State" "word" "LSturmianWords$Word;"]
def wsX6_reverse : List Cond := .code yX6_reverse cX6_reverse 3 (some .int) :: ((wsX6_reverse_r1 ++ wsX6_reverse_r2) ++ wsX60 ++ wsX40 ++ wsX50 ++ wsX10)
def wsX6_applyMorphism_r1 : List Cond := [Cond.fieldLink RX6 38 "SturmianWords" "state" "LSturmianWords$State;", Cond.methodLink RX6 110 yX2_numbered, Cond.static yX2_numbered, Cond.initialized RX2, Cond.code yX2_numbered cX2_numbered 1 (some (.object "SturmianWords$Morphism")), Cond.fieldLink RX2 5 "SturmianWords$Morphism" "EXCHANGE" "LSturmianWords$Morphism;", Cond.fieldLink RX2 9 "SturmianWords$Morphism" "ZERO_TO_01" "LSturmianWords$Morphism;", Cond.fieldLink RX2 12 "SturmianWords$Morphism" "ZERO_TO_10" "LSturmianWords$Morphism;", Cond.fieldLink RX2 15 "SturmianWords$Morphism" "ONE_TO_01" "LSturmianWords$Morphism;", Cond.fieldLink RX2 18 "SturmianWords$Morphism" "ONE_TO_10" "LSturmianWords$Morphism;", Cond.methodLink RX6 116 yX2_imageOf, Cond.instanceMethod yX2_imageOf, Cond.selects RX2 yX2_imageOf yX2_imageOf, Cond.code yX2_imageOf cX2_imageOf 7 (some (.object "SturmianWords$Word")), Cond.classLink RX2 54 RX5, Cond.instantiable RX5 2, Cond.initialized RX5, Cond.methodLink RX2 58 yX5_letter, Cond.instanceMethod yX5_letter, Cond.selects RX5 yX5_letter yX5_letter, Cond.code yX5_letter cX5_letter 2 (some .int), Cond.methodLink RX5 19 yX5_factor, Cond.instanceMethod yX5_factor, Cond.selects RX5 yX5_factor yX5_factor]
def wsX6_applyMorphism_r2 : List Cond := [Cond.code yX5_factor cX5_factor 3 (some .long), Cond.fieldLink RX5 9 "SturmianWords$Word" "bits" "J", Cond.fieldLink RX5 15 "SturmianWords$Word" "size" "I", Cond.methodLink RX2 62 yX2_sizeOf, Cond.instanceMethod yX2_sizeOf, Cond.selects RX2 yX2_sizeOf yX2_sizeOf, Cond.code yX2_sizeOf cX2_sizeOf 2 (some .int), Cond.fieldLink RX2 44 "SturmianWords$Morphism" "sizeOfZero" "I", Cond.fieldLink RX2 50 "SturmianWords$Morphism" "sizeOfOne" "I", Cond.methodLink RX2 65 yX2_bitsOf, Cond.instanceMethod yX2_bitsOf, Cond.selects RX2 yX2_bitsOf yX2_bitsOf, Cond.code yX2_bitsOf cX2_bitsOf 2 (some .int), Cond.fieldLink RX2 40 "SturmianWords$Morphism" "bitsOfZero" "I", Cond.fieldLink RX2 47 "SturmianWords$Morphism" "bitsOfOne" "I", Cond.methodLink RX2 68 yX5_init, Cond.instanceMethod yX5_init, Cond.code yX5_init cX5_init 4 none, Cond.methodLink RX5 3 objectInit, Cond.instanceMethod objectInit, Cond.code objectInit ⟨#[0xb1]⟩ 1 none, Cond.methodLink RX6 81 yX6_changeWord, Cond.instanceMethod yX6_changeWord, Cond.selects RX6 yX6_changeWord yX6_changeWord]
def wsX6_applyMorphism_r3 : List Cond := [Cond.initialized RX6, Cond.code yX6_changeWord cX6_changeWord 2 none, Cond.fieldLink RX6 10 "SturmianWords" "history" "LSturmianWords$History;", Cond.classLink RX6 23 RX4, Cond.instantiable RX4 2, Cond.initialized RX4, Cond.methodLink RX6 170 yX1_keep, Cond.instanceMethod yX1_keep, Cond.selects RX1 yX1_keep yX1_keep, Cond.initialized RX1, Cond.code yX1_keep cX1_keep 2 none, Cond.fieldLink RX1 17 "SturmianWords$History" "next" "I", Cond.fieldLink RX1 11 "SturmianWords$History" "rows" "[LSturmianWords$State;", Cond.fieldLink RX1 21 "SturmianWords$History" "kept" "I", Cond.methodLink RX1 24 Lib.Math.min.name, Cond.static Lib.Math.min.name, Cond.initialized "java/lang/Math", Cond.code Lib.Math.min.name Lib.Math.min.code 2 (some .int), Cond.methodLink RX6 35 yX4_init, Cond.instanceMethod yX4_init, Cond.code yX4_init cX4_init 3 none, Cond.methodLink RX4 1 objectInit, Cond.fieldLink RX4 7 "SturmianWords$State" "slope" "LSturmianWords$Slope;", Cond.fieldLink RX4 13 "SturmianWords$State" "word" "LSturmianWords$Word;"]
def wsX6_applyMorphism : List Cond := .code yX6_applyMorphism cX6_applyMorphism 4 (some .int) :: ((wsX6_applyMorphism_r1 ++ (wsX6_applyMorphism_r2 ++ wsX6_applyMorphism_r3)) ++ wsX60 ++ wsX40 ++ wsX50 ++ wsX10)
def wsX6_invertMorphism_r1 : List Cond := [Cond.fieldLink RX6 38 "SturmianWords" "state" "LSturmianWords$State;", Cond.methodLink RX6 110 yX2_numbered, Cond.static yX2_numbered, Cond.initialized RX2, Cond.code yX2_numbered cX2_numbered 1 (some (.object "SturmianWords$Morphism")), Cond.fieldLink RX2 5 "SturmianWords$Morphism" "EXCHANGE" "LSturmianWords$Morphism;", Cond.fieldLink RX2 9 "SturmianWords$Morphism" "ZERO_TO_01" "LSturmianWords$Morphism;", Cond.fieldLink RX2 12 "SturmianWords$Morphism" "ZERO_TO_10" "LSturmianWords$Morphism;", Cond.fieldLink RX2 15 "SturmianWords$Morphism" "ONE_TO_01" "LSturmianWords$Morphism;", Cond.fieldLink RX2 18 "SturmianWords$Morphism" "ONE_TO_10" "LSturmianWords$Morphism;", Cond.methodLink RX6 120 yX2_originOf, Cond.instanceMethod yX2_originOf, Cond.selects RX2 yX2_originOf yX2_originOf, Cond.code yX2_originOf cX2_originOf 7 (some (.object "SturmianWords$Word")), Cond.classLink RX2 54 RX5, Cond.instantiable RX5 2, Cond.initialized RX5, Cond.methodLink RX2 71 yX2_letterBehind, Cond.instanceMethod yX2_letterBehind, Cond.selects RX2 yX2_letterBehind yX2_letterBehind, Cond.code yX2_letterBehind cX2_letterBehind 4 (some .int), Cond.fieldLink RX2 50 "SturmianWords$Morphism" "sizeOfOne" "I", Cond.fieldLink RX2 44 "SturmianWords$Morphism" "sizeOfZero" "I", Cond.methodLink RX2 75 yX2_hasImageAt]
def wsX6_invertMorphism_r2 : List Cond := [Cond.instanceMethod yX2_hasImageAt, Cond.selects RX2 yX2_hasImageAt yX2_hasImageAt, Cond.code yX2_hasImageAt cX2_hasImageAt 5 (some .boolean), Cond.methodLink RX2 62 yX2_sizeOf, Cond.instanceMethod yX2_sizeOf, Cond.selects RX2 yX2_sizeOf yX2_sizeOf, Cond.code yX2_sizeOf cX2_sizeOf 2 (some .int), Cond.methodLink RX2 79 yX5_factor, Cond.instanceMethod yX5_factor, Cond.selects RX5 yX5_factor yX5_factor, Cond.code yX5_factor cX5_factor 3 (some .long), Cond.fieldLink RX5 9 "SturmianWords$Word" "bits" "J", Cond.fieldLink RX5 15 "SturmianWords$Word" "size" "I", Cond.methodLink RX2 65 yX2_bitsOf, Cond.instanceMethod yX2_bitsOf, Cond.selects RX2 yX2_bitsOf yX2_bitsOf, Cond.code yX2_bitsOf cX2_bitsOf 2 (some .int), Cond.fieldLink RX2 40 "SturmianWords$Morphism" "bitsOfZero" "I", Cond.fieldLink RX2 47 "SturmianWords$Morphism" "bitsOfOne" "I", Cond.methodLink RX2 68 yX5_init, Cond.instanceMethod yX5_init, Cond.code yX5_init cX5_init 4 none, Cond.methodLink RX5 3 objectInit, Cond.instanceMethod objectInit]
def wsX6_invertMorphism_r3 : List Cond := [Cond.code objectInit ⟨#[0xb1]⟩ 1 none, Cond.methodLink RX6 81 yX6_changeWord, Cond.instanceMethod yX6_changeWord, Cond.selects RX6 yX6_changeWord yX6_changeWord, Cond.initialized RX6, Cond.code yX6_changeWord cX6_changeWord 2 none, Cond.fieldLink RX6 10 "SturmianWords" "history" "LSturmianWords$History;", Cond.classLink RX6 23 RX4, Cond.instantiable RX4 2, Cond.initialized RX4, Cond.methodLink RX6 170 yX1_keep, Cond.instanceMethod yX1_keep, Cond.selects RX1 yX1_keep yX1_keep, Cond.initialized RX1, Cond.code yX1_keep cX1_keep 2 none, Cond.fieldLink RX1 17 "SturmianWords$History" "next" "I", Cond.fieldLink RX1 11 "SturmianWords$History" "rows" "[LSturmianWords$State;", Cond.fieldLink RX1 21 "SturmianWords$History" "kept" "I", Cond.methodLink RX1 24 Lib.Math.min.name, Cond.static Lib.Math.min.name, Cond.initialized "java/lang/Math", Cond.code Lib.Math.min.name Lib.Math.min.code 2 (some .int), Cond.methodLink RX6 35 yX4_init, Cond.instanceMethod yX4_init]
def wsX6_invertMorphism_r4 : List Cond := [Cond.code yX4_init cX4_init 3 none, Cond.methodLink RX4 1 objectInit, Cond.fieldLink RX4 7 "SturmianWords$State" "slope" "LSturmianWords$Slope;", Cond.fieldLink RX4 13 "SturmianWords$State" "word" "LSturmianWords$Word;"]
def wsX6_invertMorphism : List Cond := .code yX6_invertMorphism cX6_invertMorphism 4 (some .int) :: ((wsX6_invertMorphism_r1 ++ (wsX6_invertMorphism_r2 ++ (wsX6_invertMorphism_r3 ++ wsX6_invertMorphism_r4))) ++ wsX60 ++ wsX40 ++ wsX50 ++ wsX10)
def wsX6_undo : List Cond := .code yX6_undo cX6_undo 2 (some .int) :: ([.fieldLink RX6 10 "SturmianWords" "history" "LSturmianWords$History;", .fieldLink RX6 38 "SturmianWords" "state" "LSturmianWords$State;", .methodLink RX6 123 yX1_takeLatest, .instanceMethod yX1_takeLatest, .selects RX1 yX1_takeLatest yX1_takeLatest, .initialized RX1, .code yX1_takeLatest cX1_takeLatest 2 (some (.object "SturmianWords$State")), .fieldLink RX1 17 "SturmianWords$History" "next" "I", .fieldLink RX1 11 "SturmianWords$History" "rows" "[LSturmianWords$State;", .fieldLink RX1 21 "SturmianWords$History" "kept" "I"] ++ wsX60 ++ wsX10)
def wsX6_length : List Cond := .code yX6_length cX6_length 1 (some .int) :: ([.fieldLink RX6 38 "SturmianWords" "state" "LSturmianWords$State;"] ++ wsX60 ++ wsX40 ++ wsX50)
def wsX6_weight : List Cond := .code yX6_weight cX6_weight 1 (some .int) :: ([.fieldLink RX6 38 "SturmianWords" "state" "LSturmianWords$State;", .methodLink RX6 85 yX5_ones, .instanceMethod yX5_ones, .selects RX5 yX5_ones yX5_ones, .initialized RX5, .code yX5_ones cX5_ones 1 (some .int), .fieldLink RX5 9 "SturmianWords$Word" "bits" "J", .methodLink RX5 23 yJ13_bitCount_95d88, .static yJ13_bitCount_95d88, .initialized RJ13, .code yJ13_bitCount_95d88 cJ13_bitCount_95d88 2 (some .int), .constantLong RJ13 314 (6148914691236517205), .constantLong RJ13 316 (3689348814741910323), .constantLong RJ13 318 (1085102592571150095)] ++ wsX60 ++ wsX40 ++ wsX50)
def wsX6_letterAt : List Cond := .code yX6_letterAt cX6_letterAt 2 (some .int) :: ([.fieldLink RX6 38 "SturmianWords" "state" "LSturmianWords$State;", .methodLink RX6 104 yX5_letter, .instanceMethod yX5_letter, .selects RX5 yX5_letter yX5_letter, .initialized RX5, .code yX5_letter cX5_letter 2 (some .int), .methodLink RX5 19 yX5_factor, .instanceMethod yX5_factor, .selects RX5 yX5_factor yX5_factor, .code yX5_factor cX5_factor 3 (some .long), .fieldLink RX5 9 "SturmianWords$Word" "bits" "J", .fieldLink RX5 15 "SturmianWords$Word" "size" "I"] ++ wsX60 ++ wsX40 ++ wsX50)
def wsX6_factorCount : List Cond := .code yX6_factorCount cX6_factorCount 2 (some .int) :: ([.fieldLink RX6 38 "SturmianWords" "state" "LSturmianWords$State;", .methodLink RX6 130 yX5_differentFactors, .instanceMethod yX5_differentFactors, .selects RX5 yX5_differentFactors yX5_differentFactors, .initialized RX5, .code yX5_differentFactors cX5_differentFactors 4 (some .int), .fieldLink RX5 15 "SturmianWords$Word" "size" "I", .methodLink RX5 32 yX5_isNew, .instanceMethod yX5_isNew, .selects RX5 yX5_isNew yX5_isNew, .code yX5_isNew cX5_isNew 6 (some .boolean), .methodLink RX5 19 yX5_factor, .instanceMethod yX5_factor, .selects RX5 yX5_factor yX5_factor, .code yX5_factor cX5_factor 3 (some .long), .fieldLink RX5 9 "SturmianWords$Word" "bits" "J"] ++ wsX60 ++ wsX40 ++ wsX50)
def wsX6_factorAt : List Cond := .code yX6_factorAt cX6_factorAt 5 (some .int) :: ([.fieldLink RX6 38 "SturmianWords" "state" "LSturmianWords$State;", .constantLong RX6 137 (-1), .methodLink RX6 133 yX5_listedFactor, .instanceMethod yX5_listedFactor, .selects RX5 yX5_listedFactor yX5_listedFactor, .initialized RX5, .code yX5_listedFactor cX5_listedFactor 6 (some .long), .fieldLink RX5 15 "SturmianWords$Word" "size" "I", .constantLong RX5 36 (-1), .methodLink RX5 38 yX5_nextFactor, .instanceMethod yX5_nextFactor, .selects RX5 yX5_nextFactor yX5_nextFactor, .code yX5_nextFactor cX5_nextFactor 9 (some .long), .methodLink RX5 19 yX5_factor, .instanceMethod yX5_factor, .selects RX5 yX5_factor yX5_factor, .code yX5_factor cX5_factor 3 (some .long), .fieldLink RX5 9 "SturmianWords$Word" "bits" "J"] ++ wsX60 ++ wsX40 ++ wsX50)
def wsX6_unbalancedLength_r1 : List Cond := [Cond.fieldLink RX6 38 "SturmianWords" "state" "LSturmianWords$State;", Cond.methodLink RX6 139 yX5_weightSpread, Cond.instanceMethod yX5_weightSpread, Cond.selects RX5 yX5_weightSpread yX5_weightSpread, Cond.initialized RX5, Cond.code yX5_weightSpread cX5_weightSpread 6 (some .int), Cond.fieldLink RX5 15 "SturmianWords$Word" "size" "I", Cond.methodLink RX5 42 Lib.Math.min.name, Cond.static Lib.Math.min.name, Cond.initialized "java/lang/Math", Cond.code Lib.Math.min.name Lib.Math.min.code 2 (some .int), Cond.methodLink RX5 48 Lib.Math.max.name, Cond.static Lib.Math.max.name, Cond.code Lib.Math.max.name Lib.Math.max.code 2 (some .int), Cond.methodLink RX5 19 yX5_factor, Cond.instanceMethod yX5_factor, Cond.selects RX5 yX5_factor yX5_factor, Cond.code yX5_factor cX5_factor 3 (some .long), Cond.fieldLink RX5 9 "SturmianWords$Word" "bits" "J", Cond.methodLink RX5 23 yJ13_bitCount_95d88, Cond.static yJ13_bitCount_95d88, Cond.initialized RJ13, Cond.code yJ13_bitCount_95d88 cJ13_bitCount_95d88 2 (some .int), Cond.constantLong RJ13 314 (6148914691236517205)]
def wsX6_unbalancedLength_r2 : List Cond := [Cond.constantLong RJ13 316 (3689348814741910323), Cond.constantLong RJ13 318 (1085102592571150095)]
def wsX6_unbalancedLength : List Cond := .code yX6_unbalancedLength cX6_unbalancedLength 3 (some .int) :: ((wsX6_unbalancedLength_r1 ++ wsX6_unbalancedLength_r2) ++ wsX60 ++ wsX40 ++ wsX50)
def wsX6_palindromeCount_r1 : List Cond := [Cond.fieldLink RX6 38 "SturmianWords" "state" "LSturmianWords$State;", Cond.methodLink RX6 142 yX5_differentPalindromes, Cond.instanceMethod yX5_differentPalindromes, Cond.selects RX5 yX5_differentPalindromes yX5_differentPalindromes, Cond.initialized RX5, Cond.code yX5_differentPalindromes cX5_differentPalindromes 5 (some .int), Cond.fieldLink RX5 15 "SturmianWords$Word" "size" "I", Cond.methodLink RX5 51 yX5_reversed, Cond.instanceMethod yX5_reversed, Cond.selects RX5 yX5_reversed yX5_reversed, Cond.code yX5_reversed cX5_reversed 4 (some (.object "SturmianWords$Word")), Cond.fieldLink RX5 9 "SturmianWords$Word" "bits" "J", Cond.classLink RX5 10 RX5, Cond.instantiable RX5 2, Cond.methodLink RX5 29 yX5_init, Cond.instanceMethod yX5_init, Cond.code yX5_init cX5_init 4 none, Cond.methodLink RX5 3 objectInit, Cond.instanceMethod objectInit, Cond.code objectInit ⟨#[0xb1]⟩ 1 none, Cond.methodLink RX5 55 yX5_isPalindrome, Cond.instanceMethod yX5_isPalindrome, Cond.selects RX5 yX5_isPalindrome yX5_isPalindrome, Cond.code yX5_isPalindrome cX5_isPalindrome 4 (some .boolean)]
def wsX6_palindromeCount_r2 : List Cond := [Cond.methodLink RX5 19 yX5_factor, Cond.instanceMethod yX5_factor, Cond.selects RX5 yX5_factor yX5_factor, Cond.code yX5_factor cX5_factor 3 (some .long), Cond.methodLink RX5 32 yX5_isNew, Cond.instanceMethod yX5_isNew, Cond.selects RX5 yX5_isNew yX5_isNew, Cond.code yX5_isNew cX5_isNew 6 (some .boolean)]
def wsX6_palindromeCount : List Cond := .code yX6_palindromeCount cX6_palindromeCount 1 (some .int) :: ((wsX6_palindromeCount_r1 ++ wsX6_palindromeCount_r2) ++ wsX60 ++ wsX40 ++ wsX50)
def wsX6_longestPalindromicPrefix : List Cond := .code yX6_longestPalindromicPrefix cX6_longestPalindromicPrefix 4 (some .int) :: ([.fieldLink RX6 38 "SturmianWords" "state" "LSturmianWords$State;", .methodLink RX6 106 yX5_reversed, .instanceMethod yX5_reversed, .selects RX5 yX5_reversed yX5_reversed, .initialized RX5, .code yX5_reversed cX5_reversed 4 (some (.object "SturmianWords$Word")), .fieldLink RX5 15 "SturmianWords$Word" "size" "I", .fieldLink RX5 9 "SturmianWords$Word" "bits" "J", .classLink RX5 10 RX5, .instantiable RX5 2, .methodLink RX5 29 yX5_init, .instanceMethod yX5_init, .code yX5_init cX5_init 4 none, .methodLink RX5 3 objectInit, .instanceMethod objectInit, .code objectInit ⟨#[0xb1]⟩ 1 none, .methodLink RX6 145 yX5_isPalindrome, .instanceMethod yX5_isPalindrome, .selects RX5 yX5_isPalindrome yX5_isPalindrome, .code yX5_isPalindrome cX5_isPalindrome 4 (some .boolean), .methodLink RX5 19 yX5_factor, .instanceMethod yX5_factor, .selects RX5 yX5_factor yX5_factor, .code yX5_factor cX5_factor 3 (some .long)] ++ wsX60 ++ wsX40 ++ wsX50)
def wsX6_leastPeriod : List Cond := .code yX6_leastPeriod cX6_leastPeriod 3 (some .int) :: ([.fieldLink RX6 38 "SturmianWords" "state" "LSturmianWords$State;", .methodLink RX6 149 yX5_hasPeriod, .instanceMethod yX5_hasPeriod, .selects RX5 yX5_hasPeriod yX5_hasPeriod, .initialized RX5, .code yX5_hasPeriod cX5_hasPeriod 2 (some .boolean), .fieldLink RX5 15 "SturmianWords$Word" "size" "I", .methodLink RX5 19 yX5_factor, .instanceMethod yX5_factor, .selects RX5 yX5_factor yX5_factor, .code yX5_factor cX5_factor 3 (some .long), .fieldLink RX5 9 "SturmianWords$Word" "bits" "J"] ++ wsX60 ++ wsX40 ++ wsX50)
def wsX6_isCentral : List Cond := .code yX6_isCentral cX6_isCentral 5 (some .int) :: ([.fieldLink RX6 38 "SturmianWords" "state" "LSturmianWords$State;", .methodLink RX6 149 yX5_hasPeriod, .instanceMethod yX5_hasPeriod, .selects RX5 yX5_hasPeriod yX5_hasPeriod, .initialized RX5, .code yX5_hasPeriod cX5_hasPeriod 2 (some .boolean), .fieldLink RX5 15 "SturmianWords$Word" "size" "I", .methodLink RX5 19 yX5_factor, .instanceMethod yX5_factor, .selects RX5 yX5_factor yX5_factor, .code yX5_factor cX5_factor 3 (some .long), .fieldLink RX5 9 "SturmianWords$Word" "bits" "J", .methodLink RX6 42 yX6_commonDivisor, .static yX6_commonDivisor, .initialized RX6, .code yX6_commonDivisor cX6_commonDivisor 6 (some .int), .methodLink RX6 46 yX6_quotient, .static yX6_quotient, .code yX6_quotient cX6_quotient 4 (some .long)] ++ wsX60 ++ wsX40 ++ wsX50)
def wsX6_simplestSlope_r1 : List Cond := [Cond.fieldLink RX6 38 "SturmianWords" "state" "LSturmianWords$State;", Cond.methodLink RX6 153 yX5_simplest, Cond.instanceMethod yX5_simplest, Cond.selects RX5 yX5_simplest yX5_simplest, Cond.initialized RX5, Cond.code yX5_simplest cX5_simplest 4 (some (.object "SturmianWords$Slope")), Cond.classLink RX5 65 RX3, Cond.instantiable RX3 3, Cond.initialized RX3, Cond.methodLink RX5 59 yX5_leastIntercept, Cond.instanceMethod yX5_leastIntercept, Cond.selects RX5 yX5_leastIntercept yX5_leastIntercept, Cond.code yX5_leastIntercept cX5_leastIntercept 8 (some .int), Cond.fieldLink RX5 15 "SturmianWords$Word" "size" "I", Cond.methodLink RX5 48 Lib.Math.max.name, Cond.static Lib.Math.max.name, Cond.initialized "java/lang/Math", Cond.code Lib.Math.max.name Lib.Math.max.code 2 (some .int), Cond.methodLink RX5 42 Lib.Math.min.name, Cond.static Lib.Math.min.name, Cond.code Lib.Math.min.name Lib.Math.min.code 2 (some .int), Cond.methodLink RX5 70 yX5_letter, Cond.instanceMethod yX5_letter, Cond.selects RX5 yX5_letter yX5_letter]
def wsX6_simplestSlope_r2 : List Cond := [Cond.code yX5_letter cX5_letter 2 (some .int), Cond.methodLink RX5 19 yX5_factor, Cond.instanceMethod yX5_factor, Cond.selects RX5 yX5_factor yX5_factor, Cond.code yX5_factor cX5_factor 3 (some .long), Cond.fieldLink RX5 9 "SturmianWords$Word" "bits" "J", Cond.static yX6_commonDivisor, Cond.initialized RX6, Cond.code yX6_commonDivisor cX6_commonDivisor 6 (some .int), Cond.methodLink RX6 46 yX6_quotient, Cond.static yX6_quotient, Cond.code yX6_quotient cX6_quotient 4 (some .long), Cond.methodLink RX5 67 yX3_init, Cond.instanceMethod yX3_init, Cond.code yX3_init cX3_init 4 none, Cond.methodLink RX3 3 objectInit, Cond.instanceMethod objectInit, Cond.code objectInit ⟨#[0xb1]⟩ 1 none, Cond.fieldLink RX3 9 "SturmianWords$Slope" "numerator" "I", Cond.fieldLink RX3 15 "SturmianWords$Slope" "denominator" "I", Cond.fieldLink RX3 18 "SturmianWords$Slope" "intercept" "I"]
def wsX6_simplestSlope : List Cond := .code yX6_simplestSlope cX6_simplestSlope 3 (some .int) :: ((wsX6_simplestSlope_r1 ++ wsX6_simplestSlope_r2) ++ wsX60 ++ wsX40 ++ wsX30 ++ wsX50)
def wsX6_gapSizeCount_r1 : List Cond := [Cond.fieldLink RX6 19 "SturmianWords" "circle" "LSturmianWords$Circle;", Cond.fieldLink RX6 38 "SturmianWords" "state" "LSturmianWords$State;", Cond.methodLink RX6 157 yX0_measure, Cond.instanceMethod yX0_measure, Cond.selects RX0 yX0_measure yX0_measure, Cond.initialized RX0, Cond.code yX0_measure cX0_measure 5 none, Cond.fieldLink RX0 15 "SturmianWords$Circle" "gaps" "[I", Cond.methodLink RX0 19 yX0_markPoints, Cond.instanceMethod yX0_markPoints, Cond.selects RX0 yX0_markPoints yX0_markPoints, Cond.code yX0_markPoints cX0_markPoints 5 none, Cond.fieldLink RX0 9 "SturmianWords$Circle" "points" "[Z", Cond.methodLink RX0 23 yJ7_fill_53178, Cond.static yJ7_fill_53178, Cond.initialized RJ7, Cond.code yJ7_fill_53178 cJ7_fill_53178 4 none, Cond.methodLink RX0 35 yX0_isPoint, Cond.instanceMethod yX0_isPoint, Cond.selects RX0 yX0_isPoint yX0_isPoint, Cond.code yX0_isPoint cX0_isPoint 2 (some .boolean), Cond.methodLink RX0 39 yX0_addGap, Cond.instanceMethod yX0_addGap, Cond.selects RX0 yX0_addGap yX0_addGap]
def wsX6_gapSizeCount_r2 : List Cond := [Cond.code yX0_addGap cX0_addGap 2 none, Cond.methodLink RX6 161 yX0_differentSizes, Cond.instanceMethod yX0_differentSizes, Cond.selects RX0 yX0_differentSizes yX0_differentSizes, Cond.code yX0_differentSizes cX0_differentSizes 3 (some .int)]
def wsX6_gapSizeCount : List Cond := .code yX6_gapSizeCount cX6_gapSizeCount 2 (some .int) :: ((wsX6_gapSizeCount_r1 ++ wsX6_gapSizeCount_r2) ++ wsX60 ++ wsX40 ++ wsX00 ++ wsX30)
def wsX6_gapSize_r1 : List Cond := [Cond.fieldLink RX6 19 "SturmianWords" "circle" "LSturmianWords$Circle;", Cond.fieldLink RX6 38 "SturmianWords" "state" "LSturmianWords$State;", Cond.methodLink RX6 157 yX0_measure, Cond.instanceMethod yX0_measure, Cond.selects RX0 yX0_measure yX0_measure, Cond.initialized RX0, Cond.code yX0_measure cX0_measure 5 none, Cond.fieldLink RX0 15 "SturmianWords$Circle" "gaps" "[I", Cond.methodLink RX0 19 yX0_markPoints, Cond.instanceMethod yX0_markPoints, Cond.selects RX0 yX0_markPoints yX0_markPoints, Cond.code yX0_markPoints cX0_markPoints 5 none, Cond.fieldLink RX0 9 "SturmianWords$Circle" "points" "[Z", Cond.methodLink RX0 23 yJ7_fill_53178, Cond.static yJ7_fill_53178, Cond.initialized RJ7, Cond.code yJ7_fill_53178 cJ7_fill_53178 4 none, Cond.methodLink RX0 35 yX0_isPoint, Cond.instanceMethod yX0_isPoint, Cond.selects RX0 yX0_isPoint yX0_isPoint, Cond.code yX0_isPoint cX0_isPoint 2 (some .boolean), Cond.methodLink RX0 39 yX0_addGap, Cond.instanceMethod yX0_addGap, Cond.selects RX0 yX0_addGap yX0_addGap]
def wsX6_gapSize_r2 : List Cond := [Cond.code yX0_addGap cX0_addGap 2 none, Cond.methodLink RX6 164 yX0_listedSize, Cond.instanceMethod yX0_listedSize, Cond.selects RX0 yX0_listedSize yX0_listedSize, Cond.code yX0_listedSize cX0_listedSize 4 (some .int)]
def wsX6_gapSize : List Cond := .code yX6_gapSize cX6_gapSize 4 (some .int) :: ((wsX6_gapSize_r1 ++ wsX6_gapSize_r2) ++ wsX60 ++ wsX40 ++ wsX00 ++ wsX30)
def wsX6_gapsOfSize_r1 : List Cond := [Cond.fieldLink RX6 19 "SturmianWords" "circle" "LSturmianWords$Circle;", Cond.fieldLink RX6 38 "SturmianWords" "state" "LSturmianWords$State;", Cond.methodLink RX6 157 yX0_measure, Cond.instanceMethod yX0_measure, Cond.selects RX0 yX0_measure yX0_measure, Cond.initialized RX0, Cond.code yX0_measure cX0_measure 5 none, Cond.fieldLink RX0 15 "SturmianWords$Circle" "gaps" "[I", Cond.methodLink RX0 19 yX0_markPoints, Cond.instanceMethod yX0_markPoints, Cond.selects RX0 yX0_markPoints yX0_markPoints, Cond.code yX0_markPoints cX0_markPoints 5 none, Cond.fieldLink RX0 9 "SturmianWords$Circle" "points" "[Z", Cond.methodLink RX0 23 yJ7_fill_53178, Cond.static yJ7_fill_53178, Cond.initialized RJ7, Cond.code yJ7_fill_53178 cJ7_fill_53178 4 none, Cond.methodLink RX0 35 yX0_isPoint, Cond.instanceMethod yX0_isPoint, Cond.selects RX0 yX0_isPoint yX0_isPoint, Cond.code yX0_isPoint cX0_isPoint 2 (some .boolean), Cond.methodLink RX0 39 yX0_addGap, Cond.instanceMethod yX0_addGap, Cond.selects RX0 yX0_addGap yX0_addGap]
def wsX6_gapsOfSize_r2 : List Cond := [Cond.code yX0_addGap cX0_addGap 2 none, Cond.methodLink RX6 167 yX0_gapsWith, Cond.instanceMethod yX0_gapsWith, Cond.selects RX0 yX0_gapsWith yX0_gapsWith, Cond.code yX0_gapsWith cX0_gapsWith 2 (some .int)]
def wsX6_gapsOfSize : List Cond := .code yX6_gapsOfSize cX6_gapsOfSize 3 (some .int) :: ((wsX6_gapsOfSize_r1 ++ wsX6_gapsOfSize_r2) ++ wsX60 ++ wsX40 ++ wsX00 ++ wsX30)
def wsX6_historySize : List Cond := .code yX6_historySize cX6_historySize 1 (some .int) :: ([.fieldLink RX6 10 "SturmianWords" "history" "LSturmianWords$History;"] ++ wsX60 ++ wsX10)
def wsX7_init : List Cond := .code yX7_init cX7_init 1 none :: ([.methodLink RX7 1 objectInit, .instanceMethod objectInit, .code objectInit ⟨#[0xb1]⟩ 1 none, .arrayClass .int, .fieldLink RX7 7 "SturmianWordsModel" "now" "[I", .fieldLink RX7 13 "SturmianWordsModel" "next" "[I", .fieldLink RX7 16 "SturmianWordsModel" "past" "[I", .fieldLink RX7 19 "SturmianWordsModel" "terms" "[I", .fieldLink RX7 22 "SturmianWordsModel" "older" "[I", .fieldLink RX7 25 "SturmianWordsModel" "newer" "[I", .arrayClass .boolean, .fieldLink RX7 28 "SturmianWordsModel" "points" "[Z"] ++ wsX70)
def wsX7_in : List Cond := .code yX7_in cX7_in 3 (some .boolean) :: ([])
def wsX7_copy : List Cond := .code yX7_copy cX7_copy 5 none :: ([])
def wsX7_save : List Cond := .code yX7_save cX7_save 2 none :: ([.fieldLink RX7 32 "SturmianWordsModel" "edits" "I", .fieldLink RX7 16 "SturmianWordsModel" "past" "[I", .fieldLink RX7 7 "SturmianWordsModel" "now" "[I", .methodLink RX7 36 yX7_copy, .static yX7_copy, .initialized RX7, .code yX7_copy cX7_copy 5 none] ++ wsX70)
def wsX7_take : List Cond := .code yX7_take cX7_take 1 none :: ([.fieldLink RX7 13 "SturmianWordsModel" "next" "[I", .fieldLink RX7 7 "SturmianWordsModel" "now" "[I", .methodLink RX7 40 yX7_save, .instanceMethod yX7_save, .selects RX7 yX7_save yX7_save, .initialized RX7, .code yX7_save cX7_save 2 none, .fieldLink RX7 32 "SturmianWordsModel" "edits" "I", .fieldLink RX7 16 "SturmianWordsModel" "past" "[I", .methodLink RX7 36 yX7_copy, .static yX7_copy, .code yX7_copy cX7_copy 5 none] ++ wsX70)
def wsX7_divisor : List Cond := .code yX7_divisor cX7_divisor 5 (some .int) :: ([])
def wsX7_setSlope : List Cond := .code yX7_setSlope cX7_setSlope 4 (some .int) :: ([.fieldLink RX7 7 "SturmianWordsModel" "now" "[I", .methodLink RX7 43 yX7_in, .static yX7_in, .initialized RX7, .code yX7_in cX7_in 3 (some .boolean), .methodLink RX7 40 yX7_save, .instanceMethod yX7_save, .selects RX7 yX7_save yX7_save, .code yX7_save cX7_save 2 none, .fieldLink RX7 32 "SturmianWordsModel" "edits" "I", .fieldLink RX7 16 "SturmianWordsModel" "past" "[I", .methodLink RX7 36 yX7_copy, .static yX7_copy, .code yX7_copy cX7_copy 5 none, .methodLink RX7 47 yX7_divisor, .static yX7_divisor, .code yX7_divisor cX7_divisor 5 (some .int)] ++ wsX70)
def wsX7_setIntercept : List Cond := .code yX7_setIntercept cX7_setIntercept 3 (some .int) :: ([.fieldLink RX7 7 "SturmianWordsModel" "now" "[I", .methodLink RX7 43 yX7_in, .static yX7_in, .initialized RX7, .code yX7_in cX7_in 3 (some .boolean), .methodLink RX7 40 yX7_save, .instanceMethod yX7_save, .selects RX7 yX7_save yX7_save, .code yX7_save cX7_save 2 none, .fieldLink RX7 32 "SturmianWordsModel" "edits" "I", .fieldLink RX7 16 "SturmianWordsModel" "past" "[I", .methodLink RX7 36 yX7_copy, .static yX7_copy, .code yX7_copy cX7_copy 5 none] ++ wsX70)
def wsX7_slopeNumerator : List Cond := .code yX7_slopeNumerator cX7_slopeNumerator 1 (some .int) :: ([.fieldLink RX7 7 "SturmianWordsModel" "now" "[I"] ++ wsX70)
def wsX7_slopeDenominator : List Cond := .code yX7_slopeDenominator cX7_slopeDenominator 1 (some .int) :: ([.fieldLink RX7 7 "SturmianWordsModel" "now" "[I"] ++ wsX70)
def wsX7_expand : List Cond := .code yX7_expand cX7_expand 4 none :: ([.fieldLink RX7 51 "SturmianWordsModel" "termCount" "I", .fieldLink RX7 7 "SturmianWordsModel" "now" "[I", .fieldLink RX7 19 "SturmianWordsModel" "terms" "[I"] ++ wsX70)
def wsX7_continuedFractionTerm : List Cond := .code yX7_continuedFractionTerm cX7_continuedFractionTerm 2 (some .int) :: ([.fieldLink RX7 51 "SturmianWordsModel" "termCount" "I", .fieldLink RX7 19 "SturmianWordsModel" "terms" "[I", .methodLink RX7 54 yX7_expand, .instanceMethod yX7_expand, .selects RX7 yX7_expand yX7_expand, .initialized RX7, .code yX7_expand cX7_expand 4 none, .fieldLink RX7 7 "SturmianWordsModel" "now" "[I"] ++ wsX70)
def wsX7_roundedUp : List Cond := .code yX7_roundedUp cX7_roundedUp 2 (some .int) :: ([])
def wsX7_letterOf : List Cond := .code yX7_letterOf cX7_letterOf 5 (some .int) :: ([.fieldLink RX7 7 "SturmianWordsModel" "now" "[I", .methodLink RX7 57 yX7_roundedUp, .static yX7_roundedUp, .initialized RX7, .code yX7_roundedUp cX7_roundedUp 2 (some .int)] ++ wsX70)
def wsX7_mechanicalLetter : List Cond := .code yX7_mechanicalLetter cX7_mechanicalLetter 3 (some .int) :: ([.constant RX7 60 (1000000), .methodLink RX7 43 yX7_in, .static yX7_in, .initialized RX7, .code yX7_in cX7_in 3 (some .boolean), .methodLink RX7 61 yX7_letterOf, .instanceMethod yX7_letterOf, .selects RX7 yX7_letterOf yX7_letterOf, .code yX7_letterOf cX7_letterOf 5 (some .int), .fieldLink RX7 7 "SturmianWordsModel" "now" "[I", .methodLink RX7 57 yX7_roundedUp, .static yX7_roundedUp, .code yX7_roundedUp cX7_roundedUp 2 (some .int)] ++ wsX70)
def wsX7_weightOf : List Cond := .code yX7_weightOf cX7_weightOf 3 (some .int) :: ([])
def wsX7_loadMechanical_r1 : List Cond := [Cond.fieldLink RX7 13 "SturmianWordsModel" "next" "[I", Cond.fieldLink RX7 7 "SturmianWordsModel" "now" "[I", Cond.methodLink RX7 61 yX7_letterOf, Cond.instanceMethod yX7_letterOf, Cond.selects RX7 yX7_letterOf yX7_letterOf, Cond.initialized RX7, Cond.code yX7_letterOf cX7_letterOf 5 (some .int), Cond.methodLink RX7 57 yX7_roundedUp, Cond.static yX7_roundedUp, Cond.code yX7_roundedUp cX7_roundedUp 2 (some .int), Cond.methodLink RX7 65 yX7_take, Cond.instanceMethod yX7_take, Cond.selects RX7 yX7_take yX7_take, Cond.code yX7_take cX7_take 1 none, Cond.methodLink RX7 40 yX7_save, Cond.instanceMethod yX7_save, Cond.selects RX7 yX7_save yX7_save, Cond.code yX7_save cX7_save 2 none, Cond.fieldLink RX7 32 "SturmianWordsModel" "edits" "I", Cond.fieldLink RX7 16 "SturmianWordsModel" "past" "[I", Cond.methodLink RX7 36 yX7_copy, Cond.static yX7_copy, Cond.code yX7_copy cX7_copy 5 none, Cond.methodLink RX7 68 yX7_weightOf]
def wsX7_loadMechanical_r2 : List Cond := [Cond.static yX7_weightOf, Cond.code yX7_weightOf cX7_weightOf 3 (some .int)]
def wsX7_loadMechanical : List Cond := .code yX7_loadMechanical cX7_loadMechanical 4 (some .int) :: ((wsX7_loadMechanical_r1 ++ wsX7_loadMechanical_r2) ++ wsX70)
def wsX7_appendTo : List Cond := .code yX7_appendTo cX7_appendTo 2 none :: ([.fieldLink RX7 13 "SturmianWordsModel" "next" "[I"] ++ wsX70)
def wsX7_further : List Cond := .code yX7_further cX7_further 4 (some .boolean) :: ([.fieldLink RX7 13 "SturmianWordsModel" "next" "[I", .fieldLink RX7 72 "SturmianWordsModel" "newerLength" "I", .fieldLink RX7 25 "SturmianWordsModel" "newer" "[I", .fieldLink RX7 79 "SturmianWordsModel" "olderLength" "I", .fieldLink RX7 22 "SturmianWordsModel" "older" "[I", .methodLink RX7 75 yX7_appendTo, .instanceMethod yX7_appendTo, .selects RX7 yX7_appendTo yX7_appendTo, .initialized RX7, .code yX7_appendTo cX7_appendTo 2 none] ++ wsX70)
def wsX7_loadStandard_r1 : List Cond := [Cond.fieldLink RX7 51 "SturmianWordsModel" "termCount" "I", Cond.fieldLink RX7 22 "SturmianWordsModel" "older" "[I", Cond.fieldLink RX7 79 "SturmianWordsModel" "olderLength" "I", Cond.fieldLink RX7 25 "SturmianWordsModel" "newer" "[I", Cond.fieldLink RX7 72 "SturmianWordsModel" "newerLength" "I", Cond.fieldLink RX7 13 "SturmianWordsModel" "next" "[I", Cond.fieldLink RX7 19 "SturmianWordsModel" "terms" "[I", Cond.fieldLink RX7 7 "SturmianWordsModel" "now" "[I", Cond.methodLink RX7 54 yX7_expand, Cond.instanceMethod yX7_expand, Cond.selects RX7 yX7_expand yX7_expand, Cond.initialized RX7, Cond.code yX7_expand cX7_expand 4 none, Cond.methodLink RX7 82 yX7_further, Cond.instanceMethod yX7_further, Cond.selects RX7 yX7_further yX7_further, Cond.code yX7_further cX7_further 4 (some .boolean), Cond.methodLink RX7 75 yX7_appendTo, Cond.instanceMethod yX7_appendTo, Cond.selects RX7 yX7_appendTo yX7_appendTo, Cond.code yX7_appendTo cX7_appendTo 2 none, Cond.methodLink RX7 65 yX7_take, Cond.instanceMethod yX7_take, Cond.selects RX7 yX7_take yX7_take]
def wsX7_loadStandard_r2 : List Cond := [Cond.code yX7_take cX7_take 1 none, Cond.methodLink RX7 40 yX7_save, Cond.instanceMethod yX7_save, Cond.selects RX7 yX7_save yX7_save, Cond.code yX7_save cX7_save 2 none, Cond.fieldLink RX7 32 "SturmianWordsModel" "edits" "I", Cond.fieldLink RX7 16 "SturmianWordsModel" "past" "[I", Cond.methodLink RX7 36 yX7_copy, Cond.static yX7_copy, Cond.code yX7_copy cX7_copy 5 none]
def wsX7_loadStandard : List Cond := .code yX7_loadStandard cX7_loadStandard 3 (some .int) :: ((wsX7_loadStandard_r1 ++ wsX7_loadStandard_r2) ++ wsX70)
def wsX7_append : List Cond := .code yX7_append cX7_append 2 (some .int) :: ([.fieldLink RX7 7 "SturmianWordsModel" "now" "[I", .methodLink RX7 43 yX7_in, .static yX7_in, .initialized RX7, .code yX7_in cX7_in 3 (some .boolean), .methodLink RX7 40 yX7_save, .instanceMethod yX7_save, .selects RX7 yX7_save yX7_save, .code yX7_save cX7_save 2 none, .fieldLink RX7 32 "SturmianWordsModel" "edits" "I", .fieldLink RX7 16 "SturmianWordsModel" "past" "[I", .methodLink RX7 36 yX7_copy, .static yX7_copy, .code yX7_copy cX7_copy 5 none] ++ wsX70)
def wsX7_removeLast : List Cond := .code yX7_removeLast cX7_removeLast 1 (some .int) :: ([.fieldLink RX7 7 "SturmianWordsModel" "now" "[I", .methodLink RX7 40 yX7_save, .instanceMethod yX7_save, .selects RX7 yX7_save yX7_save, .initialized RX7, .code yX7_save cX7_save 2 none, .fieldLink RX7 32 "SturmianWordsModel" "edits" "I", .fieldLink RX7 16 "SturmianWordsModel" "past" "[I", .methodLink RX7 36 yX7_copy, .static yX7_copy, .code yX7_copy cX7_copy 5 none] ++ wsX70)
def wsX7_clear : List Cond := .code yX7_clear cX7_clear 2 (some .int) :: ([.fieldLink RX7 7 "SturmianWordsModel" "now" "[I", .methodLink RX7 40 yX7_save, .instanceMethod yX7_save, .selects RX7 yX7_save yX7_save, .initialized RX7, .code yX7_save cX7_save 2 none, .fieldLink RX7 32 "SturmianWordsModel" "edits" "I", .fieldLink RX7 16 "SturmianWordsModel" "past" "[I", .methodLink RX7 36 yX7_copy, .static yX7_copy, .code yX7_copy cX7_copy 5 none] ++ wsX70)
def wsX7_isPalindrome : List Cond := .code yX7_isPalindrome cX7_isPalindrome 4 (some .boolean) :: ([.fieldLink RX7 7 "SturmianWordsModel" "now" "[I"] ++ wsX70)
def wsX7_reverse : List Cond := .code yX7_reverse cX7_reverse 3 (some .int) :: ([.fieldLink RX7 7 "SturmianWordsModel" "now" "[I", .fieldLink RX7 13 "SturmianWordsModel" "next" "[I", .methodLink RX7 86 yX7_isPalindrome, .instanceMethod yX7_isPalindrome, .selects RX7 yX7_isPalindrome yX7_isPalindrome, .initialized RX7, .code yX7_isPalindrome cX7_isPalindrome 4 (some .boolean), .methodLink RX7 65 yX7_take, .instanceMethod yX7_take, .selects RX7 yX7_take yX7_take, .code yX7_take cX7_take 1 none, .methodLink RX7 40 yX7_save, .instanceMethod yX7_save, .selects RX7 yX7_save yX7_save, .code yX7_save cX7_save 2 none, .fieldLink RX7 32 "SturmianWordsModel" "edits" "I", .fieldLink RX7 16 "SturmianWordsModel" "past" "[I", .methodLink RX7 36 yX7_copy, .static yX7_copy, .code yX7_copy cX7_copy 5 none] ++ wsX70)
def wsX7_imageOf : List Cond := .code yX7_imageOf cX7_imageOf 2 (some .int) :: ([])
def wsX7_applyMorphism_r1 : List Cond := [Cond.fieldLink RX7 13 "SturmianWordsModel" "next" "[I", Cond.fieldLink RX7 7 "SturmianWordsModel" "now" "[I", Cond.methodLink RX7 43 yX7_in, Cond.static yX7_in, Cond.initialized RX7, Cond.code yX7_in cX7_in 3 (some .boolean), Cond.methodLink RX7 90 yX7_imageOf, Cond.static yX7_imageOf, Cond.code yX7_imageOf cX7_imageOf 2 (some .int), Cond.methodLink RX7 75 yX7_appendTo, Cond.instanceMethod yX7_appendTo, Cond.selects RX7 yX7_appendTo yX7_appendTo, Cond.code yX7_appendTo cX7_appendTo 2 none, Cond.methodLink RX7 65 yX7_take, Cond.instanceMethod yX7_take, Cond.selects RX7 yX7_take yX7_take, Cond.code yX7_take cX7_take 1 none, Cond.methodLink RX7 40 yX7_save, Cond.instanceMethod yX7_save, Cond.selects RX7 yX7_save yX7_save, Cond.code yX7_save cX7_save 2 none, Cond.fieldLink RX7 32 "SturmianWordsModel" "edits" "I", Cond.fieldLink RX7 16 "SturmianWordsModel" "past" "[I", Cond.methodLink RX7 36 yX7_copy]
def wsX7_applyMorphism_r2 : List Cond := [Cond.static yX7_copy, Cond.code yX7_copy cX7_copy 5 none]
def wsX7_applyMorphism : List Cond := .code yX7_applyMorphism cX7_applyMorphism 4 (some .int) :: ((wsX7_applyMorphism_r1 ++ wsX7_applyMorphism_r2) ++ wsX70)
def wsX7_stands : List Cond := .code yX7_stands cX7_stands 3 (some .boolean) :: ([.fieldLink RX7 7 "SturmianWordsModel" "now" "[I"] ++ wsX70)
def wsX7_invertMorphism_r1 : List Cond := [Cond.fieldLink RX7 13 "SturmianWordsModel" "next" "[I", Cond.fieldLink RX7 7 "SturmianWordsModel" "now" "[I", Cond.methodLink RX7 43 yX7_in, Cond.static yX7_in, Cond.initialized RX7, Cond.code yX7_in cX7_in 3 (some .boolean), Cond.methodLink RX7 90 yX7_imageOf, Cond.static yX7_imageOf, Cond.code yX7_imageOf cX7_imageOf 2 (some .int), Cond.methodLink RX7 93 yX7_stands, Cond.instanceMethod yX7_stands, Cond.selects RX7 yX7_stands yX7_stands, Cond.code yX7_stands cX7_stands 3 (some .boolean), Cond.methodLink RX7 75 yX7_appendTo, Cond.instanceMethod yX7_appendTo, Cond.selects RX7 yX7_appendTo yX7_appendTo, Cond.code yX7_appendTo cX7_appendTo 2 none, Cond.methodLink RX7 65 yX7_take, Cond.instanceMethod yX7_take, Cond.selects RX7 yX7_take yX7_take, Cond.code yX7_take cX7_take 1 none, Cond.methodLink RX7 40 yX7_save, Cond.instanceMethod yX7_save, Cond.selects RX7 yX7_save yX7_save]
def wsX7_invertMorphism_r2 : List Cond := [Cond.code yX7_save cX7_save 2 none, Cond.fieldLink RX7 32 "SturmianWordsModel" "edits" "I", Cond.fieldLink RX7 16 "SturmianWordsModel" "past" "[I", Cond.methodLink RX7 36 yX7_copy, Cond.static yX7_copy, Cond.code yX7_copy cX7_copy 5 none]
def wsX7_invertMorphism : List Cond := .code yX7_invertMorphism cX7_invertMorphism 6 (some .int) :: ((wsX7_invertMorphism_r1 ++ wsX7_invertMorphism_r2) ++ wsX70)
def wsX7_undo : List Cond := .code yX7_undo cX7_undo 1 (some .int) :: ([.fieldLink RX7 32 "SturmianWordsModel" "edits" "I", .fieldLink RX7 16 "SturmianWordsModel" "past" "[I", .fieldLink RX7 7 "SturmianWordsModel" "now" "[I", .methodLink RX7 36 yX7_copy, .static yX7_copy, .initialized RX7, .code yX7_copy cX7_copy 5 none] ++ wsX70)
def wsX7_length : List Cond := .code yX7_length cX7_length 1 (some .int) :: ([.fieldLink RX7 7 "SturmianWordsModel" "now" "[I"] ++ wsX70)
def wsX7_weight : List Cond := .code yX7_weight cX7_weight 1 (some .int) :: ([.fieldLink RX7 7 "SturmianWordsModel" "now" "[I", .methodLink RX7 68 yX7_weightOf, .static yX7_weightOf, .initialized RX7, .code yX7_weightOf cX7_weightOf 3 (some .int)] ++ wsX70)
def wsX7_letterAt : List Cond := .code yX7_letterAt cX7_letterAt 2 (some .int) :: ([.fieldLink RX7 7 "SturmianWordsModel" "now" "[I"] ++ wsX70)
def wsX7_compare : List Cond := .code yX7_compare cX7_compare 5 (some .int) :: ([.fieldLink RX7 7 "SturmianWordsModel" "now" "[I"] ++ wsX70)
def wsX7_isFirst : List Cond := .code yX7_isFirst cX7_isFirst 4 (some .boolean) :: ([.methodLink RX7 96 yX7_compare, .instanceMethod yX7_compare, .selects RX7 yX7_compare yX7_compare, .initialized RX7, .code yX7_compare cX7_compare 5 (some .int), .fieldLink RX7 7 "SturmianWordsModel" "now" "[I"] ++ wsX70)
def wsX7_factorCount : List Cond := .code yX7_factorCount cX7_factorCount 4 (some .int) :: ([.fieldLink RX7 7 "SturmianWordsModel" "now" "[I", .methodLink RX7 100 yX7_isFirst, .instanceMethod yX7_isFirst, .selects RX7 yX7_isFirst yX7_isFirst, .initialized RX7, .code yX7_isFirst cX7_isFirst 4 (some .boolean), .methodLink RX7 96 yX7_compare, .instanceMethod yX7_compare, .selects RX7 yX7_compare yX7_compare, .code yX7_compare cX7_compare 5 (some .int)] ++ wsX70)
def wsX7_numberAt : List Cond := .code yX7_numberAt cX7_numberAt 5 (some .int) :: ([.fieldLink RX7 7 "SturmianWordsModel" "now" "[I"] ++ wsX70)
def wsX7_factorAt : List Cond := .code yX7_factorAt cX7_factorAt 6 (some .int) :: ([.fieldLink RX7 7 "SturmianWordsModel" "now" "[I", .methodLink RX7 43 yX7_in, .static yX7_in, .initialized RX7, .code yX7_in cX7_in 3 (some .boolean), .methodLink RX7 100 yX7_isFirst, .instanceMethod yX7_isFirst, .selects RX7 yX7_isFirst yX7_isFirst, .code yX7_isFirst cX7_isFirst 4 (some .boolean), .methodLink RX7 96 yX7_compare, .instanceMethod yX7_compare, .selects RX7 yX7_compare yX7_compare, .code yX7_compare cX7_compare 5 (some .int), .methodLink RX7 103 yX7_numberAt, .instanceMethod yX7_numberAt, .selects RX7 yX7_numberAt yX7_numberAt, .code yX7_numberAt cX7_numberAt 5 (some .int)] ++ wsX70)
def wsX7_unbalancedLength : List Cond := .code yX7_unbalancedLength cX7_unbalancedLength 7 (some .int) :: ([.fieldLink RX7 7 "SturmianWordsModel" "now" "[I"] ++ wsX70)
def wsX7_palindromeCount : List Cond := .code yX7_palindromeCount cX7_palindromeCount 4 (some .int) :: ([.fieldLink RX7 7 "SturmianWordsModel" "now" "[I", .methodLink RX7 86 yX7_isPalindrome, .instanceMethod yX7_isPalindrome, .selects RX7 yX7_isPalindrome yX7_isPalindrome, .initialized RX7, .code yX7_isPalindrome cX7_isPalindrome 4 (some .boolean), .methodLink RX7 100 yX7_isFirst, .instanceMethod yX7_isFirst, .selects RX7 yX7_isFirst yX7_isFirst, .code yX7_isFirst cX7_isFirst 4 (some .boolean), .methodLink RX7 96 yX7_compare, .instanceMethod yX7_compare, .selects RX7 yX7_compare yX7_compare, .code yX7_compare cX7_compare 5 (some .int)] ++ wsX70)
def wsX7_longestPalindromicPrefix : List Cond := .code yX7_longestPalindromicPrefix cX7_longestPalindromicPrefix 2 (some .int) :: ([.fieldLink RX7 7 "SturmianWordsModel" "now" "[I", .methodLink RX7 86 yX7_isPalindrome, .instanceMethod yX7_isPalindrome, .selects RX7 yX7_isPalindrome yX7_isPalindrome, .initialized RX7, .code yX7_isPalindrome cX7_isPalindrome 4 (some .boolean)] ++ wsX70)
def wsX7_isPeriod : List Cond := .code yX7_isPeriod cX7_isPeriod 3 (some .boolean) :: ([.fieldLink RX7 7 "SturmianWordsModel" "now" "[I"] ++ wsX70)
def wsX7_leastPeriod : List Cond := .code yX7_leastPeriod cX7_leastPeriod 2 (some .int) :: ([.fieldLink RX7 7 "SturmianWordsModel" "now" "[I", .methodLink RX7 106 yX7_isPeriod, .instanceMethod yX7_isPeriod, .selects RX7 yX7_isPeriod yX7_isPeriod, .initialized RX7, .code yX7_isPeriod cX7_isPeriod 3 (some .boolean)] ++ wsX70)
def wsX7_isCentral : List Cond := .code yX7_isCentral cX7_isCentral 4 (some .int) :: ([.fieldLink RX7 7 "SturmianWordsModel" "now" "[I", .methodLink RX7 47 yX7_divisor, .static yX7_divisor, .initialized RX7, .code yX7_divisor cX7_divisor 5 (some .int), .methodLink RX7 106 yX7_isPeriod, .instanceMethod yX7_isPeriod, .selects RX7 yX7_isPeriod yX7_isPeriod, .code yX7_isPeriod cX7_isPeriod 3 (some .boolean)] ++ wsX70)
def wsX7_begins : List Cond := .code yX7_begins cX7_begins 5 (some .boolean) :: ([.fieldLink RX7 7 "SturmianWordsModel" "now" "[I"] ++ wsX70)
def wsX7_simplest : List Cond := .code yX7_simplest cX7_simplest 5 (some .int) :: ([.methodLink RX7 47 yX7_divisor, .static yX7_divisor, .initialized RX7, .code yX7_divisor cX7_divisor 5 (some .int), .methodLink RX7 109 yX7_begins, .instanceMethod yX7_begins, .selects RX7 yX7_begins yX7_begins, .code yX7_begins cX7_begins 5 (some .boolean), .fieldLink RX7 7 "SturmianWordsModel" "now" "[I"] ++ wsX70)
def wsX7_simplestSlope : List Cond := .code yX7_simplestSlope cX7_simplestSlope 2 (some .int) :: ([.methodLink RX7 43 yX7_in, .static yX7_in, .initialized RX7, .code yX7_in cX7_in 3 (some .boolean), .methodLink RX7 112 yX7_simplest, .instanceMethod yX7_simplest, .selects RX7 yX7_simplest yX7_simplest, .code yX7_simplest cX7_simplest 5 (some .int), .methodLink RX7 47 yX7_divisor, .static yX7_divisor, .code yX7_divisor cX7_divisor 5 (some .int), .methodLink RX7 109 yX7_begins, .instanceMethod yX7_begins, .selects RX7 yX7_begins yX7_begins, .code yX7_begins cX7_begins 5 (some .boolean), .fieldLink RX7 7 "SturmianWordsModel" "now" "[I"] ++ wsX70)
def wsX7_layPoints : List Cond := .code yX7_layPoints cX7_layPoints 4 none :: ([.fieldLink RX7 7 "SturmianWordsModel" "now" "[I", .fieldLink RX7 28 "SturmianWordsModel" "points" "[Z"] ++ wsX70)
def wsX7_gapsWith : List Cond := .code yX7_gapsWith cX7_gapsWith 5 (some .int) :: ([.fieldLink RX7 7 "SturmianWordsModel" "now" "[I", .fieldLink RX7 28 "SturmianWordsModel" "points" "[Z"] ++ wsX70)
def wsX7_sizeAt : List Cond := .code yX7_sizeAt cX7_sizeAt 5 (some .int) :: ([.fieldLink RX7 7 "SturmianWordsModel" "now" "[I", .methodLink RX7 116 yX7_layPoints, .instanceMethod yX7_layPoints, .selects RX7 yX7_layPoints yX7_layPoints, .initialized RX7, .code yX7_layPoints cX7_layPoints 4 none, .fieldLink RX7 28 "SturmianWordsModel" "points" "[Z", .methodLink RX7 119 yX7_gapsWith, .instanceMethod yX7_gapsWith, .selects RX7 yX7_gapsWith yX7_gapsWith, .code yX7_gapsWith cX7_gapsWith 5 (some .int)] ++ wsX70)
def wsX7_gapSizeCount : List Cond := .code yX7_gapSizeCount cX7_gapSizeCount 2 (some .int) :: ([.methodLink RX7 43 yX7_in, .static yX7_in, .initialized RX7, .code yX7_in cX7_in 3 (some .boolean), .methodLink RX7 122 yX7_sizeAt, .instanceMethod yX7_sizeAt, .selects RX7 yX7_sizeAt yX7_sizeAt, .code yX7_sizeAt cX7_sizeAt 5 (some .int), .fieldLink RX7 7 "SturmianWordsModel" "now" "[I", .methodLink RX7 116 yX7_layPoints, .instanceMethod yX7_layPoints, .selects RX7 yX7_layPoints yX7_layPoints, .code yX7_layPoints cX7_layPoints 4 none, .fieldLink RX7 28 "SturmianWordsModel" "points" "[Z", .methodLink RX7 119 yX7_gapsWith, .instanceMethod yX7_gapsWith, .selects RX7 yX7_gapsWith yX7_gapsWith, .code yX7_gapsWith cX7_gapsWith 5 (some .int)] ++ wsX70)
def wsX7_gapSize : List Cond := .code yX7_gapSize cX7_gapSize 3 (some .int) :: ([.methodLink RX7 43 yX7_in, .static yX7_in, .initialized RX7, .code yX7_in cX7_in 3 (some .boolean), .methodLink RX7 122 yX7_sizeAt, .instanceMethod yX7_sizeAt, .selects RX7 yX7_sizeAt yX7_sizeAt, .code yX7_sizeAt cX7_sizeAt 5 (some .int), .fieldLink RX7 7 "SturmianWordsModel" "now" "[I", .methodLink RX7 116 yX7_layPoints, .instanceMethod yX7_layPoints, .selects RX7 yX7_layPoints yX7_layPoints, .code yX7_layPoints cX7_layPoints 4 none, .fieldLink RX7 28 "SturmianWordsModel" "points" "[Z", .methodLink RX7 119 yX7_gapsWith, .instanceMethod yX7_gapsWith, .selects RX7 yX7_gapsWith yX7_gapsWith, .code yX7_gapsWith cX7_gapsWith 5 (some .int)] ++ wsX70)
def wsX7_gapsOfSize : List Cond := .code yX7_gapsOfSize cX7_gapsOfSize 3 (some .int) :: ([.methodLink RX7 43 yX7_in, .static yX7_in, .initialized RX7, .code yX7_in cX7_in 3 (some .boolean), .methodLink RX7 116 yX7_layPoints, .instanceMethod yX7_layPoints, .selects RX7 yX7_layPoints yX7_layPoints, .code yX7_layPoints cX7_layPoints 4 none, .fieldLink RX7 7 "SturmianWordsModel" "now" "[I", .fieldLink RX7 28 "SturmianWordsModel" "points" "[Z", .methodLink RX7 119 yX7_gapsWith, .instanceMethod yX7_gapsWith, .selects RX7 yX7_gapsWith yX7_gapsWith, .code yX7_gapsWith cX7_gapsWith 5 (some .int)] ++ wsX70)
def wsX7_historySize : List Cond := .code yX7_historySize cX7_historySize 1 (some .int) :: ([.fieldLink RX7 32 "SturmianWordsModel" "edits" "I"] ++ wsX70)
def wsJ9_max_7cf53 : List Cond := .code yJ9_max_7cf53 cJ9_max_7cf53 2 (some .int) :: ([])
def wsJ9_min_7cf53 : List Cond := .code yJ9_min_7cf53 cJ9_min_7cf53 2 (some .int) :: ([])
abbrev vwCl : List vw_C := [(RX0, TX0, 2), (RX1, TX1, 3), (RX3, TX3, 3), (RX4, TX4, 2), (RX5, TX5, 2), (RX6, TX6, 3), (RX7, TX7, 11)]
end
section
/-! rows on bits, shifts and unsigned numbers, to paste: each family out of a closed proof of our own, whole with what it rests on; each by itself clean at Lean in its own claim (generation 39, form 5). Take a family whole -/
/-! ===== Int32 by its bits: bt x i ===== -/
def bt (x : Int32) (i : Nat) : Bool := x.toBitVec.getLsbD i
theorem b_ext {x y : Int32} (h : ∀ i, i < 32 → bt x i = bt y i) : x = y := Int32.toBitVec_inj.mp (BitVec.eq_of_getLsbD_eq (fun i hi => h i hi))
theorem b_or (x y : Int32) (i : Nat) : bt (x ||| y) i = (bt x i || bt y i) := by unfold bt; rw [Int32.toBitVec_or, BitVec.getLsbD_or]
theorem b_and (x y : Int32) (i : Nat) : bt (x &&& y) i = (bt x i && bt y i) := by unfold bt; rw [Int32.toBitVec_and, BitVec.getLsbD_and]
theorem b_xor (x y : Int32) (i : Nat) : bt (x ^^^ y) i = (bt x i ^^ bt y i) := by unfold bt; rw [Int32.toBitVec_xor, BitVec.getLsbD_xor]
theorem b_big {x : Int32} {i : Nat} (h : 32 ≤ i) : bt x i = false := BitVec.getLsbD_of_ge _ _ h
theorem b_255 (i : Nat) : bt 255 i = decide (i < 8) := by
  rcases Nat.lt_or_ge i 32 with h | h
  · exact (by decide +kernel : ∀ i, i < 32 → bt 255 i = decide (i < 8)) i h
  · rw [b_big h, decide_eq_false (by omega)]
theorem b_65535 (i : Nat) : bt 65535 i = decide (i < 16) := by
  rcases Nat.lt_or_ge i 32 with h | h
  · exact (by decide +kernel : ∀ i, i < 32 → bt 65535 i = decide (i < 16)) i h
  · rw [b_big h, decide_eq_false (by omega)]
theorem b_m1 : ∀ i, i < 32 → bt (-1) i = true := by decide +kernel
theorem b_0 (i : Nat) : bt 0 i = false := BitVec.getLsbD_zero
theorem s_l : ∀ n, n < 32 → ((nI n &&& 31).toBitVec.smod 32).toNat = n := by decide +kernel
theorem s_u : ∀ n, n < 32 → (((nI n).toUInt32 &&& Int32.toUInt32 31).toBitVec % 32).toNat = n := by decide +kernel
theorem b_shl (n : Nat) (hn : n < 32) (x : Int32) {i : Nat} (hi : i < 32) : bt (x <<< (nI n &&& 31)) i = (decide (n ≤ i) && bt x (i - n)) := by
  unfold bt
  rw [Int32.toBitVec_shiftLeft]
  show (x.toBitVec <<< ((nI n &&& 31).toBitVec.smod 32).toNat).getLsbD i = _
  rw [s_l n hn, BitVec.getLsbD_shiftLeft]
  rcases Nat.lt_or_ge i n with h | h
  · simp [h, Nat.not_le.mpr h]
  · simp [hi, h, Nat.not_lt.mpr h]
theorem b_ushr (n : Nat) (hn : n < 32) (x : Int32) (i : Nat) : bt ((x.toUInt32 >>> ((nI n).toUInt32 &&& Int32.toUInt32 31)).toInt32) i = bt x (n + i) := by
  show (x.toUInt32 >>> ((nI n).toUInt32 &&& Int32.toUInt32 31)).toBitVec.getLsbD i = x.toUInt32.toBitVec.getLsbD (n + i)
  rw [UInt32.toBitVec_shiftRight]
  show (x.toUInt32.toBitVec >>> (((nI n).toUInt32 &&& Int32.toUInt32 31).toBitVec % 32).toNat).getLsbD i = _
  rw [s_u n hn, BitVec.getLsbD_ushiftRight]
theorem b_sshr (n : Nat) (hn : n < 32) (x : Int32) {i : Nat} (hi : i < 32) : bt (x >>> (nI n &&& 31)) i = if n + i < 32 then bt x (n + i) else bt x 31 := by
  unfold bt
  rw [Int32.toBitVec_shiftRight]
  show (x.toBitVec.sshiftRight ((nI n &&& 31).toBitVec.smod 32).toNat).getLsbD i = _
  rw [s_l n hn, BitVec.getLsbD_sshiftRight, BitVec.msb_eq_getLsbD_last]
  simp [hi]
theorem b_shl8 (x : Int32) {i : Nat} (hi : i < 32) : bt (x <<< ((8 : Int32) &&& 31)) i = (decide (8 ≤ i) && bt x (i - 8)) := b_shl 8 (by omega) x hi
theorem b_shl16 (x : Int32) {i : Nat} (hi : i < 32) : bt (x <<< ((16 : Int32) &&& 31)) i = (decide (16 ≤ i) && bt x (i - 16)) := b_shl 16 (by omega) x hi
theorem b_shl24 (x : Int32) {i : Nat} (hi : i < 32) : bt (x <<< ((24 : Int32) &&& 31)) i = (decide (24 ≤ i) && bt x (i - 24)) := b_shl 24 (by omega) x hi
theorem b_sshr8 (x : Int32) {i : Nat} (hi : i < 32) : bt (x >>> ((8 : Int32) &&& 31)) i = if 8 + i < 32 then bt x (8 + i) else bt x 31 := b_sshr 8 (by omega) x hi
/-! ===== nI under and, xor, >>>, one bit, 65535 ===== -/
theorem nx_and (a b : Nat) : nI a &&& nI b = nI (a &&& b) := by
  apply Int32.toBitVec_inj.1
  show BitVec.ofNat 32 a &&& BitVec.ofNat 32 b = BitVec.ofNat 32 (a &&& b)
  apply BitVec.eq_of_getLsbD_eq
  intro i hi
  simp [hi]
theorem nx_xor (a b : Nat) : nI a ^^^ nI b = nI (a ^^^ b) := by
  apply Int32.toBitVec_inj.1
  show BitVec.ofNat 32 a ^^^ BitVec.ofNat 32 b = BitVec.ofNat 32 (a ^^^ b)
  apply BitVec.eq_of_getLsbD_eq
  intro i hi
  simp [hi]
theorem nx_cnt : ∀ j : Fin 32, (UInt32.ofNat j.val &&& Int32.toUInt32 31).toNat % 32 = j.val := by decide +kernel
theorem nx_ush {k j : Nat} (hk : k < 65536) (hj : j < 32) : ((nI k).toUInt32 >>> ((nI j).toUInt32 &&& Int32.toUInt32 31)).toInt32 = nI (k >>> j) := by
  have hs : k >>> j ≤ k := by
    rw [Nat.shiftRight_eq_div_pow]
    exact Nat.div_le_self _ _
  have e2 : UInt32.ofNat k >>> (UInt32.ofNat j &&& Int32.toUInt32 31) = UInt32.ofNat (k >>> j) := by
    apply UInt32.toNat_inj.1
    have h1 : (UInt32.ofNat k).toNat = k := Nat.mod_eq_of_lt (by omega)
    have h2 : (UInt32.ofNat (k >>> j)).toNat = k >>> j := Nat.mod_eq_of_lt (by omega)
    rw [UInt32.toNat_shiftRight, nx_cnt ⟨j, hj⟩, h1, h2]
  show (UInt32.ofNat k >>> (UInt32.ofNat j &&& Int32.toUInt32 31)).toInt32 = _
  rw [e2]
  rfl
theorem nx_bit {k j : Nat} (hk : k < 65536) (hj : j < 16) : (((nI k).toUInt32 >>> ((nI j).toUInt32 &&& Int32.toUInt32 31)).toInt32 &&& 1) = 0 ↔ k.testBit j = false := by
  rw [nx_ush hk (by omega)]
  show nI (k >>> j) &&& nI 1 = 0 ↔ _
  rw [nx_and, Nat.and_one_is_mod, ← nI_0, nI_eq (by omega) (by omega), Nat.testBit_eq_decide_div_mod_eq, Nat.shiftRight_eq_div_pow, decide_eq_false_iff_not]
  generalize k / 2 ^ j = z
  omega
theorem nx_mod (k : Nat) : nI k &&& 65535 = nI (k % 65536) := by
  show nI k &&& nI 65535 = _
  rw [nx_and, show (65535 : Nat) = 2 ^ 16 - 1 from rfl, Nat.and_two_pow_sub_one_eq_mod]
theorem nx_m16 {k : Nat} (h : k < 65536) : nI k &&& 65535 = nI k := by rw [nx_mod, Nat.mod_eq_of_lt h]
theorem nx_mask (x : Int32) : ∃ k, k < 65536 ∧ x &&& 65535 = nI k := by
  have e : x = nI x.toBitVec.toNat := by
    apply Int32.toBitVec_inj.1
    show x.toBitVec = BitVec.ofNat 32 x.toBitVec.toNat
    simp
  refine ⟨x.toBitVec.toNat % 65536, Nat.mod_lt _ (by omega), ?_⟩
  rw [← nx_mod, ← e]
/-! ===== Int32 as a set of bits: test, set ===== -/
def nf_M (m : Int32) : Nat := 4294967296 - m.toBitVec.toNat
theorem nf_sh : ∀ l, l < 32 → ((1 : Int32) <<< (nI l &&& 31)).toBitVec = BitVec.twoPow 32 l := by decide +kernel
theorem nf_sl : ∀ l, l < 32 → (((nI l).toUInt32 &&& Int32.toUInt32 31).toBitVec % 32).toNat = l := by decide +kernel
theorem nf_tp : ∀ l, l < 32 → BitVec.twoPow 32 l ≠ 0#32 := by decide +kernel
theorem nf_bit (m : Int32) (l : Nat) (hl : l < 32) : ((m.toUInt32 >>> ((nI l).toUInt32 &&& Int32.toUInt32 31)).toInt32 &&& 1) = 0 ↔ (m &&& ((1 : Int32) <<< (nI l &&& 31))) = 0 := by
  have e : ((m.toUInt32 >>> ((nI l).toUInt32 &&& Int32.toUInt32 31)).toInt32).toBitVec = m.toBitVec >>> l := by
    show m.toBitVec >>> (((nI l).toUInt32 &&& Int32.toUInt32 31).toBitVec % 32) = m.toBitVec >>> l
    rw [BitVec.ushiftRight_eq', nf_sl l hl]
  rw [← Int32.toBitVec_inj, ← Int32.toBitVec_inj, Int32.toBitVec_and, Int32.toBitVec_and, nf_sh l hl, e, BitVec.and_twoPow]
  show (m.toBitVec >>> l &&& 1#32) = 0#32 ↔ _ = 0#32
  rw [BitVec.and_one_eq_setWidth_ofBool_getLsbD, BitVec.getLsbD_ushiftRight, Nat.add_zero]
  cases hb : m.toBitVec.getLsbD l
  · exact ⟨fun _ => by simp, fun _ => by decide⟩
  · exact ⟨fun z => absurd z (by decide), fun z => absurd ((if_pos rfl).symm.trans z) (nf_tp l hl)⟩
theorem nf_gr (m k : Int32) (h : m &&& k = 0) (hk : k ≠ 0) : nf_M (m ||| k) < nf_M m := by
  have hm := m.toBitVec.isLt
  have hm' := (m ||| k).toBitVec.isLt
  have h1 : m.toBitVec.toNat ≤ (m ||| k).toBitVec.toNat := by
    rw [Int32.toBitVec_or, BitVec.toNat_or]
    exact Nat.left_le_or
  have h2 : m.toBitVec.toNat ≠ (m ||| k).toBitVec.toNat := by
    intro e
    have e2 : m = m ||| k := Int32.toBitVec_inj.mp (BitVec.eq_of_toNat_eq e)
    apply hk
    apply Int32.toBitVec_inj.mp
    show k.toBitVec = 0#32
    apply BitVec.eq_of_getLsbD_eq
    intro i hi
    have a : m.toBitVec.getLsbD i = (m.toBitVec.getLsbD i || k.toBitVec.getLsbD i) := by rw [← BitVec.getLsbD_or, ← Int32.toBitVec_or, ← e2]
    have b : (m.toBitVec.getLsbD i && k.toBitVec.getLsbD i) = false := by
      rw [← BitVec.getLsbD_and, ← Int32.toBitVec_and, h]
      exact BitVec.getLsbD_zero
    rw [BitVec.getLsbD_zero]
    revert a b
    cases m.toBitVec.getLsbD i <;> cases k.toBitVec.getLsbD i <;> simp
  unfold nf_M
  omega
/-! ===== a byte read unsigned ===== -/
theorem bp_b (x : Int32) : x.toInt8.toInt32 &&& 255 = x &&& 255 := by
  apply Int32.toBitVec_inj.mp
  rw [Int32.toBitVec_and, Int32.toBitVec_and, Int8.toBitVec_toInt32, Int32.toBitVec_toInt8]
  apply BitVec.eq_of_getLsbD_eq
  intro i hi
  rw [BitVec.getLsbD_and, BitVec.getLsbD_and]
  have hm : ∀ i < 32, 8 ≤ i → (255 : Int32).toBitVec.getLsbD i = false := by decide
  rcases Nat.lt_or_ge i 8 with z | z
  · rw [BitVec.getLsbD_signExtend, BitVec.getLsbD_signExtend, if_pos z, if_pos hi]
    simp only [z, hi, decide_true, Bool.true_and]
  · rw [hm i hi z]; simp
/-! ===== the char cast and 65535 ===== -/
/-! ===== Int64 as a set of bits: test, set, clear ===== -/
theorem ts_nf {x : Bool} (h : ¬ x = false) : x = true := by cases x <;> first | rfl | exact absurd rfl h
theorem ts_nt {x : Bool} (h : ¬ x = true) : x = false := by cases x <;> first | rfl | exact absurd rfl h
theorem ts_bit {w : Int64} {s : UInt64} {j : Nat} (hj : j < 64) (hs : s.toNat = j) : ((w.toUInt64 >>> s).toInt64 &&& 1) = 0 ↔ w.toBitVec.getLsbD j = false := by
  have e : (w.toUInt64 >>> s).toInt64.toBitVec = w.toBitVec >>> j := by
    apply BitVec.eq_of_toNat_eq
    show (w.toUInt64 >>> s).toNat = _
    rw [UInt64.toNat_shiftRight, hs, Nat.mod_eq_of_lt hj, BitVec.toNat_ushiftRight]
    rfl
  rw [← Int64.toBitVec_inj, Int64.toBitVec_and, e]
  show w.toBitVec >>> j &&& 1#64 = 0#64 ↔ _
  constructor
  · intro h
    have t := congrArg (fun x => x.getLsbD 0) h
    simpa using t
  · intro h
    apply BitVec.eq_of_getLsbD_eq
    intro i hi
    cases i with
    | zero => simp [h]
    | succ i => simp
theorem ts_or {w m : Int64} {j : Nat} (hj : j < 64) (hm : m.toBitVec = BitVec.twoPow 64 j) : (w ||| m) = w ↔ w.toBitVec.getLsbD j = true := by
  rw [← Int64.toBitVec_inj, Int64.toBitVec_or, hm]
  constructor
  · intro h
    have t := congrArg (fun x => x.getLsbD j) h
    simp only [BitVec.getLsbD_or, BitVec.getLsbD_twoPow] at t
    simpa [hj] using t.symm
  · intro h
    apply BitVec.eq_of_getLsbD_eq
    intro i hi
    rw [BitVec.getLsbD_or, BitVec.getLsbD_twoPow]
    by_cases e : j = i
    · subst e; rw [h, Bool.true_or]
    · simp [e]
theorem ts_and {w m : Int64} {j : Nat} (hj : j < 64) (hm : m.toBitVec = BitVec.twoPow 64 j) : (w &&& (m ^^^ (-1))) = w ↔ w.toBitVec.getLsbD j = false := by
  have ha : (-1 : Int64).toBitVec = BitVec.allOnes 64 := by decide
  rw [← Int64.toBitVec_inj, Int64.toBitVec_and, Int64.toBitVec_xor, hm, ha]
  constructor
  · intro h
    have t := congrArg (fun x => x.getLsbD j) h
    simp only [BitVec.getLsbD_and, BitVec.getLsbD_xor, BitVec.getLsbD_twoPow, BitVec.getLsbD_allOnes] at t
    simpa [hj] using t.symm
  · intro h
    apply BitVec.eq_of_getLsbD_eq
    intro i hi
    rw [BitVec.getLsbD_and, BitVec.getLsbD_xor, BitVec.getLsbD_twoPow, BitVec.getLsbD_allOnes]
    by_cases e : j = i
    · subst e; rw [h, Bool.false_and]
    · simp [e, hi]
/-! ===== lN n to 2^64: shifts, and, or, masks, one bit ===== -/
theorem wb_tb (n : Nat) : (lN n).toBitVec = BitVec.ofNat 64 n := rfl
theorem wb_inj {a b : Int64} (h : a.toBitVec = b.toBitVec) : a = b := Int64.toBitVec_inj.mp h
theorem wb_tn {n : Nat} (h : n < 2 ^ 64) : (lN n).toBitVec.toNat = n := by rw [wb_tb, BitVec.toNat_ofNat, Nat.mod_eq_of_lt h]
theorem wb_of (x : Int64) : ∃ n, n < 2 ^ 64 ∧ x = lN n := ⟨x.toBitVec.toNat, x.toBitVec.isLt, wb_inj (by rw [wb_tb]; simp)⟩
theorem wb_of32 (x : Int32) : ∃ n, n < 2 ^ 32 ∧ x = nI n := ⟨x.toBitVec.toNat, x.toBitVec.isLt, Int32.toBitVec_inj.mp (by show _ = BitVec.ofNat 32 _; simp)⟩
theorem wb_c : ∀ k, k < 64 → ((nI k).toInt64 &&& 63) = lN k := by decide +kernel
theorem wb_cu : ∀ k, k < 64 → ((nI k).toInt64.toUInt64 &&& Int64.toUInt64 63) = UInt64.ofNat k := by decide +kernel
theorem wb_sm : ∀ k, k < 64 → (BitVec.ofNat 64 k).smod 64 = BitVec.ofNat 64 k := by decide +kernel
theorem wb_pw {a b : Nat} (h : a ≤ b) : 2 ^ b = 2 ^ a * 2 ^ (b - a) := by rw [← Nat.pow_add]; congr 1; omega
theorem wb_lt2 {a b : Nat} (h : a < b) : 2 ^ a < 2 ^ b := Nat.pow_lt_pow_right (by decide) h
theorem wb_mod (n : Nat) : lN n = lN (n % 2 ^ 64) := wb_inj (by rw [wb_tb, wb_tb]; apply BitVec.eq_of_toNat_eq; rw [BitVec.toNat_ofNat, BitVec.toNat_ofNat, Nat.mod_mod])
theorem wb_shr {n k : Nat} (hn : n < 2 ^ 64) (hk : k < 64) : ((lN n).toUInt64 >>> ((nI k).toInt64.toUInt64 &&& Int64.toUInt64 63)).toInt64 = lN (n / 2 ^ k) := by
  rw [wb_cu k hk]
  apply wb_inj
  apply BitVec.eq_of_toNat_eq
  show ((lN n).toUInt64 >>> UInt64.ofNat k).toNat = (BitVec.ofNat 64 _).toNat
  have h1 : (UInt64.ofNat k).toNat = k := by
    show (BitVec.ofNat 64 k).toNat = k
    rw [BitVec.toNat_ofNat, Nat.mod_eq_of_lt (by omega)]
  have h2 : (lN n).toUInt64.toNat = n := wb_tn hn
  rw [UInt64.toNat_shiftRight, h1, h2, Nat.mod_eq_of_lt hk, Nat.shiftRight_eq_div_pow, BitVec.toNat_ofNat, Nat.mod_eq_of_lt (Nat.lt_of_le_of_lt (Nat.div_le_self _ _) hn)]
theorem wb_shl (n : Nat) {k : Nat} (hk : k < 64) : lN n <<< ((nI k).toInt64 &&& 63) = lN (n * 2 ^ k) := by
  rw [wb_c k hk]
  apply wb_inj
  rw [Int64.toBitVec_shiftLeft, wb_tb, wb_tb, wb_tb, wb_sm k hk]
  apply BitVec.eq_of_toNat_eq
  rw [BitVec.shiftLeft_eq', BitVec.toNat_shiftLeft, BitVec.toNat_ofNat, BitVec.toNat_ofNat, BitVec.toNat_ofNat, Nat.mod_eq_of_lt (show k < 2 ^ 64 by omega), Nat.shiftLeft_eq, Nat.mul_mod, Nat.mod_mod, ← Nat.mul_mod]
theorem wb_and {a b : Nat} (ha : a < 2 ^ 64) (hb : b < 2 ^ 64) : lN a &&& lN b = lN (a &&& b) := by
  apply wb_inj
  rw [Int64.toBitVec_and, wb_tb, wb_tb, wb_tb]
  apply BitVec.eq_of_toNat_eq
  rw [BitVec.toNat_and, BitVec.toNat_ofNat, BitVec.toNat_ofNat, BitVec.toNat_ofNat, Nat.mod_eq_of_lt ha, Nat.mod_eq_of_lt hb, Nat.mod_eq_of_lt (Nat.and_lt_two_pow _ hb)]
theorem wb_or {a b : Nat} (ha : a < 2 ^ 64) (hb : b < 2 ^ 64) : lN a ||| lN b = lN (a ||| b) := by
  apply wb_inj
  rw [Int64.toBitVec_or, wb_tb, wb_tb, wb_tb]
  apply BitVec.eq_of_toNat_eq
  rw [BitVec.toNat_or, BitVec.toNat_ofNat, BitVec.toNat_ofNat, BitVec.toNat_ofNat, Nat.mod_eq_of_lt ha, Nat.mod_eq_of_lt hb, Nat.mod_eq_of_lt (Nat.or_lt_two_pow ha hb)]
theorem wb_mask {n k : Nat} (hn : n < 2 ^ 64) (hk : k < 64) : lN n &&& lN (2 ^ k - 1) = lN (n % 2 ^ k) := by
  rw [wb_and hn (by have := wb_lt2 hk; omega), Nat.and_two_pow_sub_one_eq_mod]
theorem wb_a1 {n : Nat} (hn : n < 2 ^ 64) : lN n &&& 1 = lN (n % 2) := wb_mask (k := 1) hn (by decide)
theorem wb_bit {n k : Nat} (hn : n < 2 ^ 64) (hk : k < 64) : ((lN n).toUInt64 >>> ((nI k).toInt64.toUInt64 &&& Int64.toUInt64 63)).toInt64 &&& 1 = lN (n / 2 ^ k % 2) := by
  rw [wb_shr hn hk, wb_a1 (Nat.lt_of_le_of_lt (Nat.div_le_self _ _) hn)]
theorem wb_xor {q k : Nat} (hk : k < 63) (h : 2 ^ k ≤ q) (h2 : q < 2 ^ (k + 1)) : lN q ^^^ lN (2 ^ k) = lN (q - 2 ^ k) := by
  obtain ⟨r, rfl⟩ : ∃ r, q = 2 ^ k + r := ⟨q - 2 ^ k, by omega⟩
  have hr : r < 2 ^ k := by rw [Nat.pow_succ] at h2; omega
  have hx : (2 ^ k + r) ^^^ 2 ^ k = r := by
    apply Nat.eq_of_testBit_eq
    intro i
    rw [Nat.testBit_xor, Nat.testBit_two_pow]
    rcases Nat.lt_trichotomy i k with h | h | h
    · rw [Nat.testBit_two_pow_add_gt h]
      simp [show ¬ k = i by omega]
    · subst h
      rw [Nat.testBit_two_pow_add_eq]
      simp
    · have a1 : 2 ^ (k + 1) ≤ 2 ^ i := Nat.pow_le_pow_right (by decide) h
      rw [Nat.testBit_lt_two_pow (show 2 ^ k + r < 2 ^ i by omega), Nat.testBit_lt_two_pow (show r < 2 ^ i by omega)]
      simp [show ¬ k = i by omega]
  have b1 := wb_lt2 (show k + 1 < 64 by omega)
  have b2 := wb_lt2 (show k < 64 by omega)
  apply wb_inj
  rw [Int64.toBitVec_xor, wb_tb, wb_tb, wb_tb]
  apply BitVec.eq_of_toNat_eq
  rw [BitVec.toNat_xor, BitVec.toNat_ofNat, BitVec.toNat_ofNat, BitVec.toNat_ofNat, Nat.mod_eq_of_lt (by omega : 2 ^ k + r < 2 ^ 64), Nat.mod_eq_of_lt b2, hx, Nat.add_sub_cancel_left, Nat.mod_eq_of_lt (by omega)]
/-! ===== lN: masks, 'or' of parts that don't overlap is a sum ===== -/
theorem u_tn {n : Nat} (h : n < 2 ^ 64) : (UInt64.ofNat n).toNat = n := Nat.mod_eq_of_lt h
theorem g_and {a b c : Nat} (ha : a < 2 ^ 64) (hb : b < 2 ^ 64) (hc : a &&& b = c) : lN a &&& lN b = lN c := by
  subst hc
  have h : UInt64.ofNat a &&& UInt64.ofNat b = UInt64.ofNat (a &&& b) := UInt64.toNat_inj.mp (by rw [UInt64.toNat_and, u_tn ha, u_tn hb, u_tn (Nat.and_lt_two_pow a hb)])
  have h2 := congrArg UInt64.toInt64 h
  exact h2
theorem g_and1 {a : Nat} (ha : a < 2 ^ 64) : lN a &&& 1 = lN (a % 2) := g_and (b := 1) ha (by decide) (Nat.and_two_pow_sub_one_eq_mod a 1)
theorem g_mask {a s p : Nat} (hp : 2 ^ s = p) (hs : s < 64) (ha : a < 2 ^ 64) : lN a &&& lN (p - 1) = lN (a % p) := by
  subst hp
  have := Nat.pow_lt_pow_right (show 1 < 2 by decide) hs
  exact g_and ha (by omega) (Nat.and_two_pow_sub_one_eq_mod a s)
theorem g_or {k p a b : Nat} (hp : 2 ^ k = p) (ha : a < p) (h : b * p + a < 2 ^ 64) : lN (b * p) ||| lN a = lN (b * p + a) := by
  subst hp
  have h1 : b * 2 ^ k ||| a = b * 2 ^ k + a := by rw [← Nat.shiftLeft_eq, Nat.shiftLeft_add_eq_or_of_lt ha]
  have h3 : UInt64.ofNat (b * 2 ^ k) ||| UInt64.ofNat a = UInt64.ofNat (b * 2 ^ k + a) := UInt64.toNat_inj.mp (by rw [UInt64.toNat_or, u_tn (by omega), u_tn (by omega), u_tn h, h1])
  have h2 := congrArg UInt64.toInt64 h3
  exact h2
theorem g_or' {k p a b : Nat} (hp : 2 ^ k = p) (ha : a < p) (h : a + b * p < 2 ^ 64) : lN a ||| lN (b * p) = lN (a + b * p) := by
  rw [Int64.or_comm, g_or hp ha (by omega), Nat.add_comm]
theorem g_ushr {a k p : Nat} {y : UInt64} (hy : y = UInt64.ofNat k) (hk : k < 64) (hp : 2 ^ k = p) (ha : a < 2 ^ 64) : ((lN a).toUInt64 >>> y).toInt64 = lN (a / p) := by
  subst hy hp
  have h : UInt64.ofNat a >>> UInt64.ofNat k = UInt64.ofNat (a / 2 ^ k) := UInt64.toNat_inj.mp (by rw [UInt64.toNat_shiftRight, u_tn ha, u_tn (by omega), u_tn (Nat.lt_of_le_of_lt (Nat.div_le_self _ _) ha), Nat.mod_eq_of_lt hk, Nat.shiftRight_eq_div_pow])
  have h2 := congrArg UInt64.toInt64 h
  exact h2
theorem g_shl {a k p : Nat} {y : Int64} (hy : y.toBitVec.smod 64 = BitVec.ofNat 64 k) (hk : k < 64) (hp : 2 ^ k = p) (ha : a < 2 ^ 64) : lN a <<< y = lN (a * p) := by
  subst hp
  apply Int64.toBitVec_inj.mp
  rw [Int64.toBitVec_shiftLeft, hy]
  apply BitVec.eq_of_toNat_eq
  have hb : (lN a).toBitVec.toNat = a := Nat.mod_eq_of_lt ha
  have hk' : (BitVec.ofNat 64 k).toNat = k := Nat.mod_eq_of_lt (by omega)
  have h : ((lN a).toBitVec <<< BitVec.ofNat 64 k).toNat = (a * 2 ^ k) % 2 ^ 64 := by simp only [BitVec.shiftLeft_eq', BitVec.toNat_shiftLeft, hb, hk', Nat.shiftLeft_eq]
  exact h
/-! ===== lN to 2^62 under >> and >>> ===== -/
theorem pf_lI {a : Nat} (h : a < 2 ^ 63) : (lN a).toInt = (a : Int) := lg_ofNat_toInt h
theorem pf_shr {a d : Nat} {D : Int64} (hD : (D.toBitVec.smod 64).toNat = d) (h : a < 2 ^ 62) : lN a >>> D = lN (a / 2 ^ d) := by
  have hd : a / 2 ^ d ≤ a := Nat.div_le_self _ _
  apply Int64.toInt_inj.mp
  have e : (lN a >>> D).toInt = (lN a).toInt >>> d := by
    rw [← hD]
    exact BitVec.toInt_sshiftRight ..
  rw [e, Int.shiftRight_eq_div_pow, pf_lI (by omega), pf_lI (by omega)]
  rfl
theorem pf_ushr {a d : Nat} {D : UInt64} (hD : D.toNat % 64 = d) (h : a < 2 ^ 62) : ((lN a).toUInt64 >>> D).toInt64 = lN (a / 2 ^ d) := by
  have hd : a / 2 ^ d ≤ a := Nat.div_le_self _ _
  have e : (lN a).toUInt64 >>> D = UInt64.ofNat (a / 2 ^ d) := UInt64.toNat_inj.mp (by
    rw [UInt64.toNat_shiftRight, hD, Nat.shiftRight_eq_div_pow, UInt64.toNat_ofNat']
    show (UInt64.ofNat a).toNat / 2 ^ d = _
    rw [UInt64.toNat_ofNat', Nat.mod_eq_of_lt (by omega), Nat.mod_eq_of_lt (by omega)])
  rw [e]
  rfl
theorem pf_andw (x : Int64) : ∃ m, m < 2 ^ 32 ∧ x &&& 4294967295 = lN m := ⟨x.toBitVec.toNat % 2 ^ 32, Nat.mod_lt _ (by decide), Int64.toBitVec_inj.mp (BitVec.eq_of_toNat_eq (by
  show (x.toBitVec &&& 4294967295#64).toNat = (BitVec.ofNat 64 (x.toBitVec.toNat % 2 ^ 32)).toNat
  rw [BitVec.toNat_and, show (4294967295#64).toNat = 2 ^ 32 - 1 from by decide, Nat.and_two_pow_sub_one_eq_mod, BitVec.toNat_ofNat]
  omega))⟩
/-! ===== Int64 as an unsigned number: uN x ===== -/
def uN (x : Int64) : Nat := x.toUInt64.toNat
theorem uN_lt (x : Int64) : uN x < 18446744073709551616 := x.toUInt64.toNat_lt
theorem uN_inj {x y : Int64} (h : uN x = uN y) : x = y := congrArg UInt64.toInt64 (UInt64.toNat_inj.mp h)
theorem uN_add (x y : Int64) : uN (x + y) = (uN x + uN y) % 18446744073709551616 := by
  show (x.toUInt64 + y.toUInt64).toNat = _
  exact UInt64.toNat_add _ _
theorem uN_mul (x y : Int64) : uN (x * y) = (uN x * uN y) % 18446744073709551616 := by
  show (x.toUInt64 * y.toUInt64).toNat = _
  exact UInt64.toNat_mul _ _
theorem uN_shl (x : Int64) : uN (x <<< ((1 : Int32).toInt64 &&& 63)) = (2 * uN x) % 18446744073709551616 := by
  have h : (((1 : Int32).toInt64 &&& 63).toBitVec.smod 64).toNat = 1 := by decide
  show (x.toBitVec <<< (((1 : Int32).toInt64 &&& 63).toBitVec.smod 64).toNat).toNat = _
  rw [h, BitVec.toNat_shiftLeft, Nat.shiftLeft_eq, Nat.mul_comm]
  rfl
theorem uN_shr (x : Int64) (s : UInt64) : uN (x.toUInt64 >>> s).toInt64 = uN x / 2 ^ (s.toNat % 64) := by
  show (x.toUInt64 >>> s).toNat = _
  rw [UInt64.toNat_shiftRight, Nat.shiftRight_eq_div_pow]
  rfl
theorem uN_s32 (x : Int64) : uN (x.toUInt64 >>> ((32 : Int32).toInt64.toUInt64 &&& Int64.toUInt64 63)).toInt64 = uN x / 4294967296 := by
  have h : ((32 : Int32).toInt64.toUInt64 &&& Int64.toUInt64 63).toNat % 64 = 32 := by decide
  rw [uN_shr, h]
theorem uN_s63 (x : Int64) : uN (x.toUInt64 >>> ((63 : Int32).toInt64.toUInt64 &&& Int64.toUInt64 63)).toInt64 = uN x / 9223372036854775808 := by
  have h : ((63 : Int32).toInt64.toUInt64 &&& Int64.toUInt64 63).toNat % 64 = 63 := by decide
  rw [uN_shr, h]
theorem uN_lo (x : Int64) : uN (x &&& 4294967295) = uN x % 4294967296 := by
  show (x.toUInt64 &&& Int64.toUInt64 4294967295).toNat = _
  rw [UInt64.toNat_and]
  exact Nat.and_two_pow_sub_one_eq_mod _ 32
theorem uN_bit (x : Int64) : (x &&& 1) = 0 ↔ uN x % 2 = 0 := by
  have h : uN (x &&& 1) = uN x % 2 := by
    show (x.toUInt64 &&& Int64.toUInt64 1).toNat = _
    rw [UInt64.toNat_and]
    exact Nat.and_two_pow_sub_one_eq_mod _ 1
  rw [← h]
  exact ⟨fun z => by rw [z]; rfl, fun z => uN_inj (z.trans rfl)⟩
theorem uN_or {x y : Int64} (hy : uN y < 2) : uN ((x <<< ((1 : Int32).toInt64 &&& 63)) ||| y) = (2 * uN x) % 18446744073709551616 + uN y := by
  have h1 : uN ((x <<< ((1 : Int32).toInt64 &&& 63)) ||| y) = uN (x <<< ((1 : Int32).toInt64 &&& 63)) ||| uN y := UInt64.toNat_or _ _
  have h2 : (2 * uN x) % 18446744073709551616 = 2 ^ 1 * (uN x % 9223372036854775808) := by omega
  rw [h1, uN_shl, h2]
  exact (Nat.two_pow_add_eq_or_of_lt (i := 1) hy _).symm
theorem nat_xor {a : Nat} (h : a < 18446744073709551616) : a ^^^ 2 ^ 63 = (a + 9223372036854775808) % 18446744073709551616 := by
  have h1 : (a ^^^ 2 ^ 63) % 2 ^ 63 = a % 2 ^ 63 := by rw [Nat.xor_mod_two_pow, Nat.mod_self, Nat.xor_zero]
  have h2 : (a ^^^ 2 ^ 63) / 2 ^ 63 = (a / 2 ^ 63) ^^^ 1 := by rw [Nat.xor_div_two_pow, Nat.div_self (Nat.two_pow_pos 63)]
  have h3 : a / 2 ^ 63 = 0 ∨ a / 2 ^ 63 = 1 := by omega
  generalize a ^^^ 2 ^ 63 = t at h1 h2
  rcases h3 with h3 | h3
  · rw [h3] at h2
    have h2 : t / 2 ^ 63 = 1 := h2
    omega
  · rw [h3] at h2
    have h2 : t / 2 ^ 63 = 0 := h2
    omega
theorem uN_xor (x : Int64) : uN (x ^^^ (-9223372036854775808)) = (uN x + 9223372036854775808) % 18446744073709551616 := by
  rw [← nat_xor (uN_lt x)]
  exact UInt64.toNat_xor _ _
theorem uN_int (x : Int64) : x.toInt = if 2 * uN x < 18446744073709551616 then (uN x : Int) else (uN x : Int) - 18446744073709551616 := BitVec.toInt_eq_toNat_cond _
theorem uN_le (x y : Int64) : (x ^^^ (-9223372036854775808)) ≤ (y ^^^ (-9223372036854775808)) ↔ uN x ≤ uN y := by
  have hx := uN_lt x
  have hy := uN_lt y
  rw [Int64.le_iff_toInt_le, uN_int, uN_int, uN_xor, uN_xor]
  omega
theorem uN_sk (x : Int64) {k : Nat} (hk : k < 64) : uN (x.toUInt64 >>> ((nI k).toInt64.toUInt64 &&& Int64.toUInt64 63)).toInt64 = uN x / 2 ^ k := by
  have h : ((nI k).toInt64.toUInt64 &&& Int64.toUInt64 63).toNat % 64 = k := by
    rw [nI_l (by omega), UInt64.toNat_and]
    have e : (lN k).toUInt64.toNat = k % 2 ^ 64 := rfl
    have e2 : (Int64.toUInt64 63).toNat = 2 ^ 6 - 1 := by decide
    rw [e, e2, Nat.and_two_pow_sub_one_eq_mod]
    omega
  rw [uN_shr, h]
/-! ===== unsigned comparison by xor with the least ===== -/
theorem lN_bv (n : Nat) : (lN n).toBitVec = BitVec.ofNat 64 n := rfl
theorem lN_nat {n : Nat} (h : n < 2 ^ 64) : (lN n).toBitVec.toNat = n := by rw [lN_bv, BitVec.toNat_ofNat]; exact Nat.mod_eq_of_lt h
theorem lN_xor (a b : Nat) : lN a ^^^ lN b = lN (a ^^^ b) := by
  apply Int64.toBitVec_inj.mp; rw [Int64.toBitVec_xor, lN_bv, lN_bv, lN_bv]; apply BitVec.eq_of_getLsbD_eq; intro i hi; simp [BitVec.getLsbD_ofNat, Nat.testBit_xor, hi]
theorem lN_ti {m : Nat} (h : m < 2 ^ 64) : (lN m).toInt = if m < 2 ^ 63 then (m : Int) else (m : Int) - 2 ^ 64 := by
  have c := BitVec.toInt_eq_toNat_cond (lN m).toBitVec
  rw [lN_nat h] at c
  show (lN m).toBitVec.toInt = _
  rw [c]
  split <;> split <;> omega
theorem xor63 {x : Nat} (h : x < 2 ^ 63) : x ^^^ 2 ^ 63 = 2 ^ 63 + x := by
  apply Nat.eq_of_testBit_eq
  intro i
  rw [Nat.testBit_xor, Nat.testBit_two_pow]
  rcases Nat.lt_trichotomy i 63 with z | z | z
  · rw [Nat.testBit_two_pow_add_gt z, decide_eq_false (by omega)]; simp
  · subst z; rw [Nat.testBit_two_pow_add_eq]; simp
  · have hp : 2 ^ 64 ≤ 2 ^ i := Nat.pow_le_pow_right (by decide) z
    rw [Nat.testBit_lt_two_pow (show x < 2 ^ i by omega), Nat.testBit_lt_two_pow (show 2 ^ 63 + x < 2 ^ i by omega), decide_eq_false (by omega)]; rfl
theorem xorS {a : Nat} (h : a < 2 ^ 64) : (lN a ^^^ (-9223372036854775808)).toInt = (a : Int) - 2 ^ 63 := by
  rw [show (-9223372036854775808 : Int64) = lN (2 ^ 63) from by decide +kernel, lN_xor]
  rcases Nat.lt_or_ge a (2 ^ 63) with z | z
  · rw [xor63 z, lN_ti (by omega), if_neg (by omega)]; omega
  · obtain ⟨x, rfl⟩ : ∃ x, a = 2 ^ 63 + x := ⟨a - 2 ^ 63, by omega⟩
    rw [← xor63 (by omega), Nat.xor_assoc, Nat.xor_self, Nat.xor_zero, lN_ti (by omega), if_pos (by omega), xor63 (by omega)]; omega
theorem ultL {a b : Nat} (ha : a < 2 ^ 64) (hb : b < 2 ^ 64) : ((lN b ^^^ (-9223372036854775808)) ≤ (lN a ^^^ (-9223372036854775808))) ↔ b ≤ a := by
  rw [Int64.le_iff_toInt_le, xorS ha, xorS hb]; omega
/-! ===== Int64 masks of n low bits ===== -/
theorem cr_bits (W U M : BitVec 64) : ((W &&& U) &&& (U &&& (M ^^^ BitVec.allOnes 64))) = 0#64 ↔ (W &&& U) &&& M = W &&& U := by
  constructor
  · intro h
    apply BitVec.eq_of_getLsbD_eq
    intro i hi
    have e := congrArg (fun x => BitVec.getLsbD x i) h
    simp only [BitVec.getLsbD_and, BitVec.getLsbD_xor, BitVec.getLsbD_allOnes, BitVec.getLsbD_zero, hi, decide_true] at e ⊢
    revert e
    cases W.getLsbD i <;> cases U.getLsbD i <;> cases M.getLsbD i <;> decide
  · intro h
    apply BitVec.eq_of_getLsbD_eq
    intro i hi
    have e := congrArg (fun x => BitVec.getLsbD x i) h
    simp only [BitVec.getLsbD_and, BitVec.getLsbD_xor, BitVec.getLsbD_allOnes, BitVec.getLsbD_zero, hi, decide_true] at e ⊢
    revert e
    cases W.getLsbD i <;> cases U.getLsbD i <;> cases M.getLsbD i <;> decide
theorem cr_mask (w U m : Int64) (n : Nat) (hm : m.toBitVec.toNat = 2 ^ n - 1) : ((w &&& U) &&& (U &&& (m ^^^ (-1)))) = 0 ↔ (w &&& U).toBitVec.toNat < 2 ^ n := by
  have e0 : (-1 : Int64).toBitVec = BitVec.allOnes 64 := by decide
  have z0 : (0 : Int64).toBitVec = 0#64 := by decide
  rw [← Int64.toBitVec_inj, z0, Int64.toBitVec_and, Int64.toBitVec_and, Int64.toBitVec_and, Int64.toBitVec_xor, e0, cr_bits]
  generalize w.toBitVec &&& U.toBitVec = T
  rw [← BitVec.toNat_inj, BitVec.toNat_and, hm, Nat.and_two_pow_sub_one_eq_mod]
  constructor
  · intro h
    have t := Nat.mod_lt T.toNat (Nat.two_pow_pos n)
    rw [h] at t
    exact t
  · exact Nat.mod_eq_of_lt
theorem cr_shr (t : Int64) (x : UInt64) (n : Nat) (hx : x.toNat % 64 = n) : (t.toUInt64 >>> x).toInt64 = 0 ↔ t.toBitVec.toNat < 2 ^ n := by
  rw [← Int64.toBitVec_inj, ← BitVec.toNat_inj]
  show (t.toUInt64 >>> x).toNat = 0 ↔ t.toUInt64.toNat < 2 ^ n
  rw [UInt64.toNat_shiftRight, hx, Nat.shiftRight_eq_div_pow]
  constructor
  · intro h
    have d : t.toUInt64.toNat / 2 ^ n < 1 := by
      rw [h]
      decide
    have e := (Nat.div_lt_iff_lt_mul (Nat.two_pow_pos n)).mp d
    rw [Nat.one_mul] at e
    exact e
  · exact Nat.div_eq_of_lt
theorem cr_amt (s : Int64) : ∃ n, n < 64 ∧ s &&& 63 = lN n ∧ (s.toUInt64 &&& Int64.toUInt64 63).toNat % 64 = n := by
  have e : (s.toUInt64 &&& Int64.toUInt64 63).toNat = s.toUInt64.toNat % 2 ^ 6 := by
    rw [UInt64.toNat_and, show (Int64.toUInt64 63).toNat = 2 ^ 6 - 1 from by decide, Nat.and_two_pow_sub_one_eq_mod]
  refine ⟨s.toUInt64.toNat % 2 ^ 6, by omega, ?_, by omega⟩
  rw [← Int64.toBitVec_inj, ← BitVec.toNat_inj]
  show (s.toUInt64 &&& Int64.toUInt64 63).toNat = (BitVec.ofNat 64 (s.toUInt64.toNat % 2 ^ 6)).toNat
  rw [e, BitVec.toNat_ofNat]
  omega
end
section
/-! plain facts to paste, each family by itself; over the kit's nI, lN and upd -/
/-! ===== drawers: more things than places ===== -/
theorem fb_holes : ∀ (m n : Nat) (f : Nat → Nat), (∀ i, i < n → f i < m) → (∀ i j, i < j → j < n → f i ≠ f j) → n ≤ m := by
  intro m
  induction m with
  | zero =>
    intro n f h1 _
    rcases Nat.eq_zero_or_pos n with h | h
    · omega
    · exact absurd (h1 0 h) (Nat.not_lt_zero _)
  | succ m ih =>
    intro n f h1 h2
    by_cases hx : ∃ i, i < n ∧ f i = m
    · obtain ⟨a, ha, hfa⟩ := hx
      have hg := ih (n - 1) (fun i => if i < a then f i else f (i + 1)) (by
        intro i hi
        by_cases q : i < a
        · simp only [if_pos q]
          have b1 := h1 i (by omega)
          have b2 := h2 i a q ha
          omega
        · simp only [if_neg q]
          have b1 := h1 (i + 1) (by omega)
          have b2 := h2 a (i + 1) (by omega) (by omega)
          omega) (by
        intro i j hij hj
        by_cases q : i < a
        · by_cases r : j < a
          · simp only [if_pos q, if_pos r]
            exact h2 i j hij (by omega)
          · simp only [if_pos q, if_neg r]
            exact h2 i (j + 1) (by omega) (by omega)
        · have r : ¬ j < a := by omega
          simp only [if_neg q, if_neg r]
          exact h2 (i + 1) (j + 1) (by omega) (by omega))
      omega
    · have hg := ih n f (fun i hi => by
        have b1 := h1 i hi
        have b2 : f i ≠ m := fun e => hx ⟨i, hi, e⟩
        omega) h2
      omega
/-- two of them in one place -/
theorem fb_twice {m n : Nat} {f : Nat → Nat} (h : ∀ i, i < n → f i < m) (hm : m < n) : ∃ i j, i < j ∧ j < n ∧ f i = f j := by
  refine Classical.byContradiction fun hx => ?_
  have := fb_holes m n f h (fun i j hij hj e => hx ⟨i, j, hij, hj, e⟩)
  omega
/-- as many as places, none twice: each place is taken -/
theorem fb_onto {n : Nat} {f : Nat → Nat} (h : ∀ i, i < n → f i < n) (h2 : ∀ i j, i < j → j < n → f i ≠ f j) {y : Nat} (hy : y < n) : ∃ i, i < n ∧ f i = y := by
  refine Classical.byContradiction fun hx => ?_
  have hne : ∀ i, i < n → f i ≠ y := fun i hi e => hx ⟨i, hi, e⟩
  have := fb_holes (n - 1) n (fun i => if f i < y then f i else f i - 1) (by
    intro i hi
    have b1 := h i hi
    have b2 := hne i hi
    by_cases q : f i < y
    · simp only [if_pos q]; omega
    · simp only [if_neg q]; omega) (by
    intro i j hij hj
    have b1 := hne i (by omega)
    have b2 := hne j hj
    have b3 := h2 i j hij hj
    by_cases q : f i < y
    · by_cases r : f j < y
      · simp only [if_pos q, if_pos r]; exact b3
      · simp only [if_pos q, if_neg r]; omega
    · by_cases r : f j < y
      · simp only [if_neg q, if_pos r]; omega
      · simp only [if_neg q, if_neg r]; omega)
  omega
/-! ===== how many places have a property ===== -/
def fb_ct (p : Nat → Bool) : Nat → Nat
  | 0 => 0
  | n + 1 => fb_ct p n + (if p n then 1 else 0)
theorem fb_ct_succ (p : Nat → Bool) (n : Nat) : fb_ct p (n + 1) = fb_ct p n + (if p n then 1 else 0) := rfl
theorem fb_ct_le (p : Nat → Bool) : ∀ n, fb_ct p n ≤ n
  | 0 => Nat.le_refl _
  | n + 1 => by
    have h := fb_ct_le p n
    rw [fb_ct_succ]
    split <;> omega
theorem fb_ct_step (p : Nat → Bool) (m : Nat) : ∀ n, fb_ct p m ≤ fb_ct p (m + n)
  | 0 => Nat.le_refl _
  | n + 1 => by
    have h := fb_ct_step p m n
    show fb_ct p m ≤ fb_ct p (m + n + 1)
    rw [fb_ct_succ]
    omega
theorem fb_ct_mono (p : Nat → Bool) {m n : Nat} (h : m ≤ n) : fb_ct p m ≤ fb_ct p n := by
  have := fb_ct_step p m (n - m)
  rwa [Nat.add_sub_cancel' h] at this
theorem fb_ct_cong {p q : Nat → Bool} : ∀ {n : Nat}, (∀ k, k < n → p k = q k) → fb_ct p n = fb_ct q n
  | 0, _ => rfl
  | n + 1, h => by
    rw [fb_ct_succ, fb_ct_succ, fb_ct_cong (fun k hk => h k (by omega)), h n (by omega)]
/-- one place changed -/
theorem fb_ct_out (p : Nat → Bool) (b : Bool) {i n : Nat} (h : n ≤ i) : fb_ct (fun k => if k = i then b else p k) n = fb_ct p n :=
  fb_ct_cong fun k hk => if_neg (by omega)
theorem fb_ct_upd (p : Nat → Bool) (b : Bool) {i : Nat} : ∀ {n : Nat}, i < n → fb_ct (fun k => if k = i then b else p k) n + (if p i then 1 else 0) = fb_ct p n + (if b then 1 else 0)
  | 0, h => absurd h (Nat.not_lt_zero i)
  | n + 1, h => by
    rw [fb_ct_succ, fb_ct_succ]
    rcases Nat.lt_or_ge i n with q | q
    · have := fb_ct_upd p b q
      have e : (if n = i then b else p n) = p n := if_neg (by omega)
      rw [e]
      omega
    · have e : i = n := by omega
      subst e
      rw [fb_ct_out p b (Nat.le_refl _)]
      simp only [if_true]
      omega
theorem fb_ct_sub {p q : Nat → Bool} : ∀ {n : Nat}, (∀ k, k < n → p k = true → q k = true) → fb_ct p n ≤ fb_ct q n
  | 0, _ => Nat.le_refl _
  | n + 1, h => by
    have h1 := fb_ct_sub (n := n) (p := p) (q := q) (fun k hk => h k (by omega))
    have h2 := h n (by omega)
    rw [fb_ct_succ, fb_ct_succ]
    cases hp : p n <;> cases hq : q n <;> simp_all <;> omega
theorem fb_ct_or {p q : Nat → Bool} : ∀ {n : Nat}, (∀ k, k < n → ¬ (p k = true ∧ q k = true)) → fb_ct (fun k => p k || q k) n = fb_ct p n + fb_ct q n
  | 0, _ => rfl
  | n + 1, h => by
    have h1 := fb_ct_or (n := n) (p := p) (q := q) (fun k hk => h k (by omega))
    have h2 := h n (by omega)
    rw [fb_ct_succ, fb_ct_succ, fb_ct_succ, h1]
    cases hp : p n <;> cases hq : q n <;> simp_all <;> omega
theorem fb_ct_not (p : Nat → Bool) : ∀ n, fb_ct p n + fb_ct (fun k => !p k) n = n
  | 0 => rfl
  | n + 1 => by
    have h := fb_ct_not p n
    rw [fb_ct_succ, fb_ct_succ]
    cases p n <;> simp <;> omega
theorem fb_ct_split (p : Nat → Bool) (m : Nat) : ∀ n, fb_ct p (m + n) = fb_ct p m + fb_ct (fun k => p (m + k)) n
  | 0 => rfl
  | n + 1 => by
    have h := fb_ct_split p m n
    show fb_ct p (m + n + 1) = _
    rw [fb_ct_succ, fb_ct_succ, h, Nat.add_assoc]
theorem fb_ct_zero {p : Nat → Bool} : ∀ {n : Nat}, fb_ct p n = 0 ↔ ∀ k, k < n → p k = false
  | 0 => ⟨fun _ k hk => absurd hk (Nat.not_lt_zero k), fun _ => rfl⟩
  | n + 1 => by
    have h := fb_ct_zero (p := p) (n := n)
    rw [fb_ct_succ]
    constructor
    · intro e k hk
      have e1 : fb_ct p n = 0 := by omega
      rcases Nat.lt_or_ge k n with q | q
      · exact h.mp e1 k q
      · have ek : k = n := by omega
        subst ek
        cases hp : p k
        · rfl
        · simp [hp] at e
    · intro a
      rw [h.mpr (fun k hk => a k (by omega)), a n (by omega)]
      rfl
theorem fb_ct_pos {p : Nat → Bool} {n : Nat} : 0 < fb_ct p n ↔ ∃ k, k < n ∧ p k = true := by
  constructor
  · intro h
    refine Classical.byContradiction fun hx => ?_
    have := fb_ct_zero.mpr (fun k hk => by
      cases hp : p k
      · rfl
      · exact absurd ⟨k, hk, hp⟩ hx : ∀ k, k < n → p k = false)
    omega
  · rintro ⟨k, hk, hp⟩
    rcases Nat.eq_zero_or_pos (fb_ct p n) with e | e
    · have := fb_ct_zero.mp e k hk
      rw [this] at hp
      cases hp
    · exact e
theorem fb_ct_all {p : Nat → Bool} {n : Nat} : fb_ct p n = n ↔ ∀ k, k < n → p k = true := by
  have h := fb_ct_not p n
  constructor
  · intro e k hk
    have z : fb_ct (fun k => !p k) n = 0 := by omega
    have := fb_ct_zero.mp z k hk
    cases hp : p k
    · simp [hp] at this
    · rfl
  · intro a
    have z : fb_ct (fun k => !p k) n = 0 := fb_ct_zero.mpr (fun k hk => by simp [a k hk])
    omega
/-- the k-th place with the property -/
theorem fb_ct_kth {p : Nat → Bool} {k : Nat} : ∀ {n : Nat}, k < fb_ct p n → ∃ i, i < n ∧ p i = true ∧ fb_ct p i = k
  | 0, h => absurd h (Nat.not_lt_zero k)
  | n + 1, h => by
    rcases Nat.lt_or_ge k (fb_ct p n) with q | q
    · obtain ⟨i, h1, h2⟩ := fb_ct_kth q
      exact ⟨i, by omega, h2⟩
    · rw [fb_ct_succ] at h
      cases hp : p n
      · simp [hp] at h; omega
      · simp [hp] at h
        exact ⟨n, by omega, hp, by omega⟩
theorem fb_ct_kth_one {p : Nat → Bool} {i j : Nat} (hi : p i = true) (hj : p j = true) (e : fb_ct p i = fb_ct p j) : i = j := by
  have key : ∀ a b : Nat, a < b → p a = true → fb_ct p a < fb_ct p b := by
    intro a b hab ha
    have h := fb_ct_mono p (show a + 1 ≤ b from hab)
    rw [fb_ct_succ, ha] at h
    simp at h
    omega
  rcases Nat.lt_trichotomy i j with q | q | q
  · have := key i j q hi; omega
  · exact q
  · have := key j i q hj; omega
/-! ===== sums over a range: one place changed, parts, bounds ===== -/
def fb_sm (f : Nat → Nat) : Nat → Nat
  | 0 => 0
  | n + 1 => fb_sm f n + f n
theorem fb_sm_succ (f : Nat → Nat) (n : Nat) : fb_sm f (n + 1) = fb_sm f n + f n := rfl
theorem fb_sm_cong {f g : Nat → Nat} : ∀ {n : Nat}, (∀ k, k < n → f k = g k) → fb_sm f n = fb_sm g n
  | 0, _ => rfl
  | n + 1, h => by rw [fb_sm_succ, fb_sm_succ, fb_sm_cong (fun k hk => h k (by omega)), h n (by omega)]
theorem fb_sm_out (f : Nat → Nat) (v : Nat) {i n : Nat} (h : n ≤ i) : fb_sm (fun k => if k = i then v else f k) n = fb_sm f n :=
  fb_sm_cong fun k hk => if_neg (by omega)
theorem fb_sm_upd (f : Nat → Nat) (v : Nat) {i : Nat} : ∀ {n : Nat}, i < n → fb_sm (fun k => if k = i then v else f k) n + f i = fb_sm f n + v
  | 0, h => absurd h (Nat.not_lt_zero i)
  | n + 1, h => by
    rw [fb_sm_succ, fb_sm_succ]
    rcases Nat.lt_or_ge i n with q | q
    · have := fb_sm_upd f v q
      have e : (if n = i then v else f n) = f n := if_neg (by omega)
      rw [e]
      omega
    · have e : i = n := by omega
      subst e
      rw [fb_sm_out f v (Nat.le_refl _)]
      simp only [if_true]
      omega
theorem fb_sm_add (f g : Nat → Nat) : ∀ n, fb_sm (fun k => f k + g k) n = fb_sm f n + fb_sm g n
  | 0 => rfl
  | n + 1 => by
    have h := fb_sm_add f g n
    rw [fb_sm_succ, fb_sm_succ, fb_sm_succ, h]
    omega
theorem fb_sm_le {f g : Nat → Nat} : ∀ {n : Nat}, (∀ k, k < n → f k ≤ g k) → fb_sm f n ≤ fb_sm g n
  | 0, _ => Nat.le_refl _
  | n + 1, h => by
    have h1 := fb_sm_le (n := n) (f := f) (g := g) (fun k hk => h k (by omega))
    have h2 := h n (by omega)
    rw [fb_sm_succ, fb_sm_succ]
    omega
theorem fb_sm_const (c : Nat) : ∀ n, fb_sm (fun _ => c) n = n * c
  | 0 => by rw [Nat.zero_mul]; rfl
  | n + 1 => by rw [fb_sm_succ, fb_sm_const c n, Nat.succ_mul]
theorem fb_sm_bound {f : Nat → Nat} {c n : Nat} (h : ∀ k, k < n → f k ≤ c) : fb_sm f n ≤ n * c := by
  rw [← fb_sm_const c n]
  exact fb_sm_le h
theorem fb_sm_mono (f : Nat → Nat) (m : Nat) : ∀ n, fb_sm f m ≤ fb_sm f (m + n)
  | 0 => Nat.le_refl _
  | n + 1 => by
    have h := fb_sm_mono f m n
    show fb_sm f m ≤ fb_sm f (m + n + 1)
    rw [fb_sm_succ]
    omega
theorem fb_sm_part (f : Nat → Nat) {i n : Nat} (h : i < n) : fb_sm f i + f i ≤ fb_sm f n := by
  have := fb_sm_mono f (i + 1) (n - (i + 1))
  rw [fb_sm_succ, show i + 1 + (n - (i + 1)) = n by omega] at this
  exact this
theorem fb_sm_split (f : Nat → Nat) (m : Nat) : ∀ n, fb_sm f (m + n) = fb_sm f m + fb_sm (fun k => f (m + k)) n
  | 0 => rfl
  | n + 1 => by
    have h := fb_sm_split f m n
    show fb_sm f (m + n + 1) = _
    rw [fb_sm_succ, fb_sm_succ, h, Nat.add_assoc]
theorem fb_sm_zero {f : Nat → Nat} {n : Nat} (h : fb_sm f n = 0) : ∀ k, k < n → f k = 0 := fun k hk => by
  have := fb_sm_part f hk
  omega
/-- the same over whole numbers -/
def fb_si (f : Nat → Int) : Nat → Int
  | 0 => 0
  | n + 1 => fb_si f n + f n
theorem fb_si_succ (f : Nat → Int) (n : Nat) : fb_si f (n + 1) = fb_si f n + f n := rfl
theorem fb_si_cong {f g : Nat → Int} : ∀ {n : Nat}, (∀ k, k < n → f k = g k) → fb_si f n = fb_si g n
  | 0, _ => rfl
  | n + 1, h => by rw [fb_si_succ, fb_si_succ, fb_si_cong (fun k hk => h k (by omega)), h n (by omega)]
theorem fb_si_out (f : Nat → Int) (v : Int) {i n : Nat} (h : n ≤ i) : fb_si (fun k => if k = i then v else f k) n = fb_si f n :=
  fb_si_cong fun k hk => if_neg (by omega)
theorem fb_si_upd (f : Nat → Int) (v : Int) {i : Nat} : ∀ {n : Nat}, i < n → fb_si (fun k => if k = i then v else f k) n = fb_si f n - f i + v
  | 0, h => absurd h (Nat.not_lt_zero i)
  | n + 1, h => by
    rw [fb_si_succ, fb_si_succ]
    rcases Nat.lt_or_ge i n with q | q
    · have := fb_si_upd f v q
      have e : (if n = i then v else f n) = f n := if_neg (by omega)
      rw [e]
      omega
    · have e : i = n := by omega
      subst e
      rw [fb_si_out f v (Nat.le_refl _)]
      simp only [if_true]
      omega
theorem fb_si_add (f g : Nat → Int) : ∀ n, fb_si (fun k => f k + g k) n = fb_si f n + fb_si g n
  | 0 => rfl
  | n + 1 => by
    have h := fb_si_add f g n
    rw [fb_si_succ, fb_si_succ, fb_si_succ, h]
    omega
theorem fb_si_sub (f g : Nat → Int) : ∀ n, fb_si (fun k => f k - g k) n = fb_si f n - fb_si g n
  | 0 => rfl
  | n + 1 => by
    have h := fb_si_sub f g n
    rw [fb_si_succ, fb_si_succ, fb_si_succ, h]
    omega
theorem fb_si_mul (c : Int) (f : Nat → Int) : ∀ n, fb_si (fun k => c * f k) n = c * fb_si f n
  | 0 => (Int.mul_zero c).symm
  | n + 1 => by
    have h := fb_si_mul c f n
    rw [fb_si_succ, fb_si_succ, h, Int.mul_add]
theorem fb_si_split (f : Nat → Int) (m : Nat) : ∀ n, fb_si f (m + n) = fb_si f m + fb_si (fun k => f (m + k)) n
  | 0 => (Int.add_zero _).symm
  | n + 1 => by
    have h := fb_si_split f m n
    show fb_si f (m + n + 1) = _
    rw [fb_si_succ, fb_si_succ, h, Int.add_assoc]
theorem fb_si_nat (f : Nat → Nat) : ∀ n, fb_si (fun k => (f k : Int)) n = (fb_sm f n : Int)
  | 0 => rfl
  | n + 1 => by
    have h := fb_si_nat f n
    rw [fb_si_succ, fb_sm_succ, h]
    omega
theorem fb_si_bound {f : Nat → Int} {c : Int} (hc : 0 ≤ c) : ∀ {n : Nat}, (∀ k, k < n → -c ≤ f k ∧ f k ≤ c) → -(n * c) ≤ fb_si f n ∧ fb_si f n ≤ n * c
  | 0, _ => by simp [fb_si]
  | n + 1, h => by
    have h1 := fb_si_bound (n := n) (f := f) hc (fun k hk => h k (by omega))
    have h2 := h n (by omega)
    have e : ((n + 1 : Nat) : Int) * c = n * c + c := by rw [Int.natCast_add, Int.add_mul]; simp
    rw [fb_si_succ, e]
    omega
/-! ===== bits of a long that isn't negative ===== -/
theorem fb_andL (a b : Nat) : lN a &&& lN b = lN (a &&& b) := by
  apply Int64.toBitVec_inj.1
  show BitVec.ofNat 64 a &&& BitVec.ofNat 64 b = BitVec.ofNat 64 (a &&& b)
  apply BitVec.eq_of_getLsbD_eq
  intro i hi
  simp [hi]
theorem fb_orL (a b : Nat) : lN a ||| lN b = lN (a ||| b) := by
  apply Int64.toBitVec_inj.1
  show BitVec.ofNat 64 a ||| BitVec.ofNat 64 b = BitVec.ofNat 64 (a ||| b)
  apply BitVec.eq_of_getLsbD_eq
  intro i hi
  simp [hi]
theorem fb_xorL (a b : Nat) : lN a ^^^ lN b = lN (a ^^^ b) := by
  apply Int64.toBitVec_inj.1
  show BitVec.ofNat 64 a ^^^ BitVec.ofNat 64 b = BitVec.ofNat 64 (a ^^^ b)
  apply BitVec.eq_of_getLsbD_eq
  intro i hi
  simp [hi]
theorem fb_xorI (a b : Nat) : nI a ^^^ nI b = nI (a ^^^ b) := by
  apply Int32.toBitVec_inj.1
  show BitVec.ofNat 32 a ^^^ BitVec.ofNat 32 b = BitVec.ofNat 32 (a ^^^ b)
  apply BitVec.eq_of_getLsbD_eq
  intro i hi
  simp [hi]
theorem fb_maskL (n k : Nat) : lN n &&& lN (2 ^ k - 1) = lN (n % 2 ^ k) := by rw [fb_andL, Nat.and_two_pow_sub_one_eq_mod]
theorem fb_or_sumL {a k : Nat} (b : Nat) (h : a < 2 ^ k) : lN (2 ^ k * b) ||| lN a = lN (2 ^ k * b + a) := by rw [fb_orL, Nat.two_pow_add_eq_or_of_lt h]
theorem fb_lN_inj {a b : Nat} (ha : a < 2 ^ 63) (hb : b < 2 ^ 63) : lN a = lN b ↔ a = b := by
  constructor
  · intro h
    have h1 : (BitVec.ofNat 64 a).toNat = (BitVec.ofNat 64 b).toNat := congrArg (fun x : Int64 => x.toBitVec.toNat) h
    rw [BitVec.toNat_ofNat, BitVec.toNat_ofNat, Nat.mod_eq_of_lt (by omega), Nat.mod_eq_of_lt (by omega)] at h1
    exact h1
  · rintro rfl; rfl
theorem fb_bit_nat (n j : Nat) : n &&& 2 ^ j = 0 ↔ n.testBit j = false := by
  constructor
  · intro h
    have h1 : (n &&& 2 ^ j).testBit j = false := by rw [h]; simp
    rw [Nat.testBit_and] at h1
    simpa using h1
  · intro h
    apply Nat.eq_of_testBit_eq
    intro i
    rw [Nat.testBit_and]
    by_cases hi : j = i
    · subst hi; simp [h]
    · first | (simp [Nat.testBit_two_pow, hi]; done) | (simp [Nat.testBit_two_pow_of_ne hi]; done)
/-- one bit of a long -/
theorem fb_bitL {n j : Nat} (hj : j < 63) : lN n &&& lN (2 ^ j) = 0 ↔ n.testBit j = false := by
  have h2 : (2 : Nat) ^ j < 2 ^ 63 := Nat.pow_lt_pow_right (by decide) hj
  have hle : n &&& 2 ^ j ≤ 2 ^ j := Nat.and_le_right
  rw [fb_andL, ← fb_bit_nat, show (0 : Int64) = lN 0 from rfl]
  exact fb_lN_inj (by omega) (by decide)
/-- a bit set, a bit taken off -/
theorem fb_bit_set (n j i : Nat) : (n ||| 2 ^ j).testBit i = (n.testBit i || decide (i = j)) := by
  rw [Nat.testBit_or]
  by_cases h : j = i
  · subst h; simp
  · have h2 : ¬ i = j := fun e => h e.symm
    first | (simp [Nat.testBit_two_pow, h, h2]; done) | (simp [Nat.testBit_two_pow_of_ne h, h2]; done)
theorem fb_bit_flip (n j i : Nat) : (n ^^^ 2 ^ j).testBit i = (n.testBit i ^^ decide (i = j)) := by
  rw [Nat.testBit_xor]
  by_cases h : j = i
  · subst h; simp
  · have h2 : ¬ i = j := fun e => h e.symm
    first | (simp [Nat.testBit_two_pow, h, h2]; done) | (simp [Nat.testBit_two_pow_of_ne h, h2]; done)
/-! ===== a stretch of an array written over by a function ===== -/
def fb_put {α : Type} (f g : Nat → α) (a n : Nat) : Nat → α := fun k => if a ≤ k ∧ k < a + n then g (k - a) else f k
theorem fb_put_0 {α : Type} (f g : Nat → α) (a : Nat) : fb_put f g a 0 = f := funext fun k => if_neg (by omega)
theorem fb_put_in {α : Type} {f g : Nat → α} {a n k : Nat} (h1 : a ≤ k) (h2 : k < a + n) : fb_put f g a n k = g (k - a) := if_pos ⟨h1, h2⟩
theorem fb_put_out {α : Type} {f g : Nat → α} {a n k : Nat} (h : k < a ∨ a + n ≤ k) : fb_put f g a n k = f k := if_neg (by omega)
theorem fb_put_succ (f g : Nat → Int32) (a n : Nat) : upd (fb_put f g a n) (a + n) (g n) = fb_put f g a (n + 1) := by
  funext k
  by_cases h : k = a + n
  · subst h
    simp [upd, fb_put]
  · by_cases h1 : a ≤ k ∧ k < a + n
    · have h2 : a ≤ k ∧ k < a + (n + 1) := by omega
      simp only [upd, fb_put, if_neg h, if_pos h1, if_pos h2]
    · have h2 : ¬ (a ≤ k ∧ k < a + (n + 1)) := by omega
      simp only [upd, fb_put, if_neg h, if_neg h1, if_neg h2]
/-- .. from the far end down -/
theorem fb_put_down (f g : Nat → Int32) {a n m : Nat} (h : m < n) : upd (fb_put f (fun k => g (k + (m + 1))) (a + (m + 1)) (n - (m + 1))) (a + m) (g m) = fb_put f (fun k => g (k + m)) (a + m) (n - m) := by
  funext k
  by_cases h0 : k = a + m
  · subst h0
    simp only [upd, if_true]
    rw [fb_put_in (by omega) (by omega)]
    exact congrArg g (by omega)
  · simp only [upd, if_neg h0]
    by_cases h1 : a + (m + 1) ≤ k ∧ k < a + (m + 1) + (n - (m + 1))
    · rw [fb_put_in h1.1 h1.2, fb_put_in (by omega) (by omega)]
      exact congrArg g (by omega)
    · rw [fb_put_out (by omega), fb_put_out (by omega)]
theorem fb_put_cong {α : Type} {f f2 g g2 : Nat → α} {a n : Nat} (hf : ∀ k, (k < a ∨ a + n ≤ k) → f k = f2 k) (hg : ∀ k, k < n → g k = g2 k) : fb_put f g a n = fb_put f2 g2 a n := by
  funext k
  by_cases h : a ≤ k ∧ k < a + n
  · rw [fb_put_in h.1 h.2, fb_put_in h.1 h.2, hg _ (by omega)]
  · rw [fb_put_out (by omega), fb_put_out (by omega), hf _ (by omega)]
/-! ===== the least, the first, the best so far; that there is one alone ===== -/
theorem fb_first {p : Nat → Prop} [DecidablePred p] : ∀ {n : Nat}, (∃ i, i < n ∧ p i) → ∃ i, i < n ∧ p i ∧ ∀ j, j < i → ¬ p j
  | 0, h => by obtain ⟨i, hi, -⟩ := h; exact absurd hi (Nat.not_lt_zero i)
  | n + 1, h => by
    by_cases q : ∃ i, i < n ∧ p i
    · obtain ⟨i, h1, h2⟩ := fb_first q
      exact ⟨i, by omega, h2⟩
    · obtain ⟨i, h1, h2⟩ := h
      have e : i = n := by
        rcases Nat.lt_or_ge i n with r | r
        · exact absurd ⟨i, r, h2⟩ q
        · omega
      subst e
      exact ⟨i, by omega, h2, fun j hj hp => q ⟨j, hj, hp⟩⟩
theorem fb_first_one {p : Nat → Prop} {i j : Nat} (hi : p i) (hi2 : ∀ k, k < i → ¬ p k) (hj : p j) (hj2 : ∀ k, k < j → ¬ p k) : i = j := by
  rcases Nat.lt_trichotomy i j with q | q | q
  · exact absurd hi (hj2 i q)
  · exact q
  · exact absurd hj (hi2 j q)
theorem fb_last {p : Nat → Prop} [DecidablePred p] : ∀ {n : Nat}, (∃ i, i < n ∧ p i) → ∃ i, i < n ∧ p i ∧ ∀ j, i < j → j < n → ¬ p j
  | 0, h => by obtain ⟨i, hi, -⟩ := h; exact absurd hi (Nat.not_lt_zero i)
  | n + 1, h => by
    by_cases q : p n
    · exact ⟨n, by omega, q, fun j h1 h2 => by omega⟩
    · obtain ⟨i, h1, h2⟩ := h
      have hi : i < n := by
        rcases Nat.lt_or_ge i n with r | r
        · exact r
        · have e : i = n := by omega
          subst e
          exact absurd h2 q
      obtain ⟨i2, a1, a2, a3⟩ := fb_last (n := n) ⟨i, hi, h2⟩
      refine ⟨i2, by omega, a2, fun j b1 b2 => ?_⟩
      rcases Nat.lt_or_ge j n with r | r
      · exact a3 j b1 r
      · have e : j = n := by omega
        subst e
        exact q
/-- the first greatest -/
theorem fb_best (f : Nat → Int) : ∀ {n : Nat}, 0 < n → ∃ i, i < n ∧ (∀ j, j < n → f j ≤ f i) ∧ ∀ j, j < i → f j < f i
  | 0, h => absurd h (Nat.lt_irrefl 0)
  | 1, _ => ⟨0, by omega, fun j hj => by have e : j = 0 := by omega
                                         subst e; exact Int.le_refl _, fun j hj => absurd hj (Nat.not_lt_zero j)⟩
  | n + 2, _ => by
    obtain ⟨i, h1, h2, h3⟩ := fb_best f (n := n + 1) (by omega)
    by_cases q : f i < f (n + 1)
    · refine ⟨n + 1, by omega, fun j hj => ?_, fun j hj => ?_⟩
      · rcases Nat.lt_or_ge j (n + 1) with r | r
        · have := h2 j r; omega
        · have e : j = n + 1 := by omega
          subst e; exact Int.le_refl _
      · have := h2 j hj; omega
    · refine ⟨i, by omega, fun j hj => ?_, h3⟩
      rcases Nat.lt_or_ge j (n + 1) with r | r
      · exact h2 j r
      · have e : j = n + 1 := by omega
        subst e; omega
theorem fb_best_one {f : Nat → Int} {n i j : Nat} (hi : i < n) (hi2 : ∀ k, k < n → f k ≤ f i) (hi3 : ∀ k, k < i → f k < f i) (hj : j < n) (hj2 : ∀ k, k < n → f k ≤ f j) (hj3 : ∀ k, k < j → f k < f j) : i = j := by
  rcases Nat.lt_trichotomy i j with q | q | q
  · have a := hj3 i q
    have b := hi2 j hj
    omega
  · exact q
  · have a := hi3 j q
    have b := hj2 i hi
    omega
/-- the first least -/
theorem fb_low (f : Nat → Int) {n : Nat} (h : 0 < n) : ∃ i, i < n ∧ (∀ j, j < n → f i ≤ f j) ∧ ∀ j, j < i → f i < f j := by
  obtain ⟨i, h1, h2, h3⟩ := fb_best (fun k => -f k) h
  exact ⟨i, h1, fun j hj => by have := h2 j hj; omega, fun j hj => by have := h3 j hj; omega⟩
/-! ===== signed ints as whole numbers, within bounds ===== -/
theorem fb_rng (x : Int32) : -2147483648 ≤ x.toInt ∧ x.toInt < 2147483648 := by
  have h1 := Int32.le_toInt x
  have h2 := Int32.toInt_lt x
  omega
theorem fb_bmod {z : Int} (h1 : -2147483648 ≤ z) (h2 : z < 2147483648) : z.bmod (2 ^ 32) = z := by
  rw [Int.bmod_eq_of_le (by omega) (by omega)]
theorem fb_addI {x y : Int32} (h1 : -2147483648 ≤ x.toInt + y.toInt) (h2 : x.toInt + y.toInt < 2147483648) : (x + y).toInt = x.toInt + y.toInt := by
  rw [Int32.toInt_add, fb_bmod h1 h2]
theorem fb_subI {x y : Int32} (h1 : -2147483648 ≤ x.toInt - y.toInt) (h2 : x.toInt - y.toInt < 2147483648) : (x - y).toInt = x.toInt - y.toInt := by
  rw [Int32.toInt_sub, fb_bmod h1 h2]
theorem fb_mulI {x y : Int32} (h1 : -2147483648 ≤ x.toInt * y.toInt) (h2 : x.toInt * y.toInt < 2147483648) : (x * y).toInt = x.toInt * y.toInt := by
  rw [Int32.toInt_mul, fb_bmod h1 h2]
theorem fb_negI {x : Int32} (h : x.toInt ≠ -2147483648) : (-x).toInt = -x.toInt := by
  have := fb_rng x
  rw [Int32.toInt_neg, fb_bmod (by omega) (by omega)]
theorem fb_ofI {z : Int} (h1 : -2147483648 ≤ z) (h2 : z < 2147483648) : (Int32.ofInt z).toInt = z := by
  rw [Int32.toInt_ofInt, fb_bmod h1 h2]
theorem fb_asI (x : Int32) : Int32.ofInt x.toInt = x := Int32.ofInt_toInt x
theorem fb_rngL (x : Int64) : -9223372036854775808 ≤ x.toInt ∧ x.toInt < 9223372036854775808 := by
  have h1 := Int64.le_toInt x
  have h2 := Int64.toInt_lt x
  omega
theorem fb_bmodL {z : Int} (h1 : -9223372036854775808 ≤ z) (h2 : z < 9223372036854775808) : z.bmod (2 ^ 64) = z := by
  rw [Int.bmod_eq_of_le (by omega) (by omega)]
theorem fb_addL {x y : Int64} (h1 : -9223372036854775808 ≤ x.toInt + y.toInt) (h2 : x.toInt + y.toInt < 9223372036854775808) : (x + y).toInt = x.toInt + y.toInt := by
  rw [Int64.toInt_add, fb_bmodL h1 h2]
theorem fb_subL {x y : Int64} (h1 : -9223372036854775808 ≤ x.toInt - y.toInt) (h2 : x.toInt - y.toInt < 9223372036854775808) : (x - y).toInt = x.toInt - y.toInt := by
  rw [Int64.toInt_sub, fb_bmodL h1 h2]
theorem fb_mulL {x y : Int64} (h1 : -9223372036854775808 ≤ x.toInt * y.toInt) (h2 : x.toInt * y.toInt < 9223372036854775808) : (x * y).toInt = x.toInt * y.toInt := by
  rw [Int64.toInt_mul, fb_bmodL h1 h2]
/-! ===== cuts of what is narrow already ===== -/
theorem fb_byte {x : Int32} (h1 : -128 ≤ x.toInt) (h2 : x.toInt < 128) : x.toInt8.toInt32 = x := by
  apply Int32.toInt_inj.1
  rw [Int8.toInt_toInt32, Int32.toInt_toInt8, Int.bmod_eq_of_le (by omega) (by omega)]
theorem fb_short {x : Int32} (h1 : -32768 ≤ x.toInt) (h2 : x.toInt < 32768) : x.toInt16.toInt32 = x := by
  apply Int32.toInt_inj.1
  rw [Int16.toInt_toInt32, Int32.toInt_toInt16, Int.bmod_eq_of_le (by omega) (by omega)]
theorem fb_byte_rng (x : Int32) : -128 ≤ x.toInt8.toInt32.toInt ∧ x.toInt8.toInt32.toInt < 128 := by
  rw [Int8.toInt_toInt32]
  have h1 := Int8.le_toInt x.toInt8
  have h2 := Int8.toInt_lt x.toInt8
  omega
theorem fb_short_rng (x : Int32) : -32768 ≤ x.toInt16.toInt32.toInt ∧ x.toInt16.toInt32.toInt < 32768 := by
  rw [Int16.toInt_toInt32]
  have h1 := Int16.le_toInt x.toInt16
  have h2 := Int16.toInt_lt x.toInt16
  omega
theorem fb_byte_twice (x : Int32) : x.toInt8.toInt32.toInt8.toInt32 = x.toInt8.toInt32 := fb_byte (fb_byte_rng x).1 (fb_byte_rng x).2
theorem fb_short_twice (x : Int32) : x.toInt16.toInt32.toInt16.toInt32 = x.toInt16.toInt32 := fb_short (fb_short_rng x).1 (fb_short_rng x).2
theorem fb_char {n : Nat} (h : n < 65536) : (nI n).toUInt32.toUInt16.toUInt32.toInt32 = nI n := by
  apply Int32.toBitVec_inj.1
  apply BitVec.eq_of_toNat_eq
  have e1 : (nI n).toBitVec.toNat = n := by
    show (BitVec.ofNat 32 n).toNat = n
    rw [BitVec.toNat_ofNat, Nat.mod_eq_of_lt (by omega)]
  have e2 : ((nI n).toUInt32.toUInt16.toUInt32).toNat = n := by
    rw [UInt16.toNat_toUInt32, UInt32.toNat_toUInt16]
    show (nI n).toBitVec.toNat % 2 ^ 16 = n
    rw [e1, Nat.mod_eq_of_lt (by omega)]
  rw [e1]
  exact e2
end
section
/-! z: whole numbers for ints and longs; the rows of the kit, turned to them -/
def iZ (z : Int) : Int32 := Int32.ofInt z
def lZ (z : Int) : Int64 := Int64.ofInt z
/-- 2 to the k -/
def pw (k : Int) : Int := 2 ^ k.toNat
theorem pw_pos (k : Int) : 0 < pw k := Int.pow_pos (by decide)
theorem pw_0 : pw 0 = 1 := rfl
theorem pw_1 : pw 1 = 2 := rfl
theorem pw_s {k : Int} (h : 0 ≤ k) : pw (k + 1) = 2 * pw k := by
  have e : (k + 1).toNat = k.toNat + 1 := by omega
  unfold pw
  rw [e, Int.pow_succ, Int.mul_comm]
theorem pw_add {a b : Int} (ha : 0 ≤ a) (hb : 0 ≤ b) : pw (a + b) = pw a * pw b := by
  have e : (a + b).toNat = a.toNat + b.toNat := by omega
  unfold pw
  rw [e, Int.pow_add]
theorem pw_cast (k : Int) : pw k = ((2 ^ k.toNat : Nat) : Int) := by
  unfold pw
  rw [Int.natCast_pow]
  rfl
theorem pw_le {a b : Int} (ha : 0 ≤ a) (h : a ≤ b) : pw a ≤ pw b := by
  rw [pw_cast, pw_cast]
  have := Nat.pow_le_pow_right (n := 2) (by decide) (show a.toNat ≤ b.toNat by omega)
  omega
theorem pw_62 {a : Int} (ha : a ≤ 61) : pw a ≤ 2305843009213693952 := by
  rw [pw_cast]
  have := Nat.pow_le_pow_right (n := 2) (by decide) (show a.toNat ≤ 61 by omega)
  have e : (2 : Nat) ^ 61 = 2305843009213693952 := by decide +kernel
  omega
theorem iZ_t {z : Int} (h1 : -2147483648 ≤ z) (h2 : z < 2147483648) : (iZ z).toInt = z := by
  show (Int32.ofInt z).toInt = z
  rw [Int32.toInt_ofInt]
  exact fb_bmod h1 h2
theorem lZ_t {z : Int} (h1 : -9223372036854775808 ≤ z) (h2 : z < 9223372036854775808) : (lZ z).toInt = z := by
  show (Int64.ofInt z).toInt = z
  rw [Int64.toInt_ofInt]
  exact fb_bmodL h1 h2
theorem iZ_of (x : Int32) : ∃ z : Int, x = iZ z ∧ -2147483648 ≤ z ∧ z < 2147483648 :=
  ⟨x.toInt, (Int32.ofInt_toInt x).symm, Int32.le_toInt x, Int32.toInt_lt x⟩
theorem iZ_nI (n : Nat) : nI n = iZ (n : Int) := by
  show Int32.ofNat n = Int32.ofInt (n : Int)
  exact (Int32.ofInt_eq_ofNat).symm
theorem iZ_add (a b : Int) : iZ a + iZ b = iZ (a + b) := (Int32.ofInt_add a b).symm
theorem iZ_sub (a b : Int) : iZ a - iZ b = iZ (a - b) := (Int32.ofInt_sub a b).symm
theorem iZ_mul (a b : Int) : iZ a * iZ b = iZ (a * b) := (Int32.ofInt_mul a b).symm
theorem lZ_add (a b : Int) : lZ a + lZ b = lZ (a + b) := (Int64.ofInt_add a b).symm
theorem lZ_sub (a b : Int) : lZ a - lZ b = lZ (a - b) := (Int64.ofInt_sub a b).symm
theorem lZ_mul (a b : Int) : lZ a * lZ b = lZ (a * b) := (Int64.ofInt_mul a b).symm
theorem iZ_lt {a b : Int} (h : -2147483648 ≤ a ∧ a < 2147483648 ∧ -2147483648 ≤ b ∧ b < 2147483648) : iZ a < iZ b ↔ a < b := by
  rw [Int32.lt_iff_toInt_lt, iZ_t h.1 h.2.1, iZ_t h.2.2.1 h.2.2.2]
theorem iZ_le {a b : Int} (h : -2147483648 ≤ a ∧ a < 2147483648 ∧ -2147483648 ≤ b ∧ b < 2147483648) : iZ a ≤ iZ b ↔ a ≤ b := by
  rw [Int32.le_iff_toInt_le, iZ_t h.1 h.2.1, iZ_t h.2.2.1 h.2.2.2]
theorem iZ_eq {a b : Int} (h : -2147483648 ≤ a ∧ a < 2147483648 ∧ -2147483648 ≤ b ∧ b < 2147483648) : iZ a = iZ b ↔ a = b := by
  constructor
  · intro q
    have := congrArg Int32.toInt q
    rwa [iZ_t h.1 h.2.1, iZ_t h.2.2.1 h.2.2.2] at this
  · rintro rfl; rfl
theorem lZ_lt {a b : Int} (h : -9223372036854775808 ≤ a ∧ a < 9223372036854775808 ∧ -9223372036854775808 ≤ b ∧ b < 9223372036854775808) : lZ a < lZ b ↔ a < b := by
  rw [Int64.lt_iff_toInt_lt, lZ_t h.1 h.2.1, lZ_t h.2.2.1 h.2.2.2]
theorem lZ_eq {a b : Int} (h : -9223372036854775808 ≤ a ∧ a < 9223372036854775808 ∧ -9223372036854775808 ≤ b ∧ b < 9223372036854775808) : lZ a = lZ b ↔ a = b := by
  constructor
  · intro q
    have := congrArg Int64.toInt q
    rwa [lZ_t h.1 h.2.1, lZ_t h.2.2.1 h.2.2.2] at this
  · rintro rfl; rfl
theorem iZ_0 : (0 : Int32) = iZ 0 := by decide +kernel
theorem iZ_cl {z : Int} (h1 : 0 ≤ z) (h2 : z < 2147483648) : (iZ z).toNatClampNeg = z.toNat := by
  show (iZ z).toInt.toNat = _
  rw [iZ_t (by omega) h2]
theorem iZ_in {z : Int} {n : Nat} (h : 0 ≤ z ∧ z < 2147483648 ∧ z < n) : vp_in (iZ z) n := by
  rw [vp_in_iff, iZ_t (by omega) h.2.1]
  omega
theorem iZ_div {a b : Int} (ha : 0 ≤ a ∧ a < 2147483648) (hb : 0 < b ∧ b < 2147483648) : iZ a / iZ b = iZ (a / b) := by
  obtain ⟨n, rfl⟩ : ∃ n : Nat, a = n := ⟨a.toNat, by omega⟩
  obtain ⟨k, rfl⟩ : ∃ n : Nat, b = n := ⟨b.toNat, by omega⟩
  rw [← iZ_nI, ← iZ_nI, pk_div (by omega) (by omega) (by omega), iZ_nI]
  rfl
theorem iZ_rem {a b : Int} (ha : 0 ≤ a ∧ a < 2147483648) (hb : 0 < b ∧ b < 2147483648) : iZ a - iZ a / iZ b * iZ b = iZ (a % b) := by
  rw [iZ_div ha hb, iZ_mul, iZ_sub]
  congr 1
  rw [Int.emod_def, Int.mul_comm b]
theorem lZ_lN (n : Nat) : lN n = lZ (n : Int) := by
  show Int64.ofNat n = Int64.ofInt (n : Int)
  exact (Int64.ofInt_eq_ofNat).symm
theorem lZ_div {a b : Int} (ha : 0 ≤ a ∧ a < 9223372036854775808) (hb : 0 < b ∧ b < 9223372036854775808) : lZ a / lZ b = lZ (a / b) := by
  obtain ⟨n, rfl⟩ : ∃ n : Nat, a = n := ⟨a.toNat, by omega⟩
  obtain ⟨k, rfl⟩ : ∃ n : Nat, b = n := ⟨b.toNat, by omega⟩
  rw [← lZ_lN, ← lZ_lN, pk_lDiv (by omega) (by omega) (by omega), lZ_lN]
  rfl
theorem iZ_l {a : Int} (h : -2147483648 ≤ a ∧ a < 2147483648) : (iZ a).toInt64 = lZ a := by
  apply Int64.toInt_inj.mp
  rw [Int32.toInt_toInt64, iZ_t h.1 h.2, lZ_t (by omega) (by omega)]
theorem lZ_i (a : Int) : (lZ a).toInt32 = iZ a := by
  show (Int64.ofInt a).toInt32 = Int32.ofInt a
  exact Int64.toInt32_ofInt
theorem lZ_shr {a k : Int} (ha : 0 ≤ a ∧ a < 9223372036854775808) (hk : 0 ≤ k ∧ k < 64) : ((lZ a).toUInt64 >>> ((iZ k).toInt64.toUInt64 &&& Int64.toUInt64 63)).toInt64 = lZ (a / pw k) := by
  obtain ⟨n, rfl⟩ : ∃ n : Nat, a = n := ⟨a.toNat, by omega⟩
  obtain ⟨j, rfl⟩ : ∃ n : Nat, k = n := ⟨k.toNat, by omega⟩
  rw [← lZ_lN, ← iZ_nI, wb_shr (by omega) (by omega), lZ_lN, pw_cast]
  rfl
theorem lZ_shl {a k : Int} (ha : 0 ≤ a) (hk : 0 ≤ k ∧ k < 64) : lZ a <<< ((iZ k).toInt64 &&& 63) = lZ (a * pw k) := by
  obtain ⟨n, rfl⟩ : ∃ n : Nat, a = n := ⟨a.toNat, by omega⟩
  obtain ⟨j, rfl⟩ : ∃ n : Nat, k = n := ⟨k.toNat, by omega⟩
  rw [← lZ_lN, ← iZ_nI, wb_shl n (by omega), lZ_lN, pw_cast, Int.natCast_mul]
  rfl
theorem lZ_mask {a k : Int} (ha : 0 ≤ a ∧ a < 9223372036854775808) (hk : 0 ≤ k ∧ k < 64) : lZ a &&& lZ (pw k - 1) = lZ (a % pw k) := by
  obtain ⟨n, rfl⟩ : ∃ n : Nat, a = n := ⟨a.toNat, by omega⟩
  obtain ⟨j, rfl⟩ : ∃ n : Nat, k = n := ⟨k.toNat, by omega⟩
  have e : pw (j : Int) - 1 = ((2 ^ j - 1 : Nat) : Int) := by
    have h := Nat.pow_pos (n := j) (show 0 < 2 by decide)
    rw [pw_cast, show ((j : Int)).toNat = j from rfl]
    omega
  rw [e, ← lZ_lN, ← lZ_lN, wb_mask (by omega) (by omega), lZ_lN, pw_cast]
  rfl
theorem lZ_or {a b k : Int} (hk : 0 ≤ k ∧ k < 63) (ha : 0 ≤ a ∧ a * pw k + b < 9223372036854775808) (hb : 0 ≤ b ∧ b < pw k) : lZ (a * pw k) ||| lZ b = lZ (a * pw k + b) := by
  obtain ⟨n, rfl⟩ : ∃ n : Nat, a = n := ⟨a.toNat, by omega⟩
  obtain ⟨j, rfl⟩ : ∃ n : Nat, k = n := ⟨k.toNat, by omega⟩
  obtain ⟨z, rfl⟩ : ∃ n : Nat, b = n := ⟨b.toNat, by omega⟩
  rw [pw_cast, show ((j : Int)).toNat = j from rfl] at ha hb ⊢
  rw [← Int.natCast_mul, ← Int.natCast_add] at *
  rw [← lZ_lN, ← lZ_lN, ← lZ_lN, g_or (k := j) rfl (by omega) (by omega)]
/-- a truth as a number -/
noncomputable def bv (P : Prop) : Int := @ite _ P (Classical.propDecidable P) 1 0
theorem bv_t {P : Prop} (h : P) : bv P = 1 := by unfold bv; rw [if_pos h]
theorem bv_f {P : Prop} (h : ¬ P) : bv P = 0 := by unfold bv; rw [if_neg h]
theorem bv_r (P : Prop) : bv P = 0 ∨ bv P = 1 := by
  rcases Classical.em P with h | h
  · exact Or.inr (bv_t h)
  · exact Or.inl (bv_f h)
theorem bv_0 {P : Prop} : bv P = 0 ↔ ¬ P := by
  rcases Classical.em P with h | h
  · rw [bv_t h]; simp [h]
  · rw [bv_f h]; simp [h]
theorem bv_c {P Q : Prop} (h : P ↔ Q) : bv P = bv Q := by rw [propext h]
theorem bv_zr (P : Prop) : narrow .boolean (.int (iZ (bv P))) = .int (iZ (bv P)) := by
  rcases bv_r P with h | h <;> rw [h] <;> rfl
section ZR
variable {p : Program} {l : Launch} {e : Env} {R : Room} {s : State} {m : MethodId} {args : Array Value} {below : List Frame} {meth : Method} {c : Code} {H : Heap} {locs : List Loc} {cells slots : Nat} {Q : State → Prop}
variable {cc : ByteArray} {pc : Nat} {ls : Array Slot} {rest : List Value} {a b : Int}
theorem z_iadd (hx : p.tables.exec = Jvm.exec) (hb : c.code = cc) (d : decode cc pc = .ok (.iadd, 1)) (k : W p l e R s m args below meth c H locs cells slots Q (F0 m (pc + 1) ls (.int (iZ (a + b)) :: rest))) : W p l e R s m args below meth c H locs cells slots Q (F0 m pc ls (.int (iZ b) :: .int (iZ a) :: rest)) := lv_iadd hx hb d (by rw [iZ_add]; exact k)
theorem z_isub (hx : p.tables.exec = Jvm.exec) (hb : c.code = cc) (d : decode cc pc = .ok (.isub, 1)) (k : W p l e R s m args below meth c H locs cells slots Q (F0 m (pc + 1) ls (.int (iZ (a - b)) :: rest))) : W p l e R s m args below meth c H locs cells slots Q (F0 m pc ls (.int (iZ b) :: .int (iZ a) :: rest)) := lv_isub hx hb d (by rw [iZ_sub]; exact k)
theorem z_imul (hx : p.tables.exec = Jvm.exec) (hb : c.code = cc) (d : decode cc pc = .ok (.imul, 1)) (k : W p l e R s m args below meth c H locs cells slots Q (F0 m (pc + 1) ls (.int (iZ (a * b)) :: rest))) : W p l e R s m args below meth c H locs cells slots Q (F0 m pc ls (.int (iZ b) :: .int (iZ a) :: rest)) := lv_imul hx hb d (by rw [iZ_mul]; exact k)
theorem z_idiv (hx : p.tables.exec = Jvm.exec) (hb : c.code = cc) (d : decode cc pc = .ok (.idiv, 1)) (h : (0 ≤ a ∧ a < 2147483648) ∧ 0 < b ∧ b < 2147483648) (k : W p l e R s m args below meth c H locs cells slots Q (F0 m (pc + 1) ls (.int (iZ (a / b)) :: rest))) : W p l e R s m args below meth c H locs cells slots Q (F0 m pc ls (.int (iZ b) :: .int (iZ a) :: rest)) := lv_idiv hx hb d (by rw [iZ_0, iZ_eq (by omega)]; omega) (by rw [iZ_div h.1 h.2]; exact k)
theorem z_irem (hx : p.tables.exec = Jvm.exec) (hb : c.code = cc) (d : decode cc pc = .ok (.irem, 1)) (h : (0 ≤ a ∧ a < 2147483648) ∧ 0 < b ∧ b < 2147483648) (k : W p l e R s m args below meth c H locs cells slots Q (F0 m (pc + 1) ls (.int (iZ (a % b)) :: rest))) : W p l e R s m args below meth c H locs cells slots Q (F0 m pc ls (.int (iZ b) :: .int (iZ a) :: rest)) := lv_irem hx hb d (by rw [iZ_0, iZ_eq (by omega)]; omega) (by rw [iZ_rem h.1 h.2]; exact k)
theorem z_ladd (hx : p.tables.exec = Jvm.exec) (hb : c.code = cc) (d : decode cc pc = .ok (.ladd, 1)) (k : W p l e R s m args below meth c H locs cells slots Q (F0 m (pc + 1) ls (.long (lZ (a + b)) :: rest))) : W p l e R s m args below meth c H locs cells slots Q (F0 m pc ls (.long (lZ b) :: .long (lZ a) :: rest)) := lv_ladd hx hb d (by rw [lZ_add]; exact k)
theorem z_lsub (hx : p.tables.exec = Jvm.exec) (hb : c.code = cc) (d : decode cc pc = .ok (.lsub, 1)) (k : W p l e R s m args below meth c H locs cells slots Q (F0 m (pc + 1) ls (.long (lZ (a - b)) :: rest))) : W p l e R s m args below meth c H locs cells slots Q (F0 m pc ls (.long (lZ b) :: .long (lZ a) :: rest)) := lv_lsub hx hb d (by rw [lZ_sub]; exact k)
theorem z_lmul (hx : p.tables.exec = Jvm.exec) (hb : c.code = cc) (d : decode cc pc = .ok (.lmul, 1)) (k : W p l e R s m args below meth c H locs cells slots Q (F0 m (pc + 1) ls (.long (lZ (a * b)) :: rest))) : W p l e R s m args below meth c H locs cells slots Q (F0 m pc ls (.long (lZ b) :: .long (lZ a) :: rest)) := lv_lmul hx hb d (by rw [lZ_mul]; exact k)
theorem z_ldiv (hx : p.tables.exec = Jvm.exec) (hb : c.code = cc) (d : decode cc pc = .ok (.ldiv, 1)) (h : (0 ≤ a ∧ a < 9223372036854775808) ∧ 0 < b ∧ b < 9223372036854775808) (k : W p l e R s m args below meth c H locs cells slots Q (F0 m (pc + 1) ls (.long (lZ (a / b)) :: rest))) : W p l e R s m args below meth c H locs cells slots Q (F0 m pc ls (.long (lZ b) :: .long (lZ a) :: rest)) := lv_ldiv hx hb d (by rw [show (0 : Int64) = lZ 0 by decide +kernel, lZ_eq (by omega)]; omega) (by rw [lZ_div h.1 h.2]; exact k)
theorem z_i2l (hx : p.tables.exec = Jvm.exec) (hb : c.code = cc) (d : decode cc pc = .ok (.i2l, 1)) (h : -2147483648 ≤ a ∧ a < 2147483648) (k : W p l e R s m args below meth c H locs cells slots Q (F0 m (pc + 1) ls (.long (lZ a) :: rest))) : W p l e R s m args below meth c H locs cells slots Q (F0 m pc ls (.int (iZ a) :: rest)) := lv_i2l hx hb d (iZ_l h) k
theorem z_l2i (hx : p.tables.exec = Jvm.exec) (hb : c.code = cc) (d : decode cc pc = .ok (.l2i, 1)) (k : W p l e R s m args below meth c H locs cells slots Q (F0 m (pc + 1) ls (.int (iZ a) :: rest))) : W p l e R s m args below meth c H locs cells slots Q (F0 m pc ls (.long (lZ a) :: rest)) := lv_l2i hx hb d (lZ_i a) k
theorem z_lushr (hx : p.tables.exec = Jvm.exec) (hb : c.code = cc) (d : decode cc pc = .ok (.lushr, 1)) (h : (0 ≤ a ∧ a < 9223372036854775808) ∧ 0 ≤ b ∧ b < 64) (k : W p l e R s m args below meth c H locs cells slots Q (F0 m (pc + 1) ls (.long (lZ (a / pw b)) :: rest))) : W p l e R s m args below meth c H locs cells slots Q (F0 m pc ls (.int (iZ b) :: .long (lZ a) :: rest)) := lv_lushr hx hb d (lZ_shr h.1 h.2) k
theorem z_lshl (hx : p.tables.exec = Jvm.exec) (hb : c.code = cc) (d : decode cc pc = .ok (.lshl, 1)) (h : 0 ≤ a ∧ 0 ≤ b ∧ b < 64) (k : W p l e R s m args below meth c H locs cells slots Q (F0 m (pc + 1) ls (.long (lZ (a * pw b)) :: rest))) : W p l e R s m args below meth c H locs cells slots Q (F0 m pc ls (.int (iZ b) :: .long (lZ a) :: rest)) := lv_lshl hx hb d (lZ_shl h.1 h.2) k
theorem z_mask {k : Int} (hx : p.tables.exec = Jvm.exec) (hb : c.code = cc) (d : decode cc pc = .ok (.land, 1)) (eq : b = pw k - 1) (h : (0 ≤ a ∧ a < 9223372036854775808) ∧ 0 ≤ k ∧ k < 64) (kk : W p l e R s m args below meth c H locs cells slots Q (F0 m (pc + 1) ls (.long (lZ (a % pw k)) :: rest))) : W p l e R s m args below meth c H locs cells slots Q (F0 m pc ls (.long (lZ b) :: .long (lZ a) :: rest)) := lv_land hx hb d (by rw [eq, lZ_mask h.1 h.2]; exact kk)
theorem z_lor {k : Int} (hx : p.tables.exec = Jvm.exec) (hb : c.code = cc) (d : decode cc pc = .ok (.lor, 1)) (h : (0 ≤ k ∧ k < 63) ∧ (0 ≤ a ∧ a * pw k + b < 9223372036854775808) ∧ 0 ≤ b ∧ b < pw k) (kk : W p l e R s m args below meth c H locs cells slots Q (F0 m (pc + 1) ls (.long (lZ (a * pw k + b)) :: rest))) : W p l e R s m args below meth c H locs cells slots Q (F0 m pc ls (.long (lZ b) :: .long (lZ (a * pw k)) :: rest)) := lv_lor hx hb d (by rw [lZ_or h.1 h.2.1 h.2.2]; exact kk)
/-- the top number, written otherwise -/
theorem z_top (eq : a = b) (k : W p l e R s m args below meth c H locs cells slots Q (F0 m pc ls (.int (iZ b) :: rest))) : W p l e R s m args below meth c H locs cells slots Q (F0 m pc ls (.int (iZ a) :: rest)) := by subst eq; exact k
theorem z_topl (eq : a = b) (k : W p l e R s m args below meth c H locs cells slots Q (F0 m pc ls (.long (lZ b) :: rest))) : W p l e R s m args below meth c H locs cells slots Q (F0 m pc ls (.long (lZ a) :: rest)) := by subst eq; exact k
theorem z_tope (k : ∀ b : Int, b = a → W p l e R s m args below meth c H locs cells slots Q (F0 m pc ls (.int (iZ b) :: rest))) : W p l e R s m args below meth c H locs cells slots Q (F0 m pc ls (.int (iZ a) :: rest)) := k a rfl
theorem z_topel (k : ∀ b : Int, b = a → W p l e R s m args below meth c H locs cells slots Q (F0 m pc ls (.long (lZ b) :: rest))) : W p l e R s m args below meth c H locs cells slots Q (F0 m pc ls (.long (lZ a) :: rest)) := k a rfl
theorem z_icmp_lt (hx : p.tables.exec = Jvm.exec) (hb : c.code = cc) {off : Int} {tgt : Nat} (d : decode cc pc = .ok (.if_icmp .lt off, 3)) (ht : (pc : Int) + off = (tgt : Int)) (h : -2147483648 ≤ a ∧ a < 2147483648 ∧ -2147483648 ≤ b ∧ b < 2147483648) (kt : a < b → W p l e R s m args below meth c H locs cells slots Q (F0 m tgt ls rest)) (kf : b ≤ a → W p l e R s m args below meth c H locs cells slots Q (F0 m (pc + 3) ls rest)) : W p l e R s m args below meth c H locs cells slots Q (F0 m pc ls (.int (iZ b) :: .int (iZ a) :: rest)) := by
  refine lv_icmp_lt hx hb d ht (fun q => kt ?_) (fun q => kf ?_)
  all_goals
    skip
    skip
    have h' : -2147483648 ≤ b ∧ b < 2147483648 ∧ -2147483648 ≤ a ∧ a < 2147483648 := by omega
    first | rw [iZ_lt h] at q | rw [iZ_le h] at q | rw [iZ_eq h] at q | rw [iZ_lt h'] at q | rw [iZ_le h'] at q | rw [iZ_eq h'] at q
    omega
theorem z_if_lt (hx : p.tables.exec = Jvm.exec) (hb : c.code = cc) {off : Int} {tgt : Nat} (d : decode cc pc = .ok (.ifCond .lt off, 3)) (ht : (pc : Int) + off = (tgt : Int)) (h : -2147483648 ≤ a ∧ a < 2147483648) (kt : a < 0 → W p l e R s m args below meth c H locs cells slots Q (F0 m tgt ls rest)) (kf : 0 ≤ a → W p l e R s m args below meth c H locs cells slots Q (F0 m (pc + 3) ls rest)) : W p l e R s m args below meth c H locs cells slots Q (F0 m pc ls (.int (iZ a) :: rest)) := by
  refine lv_if_lt hx hb d ht (fun q => kt ?_) (fun q => kf ?_)
  all_goals
    rw [iZ_0] at q
    have h : -2147483648 ≤ a ∧ a < 2147483648 ∧ -2147483648 ≤ (0 : Int) ∧ (0 : Int) < 2147483648 := by omega
    have h' : -2147483648 ≤ (0 : Int) ∧ (0 : Int) < 2147483648 ∧ -2147483648 ≤ a ∧ a < 2147483648 := by omega
    first | rw [iZ_lt h] at q | rw [iZ_le h] at q | rw [iZ_eq h] at q | rw [iZ_lt h'] at q | rw [iZ_le h'] at q | rw [iZ_eq h'] at q
    omega
theorem z_icmp_ge (hx : p.tables.exec = Jvm.exec) (hb : c.code = cc) {off : Int} {tgt : Nat} (d : decode cc pc = .ok (.if_icmp .ge off, 3)) (ht : (pc : Int) + off = (tgt : Int)) (h : -2147483648 ≤ a ∧ a < 2147483648 ∧ -2147483648 ≤ b ∧ b < 2147483648) (kt : b ≤ a → W p l e R s m args below meth c H locs cells slots Q (F0 m tgt ls rest)) (kf : a < b → W p l e R s m args below meth c H locs cells slots Q (F0 m (pc + 3) ls rest)) : W p l e R s m args below meth c H locs cells slots Q (F0 m pc ls (.int (iZ b) :: .int (iZ a) :: rest)) := by
  refine lv_icmp_ge hx hb d ht (fun q => kt ?_) (fun q => kf ?_)
  all_goals
    skip
    skip
    have h' : -2147483648 ≤ b ∧ b < 2147483648 ∧ -2147483648 ≤ a ∧ a < 2147483648 := by omega
    first | rw [iZ_lt h] at q | rw [iZ_le h] at q | rw [iZ_eq h] at q | rw [iZ_lt h'] at q | rw [iZ_le h'] at q | rw [iZ_eq h'] at q
    omega
theorem z_if_ge (hx : p.tables.exec = Jvm.exec) (hb : c.code = cc) {off : Int} {tgt : Nat} (d : decode cc pc = .ok (.ifCond .ge off, 3)) (ht : (pc : Int) + off = (tgt : Int)) (h : -2147483648 ≤ a ∧ a < 2147483648) (kt : 0 ≤ a → W p l e R s m args below meth c H locs cells slots Q (F0 m tgt ls rest)) (kf : a < 0 → W p l e R s m args below meth c H locs cells slots Q (F0 m (pc + 3) ls rest)) : W p l e R s m args below meth c H locs cells slots Q (F0 m pc ls (.int (iZ a) :: rest)) := by
  refine lv_if_ge hx hb d ht (fun q => kt ?_) (fun q => kf ?_)
  all_goals
    rw [iZ_0] at q
    have h : -2147483648 ≤ a ∧ a < 2147483648 ∧ -2147483648 ≤ (0 : Int) ∧ (0 : Int) < 2147483648 := by omega
    have h' : -2147483648 ≤ (0 : Int) ∧ (0 : Int) < 2147483648 ∧ -2147483648 ≤ a ∧ a < 2147483648 := by omega
    first | rw [iZ_lt h] at q | rw [iZ_le h] at q | rw [iZ_eq h] at q | rw [iZ_lt h'] at q | rw [iZ_le h'] at q | rw [iZ_eq h'] at q
    omega
theorem z_icmp_gt (hx : p.tables.exec = Jvm.exec) (hb : c.code = cc) {off : Int} {tgt : Nat} (d : decode cc pc = .ok (.if_icmp .gt off, 3)) (ht : (pc : Int) + off = (tgt : Int)) (h : -2147483648 ≤ a ∧ a < 2147483648 ∧ -2147483648 ≤ b ∧ b < 2147483648) (kt : b < a → W p l e R s m args below meth c H locs cells slots Q (F0 m tgt ls rest)) (kf : a ≤ b → W p l e R s m args below meth c H locs cells slots Q (F0 m (pc + 3) ls rest)) : W p l e R s m args below meth c H locs cells slots Q (F0 m pc ls (.int (iZ b) :: .int (iZ a) :: rest)) := by
  refine lv_icmp_gt hx hb d ht (fun q => kt ?_) (fun q => kf ?_)
  all_goals
    skip
    skip
    have h' : -2147483648 ≤ b ∧ b < 2147483648 ∧ -2147483648 ≤ a ∧ a < 2147483648 := by omega
    first | rw [iZ_lt h] at q | rw [iZ_le h] at q | rw [iZ_eq h] at q | rw [iZ_lt h'] at q | rw [iZ_le h'] at q | rw [iZ_eq h'] at q
    omega
theorem z_if_gt (hx : p.tables.exec = Jvm.exec) (hb : c.code = cc) {off : Int} {tgt : Nat} (d : decode cc pc = .ok (.ifCond .gt off, 3)) (ht : (pc : Int) + off = (tgt : Int)) (h : -2147483648 ≤ a ∧ a < 2147483648) (kt : 0 < a → W p l e R s m args below meth c H locs cells slots Q (F0 m tgt ls rest)) (kf : a ≤ 0 → W p l e R s m args below meth c H locs cells slots Q (F0 m (pc + 3) ls rest)) : W p l e R s m args below meth c H locs cells slots Q (F0 m pc ls (.int (iZ a) :: rest)) := by
  refine lv_if_gt hx hb d ht (fun q => kt ?_) (fun q => kf ?_)
  all_goals
    rw [iZ_0] at q
    have h : -2147483648 ≤ a ∧ a < 2147483648 ∧ -2147483648 ≤ (0 : Int) ∧ (0 : Int) < 2147483648 := by omega
    have h' : -2147483648 ≤ (0 : Int) ∧ (0 : Int) < 2147483648 ∧ -2147483648 ≤ a ∧ a < 2147483648 := by omega
    first | rw [iZ_lt h] at q | rw [iZ_le h] at q | rw [iZ_eq h] at q | rw [iZ_lt h'] at q | rw [iZ_le h'] at q | rw [iZ_eq h'] at q
    omega
theorem z_icmp_le (hx : p.tables.exec = Jvm.exec) (hb : c.code = cc) {off : Int} {tgt : Nat} (d : decode cc pc = .ok (.if_icmp .le off, 3)) (ht : (pc : Int) + off = (tgt : Int)) (h : -2147483648 ≤ a ∧ a < 2147483648 ∧ -2147483648 ≤ b ∧ b < 2147483648) (kt : a ≤ b → W p l e R s m args below meth c H locs cells slots Q (F0 m tgt ls rest)) (kf : b < a → W p l e R s m args below meth c H locs cells slots Q (F0 m (pc + 3) ls rest)) : W p l e R s m args below meth c H locs cells slots Q (F0 m pc ls (.int (iZ b) :: .int (iZ a) :: rest)) := by
  refine lv_icmp_le hx hb d ht (fun q => kt ?_) (fun q => kf ?_)
  all_goals
    skip
    skip
    have h' : -2147483648 ≤ b ∧ b < 2147483648 ∧ -2147483648 ≤ a ∧ a < 2147483648 := by omega
    first | rw [iZ_lt h] at q | rw [iZ_le h] at q | rw [iZ_eq h] at q | rw [iZ_lt h'] at q | rw [iZ_le h'] at q | rw [iZ_eq h'] at q
    omega
theorem z_if_le (hx : p.tables.exec = Jvm.exec) (hb : c.code = cc) {off : Int} {tgt : Nat} (d : decode cc pc = .ok (.ifCond .le off, 3)) (ht : (pc : Int) + off = (tgt : Int)) (h : -2147483648 ≤ a ∧ a < 2147483648) (kt : a ≤ 0 → W p l e R s m args below meth c H locs cells slots Q (F0 m tgt ls rest)) (kf : 0 < a → W p l e R s m args below meth c H locs cells slots Q (F0 m (pc + 3) ls rest)) : W p l e R s m args below meth c H locs cells slots Q (F0 m pc ls (.int (iZ a) :: rest)) := by
  refine lv_if_le hx hb d ht (fun q => kt ?_) (fun q => kf ?_)
  all_goals
    rw [iZ_0] at q
    have h : -2147483648 ≤ a ∧ a < 2147483648 ∧ -2147483648 ≤ (0 : Int) ∧ (0 : Int) < 2147483648 := by omega
    have h' : -2147483648 ≤ (0 : Int) ∧ (0 : Int) < 2147483648 ∧ -2147483648 ≤ a ∧ a < 2147483648 := by omega
    first | rw [iZ_lt h] at q | rw [iZ_le h] at q | rw [iZ_eq h] at q | rw [iZ_lt h'] at q | rw [iZ_le h'] at q | rw [iZ_eq h'] at q
    omega
theorem z_icmp_eq (hx : p.tables.exec = Jvm.exec) (hb : c.code = cc) {off : Int} {tgt : Nat} (d : decode cc pc = .ok (.if_icmp .eq off, 3)) (ht : (pc : Int) + off = (tgt : Int)) (h : -2147483648 ≤ a ∧ a < 2147483648 ∧ -2147483648 ≤ b ∧ b < 2147483648) (kt : a = b → W p l e R s m args below meth c H locs cells slots Q (F0 m tgt ls rest)) (kf : ¬ a = b → W p l e R s m args below meth c H locs cells slots Q (F0 m (pc + 3) ls rest)) : W p l e R s m args below meth c H locs cells slots Q (F0 m pc ls (.int (iZ b) :: .int (iZ a) :: rest)) := by
  refine lv_icmp_eq hx hb d ht (fun q => kt ?_) (fun q => kf ?_)
  all_goals
    skip
    skip
    have h' : -2147483648 ≤ b ∧ b < 2147483648 ∧ -2147483648 ≤ a ∧ a < 2147483648 := by omega
    first | rw [iZ_lt h] at q | rw [iZ_le h] at q | rw [iZ_eq h] at q | rw [iZ_lt h'] at q | rw [iZ_le h'] at q | rw [iZ_eq h'] at q
    omega
theorem z_if_eq (hx : p.tables.exec = Jvm.exec) (hb : c.code = cc) {off : Int} {tgt : Nat} (d : decode cc pc = .ok (.ifCond .eq off, 3)) (ht : (pc : Int) + off = (tgt : Int)) (h : -2147483648 ≤ a ∧ a < 2147483648) (kt : a = 0 → W p l e R s m args below meth c H locs cells slots Q (F0 m tgt ls rest)) (kf : ¬ a = 0 → W p l e R s m args below meth c H locs cells slots Q (F0 m (pc + 3) ls rest)) : W p l e R s m args below meth c H locs cells slots Q (F0 m pc ls (.int (iZ a) :: rest)) := by
  refine lv_if_eq hx hb d ht (fun q => kt ?_) (fun q => kf ?_)
  all_goals
    rw [iZ_0] at q
    have h : -2147483648 ≤ a ∧ a < 2147483648 ∧ -2147483648 ≤ (0 : Int) ∧ (0 : Int) < 2147483648 := by omega
    have h' : -2147483648 ≤ (0 : Int) ∧ (0 : Int) < 2147483648 ∧ -2147483648 ≤ a ∧ a < 2147483648 := by omega
    first | rw [iZ_lt h] at q | rw [iZ_le h] at q | rw [iZ_eq h] at q | rw [iZ_lt h'] at q | rw [iZ_le h'] at q | rw [iZ_eq h'] at q
    omega
theorem z_icmp_ne (hx : p.tables.exec = Jvm.exec) (hb : c.code = cc) {off : Int} {tgt : Nat} (d : decode cc pc = .ok (.if_icmp .ne off, 3)) (ht : (pc : Int) + off = (tgt : Int)) (h : -2147483648 ≤ a ∧ a < 2147483648 ∧ -2147483648 ≤ b ∧ b < 2147483648) (kt : ¬ a = b → W p l e R s m args below meth c H locs cells slots Q (F0 m tgt ls rest)) (kf : a = b → W p l e R s m args below meth c H locs cells slots Q (F0 m (pc + 3) ls rest)) : W p l e R s m args below meth c H locs cells slots Q (F0 m pc ls (.int (iZ b) :: .int (iZ a) :: rest)) := by
  refine lv_icmp_ne hx hb d ht (fun q => kt ?_) (fun q => kf ?_)
  all_goals
    skip
    skip
    have h' : -2147483648 ≤ b ∧ b < 2147483648 ∧ -2147483648 ≤ a ∧ a < 2147483648 := by omega
    first | rw [iZ_lt h] at q | rw [iZ_le h] at q | rw [iZ_eq h] at q | rw [iZ_lt h'] at q | rw [iZ_le h'] at q | rw [iZ_eq h'] at q
    omega
theorem z_if_ne (hx : p.tables.exec = Jvm.exec) (hb : c.code = cc) {off : Int} {tgt : Nat} (d : decode cc pc = .ok (.ifCond .ne off, 3)) (ht : (pc : Int) + off = (tgt : Int)) (h : -2147483648 ≤ a ∧ a < 2147483648) (kt : ¬ a = 0 → W p l e R s m args below meth c H locs cells slots Q (F0 m tgt ls rest)) (kf : a = 0 → W p l e R s m args below meth c H locs cells slots Q (F0 m (pc + 3) ls rest)) : W p l e R s m args below meth c H locs cells slots Q (F0 m pc ls (.int (iZ a) :: rest)) := by
  refine lv_if_ne hx hb d ht (fun q => kt ?_) (fun q => kf ?_)
  all_goals
    rw [iZ_0] at q
    have h : -2147483648 ≤ a ∧ a < 2147483648 ∧ -2147483648 ≤ (0 : Int) ∧ (0 : Int) < 2147483648 := by omega
    have h' : -2147483648 ≤ (0 : Int) ∧ (0 : Int) < 2147483648 ∧ -2147483648 ≤ a ∧ a < 2147483648 := by omega
    first | rw [iZ_lt h] at q | rw [iZ_le h] at q | rw [iZ_eq h] at q | rw [iZ_lt h'] at q | rw [iZ_le h'] at q | rw [iZ_eq h'] at q
    omega
theorem z_ifB_eq {P : Prop} (hx : p.tables.exec = Jvm.exec) (hb : c.code = cc) {off : Int} {tgt : Nat} (d : decode cc pc = .ok (.ifCond .eq off, 3)) (ht : (pc : Int) + off = (tgt : Int)) (kt : ¬ P → W p l e R s m args below meth c H locs cells slots Q (F0 m tgt ls rest)) (kf : P → W p l e R s m args below meth c H locs cells slots Q (F0 m (pc + 3) ls rest)) : W p l e R s m args below meth c H locs cells slots Q (F0 m pc ls (.int (iZ (bv P)) :: rest)) := by
  refine z_if_eq hx hb d ht (by have := bv_r P; omega) (fun q => kt ?_) (fun q => kf ?_)
  all_goals
    rcases Classical.em P with h | h
    · have := bv_t h; first | exact h | (exfalso; omega)
    · have := bv_f h; first | exact h | (exfalso; omega)
theorem z_ifB_ne {P : Prop} (hx : p.tables.exec = Jvm.exec) (hb : c.code = cc) {off : Int} {tgt : Nat} (d : decode cc pc = .ok (.ifCond .ne off, 3)) (ht : (pc : Int) + off = (tgt : Int)) (kt : P → W p l e R s m args below meth c H locs cells slots Q (F0 m tgt ls rest)) (kf : ¬ P → W p l e R s m args below meth c H locs cells slots Q (F0 m (pc + 3) ls rest)) : W p l e R s m args below meth c H locs cells slots Q (F0 m pc ls (.int (iZ (bv P)) :: rest)) := by
  refine z_if_ne hx hb d ht (by have := bv_r P; omega) (fun q => kt ?_) (fun q => kf ?_)
  all_goals
    rcases Classical.em P with h | h
    · have := bv_t h; first | exact h | (exfalso; omega)
    · have := bv_f h; first | exact h | (exfalso; omega)
theorem z_lcmp (hx : p.tables.exec = Jvm.exec) (hb : c.code = cc) (d : decode cc pc = .ok (.lcmp, 1)) (h : -9223372036854775808 ≤ a ∧ a < 9223372036854775808 ∧ -9223372036854775808 ≤ b ∧ b < 9223372036854775808) (k : ∀ t : Int, (t = -1 ∧ a < b ∨ t = 0 ∧ a = b ∨ t = 1 ∧ b < a) → W p l e R s m args below meth c H locs cells slots Q (F0 m (pc + 1) ls (.int (iZ t) :: rest))) : W p l e R s m args below meth c H locs cells slots Q (F0 m pc ls (.long (lZ b) :: .long (lZ a) :: rest)) := by
  refine W.lcmp hx hb d ?_
  have e : lg_cmp (lZ a) (lZ b) = iZ (if b < a then 1 else if a = b then 0 else -1) := by
    unfold lg_cmp
    have h1 : lZ a > lZ b ↔ b < a := lZ_lt (by omega)
    have h2 := lZ_eq h
    by_cases q1 : b < a
    · rw [if_pos q1, if_pos (h1.mpr q1)]; rfl
    · rw [if_neg q1, if_neg (fun z => q1 (h1.mp z))]
      by_cases q2 : a = b
      · rw [if_pos q2, if_pos (h2.mpr q2)]; rfl
      · rw [if_neg q2, if_neg (fun z => q2 (h2.mp z))]; rfl
  rw [e]
  refine k _ ?_
  split
  · omega
  · split <;> omega
end ZR
/-! the contracts of this claim -/
def zNs : List Cond := [.methodLinkNest RX5 62 yX6_commonDivisor "SturmianWords", .methodLinkNest RX3 21 yX6_quotient "SturmianWords", .methodLinkNest RX6 9 yX1_init "SturmianWords", .methodLinkNest RX6 18 yX0_init "SturmianWords", .fieldLinkNest RX2 53 "SturmianWords$Word" "size" "I" "SturmianWords", .fieldLinkNest RX0 43 "SturmianWords$Slope" "numerator" "I" "SturmianWords", .fieldLinkNest RX0 29 "SturmianWords$Slope" "denominator" "I" "SturmianWords", .fieldLinkNest RX6 96 "SturmianWords$State" "word" "LSturmianWords$Word;" "SturmianWords", .fieldLinkNest RX6 93 "SturmianWords$Word" "size" "I" "SturmianWords", .fieldLinkNest RX6 65 "SturmianWords$Slope" "intercept" "I" "SturmianWords", .fieldLinkNest RX6 62 "SturmianWords$Slope" "numerator" "I" "SturmianWords", .fieldLinkNest RX6 58 "SturmianWords$Slope" "denominator" "I" "SturmianWords", .fieldLinkNest RX6 54 "SturmianWords$State" "slope" "LSturmianWords$Slope;" "SturmianWords", .fieldLinkNest RX6 127 "SturmianWords$History" "kept" "I" "SturmianWords", .fieldLinkNest RX6 100 "SturmianWords$Word" "bits" "J" "SturmianWords"]
theorem zNs_tab : ∀ w ∈ zNs, w.onTables = true := by decide +kernel
theorem zNs_warm {s U : State} (hW : s.WarmedH U.vm) (h : ∀ w ∈ zNs, va_Nw w s) : ∀ w ∈ zNs, va_Nw w U := by
  have q : ∀ (w : Cond), va_Nw w s → (∃ a i b n d h, w = .fieldLinkNest a i b n d h) ∨ (∃ a i x h, w = .methodLinkNest a i x h) → va_Nw w U := by
    rintro w hw (⟨a, i, b, n, d, h, rfl⟩ | ⟨a, i, x, h, rfl⟩)
    · exact va_Nw.warmF hW hw
    · exact va_Nw.warmM hW hw
  intro w hw
  refine q w (h w hw) ?_
  simp only [zNs, List.mem_cons, List.not_mem_nil, or_false] at hw
  rcases hw with rfl | rfl | rfl | rfl | rfl | rfl | rfl | rfl | rfl | rfl | rfl | rfl | rfl | rfl | rfl
  all_goals first | exact Or.inl ⟨_, _, _, _, _, _, rfl⟩ | exact Or.inr ⟨_, _, _, _, rfl⟩
def tyS (cy : Nat → ClassId) : List (ClassId × FieldType) := [(cy 0, .int), (cy 1, .boolean), (cy 2, .object "SturmianWords$State")]
def KK (G : va_G) (cy : Nat → ClassId) (U : State) : Prop := va_K G vwCl (tyS cy) U ∧ ∀ w ∈ zNs, va_Nw w U
theorem KK.warm {G : va_G} {cy : Nat → ClassId} {s U : State} (h : KK G cy s) (hW : s.WarmedH U.vm) : KK G cy U := ⟨va_K.moved hW.alike h.1, zNs_warm hW h.2⟩
theorem KK.same {G : va_G} {cy : Nat → ClassId} {s U : State} (h : KK G cy s) (e : s.vm = U.vm) : KK G cy U := ⟨va_K.moved (by rw [e]; exact Vm.Alike.refl _) h.1, fun w hw => va_Nw.same (zNs_tab w hw) e (h.2 w hw)⟩
/-- a contract's start: the tables, the arguments, the heap -/
def P1 (G : va_G) (cy : Nat → ClassId) (av : List Value) (B : Heap → Prop) : Array Value → State → Prop := fun v U => v = av.toArray ∧ KK G cy U ∧ B U.heap
theorem P1_blind {G : va_G} {cy : Nat → ClassId} {av : List Value} {B : Heap → Prop} : FrameBlind (P1 G cy av B) := fun _ _ _ _ h => ⟨h.1, h.2.1.same rfl, h.2.2⟩
theorem P1_mk {G : va_G} {cy : Nat → ClassId} {av : List Value} {B : Heap → Prop} {s : State} {H : Heap} (hK : KK G cy s) (hB : B H) : ∀ U : State, U.heap = H → s.WarmedH U.vm → P1 G cy av B av.toArray U := fun U hU hW => ⟨rfl, hK.warm hW, by rw [hU]; exact hB⟩
theorem z_head {l : Launch} {y : MethodName} {ws ws' : List Cond} {rm : Room} {G : va_G} {cy : Nat → ClassId} {av : List Value} {B : Heap → Prop} {Qc : Array Value → State → Outcome → State → Prop} {mc ms : Nat} {free : Addr → Prop} {cc : ByteArray} {maxL : Nat} {ret : Option FieldType} {lv : List (Nat × Value)} (C : String) (hy : plainName y.cls = true) (hyc : y.cls = C) (hw : ws = Cond.code y cc maxL ret :: ws') (hn : (lg_sl av).length ≤ maxL) (hlv : lv_args 0 av = lv)
    (body : ∀ (p : Program) (e : Env) (s : State) (m : MethodId) (below : List Frame) (meth : Method) (c : Code) (ls : Array Slot), p.tables.exec = Jvm.exec → c.code = cc → meth.sig.returnType = ret → meth.locks = false → c.maxLocals = maxL → s.vm.findClass C = some m.cls → meth.name = y.name → (∀ w ∈ ws, w.before av.toArray s = true) → KK G cy s → B s.heap → lv_has ls maxL lv → W p l e rm s m av.toArray below meth c s.heap [] 0 0 (MQ below Qc av.toArray s mc ms free) (F0 m 0 ls [])) : Met l y ws rm (P1 G cy av B) Qc mc ms free := by
  refine Met.ofW (cc := cc) (maxL := maxL) (ret := ret) hy hw ?_
  intro p e s m args below meth c s₁ Bo hml hv
  obtain ⟨rfl, hK, hB⟩ := hv
  have hts := atoms_spec (ws := ws) Bo.pre
  have hown : s.vm.findClass C = some m.cls := hyc ▸ findClass_of_methodNamed Bo.named
  rw [lg_entry_eq]
  exact body p e s m below meth c _ Bo.exec Bo.bytes Bo.returns Bo.notSynchronized hml hown (name_of_methodNamed Bo.named Bo.method).1 hts hK hB (hlv ▸ lv_entry av hn)
/-- what an effectful method does: its answer, the heap before and behind -/
def Q1 (Rr : Option Value → Heap → Heap → Prop) : Array Value → State → Outcome → State → Prop := fun _ st o t => ∃ v : Option Value, o = .returned v ∧ Rr v st.heap t.heap
section ZC
variable {p : Program} {l : Launch} {e : Env} {R : Room} {s : State} {m : MethodId} {args : Array Value} {below : List Frame} {meth : Method} {c : Code} {H : Heap} {locs : List Loc} {cells slots : Nat} {Q : State → Prop}
variable {cc : ByteArray} {pc : Nat} {ls : Array Slot} {rest st0 : List Value} {a E : Int} {arr : Array Value} {mc ms : Nat} {free : Addr → Prop}
theorem z_calli (hr : va_Run p l e R s m args below meth c H locs cells slots 0 0 (F0 m pc ls st0) rest (vp_Si (fun r => r = iZ E) arr) (fun _ => False)) (kk : W p l e R s m args below meth c H locs cells slots Q (F0 m (pc + 3) ls (.int (iZ E) :: rest))) : W p l e R s m args below meth c H locs cells slots Q (F0 m pc ls st0) := vp_callSi hr.run (fun r h => by subst h; exact kk)
theorem z_calll (hr : va_Run p l e R s m args below meth c H locs cells slots 0 0 (F0 m pc ls st0) rest (vp_Sl (fun r => r = lZ E) arr) (fun _ => False)) (kk : W p l e R s m args below meth c H locs cells slots Q (F0 m (pc + 3) ls (.long (lZ E) :: rest))) : W p l e R s m args below meth c H locs cells slots Q (F0 m pc ls st0) := vp_callSl hr.run (fun r h => by subst h; exact kk)
theorem z_iretP (hx : p.tables.exec = Jvm.exec) (hb : c.code = cc) (hr : meth.sig.returnType = some .int) (hlocks : meth.locks = false) (d : decode cc pc = .ok (.ireturn, 1)) (h : a = E) : W p l e R s m args below meth c s.heap [] 0 0 (MQ below (vp_Si (fun r => r = iZ E)) args s 0 0 (fun _ => False)) (F0 m pc ls [.int (iZ a)]) := W.iret hx hb hr (fun t ht hW => ⟨_, rfl, by rw [h], ht⟩) (fun _ h => absurd h List.not_mem_nil) d hlocks
theorem z_zretP {P : Prop} (hx : p.tables.exec = Jvm.exec) (hb : c.code = cc) (hr : meth.sig.returnType = some .boolean) (hlocks : meth.locks = false) (d : decode cc pc = .ok (.ireturn, 1)) (h : a = bv P) : W p l e R s m args below meth c s.heap [] 0 0 (MQ below (vp_Si (fun r => r = iZ (bv P))) args s 0 0 (fun _ => False)) (F0 m pc ls [.int (iZ a)]) := W.zret hx hb hr (by rw [h]; exact bv_zr P) (fun t ht hW => ⟨_, rfl, by rw [h], ht⟩) (fun _ h => absurd h List.not_mem_nil) d hlocks
theorem z_lretP (hx : p.tables.exec = Jvm.exec) (hb : c.code = cc) (hr : meth.sig.returnType = some .long) (hlocks : meth.locks = false) (d : decode cc pc = .ok (.lreturn, 1)) (h : a = E) : W p l e R s m args below meth c s.heap [] 0 0 (MQ below (vp_Sl (fun r => r = lZ E)) args s 0 0 (fun _ => False)) (F0 m pc ls [.long (lZ a)]) := W.lret hx hb hr (fun t ht hW => ⟨_, rfl, by rw [h], ht⟩) (fun _ h => absurd h List.not_mem_nil) d hlocks
theorem z_callE {Rr : Option Value → Heap → Heap → Prop} {A : Nat → Prop} (hr : va_Run p l e R s m args below meth c H locs cells slots mc ms (F0 m pc ls st0) rest (Q1 Rr arr) free) (hL : ∀ q ∈ locs, A q.base) (hf : ∀ q, free q → A q) (kk : ∀ (v : Option Value) (H1 : Heap) (locs1 : List Loc), Rr v H H1 → (∀ q ∈ locs1, A q.base) → W p l e R s m args below meth c H1 locs1 (cells + mc) (slots + ms) Q (F0 m (pc + 3) ls (v.toList ++ rest))) : W p l e R s m args below meth c H locs cells slots Q (F0 m pc ls st0) := by
  intro T hT X
  obtain ⟨v, st₀, t, T', L, h0, X', hL1, e1, e2, ⟨v', hv, hp⟩, st⟩ := hr T hT X
  cases hv
  rw [h0, ← e1] at hp
  obtain ⟨t2, a1, b1⟩ := kk v T'.heap (locs ++ L) hp (fun q hq => by
    rcases List.mem_append.mp hq with h | h
    · exact hL q h
    · exact hf _ (hL1 q h)) T' rfl X'
  exact ⟨t2, st t2 a1, b1⟩
theorem z_iretE {Rr : Option Value → Heap → Heap → Prop} (hx : p.tables.exec = Jvm.exec) (hb : c.code = cc) (hr : meth.sig.returnType = some .int) (hlocks : meth.locks = false) (d : decode cc pc = .ok (.ireturn, 1)) (hL : ∀ q ∈ locs, free q.base) (hc : cells ≤ mc ∧ slots ≤ ms) (h : Rr (some (.int (iZ a))) s.heap H) : W p l e R s m args below meth c H locs cells slots (MQ below (Q1 Rr) args s mc ms free) (F0 m pc ls [.int (iZ a)]) := W.widen hc.1 hc.2 (W.iret hx hb hr (fun t ht hW => ⟨_, rfl, by rw [ht]; exact h⟩) hL d hlocks)
theorem z_vretE {Rr : Option Value → Heap → Heap → Prop} (hx : p.tables.exec = Jvm.exec) (hb : c.code = cc) (hr : meth.sig.returnType = none) (hlocks : meth.locks = false) (d : decode cc pc = .ok (.return_, 1)) (hL : ∀ q ∈ locs, free q.base) (hc : cells ≤ mc ∧ slots ≤ ms) (h : Rr none s.heap H) : W p l e R s m args below meth c H locs cells slots (MQ below (Q1 Rr) args s mc ms free) (F0 m pc ls []) := W.widen hc.1 hc.2 (W.vret hx hb hr (fun t ht hW => ⟨_, rfl, by rw [ht]; exact h⟩) hL d hlocks)
theorem z_aretE {Rr : Option Value → Heap → Heap → Prop} {v : Value} {rt : FieldType} (hx : p.tables.exec = Jvm.exec) (hb : c.code = cc) (hr : meth.sig.returnType = some rt) (hrt : (∃ n, rt = .object n) ∨ ∃ t, rt = .array t) (hlocks : meth.locks = false) (d : decode cc pc = .ok (.areturn, 1)) (hv : v = .null ∨ ∃ a, v = .ref a) (hL : ∀ q ∈ locs, free q.base) (hc : cells ≤ mc ∧ slots ≤ ms) (h : Rr (some v) s.heap H) : W p l e R s m args below meth c H locs cells slots (MQ below (Q1 Rr) args s mc ms free) (F0 m pc ls [v]) := W.widen hc.1 hc.2 (W.aret hx hb hr hrt hv (fun t ht hW => ⟨_, rfl, by rw [ht]; exact h⟩) hL d hlocks)
theorem z_zretE {P : Prop} {Rr : Option Value → Heap → Heap → Prop} (hx : p.tables.exec = Jvm.exec) (hb : c.code = cc) (hr : meth.sig.returnType = some .boolean) (hlocks : meth.locks = false) (d : decode cc pc = .ok (.ireturn, 1)) (hL : ∀ q ∈ locs, free q.base) (hc : cells ≤ mc ∧ slots ≤ ms) (h1 : a = bv P) (h : Rr (some (.int (iZ a))) s.heap H) : W p l e R s m args below meth c H locs cells slots (MQ below (Q1 Rr) args s mc ms free) (F0 m pc ls [.int (iZ a)]) := W.widen hc.1 hc.2 (W.zret hx hb hr (by rw [h1]; exact bv_zr P) (fun t ht hW => ⟨_, rfl, by rw [ht]; exact h⟩) hL d hlocks)
theorem z_loop1 {A1 : Type} {nL : Nat} (L : A1 → List (Nat × Value)) (I : A1 → Prop) (μ : A1 → Int) {a1 : A1} (h0 : I a1) (hl : lv_has ls nL (L a1)) (hs : ∀ (a1 : A1), I a1 → (∀ (b1 : A1), I b1 → (0 ≤ μ b1 ∧ μ b1 < μ a1) → ∀ ls : Array Slot, lv_has ls nL (L b1) → W p l e R s m args below meth c H locs cells slots Q (F0 m pc ls st0)) → ∀ ls : Array Slot, lv_has ls nL (L a1) → W p l e R s m args below meth c H locs cells slots Q (F0 m pc ls st0)) : W p l e R s m args below meth c H locs cells slots Q (F0 m pc ls st0) := by
  have key : ∀ (n : Nat) (a1 : A1), I a1 → (μ a1).toNat < n → ∀ ls : Array Slot, lv_has ls nL (L a1) → W p l e R s m args below meth c H locs cells slots Q (F0 m pc ls st0) := by
    intro n
    induction n with
    | zero => intro a1 _ h; exact absurd h (Nat.not_lt_zero _)
    | succ n ih => exact fun a1 hI hm => hs a1 hI (fun b1 hJ hc => ih b1 hJ (by omega))
  exact key _ a1 h0 (Nat.lt_succ_self _) ls hl
theorem z_loopH1 {A1 : Type} {nL : Nat} {A : Nat → Prop} (L : A1 → List (Nat × Value)) (I : A1 → Heap → Prop) (μ : A1 → Int) (C D : A1 → Nat) {a1 : A1} (h0 : I a1 H) (hL : ∀ q ∈ locs, A q.base) (hl : lv_has ls nL (L a1)) (hs : ∀ (a1 : A1) (H : Heap) (locs : List Loc), I a1 H → (∀ q ∈ locs, A q.base) → (∀ (b1 : A1) (H1 : Heap) (locs1 : List Loc), I b1 H1 → (∀ q ∈ locs1, A q.base) → (0 ≤ μ b1 ∧ μ b1 < μ a1) → ∀ ls : Array Slot, lv_has ls nL (L b1) → W p l e R s m args below meth c H1 locs1 (C b1) (D b1) Q (F0 m pc ls st0)) → ∀ ls : Array Slot, lv_has ls nL (L a1) → W p l e R s m args below meth c H locs (C a1) (D a1) Q (F0 m pc ls st0)) : W p l e R s m args below meth c H locs (C a1) (D a1) Q (F0 m pc ls st0) := by
  have key : ∀ (n : Nat) (a1 : A1) (H : Heap) (locs : List Loc), I a1 H → (∀ q ∈ locs, A q.base) → (μ a1).toNat < n → ∀ ls : Array Slot, lv_has ls nL (L a1) → W p l e R s m args below meth c H locs (C a1) (D a1) Q (F0 m pc ls st0) := by
    intro n
    induction n with
    | zero => intro a1 H locs _ _ h; exact absurd h (Nat.not_lt_zero _)
    | succ n ih => exact fun a1 H locs hI hA hm => hs a1 H locs hI hA (fun b1 H1 locs1 hJ hA1 hc => ih b1 H1 locs1 hJ hA1 (by omega))
  exact key _ a1 H locs h0 hL (Nat.lt_succ_self _) ls hl
theorem z_loop2 {A1 A2 : Type} {nL : Nat} (L : A1 → A2 → List (Nat × Value)) (I : A1 → A2 → Prop) (μ : A1 → A2 → Int) {a1 : A1} {a2 : A2} (h0 : I a1 a2) (hl : lv_has ls nL (L a1 a2)) (hs : ∀ (a1 : A1) (a2 : A2), I a1 a2 → (∀ (b1 : A1) (b2 : A2), I b1 b2 → (0 ≤ μ b1 b2 ∧ μ b1 b2 < μ a1 a2) → ∀ ls : Array Slot, lv_has ls nL (L b1 b2) → W p l e R s m args below meth c H locs cells slots Q (F0 m pc ls st0)) → ∀ ls : Array Slot, lv_has ls nL (L a1 a2) → W p l e R s m args below meth c H locs cells slots Q (F0 m pc ls st0)) : W p l e R s m args below meth c H locs cells slots Q (F0 m pc ls st0) := by
  have key : ∀ (n : Nat) (a1 : A1) (a2 : A2), I a1 a2 → (μ a1 a2).toNat < n → ∀ ls : Array Slot, lv_has ls nL (L a1 a2) → W p l e R s m args below meth c H locs cells slots Q (F0 m pc ls st0) := by
    intro n
    induction n with
    | zero => intro a1 a2 _ h; exact absurd h (Nat.not_lt_zero _)
    | succ n ih => exact fun a1 a2 hI hm => hs a1 a2 hI (fun b1 b2 hJ hc => ih b1 b2 hJ (by omega))
  exact key _ a1 a2 h0 (Nat.lt_succ_self _) ls hl
theorem z_loopH2 {A1 A2 : Type} {nL : Nat} {A : Nat → Prop} (L : A1 → A2 → List (Nat × Value)) (I : A1 → A2 → Heap → Prop) (μ : A1 → A2 → Int) (C D : A1 → A2 → Nat) {a1 : A1} {a2 : A2} (h0 : I a1 a2 H) (hL : ∀ q ∈ locs, A q.base) (hl : lv_has ls nL (L a1 a2)) (hs : ∀ (a1 : A1) (a2 : A2) (H : Heap) (locs : List Loc), I a1 a2 H → (∀ q ∈ locs, A q.base) → (∀ (b1 : A1) (b2 : A2) (H1 : Heap) (locs1 : List Loc), I b1 b2 H1 → (∀ q ∈ locs1, A q.base) → (0 ≤ μ b1 b2 ∧ μ b1 b2 < μ a1 a2) → ∀ ls : Array Slot, lv_has ls nL (L b1 b2) → W p l e R s m args below meth c H1 locs1 (C b1 b2) (D b1 b2) Q (F0 m pc ls st0)) → ∀ ls : Array Slot, lv_has ls nL (L a1 a2) → W p l e R s m args below meth c H locs (C a1 a2) (D a1 a2) Q (F0 m pc ls st0)) : W p l e R s m args below meth c H locs (C a1 a2) (D a1 a2) Q (F0 m pc ls st0) := by
  have key : ∀ (n : Nat) (a1 : A1) (a2 : A2) (H : Heap) (locs : List Loc), I a1 a2 H → (∀ q ∈ locs, A q.base) → (μ a1 a2).toNat < n → ∀ ls : Array Slot, lv_has ls nL (L a1 a2) → W p l e R s m args below meth c H locs (C a1 a2) (D a1 a2) Q (F0 m pc ls st0) := by
    intro n
    induction n with
    | zero => intro a1 a2 H locs _ _ h; exact absurd h (Nat.not_lt_zero _)
    | succ n ih => exact fun a1 a2 H locs hI hA hm => hs a1 a2 H locs hI hA (fun b1 b2 H1 locs1 hJ hA1 hc => ih b1 b2 H1 locs1 hJ hA1 (by omega))
  exact key _ a1 a2 H locs h0 hL (Nat.lt_succ_self _) ls hl
theorem z_loop3 {A1 A2 A3 : Type} {nL : Nat} (L : A1 → A2 → A3 → List (Nat × Value)) (I : A1 → A2 → A3 → Prop) (μ : A1 → A2 → A3 → Int) {a1 : A1} {a2 : A2} {a3 : A3} (h0 : I a1 a2 a3) (hl : lv_has ls nL (L a1 a2 a3)) (hs : ∀ (a1 : A1) (a2 : A2) (a3 : A3), I a1 a2 a3 → (∀ (b1 : A1) (b2 : A2) (b3 : A3), I b1 b2 b3 → (0 ≤ μ b1 b2 b3 ∧ μ b1 b2 b3 < μ a1 a2 a3) → ∀ ls : Array Slot, lv_has ls nL (L b1 b2 b3) → W p l e R s m args below meth c H locs cells slots Q (F0 m pc ls st0)) → ∀ ls : Array Slot, lv_has ls nL (L a1 a2 a3) → W p l e R s m args below meth c H locs cells slots Q (F0 m pc ls st0)) : W p l e R s m args below meth c H locs cells slots Q (F0 m pc ls st0) := by
  have key : ∀ (n : Nat) (a1 : A1) (a2 : A2) (a3 : A3), I a1 a2 a3 → (μ a1 a2 a3).toNat < n → ∀ ls : Array Slot, lv_has ls nL (L a1 a2 a3) → W p l e R s m args below meth c H locs cells slots Q (F0 m pc ls st0) := by
    intro n
    induction n with
    | zero => intro a1 a2 a3 _ h; exact absurd h (Nat.not_lt_zero _)
    | succ n ih => exact fun a1 a2 a3 hI hm => hs a1 a2 a3 hI (fun b1 b2 b3 hJ hc => ih b1 b2 b3 hJ (by omega))
  exact key _ a1 a2 a3 h0 (Nat.lt_succ_self _) ls hl
theorem z_loopH3 {A1 A2 A3 : Type} {nL : Nat} {A : Nat → Prop} (L : A1 → A2 → A3 → List (Nat × Value)) (I : A1 → A2 → A3 → Heap → Prop) (μ : A1 → A2 → A3 → Int) (C D : A1 → A2 → A3 → Nat) {a1 : A1} {a2 : A2} {a3 : A3} (h0 : I a1 a2 a3 H) (hL : ∀ q ∈ locs, A q.base) (hl : lv_has ls nL (L a1 a2 a3)) (hs : ∀ (a1 : A1) (a2 : A2) (a3 : A3) (H : Heap) (locs : List Loc), I a1 a2 a3 H → (∀ q ∈ locs, A q.base) → (∀ (b1 : A1) (b2 : A2) (b3 : A3) (H1 : Heap) (locs1 : List Loc), I b1 b2 b3 H1 → (∀ q ∈ locs1, A q.base) → (0 ≤ μ b1 b2 b3 ∧ μ b1 b2 b3 < μ a1 a2 a3) → ∀ ls : Array Slot, lv_has ls nL (L b1 b2 b3) → W p l e R s m args below meth c H1 locs1 (C b1 b2 b3) (D b1 b2 b3) Q (F0 m pc ls st0)) → ∀ ls : Array Slot, lv_has ls nL (L a1 a2 a3) → W p l e R s m args below meth c H locs (C a1 a2 a3) (D a1 a2 a3) Q (F0 m pc ls st0)) : W p l e R s m args below meth c H locs (C a1 a2 a3) (D a1 a2 a3) Q (F0 m pc ls st0) := by
  have key : ∀ (n : Nat) (a1 : A1) (a2 : A2) (a3 : A3) (H : Heap) (locs : List Loc), I a1 a2 a3 H → (∀ q ∈ locs, A q.base) → (μ a1 a2 a3).toNat < n → ∀ ls : Array Slot, lv_has ls nL (L a1 a2 a3) → W p l e R s m args below meth c H locs (C a1 a2 a3) (D a1 a2 a3) Q (F0 m pc ls st0) := by
    intro n
    induction n with
    | zero => intro a1 a2 a3 H locs _ _ h; exact absurd h (Nat.not_lt_zero _)
    | succ n ih => exact fun a1 a2 a3 H locs hI hA hm => hs a1 a2 a3 H locs hI hA (fun b1 b2 b3 H1 locs1 hJ hA1 hc => ih b1 b2 b3 H1 locs1 hJ hA1 (by omega))
  exact key _ a1 a2 a3 H locs h0 hL (Nat.lt_succ_self _) ls hl
theorem z_loop4 {A1 A2 A3 A4 : Type} {nL : Nat} (L : A1 → A2 → A3 → A4 → List (Nat × Value)) (I : A1 → A2 → A3 → A4 → Prop) (μ : A1 → A2 → A3 → A4 → Int) {a1 : A1} {a2 : A2} {a3 : A3} {a4 : A4} (h0 : I a1 a2 a3 a4) (hl : lv_has ls nL (L a1 a2 a3 a4)) (hs : ∀ (a1 : A1) (a2 : A2) (a3 : A3) (a4 : A4), I a1 a2 a3 a4 → (∀ (b1 : A1) (b2 : A2) (b3 : A3) (b4 : A4), I b1 b2 b3 b4 → (0 ≤ μ b1 b2 b3 b4 ∧ μ b1 b2 b3 b4 < μ a1 a2 a3 a4) → ∀ ls : Array Slot, lv_has ls nL (L b1 b2 b3 b4) → W p l e R s m args below meth c H locs cells slots Q (F0 m pc ls st0)) → ∀ ls : Array Slot, lv_has ls nL (L a1 a2 a3 a4) → W p l e R s m args below meth c H locs cells slots Q (F0 m pc ls st0)) : W p l e R s m args below meth c H locs cells slots Q (F0 m pc ls st0) := by
  have key : ∀ (n : Nat) (a1 : A1) (a2 : A2) (a3 : A3) (a4 : A4), I a1 a2 a3 a4 → (μ a1 a2 a3 a4).toNat < n → ∀ ls : Array Slot, lv_has ls nL (L a1 a2 a3 a4) → W p l e R s m args below meth c H locs cells slots Q (F0 m pc ls st0) := by
    intro n
    induction n with
    | zero => intro a1 a2 a3 a4 _ h; exact absurd h (Nat.not_lt_zero _)
    | succ n ih => exact fun a1 a2 a3 a4 hI hm => hs a1 a2 a3 a4 hI (fun b1 b2 b3 b4 hJ hc => ih b1 b2 b3 b4 hJ (by omega))
  exact key _ a1 a2 a3 a4 h0 (Nat.lt_succ_self _) ls hl
theorem z_loopH4 {A1 A2 A3 A4 : Type} {nL : Nat} {A : Nat → Prop} (L : A1 → A2 → A3 → A4 → List (Nat × Value)) (I : A1 → A2 → A3 → A4 → Heap → Prop) (μ : A1 → A2 → A3 → A4 → Int) (C D : A1 → A2 → A3 → A4 → Nat) {a1 : A1} {a2 : A2} {a3 : A3} {a4 : A4} (h0 : I a1 a2 a3 a4 H) (hL : ∀ q ∈ locs, A q.base) (hl : lv_has ls nL (L a1 a2 a3 a4)) (hs : ∀ (a1 : A1) (a2 : A2) (a3 : A3) (a4 : A4) (H : Heap) (locs : List Loc), I a1 a2 a3 a4 H → (∀ q ∈ locs, A q.base) → (∀ (b1 : A1) (b2 : A2) (b3 : A3) (b4 : A4) (H1 : Heap) (locs1 : List Loc), I b1 b2 b3 b4 H1 → (∀ q ∈ locs1, A q.base) → (0 ≤ μ b1 b2 b3 b4 ∧ μ b1 b2 b3 b4 < μ a1 a2 a3 a4) → ∀ ls : Array Slot, lv_has ls nL (L b1 b2 b3 b4) → W p l e R s m args below meth c H1 locs1 (C b1 b2 b3 b4) (D b1 b2 b3 b4) Q (F0 m pc ls st0)) → ∀ ls : Array Slot, lv_has ls nL (L a1 a2 a3 a4) → W p l e R s m args below meth c H locs (C a1 a2 a3 a4) (D a1 a2 a3 a4) Q (F0 m pc ls st0)) : W p l e R s m args below meth c H locs (C a1 a2 a3 a4) (D a1 a2 a3 a4) Q (F0 m pc ls st0) := by
  have key : ∀ (n : Nat) (a1 : A1) (a2 : A2) (a3 : A3) (a4 : A4) (H : Heap) (locs : List Loc), I a1 a2 a3 a4 H → (∀ q ∈ locs, A q.base) → (μ a1 a2 a3 a4).toNat < n → ∀ ls : Array Slot, lv_has ls nL (L a1 a2 a3 a4) → W p l e R s m args below meth c H locs (C a1 a2 a3 a4) (D a1 a2 a3 a4) Q (F0 m pc ls st0) := by
    intro n
    induction n with
    | zero => intro a1 a2 a3 a4 H locs _ _ h; exact absurd h (Nat.not_lt_zero _)
    | succ n ih => exact fun a1 a2 a3 a4 H locs hI hA hm => hs a1 a2 a3 a4 H locs hI hA (fun b1 b2 b3 b4 H1 locs1 hJ hA1 hc => ih b1 b2 b3 b4 H1 locs1 hJ hA1 (by omega))
  exact key _ a1 a2 a3 a4 H locs h0 hL (Nat.lt_succ_self _) ls hl
theorem z_loop5 {A1 A2 A3 A4 A5 : Type} {nL : Nat} (L : A1 → A2 → A3 → A4 → A5 → List (Nat × Value)) (I : A1 → A2 → A3 → A4 → A5 → Prop) (μ : A1 → A2 → A3 → A4 → A5 → Int) {a1 : A1} {a2 : A2} {a3 : A3} {a4 : A4} {a5 : A5} (h0 : I a1 a2 a3 a4 a5) (hl : lv_has ls nL (L a1 a2 a3 a4 a5)) (hs : ∀ (a1 : A1) (a2 : A2) (a3 : A3) (a4 : A4) (a5 : A5), I a1 a2 a3 a4 a5 → (∀ (b1 : A1) (b2 : A2) (b3 : A3) (b4 : A4) (b5 : A5), I b1 b2 b3 b4 b5 → (0 ≤ μ b1 b2 b3 b4 b5 ∧ μ b1 b2 b3 b4 b5 < μ a1 a2 a3 a4 a5) → ∀ ls : Array Slot, lv_has ls nL (L b1 b2 b3 b4 b5) → W p l e R s m args below meth c H locs cells slots Q (F0 m pc ls st0)) → ∀ ls : Array Slot, lv_has ls nL (L a1 a2 a3 a4 a5) → W p l e R s m args below meth c H locs cells slots Q (F0 m pc ls st0)) : W p l e R s m args below meth c H locs cells slots Q (F0 m pc ls st0) := by
  have key : ∀ (n : Nat) (a1 : A1) (a2 : A2) (a3 : A3) (a4 : A4) (a5 : A5), I a1 a2 a3 a4 a5 → (μ a1 a2 a3 a4 a5).toNat < n → ∀ ls : Array Slot, lv_has ls nL (L a1 a2 a3 a4 a5) → W p l e R s m args below meth c H locs cells slots Q (F0 m pc ls st0) := by
    intro n
    induction n with
    | zero => intro a1 a2 a3 a4 a5 _ h; exact absurd h (Nat.not_lt_zero _)
    | succ n ih => exact fun a1 a2 a3 a4 a5 hI hm => hs a1 a2 a3 a4 a5 hI (fun b1 b2 b3 b4 b5 hJ hc => ih b1 b2 b3 b4 b5 hJ (by omega))
  exact key _ a1 a2 a3 a4 a5 h0 (Nat.lt_succ_self _) ls hl
theorem z_loopH5 {A1 A2 A3 A4 A5 : Type} {nL : Nat} {A : Nat → Prop} (L : A1 → A2 → A3 → A4 → A5 → List (Nat × Value)) (I : A1 → A2 → A3 → A4 → A5 → Heap → Prop) (μ : A1 → A2 → A3 → A4 → A5 → Int) (C D : A1 → A2 → A3 → A4 → A5 → Nat) {a1 : A1} {a2 : A2} {a3 : A3} {a4 : A4} {a5 : A5} (h0 : I a1 a2 a3 a4 a5 H) (hL : ∀ q ∈ locs, A q.base) (hl : lv_has ls nL (L a1 a2 a3 a4 a5)) (hs : ∀ (a1 : A1) (a2 : A2) (a3 : A3) (a4 : A4) (a5 : A5) (H : Heap) (locs : List Loc), I a1 a2 a3 a4 a5 H → (∀ q ∈ locs, A q.base) → (∀ (b1 : A1) (b2 : A2) (b3 : A3) (b4 : A4) (b5 : A5) (H1 : Heap) (locs1 : List Loc), I b1 b2 b3 b4 b5 H1 → (∀ q ∈ locs1, A q.base) → (0 ≤ μ b1 b2 b3 b4 b5 ∧ μ b1 b2 b3 b4 b5 < μ a1 a2 a3 a4 a5) → ∀ ls : Array Slot, lv_has ls nL (L b1 b2 b3 b4 b5) → W p l e R s m args below meth c H1 locs1 (C b1 b2 b3 b4 b5) (D b1 b2 b3 b4 b5) Q (F0 m pc ls st0)) → ∀ ls : Array Slot, lv_has ls nL (L a1 a2 a3 a4 a5) → W p l e R s m args below meth c H locs (C a1 a2 a3 a4 a5) (D a1 a2 a3 a4 a5) Q (F0 m pc ls st0)) : W p l e R s m args below meth c H locs (C a1 a2 a3 a4 a5) (D a1 a2 a3 a4 a5) Q (F0 m pc ls st0) := by
  have key : ∀ (n : Nat) (a1 : A1) (a2 : A2) (a3 : A3) (a4 : A4) (a5 : A5) (H : Heap) (locs : List Loc), I a1 a2 a3 a4 a5 H → (∀ q ∈ locs, A q.base) → (μ a1 a2 a3 a4 a5).toNat < n → ∀ ls : Array Slot, lv_has ls nL (L a1 a2 a3 a4 a5) → W p l e R s m args below meth c H locs (C a1 a2 a3 a4 a5) (D a1 a2 a3 a4 a5) Q (F0 m pc ls st0) := by
    intro n
    induction n with
    | zero => intro a1 a2 a3 a4 a5 H locs _ _ h; exact absurd h (Nat.not_lt_zero _)
    | succ n ih => exact fun a1 a2 a3 a4 a5 H locs hI hA hm => hs a1 a2 a3 a4 a5 H locs hI hA (fun b1 b2 b3 b4 b5 H1 locs1 hJ hA1 hc => ih b1 b2 b3 b4 b5 H1 locs1 hJ hA1 (by omega))
  exact key _ a1 a2 a3 a4 a5 H locs h0 hL (Nat.lt_succ_self _) ls hl
theorem z_loop6 {A1 A2 A3 A4 A5 A6 : Type} {nL : Nat} (L : A1 → A2 → A3 → A4 → A5 → A6 → List (Nat × Value)) (I : A1 → A2 → A3 → A4 → A5 → A6 → Prop) (μ : A1 → A2 → A3 → A4 → A5 → A6 → Int) {a1 : A1} {a2 : A2} {a3 : A3} {a4 : A4} {a5 : A5} {a6 : A6} (h0 : I a1 a2 a3 a4 a5 a6) (hl : lv_has ls nL (L a1 a2 a3 a4 a5 a6)) (hs : ∀ (a1 : A1) (a2 : A2) (a3 : A3) (a4 : A4) (a5 : A5) (a6 : A6), I a1 a2 a3 a4 a5 a6 → (∀ (b1 : A1) (b2 : A2) (b3 : A3) (b4 : A4) (b5 : A5) (b6 : A6), I b1 b2 b3 b4 b5 b6 → (0 ≤ μ b1 b2 b3 b4 b5 b6 ∧ μ b1 b2 b3 b4 b5 b6 < μ a1 a2 a3 a4 a5 a6) → ∀ ls : Array Slot, lv_has ls nL (L b1 b2 b3 b4 b5 b6) → W p l e R s m args below meth c H locs cells slots Q (F0 m pc ls st0)) → ∀ ls : Array Slot, lv_has ls nL (L a1 a2 a3 a4 a5 a6) → W p l e R s m args below meth c H locs cells slots Q (F0 m pc ls st0)) : W p l e R s m args below meth c H locs cells slots Q (F0 m pc ls st0) := by
  have key : ∀ (n : Nat) (a1 : A1) (a2 : A2) (a3 : A3) (a4 : A4) (a5 : A5) (a6 : A6), I a1 a2 a3 a4 a5 a6 → (μ a1 a2 a3 a4 a5 a6).toNat < n → ∀ ls : Array Slot, lv_has ls nL (L a1 a2 a3 a4 a5 a6) → W p l e R s m args below meth c H locs cells slots Q (F0 m pc ls st0) := by
    intro n
    induction n with
    | zero => intro a1 a2 a3 a4 a5 a6 _ h; exact absurd h (Nat.not_lt_zero _)
    | succ n ih => exact fun a1 a2 a3 a4 a5 a6 hI hm => hs a1 a2 a3 a4 a5 a6 hI (fun b1 b2 b3 b4 b5 b6 hJ hc => ih b1 b2 b3 b4 b5 b6 hJ (by omega))
  exact key _ a1 a2 a3 a4 a5 a6 h0 (Nat.lt_succ_self _) ls hl
theorem z_loopH6 {A1 A2 A3 A4 A5 A6 : Type} {nL : Nat} {A : Nat → Prop} (L : A1 → A2 → A3 → A4 → A5 → A6 → List (Nat × Value)) (I : A1 → A2 → A3 → A4 → A5 → A6 → Heap → Prop) (μ : A1 → A2 → A3 → A4 → A5 → A6 → Int) (C D : A1 → A2 → A3 → A4 → A5 → A6 → Nat) {a1 : A1} {a2 : A2} {a3 : A3} {a4 : A4} {a5 : A5} {a6 : A6} (h0 : I a1 a2 a3 a4 a5 a6 H) (hL : ∀ q ∈ locs, A q.base) (hl : lv_has ls nL (L a1 a2 a3 a4 a5 a6)) (hs : ∀ (a1 : A1) (a2 : A2) (a3 : A3) (a4 : A4) (a5 : A5) (a6 : A6) (H : Heap) (locs : List Loc), I a1 a2 a3 a4 a5 a6 H → (∀ q ∈ locs, A q.base) → (∀ (b1 : A1) (b2 : A2) (b3 : A3) (b4 : A4) (b5 : A5) (b6 : A6) (H1 : Heap) (locs1 : List Loc), I b1 b2 b3 b4 b5 b6 H1 → (∀ q ∈ locs1, A q.base) → (0 ≤ μ b1 b2 b3 b4 b5 b6 ∧ μ b1 b2 b3 b4 b5 b6 < μ a1 a2 a3 a4 a5 a6) → ∀ ls : Array Slot, lv_has ls nL (L b1 b2 b3 b4 b5 b6) → W p l e R s m args below meth c H1 locs1 (C b1 b2 b3 b4 b5 b6) (D b1 b2 b3 b4 b5 b6) Q (F0 m pc ls st0)) → ∀ ls : Array Slot, lv_has ls nL (L a1 a2 a3 a4 a5 a6) → W p l e R s m args below meth c H locs (C a1 a2 a3 a4 a5 a6) (D a1 a2 a3 a4 a5 a6) Q (F0 m pc ls st0)) : W p l e R s m args below meth c H locs (C a1 a2 a3 a4 a5 a6) (D a1 a2 a3 a4 a5 a6) Q (F0 m pc ls st0) := by
  have key : ∀ (n : Nat) (a1 : A1) (a2 : A2) (a3 : A3) (a4 : A4) (a5 : A5) (a6 : A6) (H : Heap) (locs : List Loc), I a1 a2 a3 a4 a5 a6 H → (∀ q ∈ locs, A q.base) → (μ a1 a2 a3 a4 a5 a6).toNat < n → ∀ ls : Array Slot, lv_has ls nL (L a1 a2 a3 a4 a5 a6) → W p l e R s m args below meth c H locs (C a1 a2 a3 a4 a5 a6) (D a1 a2 a3 a4 a5 a6) Q (F0 m pc ls st0) := by
    intro n
    induction n with
    | zero => intro a1 a2 a3 a4 a5 a6 H locs _ _ h; exact absurd h (Nat.not_lt_zero _)
    | succ n ih => exact fun a1 a2 a3 a4 a5 a6 H locs hI hA hm => hs a1 a2 a3 a4 a5 a6 H locs hI hA (fun b1 b2 b3 b4 b5 b6 H1 locs1 hJ hA1 hc => ih b1 b2 b3 b4 b5 b6 H1 locs1 hJ hA1 (by omega))
  exact key _ a1 a2 a3 a4 a5 a6 H locs h0 hL (Nat.lt_succ_self _) ls hl
theorem z_loop7 {A1 A2 A3 A4 A5 A6 A7 : Type} {nL : Nat} (L : A1 → A2 → A3 → A4 → A5 → A6 → A7 → List (Nat × Value)) (I : A1 → A2 → A3 → A4 → A5 → A6 → A7 → Prop) (μ : A1 → A2 → A3 → A4 → A5 → A6 → A7 → Int) {a1 : A1} {a2 : A2} {a3 : A3} {a4 : A4} {a5 : A5} {a6 : A6} {a7 : A7} (h0 : I a1 a2 a3 a4 a5 a6 a7) (hl : lv_has ls nL (L a1 a2 a3 a4 a5 a6 a7)) (hs : ∀ (a1 : A1) (a2 : A2) (a3 : A3) (a4 : A4) (a5 : A5) (a6 : A6) (a7 : A7), I a1 a2 a3 a4 a5 a6 a7 → (∀ (b1 : A1) (b2 : A2) (b3 : A3) (b4 : A4) (b5 : A5) (b6 : A6) (b7 : A7), I b1 b2 b3 b4 b5 b6 b7 → (0 ≤ μ b1 b2 b3 b4 b5 b6 b7 ∧ μ b1 b2 b3 b4 b5 b6 b7 < μ a1 a2 a3 a4 a5 a6 a7) → ∀ ls : Array Slot, lv_has ls nL (L b1 b2 b3 b4 b5 b6 b7) → W p l e R s m args below meth c H locs cells slots Q (F0 m pc ls st0)) → ∀ ls : Array Slot, lv_has ls nL (L a1 a2 a3 a4 a5 a6 a7) → W p l e R s m args below meth c H locs cells slots Q (F0 m pc ls st0)) : W p l e R s m args below meth c H locs cells slots Q (F0 m pc ls st0) := by
  have key : ∀ (n : Nat) (a1 : A1) (a2 : A2) (a3 : A3) (a4 : A4) (a5 : A5) (a6 : A6) (a7 : A7), I a1 a2 a3 a4 a5 a6 a7 → (μ a1 a2 a3 a4 a5 a6 a7).toNat < n → ∀ ls : Array Slot, lv_has ls nL (L a1 a2 a3 a4 a5 a6 a7) → W p l e R s m args below meth c H locs cells slots Q (F0 m pc ls st0) := by
    intro n
    induction n with
    | zero => intro a1 a2 a3 a4 a5 a6 a7 _ h; exact absurd h (Nat.not_lt_zero _)
    | succ n ih => exact fun a1 a2 a3 a4 a5 a6 a7 hI hm => hs a1 a2 a3 a4 a5 a6 a7 hI (fun b1 b2 b3 b4 b5 b6 b7 hJ hc => ih b1 b2 b3 b4 b5 b6 b7 hJ (by omega))
  exact key _ a1 a2 a3 a4 a5 a6 a7 h0 (Nat.lt_succ_self _) ls hl
theorem z_loopH7 {A1 A2 A3 A4 A5 A6 A7 : Type} {nL : Nat} {A : Nat → Prop} (L : A1 → A2 → A3 → A4 → A5 → A6 → A7 → List (Nat × Value)) (I : A1 → A2 → A3 → A4 → A5 → A6 → A7 → Heap → Prop) (μ : A1 → A2 → A3 → A4 → A5 → A6 → A7 → Int) (C D : A1 → A2 → A3 → A4 → A5 → A6 → A7 → Nat) {a1 : A1} {a2 : A2} {a3 : A3} {a4 : A4} {a5 : A5} {a6 : A6} {a7 : A7} (h0 : I a1 a2 a3 a4 a5 a6 a7 H) (hL : ∀ q ∈ locs, A q.base) (hl : lv_has ls nL (L a1 a2 a3 a4 a5 a6 a7)) (hs : ∀ (a1 : A1) (a2 : A2) (a3 : A3) (a4 : A4) (a5 : A5) (a6 : A6) (a7 : A7) (H : Heap) (locs : List Loc), I a1 a2 a3 a4 a5 a6 a7 H → (∀ q ∈ locs, A q.base) → (∀ (b1 : A1) (b2 : A2) (b3 : A3) (b4 : A4) (b5 : A5) (b6 : A6) (b7 : A7) (H1 : Heap) (locs1 : List Loc), I b1 b2 b3 b4 b5 b6 b7 H1 → (∀ q ∈ locs1, A q.base) → (0 ≤ μ b1 b2 b3 b4 b5 b6 b7 ∧ μ b1 b2 b3 b4 b5 b6 b7 < μ a1 a2 a3 a4 a5 a6 a7) → ∀ ls : Array Slot, lv_has ls nL (L b1 b2 b3 b4 b5 b6 b7) → W p l e R s m args below meth c H1 locs1 (C b1 b2 b3 b4 b5 b6 b7) (D b1 b2 b3 b4 b5 b6 b7) Q (F0 m pc ls st0)) → ∀ ls : Array Slot, lv_has ls nL (L a1 a2 a3 a4 a5 a6 a7) → W p l e R s m args below meth c H locs (C a1 a2 a3 a4 a5 a6 a7) (D a1 a2 a3 a4 a5 a6 a7) Q (F0 m pc ls st0)) : W p l e R s m args below meth c H locs (C a1 a2 a3 a4 a5 a6 a7) (D a1 a2 a3 a4 a5 a6 a7) Q (F0 m pc ls st0) := by
  have key : ∀ (n : Nat) (a1 : A1) (a2 : A2) (a3 : A3) (a4 : A4) (a5 : A5) (a6 : A6) (a7 : A7) (H : Heap) (locs : List Loc), I a1 a2 a3 a4 a5 a6 a7 H → (∀ q ∈ locs, A q.base) → (μ a1 a2 a3 a4 a5 a6 a7).toNat < n → ∀ ls : Array Slot, lv_has ls nL (L a1 a2 a3 a4 a5 a6 a7) → W p l e R s m args below meth c H locs (C a1 a2 a3 a4 a5 a6 a7) (D a1 a2 a3 a4 a5 a6 a7) Q (F0 m pc ls st0) := by
    intro n
    induction n with
    | zero => intro a1 a2 a3 a4 a5 a6 a7 H locs _ _ h; exact absurd h (Nat.not_lt_zero _)
    | succ n ih => exact fun a1 a2 a3 a4 a5 a6 a7 H locs hI hA hm => hs a1 a2 a3 a4 a5 a6 a7 H locs hI hA (fun b1 b2 b3 b4 b5 b6 b7 H1 locs1 hJ hA1 hc => ih b1 b2 b3 b4 b5 b6 b7 H1 locs1 hJ hA1 (by omega))
  exact key _ a1 a2 a3 a4 a5 a6 a7 H locs h0 hL (Nat.lt_succ_self _) ls hl
theorem z_loop8 {A1 A2 A3 A4 A5 A6 A7 A8 : Type} {nL : Nat} (L : A1 → A2 → A3 → A4 → A5 → A6 → A7 → A8 → List (Nat × Value)) (I : A1 → A2 → A3 → A4 → A5 → A6 → A7 → A8 → Prop) (μ : A1 → A2 → A3 → A4 → A5 → A6 → A7 → A8 → Int) {a1 : A1} {a2 : A2} {a3 : A3} {a4 : A4} {a5 : A5} {a6 : A6} {a7 : A7} {a8 : A8} (h0 : I a1 a2 a3 a4 a5 a6 a7 a8) (hl : lv_has ls nL (L a1 a2 a3 a4 a5 a6 a7 a8)) (hs : ∀ (a1 : A1) (a2 : A2) (a3 : A3) (a4 : A4) (a5 : A5) (a6 : A6) (a7 : A7) (a8 : A8), I a1 a2 a3 a4 a5 a6 a7 a8 → (∀ (b1 : A1) (b2 : A2) (b3 : A3) (b4 : A4) (b5 : A5) (b6 : A6) (b7 : A7) (b8 : A8), I b1 b2 b3 b4 b5 b6 b7 b8 → (0 ≤ μ b1 b2 b3 b4 b5 b6 b7 b8 ∧ μ b1 b2 b3 b4 b5 b6 b7 b8 < μ a1 a2 a3 a4 a5 a6 a7 a8) → ∀ ls : Array Slot, lv_has ls nL (L b1 b2 b3 b4 b5 b6 b7 b8) → W p l e R s m args below meth c H locs cells slots Q (F0 m pc ls st0)) → ∀ ls : Array Slot, lv_has ls nL (L a1 a2 a3 a4 a5 a6 a7 a8) → W p l e R s m args below meth c H locs cells slots Q (F0 m pc ls st0)) : W p l e R s m args below meth c H locs cells slots Q (F0 m pc ls st0) := by
  have key : ∀ (n : Nat) (a1 : A1) (a2 : A2) (a3 : A3) (a4 : A4) (a5 : A5) (a6 : A6) (a7 : A7) (a8 : A8), I a1 a2 a3 a4 a5 a6 a7 a8 → (μ a1 a2 a3 a4 a5 a6 a7 a8).toNat < n → ∀ ls : Array Slot, lv_has ls nL (L a1 a2 a3 a4 a5 a6 a7 a8) → W p l e R s m args below meth c H locs cells slots Q (F0 m pc ls st0) := by
    intro n
    induction n with
    | zero => intro a1 a2 a3 a4 a5 a6 a7 a8 _ h; exact absurd h (Nat.not_lt_zero _)
    | succ n ih => exact fun a1 a2 a3 a4 a5 a6 a7 a8 hI hm => hs a1 a2 a3 a4 a5 a6 a7 a8 hI (fun b1 b2 b3 b4 b5 b6 b7 b8 hJ hc => ih b1 b2 b3 b4 b5 b6 b7 b8 hJ (by omega))
  exact key _ a1 a2 a3 a4 a5 a6 a7 a8 h0 (Nat.lt_succ_self _) ls hl
theorem z_loopH8 {A1 A2 A3 A4 A5 A6 A7 A8 : Type} {nL : Nat} {A : Nat → Prop} (L : A1 → A2 → A3 → A4 → A5 → A6 → A7 → A8 → List (Nat × Value)) (I : A1 → A2 → A3 → A4 → A5 → A6 → A7 → A8 → Heap → Prop) (μ : A1 → A2 → A3 → A4 → A5 → A6 → A7 → A8 → Int) (C D : A1 → A2 → A3 → A4 → A5 → A6 → A7 → A8 → Nat) {a1 : A1} {a2 : A2} {a3 : A3} {a4 : A4} {a5 : A5} {a6 : A6} {a7 : A7} {a8 : A8} (h0 : I a1 a2 a3 a4 a5 a6 a7 a8 H) (hL : ∀ q ∈ locs, A q.base) (hl : lv_has ls nL (L a1 a2 a3 a4 a5 a6 a7 a8)) (hs : ∀ (a1 : A1) (a2 : A2) (a3 : A3) (a4 : A4) (a5 : A5) (a6 : A6) (a7 : A7) (a8 : A8) (H : Heap) (locs : List Loc), I a1 a2 a3 a4 a5 a6 a7 a8 H → (∀ q ∈ locs, A q.base) → (∀ (b1 : A1) (b2 : A2) (b3 : A3) (b4 : A4) (b5 : A5) (b6 : A6) (b7 : A7) (b8 : A8) (H1 : Heap) (locs1 : List Loc), I b1 b2 b3 b4 b5 b6 b7 b8 H1 → (∀ q ∈ locs1, A q.base) → (0 ≤ μ b1 b2 b3 b4 b5 b6 b7 b8 ∧ μ b1 b2 b3 b4 b5 b6 b7 b8 < μ a1 a2 a3 a4 a5 a6 a7 a8) → ∀ ls : Array Slot, lv_has ls nL (L b1 b2 b3 b4 b5 b6 b7 b8) → W p l e R s m args below meth c H1 locs1 (C b1 b2 b3 b4 b5 b6 b7 b8) (D b1 b2 b3 b4 b5 b6 b7 b8) Q (F0 m pc ls st0)) → ∀ ls : Array Slot, lv_has ls nL (L a1 a2 a3 a4 a5 a6 a7 a8) → W p l e R s m args below meth c H locs (C a1 a2 a3 a4 a5 a6 a7 a8) (D a1 a2 a3 a4 a5 a6 a7 a8) Q (F0 m pc ls st0)) : W p l e R s m args below meth c H locs (C a1 a2 a3 a4 a5 a6 a7 a8) (D a1 a2 a3 a4 a5 a6 a7 a8) Q (F0 m pc ls st0) := by
  have key : ∀ (n : Nat) (a1 : A1) (a2 : A2) (a3 : A3) (a4 : A4) (a5 : A5) (a6 : A6) (a7 : A7) (a8 : A8) (H : Heap) (locs : List Loc), I a1 a2 a3 a4 a5 a6 a7 a8 H → (∀ q ∈ locs, A q.base) → (μ a1 a2 a3 a4 a5 a6 a7 a8).toNat < n → ∀ ls : Array Slot, lv_has ls nL (L a1 a2 a3 a4 a5 a6 a7 a8) → W p l e R s m args below meth c H locs (C a1 a2 a3 a4 a5 a6 a7 a8) (D a1 a2 a3 a4 a5 a6 a7 a8) Q (F0 m pc ls st0) := by
    intro n
    induction n with
    | zero => intro a1 a2 a3 a4 a5 a6 a7 a8 H locs _ _ h; exact absurd h (Nat.not_lt_zero _)
    | succ n ih => exact fun a1 a2 a3 a4 a5 a6 a7 a8 H locs hI hA hm => hs a1 a2 a3 a4 a5 a6 a7 a8 H locs hI hA (fun b1 b2 b3 b4 b5 b6 b7 b8 H1 locs1 hJ hA1 hc => ih b1 b2 b3 b4 b5 b6 b7 b8 H1 locs1 hJ hA1 (by omega))
  exact key _ a1 a2 a3 a4 a5 a6 a7 a8 H locs h0 hL (Nat.lt_succ_self _) ls hl
end ZC
end
section
theorem dX0_init_0 : decode cX0_init 0 = .ok (.aload_n 0, 1) := by decide +kernel
theorem dX0_init_1 : decode cX0_init 1 = .ok (.invokespecial 3, 3) := by decide +kernel
theorem dX0_init_4 : decode cX0_init 4 = .ok (.aload_n 0, 1) := by decide +kernel
theorem dX0_init_5 : decode cX0_init 5 = .ok (.sipush 1000, 3) := by decide +kernel
theorem dX0_init_8 : decode cX0_init 8 = .ok (.newarray .boolean, 2) := by decide +kernel
theorem dX0_init_10 : decode cX0_init 10 = .ok (.putfield 9, 3) := by decide +kernel
theorem dX0_init_13 : decode cX0_init 13 = .ok (.aload_n 0, 1) := by decide +kernel
theorem dX0_init_14 : decode cX0_init 14 = .ok (.sipush 1001, 3) := by decide +kernel
theorem dX0_init_17 : decode cX0_init 17 = .ok (.newarray .int, 2) := by decide +kernel
theorem dX0_init_19 : decode cX0_init 19 = .ok (.putfield 15, 3) := by decide +kernel
theorem dX0_init_22 : decode cX0_init 22 = .ok (.return_, 1) := by decide +kernel
set_option maxRecDepth 20000 in
theorem ggX0_measure_X0_markPoints : GoodIn wsX0_measure wsX0_markPoints := goodIn_r _ [6, 7, 20, 21, 22, 23, 24] (by decide +kernel) (by decide +kernel)
set_option maxRecDepth 20000 in
theorem gX0_measure_X0_markPoints : GoodIn wsX0_measure (wsV RX0 19 RX0 yX0_markPoints wsX0_markPoints) := goodIn_app (goodIn_of _ (by decide +kernel)) ggX0_measure_X0_markPoints
set_option maxRecDepth 20000 in
theorem ggX0_measure_J7_fill_53178 : GoodIn wsX0_measure wsJ7_fill_53178 := goodIn_r _ [11] (by decide +kernel) (by decide +kernel)
set_option maxRecDepth 20000 in
theorem gX0_measure_J7_fill_53178 : GoodIn wsX0_measure (va_wsS RX0 23 yJ7_fill_53178 wsJ7_fill_53178) := goodIn_app (goodIn_of _ (by decide +kernel)) ggX0_measure_J7_fill_53178
set_option maxRecDepth 20000 in
theorem ggX0_measure_X0_isPoint : GoodIn wsX0_measure wsX0_isPoint := goodIn_r _ [15, 7, 20, 21] (by decide +kernel) (by decide +kernel)
set_option maxRecDepth 20000 in
theorem gX0_measure_X0_isPoint : GoodIn wsX0_measure (wsV RX0 35 RX0 yX0_isPoint wsX0_isPoint) := goodIn_app (goodIn_of _ (by decide +kernel)) ggX0_measure_X0_isPoint
set_option maxRecDepth 20000 in
theorem ggX0_measure_X0_addGap : GoodIn wsX0_measure wsX0_addGap := goodIn_r _ [19, 1, 20, 21] (by decide +kernel) (by decide +kernel)
set_option maxRecDepth 20000 in
theorem gX0_measure_X0_addGap : GoodIn wsX0_measure (wsV RX0 39 RX0 yX0_addGap wsX0_addGap) := goodIn_app (goodIn_of _ (by decide +kernel)) ggX0_measure_X0_addGap
theorem dX0_measure_0 : decode cX0_measure 0 = .ok (.aload_n 0, 1) := by decide +kernel
theorem dX0_measure_1 : decode cX0_measure 1 = .ok (.aload_n 1, 1) := by decide +kernel
theorem dX0_measure_2 : decode cX0_measure 2 = .ok (.iload_n 2, 1) := by decide +kernel
theorem dX0_measure_3 : decode cX0_measure 3 = .ok (.invokevirtual 19, 3) := by decide +kernel
theorem dX0_measure_6 : decode cX0_measure 6 = .ok (.aload_n 0, 1) := by decide +kernel
theorem dX0_measure_7 : decode cX0_measure 7 = .ok (.getfield 15, 3) := by decide +kernel
theorem dX0_measure_10 : decode cX0_measure 10 = .ok (.iconst 0, 1) := by decide +kernel
theorem dX0_measure_11 : decode cX0_measure 11 = .ok (.invokestatic 23, 3) := by decide +kernel
theorem dX0_measure_14 : decode cX0_measure 14 = .ok (.iconst 0, 1) := by decide +kernel
theorem dX0_measure_15 : decode cX0_measure 15 = .ok (.istore_n 3, 1) := by decide +kernel
theorem dX0_measure_16 : decode cX0_measure 16 = .ok (.iconst 1, 1) := by decide +kernel
theorem dX0_measure_17 : decode cX0_measure 17 = .ok (.istore 4, 2) := by decide +kernel
theorem dX0_measure_19 : decode cX0_measure 19 = .ok (.iload 4, 2) := by decide +kernel
theorem dX0_measure_21 : decode cX0_measure 21 = .ok (.aload_n 1, 1) := by decide +kernel
theorem dX0_measure_22 : decode cX0_measure 22 = .ok (.getfield 29, 3) := by decide +kernel
theorem dX0_measure_25 : decode cX0_measure 25 = .ok (.if_icmp .gt 38, 3) := by decide +kernel
theorem dX0_measure_28 : decode cX0_measure 28 = .ok (.iload 4, 2) := by decide +kernel
theorem dX0_measure_30 : decode cX0_measure 30 = .ok (.aload_n 1, 1) := by decide +kernel
theorem dX0_measure_31 : decode cX0_measure 31 = .ok (.getfield 29, 3) := by decide +kernel
theorem dX0_measure_34 : decode cX0_measure 34 = .ok (.if_icmp .eq 12, 3) := by decide +kernel
theorem dX0_measure_37 : decode cX0_measure 37 = .ok (.aload_n 0, 1) := by decide +kernel
theorem dX0_measure_38 : decode cX0_measure 38 = .ok (.iload 4, 2) := by decide +kernel
theorem dX0_measure_40 : decode cX0_measure 40 = .ok (.invokevirtual 35, 3) := by decide +kernel
theorem dX0_measure_43 : decode cX0_measure 43 = .ok (.ifCond .eq 14, 3) := by decide +kernel
theorem dX0_measure_46 : decode cX0_measure 46 = .ok (.aload_n 0, 1) := by decide +kernel
theorem dX0_measure_47 : decode cX0_measure 47 = .ok (.iload 4, 2) := by decide +kernel
theorem dX0_measure_49 : decode cX0_measure 49 = .ok (.iload_n 3, 1) := by decide +kernel
theorem dX0_measure_50 : decode cX0_measure 50 = .ok (.isub, 1) := by decide +kernel
theorem dX0_measure_51 : decode cX0_measure 51 = .ok (.invokevirtual 39, 3) := by decide +kernel
theorem dX0_measure_54 : decode cX0_measure 54 = .ok (.iload 4, 2) := by decide +kernel
theorem dX0_measure_56 : decode cX0_measure 56 = .ok (.istore_n 3, 1) := by decide +kernel
theorem dX0_measure_57 : decode cX0_measure 57 = .ok (.iinc 4 1, 3) := by decide +kernel
theorem dX0_measure_60 : decode cX0_measure 60 = .ok (.goto (-41), 3) := by decide +kernel
theorem dX0_measure_63 : decode cX0_measure 63 = .ok (.return_, 1) := by decide +kernel
theorem dX0_markPoints_0 : decode cX0_markPoints 0 = .ok (.iconst 0, 1) := by decide +kernel
theorem dX0_markPoints_1 : decode cX0_markPoints 1 = .ok (.istore_n 3, 1) := by decide +kernel
theorem dX0_markPoints_2 : decode cX0_markPoints 2 = .ok (.iload_n 3, 1) := by decide +kernel
theorem dX0_markPoints_3 : decode cX0_markPoints 3 = .ok (.aload_n 0, 1) := by decide +kernel
theorem dX0_markPoints_4 : decode cX0_markPoints 4 = .ok (.getfield 9, 3) := by decide +kernel
theorem dX0_markPoints_7 : decode cX0_markPoints 7 = .ok (.arraylength, 1) := by decide +kernel
theorem dX0_markPoints_8 : decode cX0_markPoints 8 = .ok (.if_icmp .ge 16, 3) := by decide +kernel
theorem dX0_markPoints_11 : decode cX0_markPoints 11 = .ok (.aload_n 0, 1) := by decide +kernel
theorem dX0_markPoints_12 : decode cX0_markPoints 12 = .ok (.getfield 9, 3) := by decide +kernel
theorem dX0_markPoints_15 : decode cX0_markPoints 15 = .ok (.iload_n 3, 1) := by decide +kernel
theorem dX0_markPoints_16 : decode cX0_markPoints 16 = .ok (.iconst 0, 1) := by decide +kernel
theorem dX0_markPoints_17 : decode cX0_markPoints 17 = .ok (.bastore, 1) := by decide +kernel
theorem dX0_markPoints_18 : decode cX0_markPoints 18 = .ok (.iinc 3 1, 3) := by decide +kernel
theorem dX0_markPoints_21 : decode cX0_markPoints 21 = .ok (.goto (-19), 3) := by decide +kernel
theorem dX0_markPoints_24 : decode cX0_markPoints 24 = .ok (.iconst 0, 1) := by decide +kernel
theorem dX0_markPoints_25 : decode cX0_markPoints 25 = .ok (.istore_n 3, 1) := by decide +kernel
theorem dX0_markPoints_26 : decode cX0_markPoints 26 = .ok (.iconst 0, 1) := by decide +kernel
theorem dX0_markPoints_27 : decode cX0_markPoints 27 = .ok (.istore 4, 2) := by decide +kernel
theorem dX0_markPoints_29 : decode cX0_markPoints 29 = .ok (.iload 4, 2) := by decide +kernel
theorem dX0_markPoints_31 : decode cX0_markPoints 31 = .ok (.iload_n 2, 1) := by decide +kernel
theorem dX0_markPoints_32 : decode cX0_markPoints 32 = .ok (.if_icmp .ge 51, 3) := by decide +kernel
theorem dX0_markPoints_35 : decode cX0_markPoints 35 = .ok (.iload_n 3, 1) := by decide +kernel
theorem dX0_markPoints_36 : decode cX0_markPoints 36 = .ok (.ifCond .lt 19, 3) := by decide +kernel
theorem dX0_markPoints_39 : decode cX0_markPoints 39 = .ok (.iload_n 3, 1) := by decide +kernel
theorem dX0_markPoints_40 : decode cX0_markPoints 40 = .ok (.aload_n 0, 1) := by decide +kernel
theorem dX0_markPoints_41 : decode cX0_markPoints 41 = .ok (.getfield 9, 3) := by decide +kernel
theorem dX0_markPoints_44 : decode cX0_markPoints 44 = .ok (.arraylength, 1) := by decide +kernel
theorem dX0_markPoints_45 : decode cX0_markPoints 45 = .ok (.if_icmp .ge 10, 3) := by decide +kernel
theorem dX0_markPoints_48 : decode cX0_markPoints 48 = .ok (.aload_n 0, 1) := by decide +kernel
theorem dX0_markPoints_49 : decode cX0_markPoints 49 = .ok (.getfield 9, 3) := by decide +kernel
theorem dX0_markPoints_52 : decode cX0_markPoints 52 = .ok (.iload_n 3, 1) := by decide +kernel
theorem dX0_markPoints_53 : decode cX0_markPoints 53 = .ok (.iconst 1, 1) := by decide +kernel
theorem dX0_markPoints_54 : decode cX0_markPoints 54 = .ok (.bastore, 1) := by decide +kernel
theorem dX0_markPoints_55 : decode cX0_markPoints 55 = .ok (.iload_n 3, 1) := by decide +kernel
theorem dX0_markPoints_56 : decode cX0_markPoints 56 = .ok (.aload_n 1, 1) := by decide +kernel
theorem dX0_markPoints_57 : decode cX0_markPoints 57 = .ok (.getfield 43, 3) := by decide +kernel
theorem dX0_markPoints_60 : decode cX0_markPoints 60 = .ok (.iadd, 1) := by decide +kernel
theorem dX0_markPoints_61 : decode cX0_markPoints 61 = .ok (.istore_n 3, 1) := by decide +kernel
theorem dX0_markPoints_62 : decode cX0_markPoints 62 = .ok (.iload_n 3, 1) := by decide +kernel
theorem dX0_markPoints_63 : decode cX0_markPoints 63 = .ok (.aload_n 1, 1) := by decide +kernel
theorem dX0_markPoints_64 : decode cX0_markPoints 64 = .ok (.getfield 29, 3) := by decide +kernel
theorem dX0_markPoints_67 : decode cX0_markPoints 67 = .ok (.if_icmp .lt 10, 3) := by decide +kernel
theorem dX0_markPoints_70 : decode cX0_markPoints 70 = .ok (.iload_n 3, 1) := by decide +kernel
theorem dX0_markPoints_71 : decode cX0_markPoints 71 = .ok (.aload_n 1, 1) := by decide +kernel
theorem dX0_markPoints_72 : decode cX0_markPoints 72 = .ok (.getfield 29, 3) := by decide +kernel
theorem dX0_markPoints_75 : decode cX0_markPoints 75 = .ok (.isub, 1) := by decide +kernel
theorem dX0_markPoints_76 : decode cX0_markPoints 76 = .ok (.istore_n 3, 1) := by decide +kernel
theorem dX0_markPoints_77 : decode cX0_markPoints 77 = .ok (.iinc 4 1, 3) := by decide +kernel
theorem dX0_markPoints_80 : decode cX0_markPoints 80 = .ok (.goto (-51), 3) := by decide +kernel
theorem dX0_markPoints_83 : decode cX0_markPoints 83 = .ok (.return_, 1) := by decide +kernel
theorem dX0_isPoint_0 : decode cX0_isPoint 0 = .ok (.iload_n 1, 1) := by decide +kernel
theorem dX0_isPoint_1 : decode cX0_isPoint 1 = .ok (.ifCond .lt 25, 3) := by decide +kernel
theorem dX0_isPoint_4 : decode cX0_isPoint 4 = .ok (.iload_n 1, 1) := by decide +kernel
theorem dX0_isPoint_5 : decode cX0_isPoint 5 = .ok (.aload_n 0, 1) := by decide +kernel
theorem dX0_isPoint_6 : decode cX0_isPoint 6 = .ok (.getfield 9, 3) := by decide +kernel
theorem dX0_isPoint_9 : decode cX0_isPoint 9 = .ok (.arraylength, 1) := by decide +kernel
theorem dX0_isPoint_10 : decode cX0_isPoint 10 = .ok (.if_icmp .ge 16, 3) := by decide +kernel
theorem dX0_isPoint_13 : decode cX0_isPoint 13 = .ok (.aload_n 0, 1) := by decide +kernel
theorem dX0_isPoint_14 : decode cX0_isPoint 14 = .ok (.getfield 9, 3) := by decide +kernel
theorem dX0_isPoint_17 : decode cX0_isPoint 17 = .ok (.iload_n 1, 1) := by decide +kernel
theorem dX0_isPoint_18 : decode cX0_isPoint 18 = .ok (.baload, 1) := by decide +kernel
theorem dX0_isPoint_19 : decode cX0_isPoint 19 = .ok (.ifCond .eq 7, 3) := by decide +kernel
theorem dX0_isPoint_22 : decode cX0_isPoint 22 = .ok (.iconst 1, 1) := by decide +kernel
theorem dX0_isPoint_23 : decode cX0_isPoint 23 = .ok (.goto 4, 3) := by decide +kernel
theorem dX0_isPoint_26 : decode cX0_isPoint 26 = .ok (.iconst 0, 1) := by decide +kernel
theorem dX0_isPoint_27 : decode cX0_isPoint 27 = .ok (.ireturn, 1) := by decide +kernel
theorem dX0_addGap_0 : decode cX0_addGap 0 = .ok (.iload_n 1, 1) := by decide +kernel
theorem dX0_addGap_1 : decode cX0_addGap 1 = .ok (.ifCond .lt 22, 3) := by decide +kernel
theorem dX0_addGap_4 : decode cX0_addGap 4 = .ok (.iload_n 1, 1) := by decide +kernel
theorem dX0_addGap_5 : decode cX0_addGap 5 = .ok (.aload_n 0, 1) := by decide +kernel
theorem dX0_addGap_6 : decode cX0_addGap 6 = .ok (.getfield 15, 3) := by decide +kernel
theorem dX0_addGap_9 : decode cX0_addGap 9 = .ok (.arraylength, 1) := by decide +kernel
theorem dX0_addGap_10 : decode cX0_addGap 10 = .ok (.if_icmp .ge 13, 3) := by decide +kernel
theorem dX0_addGap_13 : decode cX0_addGap 13 = .ok (.aload_n 0, 1) := by decide +kernel
theorem dX0_addGap_14 : decode cX0_addGap 14 = .ok (.getfield 15, 3) := by decide +kernel
theorem dX0_addGap_17 : decode cX0_addGap 17 = .ok (.iload_n 1, 1) := by decide +kernel
theorem dX0_addGap_18 : decode cX0_addGap 18 = .ok (.dup2, 1) := by decide +kernel
theorem dX0_addGap_19 : decode cX0_addGap 19 = .ok (.iaload, 1) := by decide +kernel
theorem dX0_addGap_20 : decode cX0_addGap 20 = .ok (.iconst 1, 1) := by decide +kernel
theorem dX0_addGap_21 : decode cX0_addGap 21 = .ok (.iadd, 1) := by decide +kernel
theorem dX0_addGap_22 : decode cX0_addGap 22 = .ok (.iastore, 1) := by decide +kernel
theorem dX0_addGap_23 : decode cX0_addGap 23 = .ok (.return_, 1) := by decide +kernel
theorem dX0_gapsWith_0 : decode cX0_gapsWith 0 = .ok (.iload_n 1, 1) := by decide +kernel
theorem dX0_gapsWith_1 : decode cX0_gapsWith 1 = .ok (.ifCond .lt 21, 3) := by decide +kernel
theorem dX0_gapsWith_4 : decode cX0_gapsWith 4 = .ok (.iload_n 1, 1) := by decide +kernel
theorem dX0_gapsWith_5 : decode cX0_gapsWith 5 = .ok (.aload_n 0, 1) := by decide +kernel
theorem dX0_gapsWith_6 : decode cX0_gapsWith 6 = .ok (.getfield 15, 3) := by decide +kernel
theorem dX0_gapsWith_9 : decode cX0_gapsWith 9 = .ok (.arraylength, 1) := by decide +kernel
theorem dX0_gapsWith_10 : decode cX0_gapsWith 10 = .ok (.if_icmp .ge 12, 3) := by decide +kernel
theorem dX0_gapsWith_13 : decode cX0_gapsWith 13 = .ok (.aload_n 0, 1) := by decide +kernel
theorem dX0_gapsWith_14 : decode cX0_gapsWith 14 = .ok (.getfield 15, 3) := by decide +kernel
theorem dX0_gapsWith_17 : decode cX0_gapsWith 17 = .ok (.iload_n 1, 1) := by decide +kernel
theorem dX0_gapsWith_18 : decode cX0_gapsWith 18 = .ok (.iaload, 1) := by decide +kernel
theorem dX0_gapsWith_19 : decode cX0_gapsWith 19 = .ok (.goto 4, 3) := by decide +kernel
theorem dX0_gapsWith_22 : decode cX0_gapsWith 22 = .ok (.iconst 0, 1) := by decide +kernel
theorem dX0_gapsWith_23 : decode cX0_gapsWith 23 = .ok (.ireturn, 1) := by decide +kernel
theorem dX0_differentSizes_0 : decode cX0_differentSizes 0 = .ok (.iconst 0, 1) := by decide +kernel
theorem dX0_differentSizes_1 : decode cX0_differentSizes 1 = .ok (.istore_n 1, 1) := by decide +kernel
theorem dX0_differentSizes_2 : decode cX0_differentSizes 2 = .ok (.iconst 1, 1) := by decide +kernel
theorem dX0_differentSizes_3 : decode cX0_differentSizes 3 = .ok (.istore_n 2, 1) := by decide +kernel
theorem dX0_differentSizes_4 : decode cX0_differentSizes 4 = .ok (.iload_n 2, 1) := by decide +kernel
theorem dX0_differentSizes_5 : decode cX0_differentSizes 5 = .ok (.aload_n 0, 1) := by decide +kernel
theorem dX0_differentSizes_6 : decode cX0_differentSizes 6 = .ok (.getfield 15, 3) := by decide +kernel
theorem dX0_differentSizes_9 : decode cX0_differentSizes 9 = .ok (.arraylength, 1) := by decide +kernel
theorem dX0_differentSizes_10 : decode cX0_differentSizes 10 = .ok (.if_icmp .ge 21, 3) := by decide +kernel
theorem dX0_differentSizes_13 : decode cX0_differentSizes 13 = .ok (.aload_n 0, 1) := by decide +kernel
theorem dX0_differentSizes_14 : decode cX0_differentSizes 14 = .ok (.getfield 15, 3) := by decide +kernel
theorem dX0_differentSizes_17 : decode cX0_differentSizes 17 = .ok (.iload_n 2, 1) := by decide +kernel
theorem dX0_differentSizes_18 : decode cX0_differentSizes 18 = .ok (.iaload, 1) := by decide +kernel
theorem dX0_differentSizes_19 : decode cX0_differentSizes 19 = .ok (.ifCond .le 6, 3) := by decide +kernel
theorem dX0_differentSizes_22 : decode cX0_differentSizes 22 = .ok (.iinc 1 1, 3) := by decide +kernel
theorem dX0_differentSizes_25 : decode cX0_differentSizes 25 = .ok (.iinc 2 1, 3) := by decide +kernel
theorem dX0_differentSizes_28 : decode cX0_differentSizes 28 = .ok (.goto (-24), 3) := by decide +kernel
theorem dX0_differentSizes_31 : decode cX0_differentSizes 31 = .ok (.iload_n 1, 1) := by decide +kernel
theorem dX0_differentSizes_32 : decode cX0_differentSizes 32 = .ok (.ireturn, 1) := by decide +kernel
theorem dX0_listedSize_0 : decode cX0_listedSize 0 = .ok (.iconst 0, 1) := by decide +kernel
theorem dX0_listedSize_1 : decode cX0_listedSize 1 = .ok (.istore_n 2, 1) := by decide +kernel
theorem dX0_listedSize_2 : decode cX0_listedSize 2 = .ok (.iconst 1, 1) := by decide +kernel
theorem dX0_listedSize_3 : decode cX0_listedSize 3 = .ok (.istore_n 3, 1) := by decide +kernel
theorem dX0_listedSize_4 : decode cX0_listedSize 4 = .ok (.iload_n 3, 1) := by decide +kernel
theorem dX0_listedSize_5 : decode cX0_listedSize 5 = .ok (.aload_n 0, 1) := by decide +kernel
theorem dX0_listedSize_6 : decode cX0_listedSize 6 = .ok (.getfield 15, 3) := by decide +kernel
theorem dX0_listedSize_9 : decode cX0_listedSize 9 = .ok (.arraylength, 1) := by decide +kernel
theorem dX0_listedSize_10 : decode cX0_listedSize 10 = .ok (.if_icmp .ge 28, 3) := by decide +kernel
theorem dX0_listedSize_13 : decode cX0_listedSize 13 = .ok (.aload_n 0, 1) := by decide +kernel
theorem dX0_listedSize_14 : decode cX0_listedSize 14 = .ok (.getfield 15, 3) := by decide +kernel
theorem dX0_listedSize_17 : decode cX0_listedSize 17 = .ok (.iload_n 3, 1) := by decide +kernel
theorem dX0_listedSize_18 : decode cX0_listedSize 18 = .ok (.iaload, 1) := by decide +kernel
theorem dX0_listedSize_19 : decode cX0_listedSize 19 = .ok (.ifCond .le 13, 3) := by decide +kernel
theorem dX0_listedSize_22 : decode cX0_listedSize 22 = .ok (.iload_n 2, 1) := by decide +kernel
theorem dX0_listedSize_23 : decode cX0_listedSize 23 = .ok (.iload_n 1, 1) := by decide +kernel
theorem dX0_listedSize_24 : decode cX0_listedSize 24 = .ok (.if_icmp .ne 5, 3) := by decide +kernel
theorem dX0_listedSize_27 : decode cX0_listedSize 27 = .ok (.iload_n 3, 1) := by decide +kernel
theorem dX0_listedSize_28 : decode cX0_listedSize 28 = .ok (.ireturn, 1) := by decide +kernel
theorem dX0_listedSize_29 : decode cX0_listedSize 29 = .ok (.iinc 2 1, 3) := by decide +kernel
theorem dX0_listedSize_32 : decode cX0_listedSize 32 = .ok (.iinc 3 1, 3) := by decide +kernel
theorem dX0_listedSize_35 : decode cX0_listedSize 35 = .ok (.goto (-31), 3) := by decide +kernel
theorem dX0_listedSize_38 : decode cX0_listedSize 38 = .ok (.iconst (-1), 1) := by decide +kernel
theorem dX0_listedSize_39 : decode cX0_listedSize 39 = .ok (.ireturn, 1) := by decide +kernel
theorem dX1_init_0 : decode cX1_init 0 = .ok (.aload_n 0, 1) := by decide +kernel
theorem dX1_init_1 : decode cX1_init 1 = .ok (.invokespecial 3, 3) := by decide +kernel
theorem dX1_init_4 : decode cX1_init 4 = .ok (.aload_n 0, 1) := by decide +kernel
theorem dX1_init_5 : decode cX1_init 5 = .ok (.bipush 6, 2) := by decide +kernel
theorem dX1_init_7 : decode cX1_init 7 = .ok (.anewarray 9, 3) := by decide +kernel
theorem dX1_init_10 : decode cX1_init 10 = .ok (.putfield 11, 3) := by decide +kernel
theorem dX1_init_13 : decode cX1_init 13 = .ok (.aload_n 0, 1) := by decide +kernel
theorem dX1_init_14 : decode cX1_init 14 = .ok (.iconst 0, 1) := by decide +kernel
theorem dX1_init_15 : decode cX1_init 15 = .ok (.putfield 17, 3) := by decide +kernel
theorem dX1_init_18 : decode cX1_init 18 = .ok (.aload_n 0, 1) := by decide +kernel
theorem dX1_init_19 : decode cX1_init 19 = .ok (.iconst 0, 1) := by decide +kernel
theorem dX1_init_20 : decode cX1_init 20 = .ok (.putfield 21, 3) := by decide +kernel
theorem dX1_init_23 : decode cX1_init 23 = .ok (.return_, 1) := by decide +kernel
theorem dX1_keep_0 : decode cX1_keep 0 = .ok (.aload_n 0, 1) := by decide +kernel
theorem dX1_keep_1 : decode cX1_keep 1 = .ok (.getfield 17, 3) := by decide +kernel
theorem dX1_keep_4 : decode cX1_keep 4 = .ok (.ifCond .lt 15, 3) := by decide +kernel
theorem dX1_keep_7 : decode cX1_keep 7 = .ok (.aload_n 0, 1) := by decide +kernel
theorem dX1_keep_8 : decode cX1_keep 8 = .ok (.getfield 17, 3) := by decide +kernel
theorem dX1_keep_11 : decode cX1_keep 11 = .ok (.aload_n 0, 1) := by decide +kernel
theorem dX1_keep_12 : decode cX1_keep 12 = .ok (.getfield 11, 3) := by decide +kernel
theorem dX1_keep_15 : decode cX1_keep 15 = .ok (.arraylength, 1) := by decide +kernel
theorem dX1_keep_16 : decode cX1_keep 16 = .ok (.if_icmp .lt 4, 3) := by decide +kernel
theorem dX1_keep_19 : decode cX1_keep 19 = .ok (.return_, 1) := by decide +kernel
theorem dX1_keep_20 : decode cX1_keep 20 = .ok (.aload_n 0, 1) := by decide +kernel
theorem dX1_keep_21 : decode cX1_keep 21 = .ok (.getfield 11, 3) := by decide +kernel
theorem dX1_keep_24 : decode cX1_keep 24 = .ok (.aload_n 0, 1) := by decide +kernel
theorem dX1_keep_25 : decode cX1_keep 25 = .ok (.getfield 17, 3) := by decide +kernel
theorem dX1_keep_28 : decode cX1_keep 28 = .ok (.aload_n 1, 1) := by decide +kernel
theorem dX1_keep_29 : decode cX1_keep 29 = .ok (.aastore, 1) := by decide +kernel
theorem dX1_keep_30 : decode cX1_keep 30 = .ok (.aload_n 0, 1) := by decide +kernel
theorem dX1_keep_31 : decode cX1_keep 31 = .ok (.aload_n 0, 1) := by decide +kernel
theorem dX1_keep_32 : decode cX1_keep 32 = .ok (.getfield 17, 3) := by decide +kernel
theorem dX1_keep_35 : decode cX1_keep 35 = .ok (.iconst 1, 1) := by decide +kernel
theorem dX1_keep_36 : decode cX1_keep 36 = .ok (.iadd, 1) := by decide +kernel
theorem dX1_keep_37 : decode cX1_keep 37 = .ok (.aload_n 0, 1) := by decide +kernel
theorem dX1_keep_38 : decode cX1_keep 38 = .ok (.getfield 11, 3) := by decide +kernel
theorem dX1_keep_41 : decode cX1_keep 41 = .ok (.arraylength, 1) := by decide +kernel
theorem dX1_keep_42 : decode cX1_keep 42 = .ok (.if_icmp .ge 12, 3) := by decide +kernel
theorem dX1_keep_45 : decode cX1_keep 45 = .ok (.aload_n 0, 1) := by decide +kernel
theorem dX1_keep_46 : decode cX1_keep 46 = .ok (.getfield 17, 3) := by decide +kernel
theorem dX1_keep_49 : decode cX1_keep 49 = .ok (.iconst 1, 1) := by decide +kernel
theorem dX1_keep_50 : decode cX1_keep 50 = .ok (.iadd, 1) := by decide +kernel
theorem dX1_keep_51 : decode cX1_keep 51 = .ok (.goto 4, 3) := by decide +kernel
theorem dX1_keep_54 : decode cX1_keep 54 = .ok (.iconst 0, 1) := by decide +kernel
theorem dX1_keep_55 : decode cX1_keep 55 = .ok (.putfield 17, 3) := by decide +kernel
theorem dX1_keep_58 : decode cX1_keep 58 = .ok (.aload_n 0, 1) := by decide +kernel
theorem dX1_keep_59 : decode cX1_keep 59 = .ok (.aload_n 0, 1) := by decide +kernel
theorem dX1_keep_60 : decode cX1_keep 60 = .ok (.getfield 21, 3) := by decide +kernel
theorem dX1_keep_63 : decode cX1_keep 63 = .ok (.iconst 1, 1) := by decide +kernel
theorem dX1_keep_64 : decode cX1_keep 64 = .ok (.iadd, 1) := by decide +kernel
theorem dX1_keep_65 : decode cX1_keep 65 = .ok (.aload_n 0, 1) := by decide +kernel
theorem dX1_keep_66 : decode cX1_keep 66 = .ok (.getfield 11, 3) := by decide +kernel
theorem dX1_keep_69 : decode cX1_keep 69 = .ok (.arraylength, 1) := by decide +kernel
theorem dX1_keep_70 : decode cX1_keep 70 = .ok (.invokestatic 24, 3) := by decide +kernel
theorem dX1_keep_73 : decode cX1_keep 73 = .ok (.putfield 21, 3) := by decide +kernel
theorem dX1_keep_76 : decode cX1_keep 76 = .ok (.return_, 1) := by decide +kernel
theorem dX1_takeLatest_0 : decode cX1_takeLatest 0 = .ok (.aload_n 0, 1) := by decide +kernel
theorem dX1_takeLatest_1 : decode cX1_takeLatest 1 = .ok (.getfield 17, 3) := by decide +kernel
theorem dX1_takeLatest_4 : decode cX1_takeLatest 4 = .ok (.ifCond .le 12, 3) := by decide +kernel
theorem dX1_takeLatest_7 : decode cX1_takeLatest 7 = .ok (.aload_n 0, 1) := by decide +kernel
theorem dX1_takeLatest_8 : decode cX1_takeLatest 8 = .ok (.getfield 17, 3) := by decide +kernel
theorem dX1_takeLatest_11 : decode cX1_takeLatest 11 = .ok (.iconst 1, 1) := by decide +kernel
theorem dX1_takeLatest_12 : decode cX1_takeLatest 12 = .ok (.isub, 1) := by decide +kernel
theorem dX1_takeLatest_13 : decode cX1_takeLatest 13 = .ok (.goto 10, 3) := by decide +kernel
theorem dX1_takeLatest_16 : decode cX1_takeLatest 16 = .ok (.aload_n 0, 1) := by decide +kernel
theorem dX1_takeLatest_17 : decode cX1_takeLatest 17 = .ok (.getfield 11, 3) := by decide +kernel
theorem dX1_takeLatest_20 : decode cX1_takeLatest 20 = .ok (.arraylength, 1) := by decide +kernel
theorem dX1_takeLatest_21 : decode cX1_takeLatest 21 = .ok (.iconst 1, 1) := by decide +kernel
theorem dX1_takeLatest_22 : decode cX1_takeLatest 22 = .ok (.isub, 1) := by decide +kernel
theorem dX1_takeLatest_23 : decode cX1_takeLatest 23 = .ok (.istore_n 1, 1) := by decide +kernel
theorem dX1_takeLatest_24 : decode cX1_takeLatest 24 = .ok (.aload_n 0, 1) := by decide +kernel
theorem dX1_takeLatest_25 : decode cX1_takeLatest 25 = .ok (.getfield 21, 3) := by decide +kernel
theorem dX1_takeLatest_28 : decode cX1_takeLatest 28 = .ok (.iconst 1, 1) := by decide +kernel
theorem dX1_takeLatest_29 : decode cX1_takeLatest 29 = .ok (.if_icmp .lt 16, 3) := by decide +kernel
theorem dX1_takeLatest_32 : decode cX1_takeLatest 32 = .ok (.iload_n 1, 1) := by decide +kernel
theorem dX1_takeLatest_33 : decode cX1_takeLatest 33 = .ok (.ifCond .lt 12, 3) := by decide +kernel
theorem dX1_takeLatest_36 : decode cX1_takeLatest 36 = .ok (.iload_n 1, 1) := by decide +kernel
theorem dX1_takeLatest_37 : decode cX1_takeLatest 37 = .ok (.aload_n 0, 1) := by decide +kernel
theorem dX1_takeLatest_38 : decode cX1_takeLatest 38 = .ok (.getfield 11, 3) := by decide +kernel
theorem dX1_takeLatest_41 : decode cX1_takeLatest 41 = .ok (.arraylength, 1) := by decide +kernel
theorem dX1_takeLatest_42 : decode cX1_takeLatest 42 = .ok (.if_icmp .lt 5, 3) := by decide +kernel
theorem dX1_takeLatest_45 : decode cX1_takeLatest 45 = .ok (.aconst_null, 1) := by decide +kernel
theorem dX1_takeLatest_46 : decode cX1_takeLatest 46 = .ok (.areturn, 1) := by decide +kernel
theorem dX1_takeLatest_47 : decode cX1_takeLatest 47 = .ok (.aload_n 0, 1) := by decide +kernel
theorem dX1_takeLatest_48 : decode cX1_takeLatest 48 = .ok (.iload_n 1, 1) := by decide +kernel
theorem dX1_takeLatest_49 : decode cX1_takeLatest 49 = .ok (.putfield 17, 3) := by decide +kernel
theorem dX1_takeLatest_52 : decode cX1_takeLatest 52 = .ok (.aload_n 0, 1) := by decide +kernel
theorem dX1_takeLatest_53 : decode cX1_takeLatest 53 = .ok (.dup, 1) := by decide +kernel
theorem dX1_takeLatest_54 : decode cX1_takeLatest 54 = .ok (.getfield 21, 3) := by decide +kernel
theorem dX1_takeLatest_57 : decode cX1_takeLatest 57 = .ok (.iconst 1, 1) := by decide +kernel
theorem dX1_takeLatest_58 : decode cX1_takeLatest 58 = .ok (.isub, 1) := by decide +kernel
theorem dX1_takeLatest_59 : decode cX1_takeLatest 59 = .ok (.putfield 21, 3) := by decide +kernel
theorem dX1_takeLatest_62 : decode cX1_takeLatest 62 = .ok (.aload_n 0, 1) := by decide +kernel
theorem dX1_takeLatest_63 : decode cX1_takeLatest 63 = .ok (.getfield 11, 3) := by decide +kernel
theorem dX1_takeLatest_66 : decode cX1_takeLatest 66 = .ok (.iload_n 1, 1) := by decide +kernel
theorem dX1_takeLatest_67 : decode cX1_takeLatest 67 = .ok (.aaload, 1) := by decide +kernel
theorem dX1_takeLatest_68 : decode cX1_takeLatest 68 = .ok (.areturn, 1) := by decide +kernel
theorem dX2_numbered_0 : decode cX2_numbered 0 = .ok (.iload_n 0, 1) := by decide +kernel
theorem dX2_numbered_1 : decode cX2_numbered 1 = .ok (.tableswitch 55 0 4 #[35, 39, 43, 47, 51], 35) := by decide +kernel
theorem dX2_numbered_36 : decode cX2_numbered 36 = .ok (.getstatic 5, 3) := by decide +kernel
theorem dX2_numbered_39 : decode cX2_numbered 39 = .ok (.areturn, 1) := by decide +kernel
theorem dX2_numbered_40 : decode cX2_numbered 40 = .ok (.getstatic 9, 3) := by decide +kernel
theorem dX2_numbered_43 : decode cX2_numbered 43 = .ok (.areturn, 1) := by decide +kernel
theorem dX2_numbered_44 : decode cX2_numbered 44 = .ok (.getstatic 12, 3) := by decide +kernel
theorem dX2_numbered_47 : decode cX2_numbered 47 = .ok (.areturn, 1) := by decide +kernel
theorem dX2_numbered_48 : decode cX2_numbered 48 = .ok (.getstatic 15, 3) := by decide +kernel
theorem dX2_numbered_51 : decode cX2_numbered 51 = .ok (.areturn, 1) := by decide +kernel
theorem dX2_numbered_52 : decode cX2_numbered 52 = .ok (.getstatic 18, 3) := by decide +kernel
theorem dX2_numbered_55 : decode cX2_numbered 55 = .ok (.areturn, 1) := by decide +kernel
theorem dX2_numbered_56 : decode cX2_numbered 56 = .ok (.aconst_null, 1) := by decide +kernel
theorem dX2_numbered_57 : decode cX2_numbered 57 = .ok (.areturn, 1) := by decide +kernel
theorem dX2_bitsOf_0 : decode cX2_bitsOf 0 = .ok (.iload_n 1, 1) := by decide +kernel
theorem dX2_bitsOf_1 : decode cX2_bitsOf 1 = .ok (.ifCond .ne 10, 3) := by decide +kernel
theorem dX2_bitsOf_4 : decode cX2_bitsOf 4 = .ok (.aload_n 0, 1) := by decide +kernel
theorem dX2_bitsOf_5 : decode cX2_bitsOf 5 = .ok (.getfield 40, 3) := by decide +kernel
theorem dX2_bitsOf_8 : decode cX2_bitsOf 8 = .ok (.goto 7, 3) := by decide +kernel
theorem dX2_bitsOf_11 : decode cX2_bitsOf 11 = .ok (.aload_n 0, 1) := by decide +kernel
theorem dX2_bitsOf_12 : decode cX2_bitsOf 12 = .ok (.getfield 47, 3) := by decide +kernel
theorem dX2_bitsOf_15 : decode cX2_bitsOf 15 = .ok (.ireturn, 1) := by decide +kernel
theorem dX2_sizeOf_0 : decode cX2_sizeOf 0 = .ok (.iload_n 1, 1) := by decide +kernel
theorem dX2_sizeOf_1 : decode cX2_sizeOf 1 = .ok (.ifCond .ne 10, 3) := by decide +kernel
theorem dX2_sizeOf_4 : decode cX2_sizeOf 4 = .ok (.aload_n 0, 1) := by decide +kernel
theorem dX2_sizeOf_5 : decode cX2_sizeOf 5 = .ok (.getfield 44, 3) := by decide +kernel
theorem dX2_sizeOf_8 : decode cX2_sizeOf 8 = .ok (.goto 7, 3) := by decide +kernel
theorem dX2_sizeOf_11 : decode cX2_sizeOf 11 = .ok (.aload_n 0, 1) := by decide +kernel
theorem dX2_sizeOf_12 : decode cX2_sizeOf 12 = .ok (.getfield 50, 3) := by decide +kernel
theorem dX2_sizeOf_15 : decode cX2_sizeOf 15 = .ok (.ireturn, 1) := by decide +kernel
set_option maxRecDepth 20000 in
theorem ggX2_imageOf_X5_letter : GoodIn wsX2_imageOf wsX5_letter := goodIn_r _ [7, 8, 9, 10, 3, 11, 12, 13, 33, 34] (by decide +kernel) (by decide +kernel)
set_option maxRecDepth 20000 in
theorem gX2_imageOf_X5_letter : GoodIn wsX2_imageOf (wsV RX2 58 RX5 yX5_letter wsX5_letter) := goodIn_app (goodIn_of _ (by decide +kernel)) ggX2_imageOf_X5_letter
set_option maxRecDepth 20000 in
theorem ggX2_imageOf_X2_sizeOf : GoodIn wsX2_imageOf wsX2_sizeOf := goodIn_r _ [18, 19, 20] (by decide +kernel) (by decide +kernel)
set_option maxRecDepth 20000 in
theorem gX2_imageOf_X2_sizeOf : GoodIn wsX2_imageOf (wsV RX2 62 RX2 yX2_sizeOf wsX2_sizeOf) := goodIn_app (goodIn_of _ (by decide +kernel)) ggX2_imageOf_X2_sizeOf
set_option maxRecDepth 20000 in
theorem ggX2_imageOf_X2_bitsOf : GoodIn wsX2_imageOf wsX2_bitsOf := goodIn_r _ [24, 25, 26] (by decide +kernel) (by decide +kernel)
set_option maxRecDepth 20000 in
theorem gX2_imageOf_X2_bitsOf : GoodIn wsX2_imageOf (wsV RX2 65 RX2 yX2_bitsOf wsX2_bitsOf) := goodIn_app (goodIn_of _ (by decide +kernel)) ggX2_imageOf_X2_bitsOf
set_option maxRecDepth 20000 in
theorem ggX2_imageOf_X5_init : GoodIn wsX2_imageOf wsX5_init := goodIn_r _ [29, 30, 31, 32, 12, 13, 33, 34] (by decide +kernel) (by decide +kernel)
set_option maxRecDepth 20000 in
theorem gX2_imageOf_X5_init : GoodIn wsX2_imageOf (wsX5_init) := ggX2_imageOf_X5_init
theorem dX2_imageOf_0 : decode cX2_imageOf 0 = .ok (.lconst 0, 1) := by decide +kernel
theorem dX2_imageOf_1 : decode cX2_imageOf 1 = .ok (.lstore_n 2, 1) := by decide +kernel
theorem dX2_imageOf_2 : decode cX2_imageOf 2 = .ok (.iconst 0, 1) := by decide +kernel
theorem dX2_imageOf_3 : decode cX2_imageOf 3 = .ok (.istore 4, 2) := by decide +kernel
theorem dX2_imageOf_5 : decode cX2_imageOf 5 = .ok (.iconst 0, 1) := by decide +kernel
theorem dX2_imageOf_6 : decode cX2_imageOf 6 = .ok (.istore 5, 2) := by decide +kernel
theorem dX2_imageOf_8 : decode cX2_imageOf 8 = .ok (.iload 5, 2) := by decide +kernel
theorem dX2_imageOf_10 : decode cX2_imageOf 10 = .ok (.aload_n 1, 1) := by decide +kernel
theorem dX2_imageOf_11 : decode cX2_imageOf 11 = .ok (.getfield 53, 3) := by decide +kernel
theorem dX2_imageOf_14 : decode cX2_imageOf 14 = .ok (.if_icmp .ge 54, 3) := by decide +kernel
theorem dX2_imageOf_17 : decode cX2_imageOf 17 = .ok (.aload_n 1, 1) := by decide +kernel
theorem dX2_imageOf_18 : decode cX2_imageOf 18 = .ok (.iload 5, 2) := by decide +kernel
theorem dX2_imageOf_20 : decode cX2_imageOf 20 = .ok (.invokevirtual 58, 3) := by decide +kernel
theorem dX2_imageOf_23 : decode cX2_imageOf 23 = .ok (.istore 6, 2) := by decide +kernel
theorem dX2_imageOf_25 : decode cX2_imageOf 25 = .ok (.lload_n 2, 1) := by decide +kernel
theorem dX2_imageOf_26 : decode cX2_imageOf 26 = .ok (.aload_n 0, 1) := by decide +kernel
theorem dX2_imageOf_27 : decode cX2_imageOf 27 = .ok (.iload 6, 2) := by decide +kernel
theorem dX2_imageOf_29 : decode cX2_imageOf 29 = .ok (.invokevirtual 62, 3) := by decide +kernel
theorem dX2_imageOf_32 : decode cX2_imageOf 32 = .ok (.lshl, 1) := by decide +kernel
theorem dX2_imageOf_33 : decode cX2_imageOf 33 = .ok (.aload_n 0, 1) := by decide +kernel
theorem dX2_imageOf_34 : decode cX2_imageOf 34 = .ok (.iload 6, 2) := by decide +kernel
theorem dX2_imageOf_36 : decode cX2_imageOf 36 = .ok (.invokevirtual 65, 3) := by decide +kernel
theorem dX2_imageOf_39 : decode cX2_imageOf 39 = .ok (.i2l, 1) := by decide +kernel
theorem dX2_imageOf_40 : decode cX2_imageOf 40 = .ok (.lor, 1) := by decide +kernel
theorem dX2_imageOf_41 : decode cX2_imageOf 41 = .ok (.lstore_n 2, 1) := by decide +kernel
theorem dX2_imageOf_42 : decode cX2_imageOf 42 = .ok (.iload 4, 2) := by decide +kernel
theorem dX2_imageOf_44 : decode cX2_imageOf 44 = .ok (.aload_n 0, 1) := by decide +kernel
theorem dX2_imageOf_45 : decode cX2_imageOf 45 = .ok (.iload 6, 2) := by decide +kernel
theorem dX2_imageOf_47 : decode cX2_imageOf 47 = .ok (.invokevirtual 62, 3) := by decide +kernel
theorem dX2_imageOf_50 : decode cX2_imageOf 50 = .ok (.iadd, 1) := by decide +kernel
theorem dX2_imageOf_51 : decode cX2_imageOf 51 = .ok (.istore 4, 2) := by decide +kernel
theorem dX2_imageOf_53 : decode cX2_imageOf 53 = .ok (.iload 4, 2) := by decide +kernel
theorem dX2_imageOf_55 : decode cX2_imageOf 55 = .ok (.bipush 60, 2) := by decide +kernel
theorem dX2_imageOf_57 : decode cX2_imageOf 57 = .ok (.if_icmp .le 5, 3) := by decide +kernel
theorem dX2_imageOf_60 : decode cX2_imageOf 60 = .ok (.aconst_null, 1) := by decide +kernel
theorem dX2_imageOf_61 : decode cX2_imageOf 61 = .ok (.areturn, 1) := by decide +kernel
theorem dX2_imageOf_62 : decode cX2_imageOf 62 = .ok (.iinc 5 1, 3) := by decide +kernel
theorem dX2_imageOf_65 : decode cX2_imageOf 65 = .ok (.goto (-57), 3) := by decide +kernel
theorem dX2_imageOf_68 : decode cX2_imageOf 68 = .ok (.new 54, 3) := by decide +kernel
theorem dX2_imageOf_71 : decode cX2_imageOf 71 = .ok (.dup, 1) := by decide +kernel
theorem dX2_imageOf_72 : decode cX2_imageOf 72 = .ok (.lload_n 2, 1) := by decide +kernel
theorem dX2_imageOf_73 : decode cX2_imageOf 73 = .ok (.iload 4, 2) := by decide +kernel
theorem dX2_imageOf_75 : decode cX2_imageOf 75 = .ok (.invokespecial 68, 3) := by decide +kernel
theorem dX2_imageOf_78 : decode cX2_imageOf 78 = .ok (.areturn, 1) := by decide +kernel
set_option maxRecDepth 20000 in
theorem ggX2_originOf_X2_letterBehind : GoodIn wsX2_originOf wsX2_letterBehind := goodIn_r _ [8, 9, 10, 11, 12, 13, 7, 14, 15, 16, 17, 18, 19, 20, 21, 3, 22, 23, 24, 25, 26, 27, 28, 29, 30, 37, 38] (by decide +kernel) (by decide +kernel)
set_option maxRecDepth 20000 in
theorem gX2_originOf_X2_letterBehind : GoodIn wsX2_originOf (wsV RX2 71 RX2 yX2_letterBehind wsX2_letterBehind) := goodIn_app (goodIn_of _ (by decide +kernel)) ggX2_originOf_X2_letterBehind
set_option maxRecDepth 20000 in
theorem ggX2_originOf_X2_sizeOf : GoodIn wsX2_originOf wsX2_sizeOf := goodIn_r _ [18, 10, 9] (by decide +kernel) (by decide +kernel)
set_option maxRecDepth 20000 in
theorem gX2_originOf_X2_sizeOf : GoodIn wsX2_originOf (wsV RX2 62 RX2 yX2_sizeOf wsX2_sizeOf) := goodIn_app (goodIn_of _ (by decide +kernel)) ggX2_originOf_X2_sizeOf
set_option maxRecDepth 20000 in
theorem ggX2_originOf_X5_init : GoodIn wsX2_originOf wsX5_init := goodIn_r _ [33, 34, 35, 36, 23, 24, 37, 38] (by decide +kernel) (by decide +kernel)
set_option maxRecDepth 20000 in
theorem gX2_originOf_X5_init : GoodIn wsX2_originOf (wsX5_init) := ggX2_originOf_X5_init
theorem dX2_originOf_0 : decode cX2_originOf 0 = .ok (.lconst 0, 1) := by decide +kernel
theorem dX2_originOf_1 : decode cX2_originOf 1 = .ok (.lstore_n 2, 1) := by decide +kernel
theorem dX2_originOf_2 : decode cX2_originOf 2 = .ok (.iconst 0, 1) := by decide +kernel
theorem dX2_originOf_3 : decode cX2_originOf 3 = .ok (.istore 4, 2) := by decide +kernel
theorem dX2_originOf_5 : decode cX2_originOf 5 = .ok (.iconst 0, 1) := by decide +kernel
theorem dX2_originOf_6 : decode cX2_originOf 6 = .ok (.istore 5, 2) := by decide +kernel
theorem dX2_originOf_8 : decode cX2_originOf 8 = .ok (.iload 5, 2) := by decide +kernel
theorem dX2_originOf_10 : decode cX2_originOf 10 = .ok (.aload_n 1, 1) := by decide +kernel
theorem dX2_originOf_11 : decode cX2_originOf 11 = .ok (.getfield 53, 3) := by decide +kernel
theorem dX2_originOf_14 : decode cX2_originOf 14 = .ok (.if_icmp .ge 50, 3) := by decide +kernel
theorem dX2_originOf_17 : decode cX2_originOf 17 = .ok (.aload_n 0, 1) := by decide +kernel
theorem dX2_originOf_18 : decode cX2_originOf 18 = .ok (.aload_n 1, 1) := by decide +kernel
theorem dX2_originOf_19 : decode cX2_originOf 19 = .ok (.iload 5, 2) := by decide +kernel
theorem dX2_originOf_21 : decode cX2_originOf 21 = .ok (.invokevirtual 71, 3) := by decide +kernel
theorem dX2_originOf_24 : decode cX2_originOf 24 = .ok (.istore 6, 2) := by decide +kernel
theorem dX2_originOf_26 : decode cX2_originOf 26 = .ok (.iload 6, 2) := by decide +kernel
theorem dX2_originOf_28 : decode cX2_originOf 28 = .ok (.iconst (-1), 1) := by decide +kernel
theorem dX2_originOf_29 : decode cX2_originOf 29 = .ok (.if_icmp .ne 5, 3) := by decide +kernel
theorem dX2_originOf_32 : decode cX2_originOf 32 = .ok (.aconst_null, 1) := by decide +kernel
theorem dX2_originOf_33 : decode cX2_originOf 33 = .ok (.areturn, 1) := by decide +kernel
theorem dX2_originOf_34 : decode cX2_originOf 34 = .ok (.lload_n 2, 1) := by decide +kernel
theorem dX2_originOf_35 : decode cX2_originOf 35 = .ok (.iconst 1, 1) := by decide +kernel
theorem dX2_originOf_36 : decode cX2_originOf 36 = .ok (.lshl, 1) := by decide +kernel
theorem dX2_originOf_37 : decode cX2_originOf 37 = .ok (.iload 6, 2) := by decide +kernel
theorem dX2_originOf_39 : decode cX2_originOf 39 = .ok (.i2l, 1) := by decide +kernel
theorem dX2_originOf_40 : decode cX2_originOf 40 = .ok (.lor, 1) := by decide +kernel
theorem dX2_originOf_41 : decode cX2_originOf 41 = .ok (.lstore_n 2, 1) := by decide +kernel
theorem dX2_originOf_42 : decode cX2_originOf 42 = .ok (.iinc 4 1, 3) := by decide +kernel
theorem dX2_originOf_45 : decode cX2_originOf 45 = .ok (.aload_n 0, 1) := by decide +kernel
theorem dX2_originOf_46 : decode cX2_originOf 46 = .ok (.iload 6, 2) := by decide +kernel
theorem dX2_originOf_48 : decode cX2_originOf 48 = .ok (.invokevirtual 62, 3) := by decide +kernel
theorem dX2_originOf_51 : decode cX2_originOf 51 = .ok (.iconst 2, 1) := by decide +kernel
theorem dX2_originOf_52 : decode cX2_originOf 52 = .ok (.if_icmp .ne 6, 3) := by decide +kernel
theorem dX2_originOf_55 : decode cX2_originOf 55 = .ok (.iinc 5 1, 3) := by decide +kernel
theorem dX2_originOf_58 : decode cX2_originOf 58 = .ok (.iinc 5 1, 3) := by decide +kernel
theorem dX2_originOf_61 : decode cX2_originOf 61 = .ok (.goto (-53), 3) := by decide +kernel
theorem dX2_originOf_64 : decode cX2_originOf 64 = .ok (.new 54, 3) := by decide +kernel
theorem dX2_originOf_67 : decode cX2_originOf 67 = .ok (.dup, 1) := by decide +kernel
theorem dX2_originOf_68 : decode cX2_originOf 68 = .ok (.lload_n 2, 1) := by decide +kernel
theorem dX2_originOf_69 : decode cX2_originOf 69 = .ok (.iload 4, 2) := by decide +kernel
theorem dX2_originOf_71 : decode cX2_originOf 71 = .ok (.invokespecial 68, 3) := by decide +kernel
theorem dX2_originOf_74 : decode cX2_originOf 74 = .ok (.areturn, 1) := by decide +kernel
set_option maxRecDepth 20000 in
theorem ggX2_letterBehind_X2_hasImageAt : GoodIn wsX2_letterBehind wsX2_hasImageAt := goodIn_r _ [7, 8, 9, 10, 6, 11, 2, 1, 12, 13, 14, 15, 16, 17, 18, 19, 20, 21, 22, 23, 24, 25, 26] (by decide +kernel) (by decide +kernel)
set_option maxRecDepth 20000 in
theorem gX2_letterBehind_X2_hasImageAt : GoodIn wsX2_letterBehind (wsV RX2 75 RX2 yX2_hasImageAt wsX2_hasImageAt) := goodIn_app (goodIn_of _ (by decide +kernel)) ggX2_letterBehind_X2_hasImageAt
theorem dX2_letterBehind_0 : decode cX2_letterBehind 0 = .ok (.aload_n 0, 1) := by decide +kernel
theorem dX2_letterBehind_1 : decode cX2_letterBehind 1 = .ok (.getfield 50, 3) := by decide +kernel
theorem dX2_letterBehind_4 : decode cX2_letterBehind 4 = .ok (.aload_n 0, 1) := by decide +kernel
theorem dX2_letterBehind_5 : decode cX2_letterBehind 5 = .ok (.getfield 44, 3) := by decide +kernel
theorem dX2_letterBehind_8 : decode cX2_letterBehind 8 = .ok (.if_icmp .le 7, 3) := by decide +kernel
theorem dX2_letterBehind_11 : decode cX2_letterBehind 11 = .ok (.iconst 1, 1) := by decide +kernel
theorem dX2_letterBehind_12 : decode cX2_letterBehind 12 = .ok (.goto 4, 3) := by decide +kernel
theorem dX2_letterBehind_15 : decode cX2_letterBehind 15 = .ok (.iconst 0, 1) := by decide +kernel
theorem dX2_letterBehind_16 : decode cX2_letterBehind 16 = .ok (.istore_n 3, 1) := by decide +kernel
theorem dX2_letterBehind_17 : decode cX2_letterBehind 17 = .ok (.aload_n 0, 1) := by decide +kernel
theorem dX2_letterBehind_18 : decode cX2_letterBehind 18 = .ok (.aload_n 1, 1) := by decide +kernel
theorem dX2_letterBehind_19 : decode cX2_letterBehind 19 = .ok (.iload_n 2, 1) := by decide +kernel
theorem dX2_letterBehind_20 : decode cX2_letterBehind 20 = .ok (.iload_n 3, 1) := by decide +kernel
theorem dX2_letterBehind_21 : decode cX2_letterBehind 21 = .ok (.invokevirtual 75, 3) := by decide +kernel
theorem dX2_letterBehind_24 : decode cX2_letterBehind 24 = .ok (.ifCond .eq 5, 3) := by decide +kernel
theorem dX2_letterBehind_27 : decode cX2_letterBehind 27 = .ok (.iload_n 3, 1) := by decide +kernel
theorem dX2_letterBehind_28 : decode cX2_letterBehind 28 = .ok (.ireturn, 1) := by decide +kernel
theorem dX2_letterBehind_29 : decode cX2_letterBehind 29 = .ok (.aload_n 0, 1) := by decide +kernel
theorem dX2_letterBehind_30 : decode cX2_letterBehind 30 = .ok (.aload_n 1, 1) := by decide +kernel
theorem dX2_letterBehind_31 : decode cX2_letterBehind 31 = .ok (.iload_n 2, 1) := by decide +kernel
theorem dX2_letterBehind_32 : decode cX2_letterBehind 32 = .ok (.iconst 1, 1) := by decide +kernel
theorem dX2_letterBehind_33 : decode cX2_letterBehind 33 = .ok (.iload_n 3, 1) := by decide +kernel
theorem dX2_letterBehind_34 : decode cX2_letterBehind 34 = .ok (.isub, 1) := by decide +kernel
theorem dX2_letterBehind_35 : decode cX2_letterBehind 35 = .ok (.invokevirtual 75, 3) := by decide +kernel
theorem dX2_letterBehind_38 : decode cX2_letterBehind 38 = .ok (.ifCond .eq 9, 3) := by decide +kernel
theorem dX2_letterBehind_41 : decode cX2_letterBehind 41 = .ok (.iconst 1, 1) := by decide +kernel
theorem dX2_letterBehind_42 : decode cX2_letterBehind 42 = .ok (.iload_n 3, 1) := by decide +kernel
theorem dX2_letterBehind_43 : decode cX2_letterBehind 43 = .ok (.isub, 1) := by decide +kernel
theorem dX2_letterBehind_44 : decode cX2_letterBehind 44 = .ok (.goto 4, 3) := by decide +kernel
theorem dX2_letterBehind_47 : decode cX2_letterBehind 47 = .ok (.iconst (-1), 1) := by decide +kernel
theorem dX2_letterBehind_48 : decode cX2_letterBehind 48 = .ok (.ireturn, 1) := by decide +kernel
set_option maxRecDepth 20000 in
theorem ggX2_hasImageAt_X2_sizeOf : GoodIn wsX2_hasImageAt wsX2_sizeOf := goodIn_r _ [5, 6, 7] (by decide +kernel) (by decide +kernel)
set_option maxRecDepth 20000 in
theorem gX2_hasImageAt_X2_sizeOf : GoodIn wsX2_hasImageAt (wsV RX2 62 RX2 yX2_sizeOf wsX2_sizeOf) := goodIn_app (goodIn_of _ (by decide +kernel)) ggX2_hasImageAt_X2_sizeOf
set_option maxRecDepth 20000 in
theorem ggX2_hasImageAt_X5_factor : GoodIn wsX2_hasImageAt wsX5_factor := goodIn_r _ [12, 13, 14, 21, 22] (by decide +kernel) (by decide +kernel)
set_option maxRecDepth 20000 in
theorem gX2_hasImageAt_X5_factor : GoodIn wsX2_hasImageAt (wsV RX2 79 RX5 yX5_factor wsX5_factor) := goodIn_app (goodIn_of _ (by decide +kernel)) ggX2_hasImageAt_X5_factor
set_option maxRecDepth 20000 in
theorem ggX2_hasImageAt_X2_bitsOf : GoodIn wsX2_hasImageAt wsX2_bitsOf := goodIn_r _ [18, 19, 20] (by decide +kernel) (by decide +kernel)
set_option maxRecDepth 20000 in
theorem gX2_hasImageAt_X2_bitsOf : GoodIn wsX2_hasImageAt (wsV RX2 65 RX2 yX2_bitsOf wsX2_bitsOf) := goodIn_app (goodIn_of _ (by decide +kernel)) ggX2_hasImageAt_X2_bitsOf
theorem dX2_hasImageAt_0 : decode cX2_hasImageAt 0 = .ok (.aload_n 0, 1) := by decide +kernel
theorem dX2_hasImageAt_1 : decode cX2_hasImageAt 1 = .ok (.iload_n 3, 1) := by decide +kernel
theorem dX2_hasImageAt_2 : decode cX2_hasImageAt 2 = .ok (.invokevirtual 62, 3) := by decide +kernel
theorem dX2_hasImageAt_5 : decode cX2_hasImageAt 5 = .ok (.istore 4, 2) := by decide +kernel
theorem dX2_hasImageAt_7 : decode cX2_hasImageAt 7 = .ok (.iload_n 2, 1) := by decide +kernel
theorem dX2_hasImageAt_8 : decode cX2_hasImageAt 8 = .ok (.iload 4, 2) := by decide +kernel
theorem dX2_hasImageAt_10 : decode cX2_hasImageAt 10 = .ok (.iadd, 1) := by decide +kernel
theorem dX2_hasImageAt_11 : decode cX2_hasImageAt 11 = .ok (.aload_n 1, 1) := by decide +kernel
theorem dX2_hasImageAt_12 : decode cX2_hasImageAt 12 = .ok (.getfield 53, 3) := by decide +kernel
theorem dX2_hasImageAt_15 : decode cX2_hasImageAt 15 = .ok (.if_icmp .gt 24, 3) := by decide +kernel
theorem dX2_hasImageAt_18 : decode cX2_hasImageAt 18 = .ok (.aload_n 1, 1) := by decide +kernel
theorem dX2_hasImageAt_19 : decode cX2_hasImageAt 19 = .ok (.iload_n 2, 1) := by decide +kernel
theorem dX2_hasImageAt_20 : decode cX2_hasImageAt 20 = .ok (.iload 4, 2) := by decide +kernel
theorem dX2_hasImageAt_22 : decode cX2_hasImageAt 22 = .ok (.invokevirtual 79, 3) := by decide +kernel
theorem dX2_hasImageAt_25 : decode cX2_hasImageAt 25 = .ok (.aload_n 0, 1) := by decide +kernel
theorem dX2_hasImageAt_26 : decode cX2_hasImageAt 26 = .ok (.iload_n 3, 1) := by decide +kernel
theorem dX2_hasImageAt_27 : decode cX2_hasImageAt 27 = .ok (.invokevirtual 65, 3) := by decide +kernel
theorem dX2_hasImageAt_30 : decode cX2_hasImageAt 30 = .ok (.i2l, 1) := by decide +kernel
theorem dX2_hasImageAt_31 : decode cX2_hasImageAt 31 = .ok (.lcmp, 1) := by decide +kernel
theorem dX2_hasImageAt_32 : decode cX2_hasImageAt 32 = .ok (.ifCond .ne 7, 3) := by decide +kernel
theorem dX2_hasImageAt_35 : decode cX2_hasImageAt 35 = .ok (.iconst 1, 1) := by decide +kernel
theorem dX2_hasImageAt_36 : decode cX2_hasImageAt 36 = .ok (.goto 4, 3) := by decide +kernel
theorem dX2_hasImageAt_39 : decode cX2_hasImageAt 39 = .ok (.iconst 0, 1) := by decide +kernel
theorem dX2_hasImageAt_40 : decode cX2_hasImageAt 40 = .ok (.ireturn, 1) := by decide +kernel
theorem dX3_init_0 : decode cX3_init 0 = .ok (.aload_n 0, 1) := by decide +kernel
theorem dX3_init_1 : decode cX3_init 1 = .ok (.invokespecial 3, 3) := by decide +kernel
theorem dX3_init_4 : decode cX3_init 4 = .ok (.aload_n 0, 1) := by decide +kernel
theorem dX3_init_5 : decode cX3_init 5 = .ok (.iload_n 1, 1) := by decide +kernel
theorem dX3_init_6 : decode cX3_init 6 = .ok (.putfield 9, 3) := by decide +kernel
theorem dX3_init_9 : decode cX3_init 9 = .ok (.aload_n 0, 1) := by decide +kernel
theorem dX3_init_10 : decode cX3_init 10 = .ok (.iload_n 2, 1) := by decide +kernel
theorem dX3_init_11 : decode cX3_init 11 = .ok (.putfield 15, 3) := by decide +kernel
theorem dX3_init_14 : decode cX3_init 14 = .ok (.aload_n 0, 1) := by decide +kernel
theorem dX3_init_15 : decode cX3_init 15 = .ok (.iload_n 3, 1) := by decide +kernel
theorem dX3_init_16 : decode cX3_init 16 = .ok (.putfield 18, 3) := by decide +kernel
theorem dX3_init_19 : decode cX3_init 19 = .ok (.return_, 1) := by decide +kernel
set_option maxRecDepth 20000 in
theorem ggX3_term_X6_quotient : GoodIn wsX3_term wsX6_quotient := goodIn_r _ [5] (by decide +kernel) (by decide +kernel)
set_option maxRecDepth 20000 in
theorem gX3_term_X6_quotient_n21 : GoodIn wsX3_term (wsX6_quotient) := ggX3_term_X6_quotient
theorem dX3_term_0 : decode cX3_term 0 = .ok (.aload_n 0, 1) := by decide +kernel
theorem dX3_term_1 : decode cX3_term 1 = .ok (.getfield 15, 3) := by decide +kernel
theorem dX3_term_4 : decode cX3_term 4 = .ok (.istore_n 2, 1) := by decide +kernel
theorem dX3_term_5 : decode cX3_term 5 = .ok (.aload_n 0, 1) := by decide +kernel
theorem dX3_term_6 : decode cX3_term 6 = .ok (.getfield 9, 3) := by decide +kernel
theorem dX3_term_9 : decode cX3_term 9 = .ok (.istore_n 3, 1) := by decide +kernel
theorem dX3_term_10 : decode cX3_term 10 = .ok (.iconst 1, 1) := by decide +kernel
theorem dX3_term_11 : decode cX3_term 11 = .ok (.istore 4, 2) := by decide +kernel
theorem dX3_term_13 : decode cX3_term 13 = .ok (.iload 4, 2) := by decide +kernel
theorem dX3_term_15 : decode cX3_term 15 = .ok (.sipush 1000, 3) := by decide +kernel
theorem dX3_term_18 : decode cX3_term 18 = .ok (.if_icmp .gt 45, 3) := by decide +kernel
theorem dX3_term_21 : decode cX3_term 21 = .ok (.iload_n 3, 1) := by decide +kernel
theorem dX3_term_22 : decode cX3_term 22 = .ok (.ifCond .le 41, 3) := by decide +kernel
theorem dX3_term_25 : decode cX3_term 25 = .ok (.iload_n 2, 1) := by decide +kernel
theorem dX3_term_26 : decode cX3_term 26 = .ok (.i2l, 1) := by decide +kernel
theorem dX3_term_27 : decode cX3_term 27 = .ok (.iload_n 3, 1) := by decide +kernel
theorem dX3_term_28 : decode cX3_term 28 = .ok (.i2l, 1) := by decide +kernel
theorem dX3_term_29 : decode cX3_term 29 = .ok (.invokestatic 21, 3) := by decide +kernel
theorem dX3_term_32 : decode cX3_term 32 = .ok (.l2i, 1) := by decide +kernel
theorem dX3_term_33 : decode cX3_term 33 = .ok (.istore 5, 2) := by decide +kernel
theorem dX3_term_35 : decode cX3_term 35 = .ok (.iload 4, 2) := by decide +kernel
theorem dX3_term_37 : decode cX3_term 37 = .ok (.iload_n 1, 1) := by decide +kernel
theorem dX3_term_38 : decode cX3_term 38 = .ok (.if_icmp .ne 6, 3) := by decide +kernel
theorem dX3_term_41 : decode cX3_term 41 = .ok (.iload 5, 2) := by decide +kernel
theorem dX3_term_43 : decode cX3_term 43 = .ok (.ireturn, 1) := by decide +kernel
theorem dX3_term_44 : decode cX3_term 44 = .ok (.iload_n 2, 1) := by decide +kernel
theorem dX3_term_45 : decode cX3_term 45 = .ok (.iload 5, 2) := by decide +kernel
theorem dX3_term_47 : decode cX3_term 47 = .ok (.iload_n 3, 1) := by decide +kernel
theorem dX3_term_48 : decode cX3_term 48 = .ok (.imul, 1) := by decide +kernel
theorem dX3_term_49 : decode cX3_term 49 = .ok (.isub, 1) := by decide +kernel
theorem dX3_term_50 : decode cX3_term 50 = .ok (.istore 6, 2) := by decide +kernel
theorem dX3_term_52 : decode cX3_term 52 = .ok (.iload_n 3, 1) := by decide +kernel
theorem dX3_term_53 : decode cX3_term 53 = .ok (.istore_n 2, 1) := by decide +kernel
theorem dX3_term_54 : decode cX3_term 54 = .ok (.iload 6, 2) := by decide +kernel
theorem dX3_term_56 : decode cX3_term 56 = .ok (.istore_n 3, 1) := by decide +kernel
theorem dX3_term_57 : decode cX3_term 57 = .ok (.iinc 4 1, 3) := by decide +kernel
theorem dX3_term_60 : decode cX3_term 60 = .ok (.goto (-47), 3) := by decide +kernel
theorem dX3_term_63 : decode cX3_term 63 = .ok (.iconst (-1), 1) := by decide +kernel
theorem dX3_term_64 : decode cX3_term 64 = .ok (.ireturn, 1) := by decide +kernel
set_option maxRecDepth 20000 in
theorem ggX3_letter_X6_quotient : GoodIn wsX3_letter wsX6_quotient := goodIn_r _ [6] (by decide +kernel) (by decide +kernel)
set_option maxRecDepth 20000 in
theorem gX3_letter_X6_quotient_n21 : GoodIn wsX3_letter (wsX6_quotient) := ggX3_letter_X6_quotient
theorem dX3_letter_0 : decode cX3_letter 0 = .ok (.iload_n 2, 1) := by decide +kernel
theorem dX3_letter_1 : decode cX3_letter 1 = .ok (.ifCond .eq 13, 3) := by decide +kernel
theorem dX3_letter_4 : decode cX3_letter 4 = .ok (.aload_n 0, 1) := by decide +kernel
theorem dX3_letter_5 : decode cX3_letter 5 = .ok (.getfield 15, 3) := by decide +kernel
theorem dX3_letter_8 : decode cX3_letter 8 = .ok (.i2l, 1) := by decide +kernel
theorem dX3_letter_9 : decode cX3_letter 9 = .ok (.lconst 1, 1) := by decide +kernel
theorem dX3_letter_10 : decode cX3_letter 10 = .ok (.lsub, 1) := by decide +kernel
theorem dX3_letter_11 : decode cX3_letter 11 = .ok (.goto 4, 3) := by decide +kernel
theorem dX3_letter_14 : decode cX3_letter 14 = .ok (.lconst 0, 1) := by decide +kernel
theorem dX3_letter_15 : decode cX3_letter 15 = .ok (.lstore_n 3, 1) := by decide +kernel
theorem dX3_letter_16 : decode cX3_letter 16 = .ok (.iload_n 1, 1) := by decide +kernel
theorem dX3_letter_17 : decode cX3_letter 17 = .ok (.i2l, 1) := by decide +kernel
theorem dX3_letter_18 : decode cX3_letter 18 = .ok (.aload_n 0, 1) := by decide +kernel
theorem dX3_letter_19 : decode cX3_letter 19 = .ok (.getfield 9, 3) := by decide +kernel
theorem dX3_letter_22 : decode cX3_letter 22 = .ok (.i2l, 1) := by decide +kernel
theorem dX3_letter_23 : decode cX3_letter 23 = .ok (.lmul, 1) := by decide +kernel
theorem dX3_letter_24 : decode cX3_letter 24 = .ok (.aload_n 0, 1) := by decide +kernel
theorem dX3_letter_25 : decode cX3_letter 25 = .ok (.getfield 18, 3) := by decide +kernel
theorem dX3_letter_28 : decode cX3_letter 28 = .ok (.i2l, 1) := by decide +kernel
theorem dX3_letter_29 : decode cX3_letter 29 = .ok (.ladd, 1) := by decide +kernel
theorem dX3_letter_30 : decode cX3_letter 30 = .ok (.lload_n 3, 1) := by decide +kernel
theorem dX3_letter_31 : decode cX3_letter 31 = .ok (.ladd, 1) := by decide +kernel
theorem dX3_letter_32 : decode cX3_letter 32 = .ok (.lstore 5, 2) := by decide +kernel
theorem dX3_letter_34 : decode cX3_letter 34 = .ok (.lload 5, 2) := by decide +kernel
theorem dX3_letter_36 : decode cX3_letter 36 = .ok (.aload_n 0, 1) := by decide +kernel
theorem dX3_letter_37 : decode cX3_letter 37 = .ok (.getfield 9, 3) := by decide +kernel
theorem dX3_letter_40 : decode cX3_letter 40 = .ok (.i2l, 1) := by decide +kernel
theorem dX3_letter_41 : decode cX3_letter 41 = .ok (.ladd, 1) := by decide +kernel
theorem dX3_letter_42 : decode cX3_letter 42 = .ok (.aload_n 0, 1) := by decide +kernel
theorem dX3_letter_43 : decode cX3_letter 43 = .ok (.getfield 15, 3) := by decide +kernel
theorem dX3_letter_46 : decode cX3_letter 46 = .ok (.i2l, 1) := by decide +kernel
theorem dX3_letter_47 : decode cX3_letter 47 = .ok (.invokestatic 21, 3) := by decide +kernel
theorem dX3_letter_50 : decode cX3_letter 50 = .ok (.lload 5, 2) := by decide +kernel
theorem dX3_letter_52 : decode cX3_letter 52 = .ok (.aload_n 0, 1) := by decide +kernel
theorem dX3_letter_53 : decode cX3_letter 53 = .ok (.getfield 15, 3) := by decide +kernel
theorem dX3_letter_56 : decode cX3_letter 56 = .ok (.i2l, 1) := by decide +kernel
theorem dX3_letter_57 : decode cX3_letter 57 = .ok (.invokestatic 21, 3) := by decide +kernel
theorem dX3_letter_60 : decode cX3_letter 60 = .ok (.lsub, 1) := by decide +kernel
theorem dX3_letter_61 : decode cX3_letter 61 = .ok (.l2i, 1) := by decide +kernel
theorem dX3_letter_62 : decode cX3_letter 62 = .ok (.ireturn, 1) := by decide +kernel
set_option maxRecDepth 20000 in
theorem ggX3_firstLetters_X3_letter : GoodIn wsX3_firstLetters wsX3_letter := goodIn_r _ [8, 9, 10, 11, 12, 13, 14, 25, 26, 27] (by decide +kernel) (by decide +kernel)
set_option maxRecDepth 20000 in
theorem gX3_firstLetters_X3_letter : GoodIn wsX3_firstLetters (wsV RX3 25 RX3 yX3_letter wsX3_letter) := goodIn_app (goodIn_of _ (by decide +kernel)) ggX3_firstLetters_X3_letter
set_option maxRecDepth 20000 in
theorem ggX3_firstLetters_X5_init : GoodIn wsX3_firstLetters wsX5_init := goodIn_r _ [17, 18, 19, 20, 21, 22, 23, 24] (by decide +kernel) (by decide +kernel)
set_option maxRecDepth 20000 in
theorem gX3_firstLetters_X5_init : GoodIn wsX3_firstLetters (wsX5_init) := ggX3_firstLetters_X5_init
theorem dX3_firstLetters_0 : decode cX3_firstLetters 0 = .ok (.lconst 0, 1) := by decide +kernel
theorem dX3_firstLetters_1 : decode cX3_firstLetters 1 = .ok (.lstore_n 3, 1) := by decide +kernel
theorem dX3_firstLetters_2 : decode cX3_firstLetters 2 = .ok (.iconst 0, 1) := by decide +kernel
theorem dX3_firstLetters_3 : decode cX3_firstLetters 3 = .ok (.istore 5, 2) := by decide +kernel
theorem dX3_firstLetters_5 : decode cX3_firstLetters 5 = .ok (.iload 5, 2) := by decide +kernel
theorem dX3_firstLetters_7 : decode cX3_firstLetters 7 = .ok (.iload_n 1, 1) := by decide +kernel
theorem dX3_firstLetters_8 : decode cX3_firstLetters 8 = .ok (.if_icmp .ge 22, 3) := by decide +kernel
theorem dX3_firstLetters_11 : decode cX3_firstLetters 11 = .ok (.lload_n 3, 1) := by decide +kernel
theorem dX3_firstLetters_12 : decode cX3_firstLetters 12 = .ok (.iconst 1, 1) := by decide +kernel
theorem dX3_firstLetters_13 : decode cX3_firstLetters 13 = .ok (.lshl, 1) := by decide +kernel
theorem dX3_firstLetters_14 : decode cX3_firstLetters 14 = .ok (.aload_n 0, 1) := by decide +kernel
theorem dX3_firstLetters_15 : decode cX3_firstLetters 15 = .ok (.iload 5, 2) := by decide +kernel
theorem dX3_firstLetters_17 : decode cX3_firstLetters 17 = .ok (.iload_n 2, 1) := by decide +kernel
theorem dX3_firstLetters_18 : decode cX3_firstLetters 18 = .ok (.invokevirtual 25, 3) := by decide +kernel
theorem dX3_firstLetters_21 : decode cX3_firstLetters 21 = .ok (.i2l, 1) := by decide +kernel
theorem dX3_firstLetters_22 : decode cX3_firstLetters 22 = .ok (.lor, 1) := by decide +kernel
theorem dX3_firstLetters_23 : decode cX3_firstLetters 23 = .ok (.lstore_n 3, 1) := by decide +kernel
theorem dX3_firstLetters_24 : decode cX3_firstLetters 24 = .ok (.iinc 5 1, 3) := by decide +kernel
theorem dX3_firstLetters_27 : decode cX3_firstLetters 27 = .ok (.goto (-22), 3) := by decide +kernel
theorem dX3_firstLetters_30 : decode cX3_firstLetters 30 = .ok (.new 29, 3) := by decide +kernel
theorem dX3_firstLetters_33 : decode cX3_firstLetters 33 = .ok (.dup, 1) := by decide +kernel
theorem dX3_firstLetters_34 : decode cX3_firstLetters 34 = .ok (.lload_n 3, 1) := by decide +kernel
theorem dX3_firstLetters_35 : decode cX3_firstLetters 35 = .ok (.iload_n 1, 1) := by decide +kernel
theorem dX3_firstLetters_36 : decode cX3_firstLetters 36 = .ok (.invokespecial 31, 3) := by decide +kernel
theorem dX3_firstLetters_39 : decode cX3_firstLetters 39 = .ok (.areturn, 1) := by decide +kernel
set_option maxRecDepth 20000 in
theorem ggX3_standardWord_X5_init : GoodIn wsX3_standardWord wsX5_init := goodIn_r _ [6, 7, 8, 9, 10, 11, 28, 29] (by decide +kernel) (by decide +kernel)
set_option maxRecDepth 20000 in
theorem gX3_standardWord_X5_init : GoodIn wsX3_standardWord (wsX5_init) := ggX3_standardWord_X5_init
set_option maxRecDepth 20000 in
theorem ggX3_standardWord_X3_term : GoodIn wsX3_standardWord wsX3_term := goodIn_r _ [16, 17, 18, 19, 20, 21, 30, 31, 32] (by decide +kernel) (by decide +kernel)
set_option maxRecDepth 20000 in
theorem gX3_standardWord_X3_term : GoodIn wsX3_standardWord (wsV RX3 34 RX3 yX3_term wsX3_term) := goodIn_app (goodIn_of _ (by decide +kernel)) ggX3_standardWord_X3_term
set_option maxRecDepth 20000 in
theorem ggX3_standardWord_X5_repeatedThen : GoodIn wsX3_standardWord wsX5_repeatedThen := goodIn_r _ [25, 11, 10, 26, 2, 3, 27, 5, 6, 7, 8, 9, 28, 29] (by decide +kernel) (by decide +kernel)
set_option maxRecDepth 20000 in
theorem gX3_standardWord_X5_repeatedThen : GoodIn wsX3_standardWord (wsV RX3 38 RX5 yX5_repeatedThen wsX5_repeatedThen) := goodIn_app (goodIn_of _ (by decide +kernel)) ggX3_standardWord_X5_repeatedThen
theorem dX3_standardWord_0 : decode cX3_standardWord 0 = .ok (.new 29, 3) := by decide +kernel
theorem dX3_standardWord_3 : decode cX3_standardWord 3 = .ok (.dup, 1) := by decide +kernel
theorem dX3_standardWord_4 : decode cX3_standardWord 4 = .ok (.lconst 1, 1) := by decide +kernel
theorem dX3_standardWord_5 : decode cX3_standardWord 5 = .ok (.iconst 1, 1) := by decide +kernel
theorem dX3_standardWord_6 : decode cX3_standardWord 6 = .ok (.invokespecial 31, 3) := by decide +kernel
theorem dX3_standardWord_9 : decode cX3_standardWord 9 = .ok (.astore_n 2, 1) := by decide +kernel
theorem dX3_standardWord_10 : decode cX3_standardWord 10 = .ok (.new 29, 3) := by decide +kernel
theorem dX3_standardWord_13 : decode cX3_standardWord 13 = .ok (.dup, 1) := by decide +kernel
theorem dX3_standardWord_14 : decode cX3_standardWord 14 = .ok (.lconst 0, 1) := by decide +kernel
theorem dX3_standardWord_15 : decode cX3_standardWord 15 = .ok (.iconst 1, 1) := by decide +kernel
theorem dX3_standardWord_16 : decode cX3_standardWord 16 = .ok (.invokespecial 31, 3) := by decide +kernel
theorem dX3_standardWord_19 : decode cX3_standardWord 19 = .ok (.astore_n 3, 1) := by decide +kernel
theorem dX3_standardWord_20 : decode cX3_standardWord 20 = .ok (.iload_n 1, 1) := by decide +kernel
theorem dX3_standardWord_21 : decode cX3_standardWord 21 = .ok (.ifCond .ge 5, 3) := by decide +kernel
theorem dX3_standardWord_24 : decode cX3_standardWord 24 = .ok (.aload_n 2, 1) := by decide +kernel
theorem dX3_standardWord_25 : decode cX3_standardWord 25 = .ok (.areturn, 1) := by decide +kernel
theorem dX3_standardWord_26 : decode cX3_standardWord 26 = .ok (.iconst 1, 1) := by decide +kernel
theorem dX3_standardWord_27 : decode cX3_standardWord 27 = .ok (.istore 4, 2) := by decide +kernel
theorem dX3_standardWord_29 : decode cX3_standardWord 29 = .ok (.iload 4, 2) := by decide +kernel
theorem dX3_standardWord_31 : decode cX3_standardWord 31 = .ok (.iload_n 1, 1) := by decide +kernel
theorem dX3_standardWord_32 : decode cX3_standardWord 32 = .ok (.if_icmp .gt 55, 3) := by decide +kernel
theorem dX3_standardWord_35 : decode cX3_standardWord 35 = .ok (.iload 4, 2) := by decide +kernel
theorem dX3_standardWord_37 : decode cX3_standardWord 37 = .ok (.iconst 1, 1) := by decide +kernel
theorem dX3_standardWord_38 : decode cX3_standardWord 38 = .ok (.if_icmp .ne 14, 3) := by decide +kernel
theorem dX3_standardWord_41 : decode cX3_standardWord 41 = .ok (.aload_n 0, 1) := by decide +kernel
theorem dX3_standardWord_42 : decode cX3_standardWord 42 = .ok (.iload 4, 2) := by decide +kernel
theorem dX3_standardWord_44 : decode cX3_standardWord 44 = .ok (.invokevirtual 34, 3) := by decide +kernel
theorem dX3_standardWord_47 : decode cX3_standardWord 47 = .ok (.iconst 1, 1) := by decide +kernel
theorem dX3_standardWord_48 : decode cX3_standardWord 48 = .ok (.isub, 1) := by decide +kernel
theorem dX3_standardWord_49 : decode cX3_standardWord 49 = .ok (.goto 9, 3) := by decide +kernel
theorem dX3_standardWord_52 : decode cX3_standardWord 52 = .ok (.aload_n 0, 1) := by decide +kernel
theorem dX3_standardWord_53 : decode cX3_standardWord 53 = .ok (.iload 4, 2) := by decide +kernel
theorem dX3_standardWord_55 : decode cX3_standardWord 55 = .ok (.invokevirtual 34, 3) := by decide +kernel
theorem dX3_standardWord_58 : decode cX3_standardWord 58 = .ok (.istore 5, 2) := by decide +kernel
theorem dX3_standardWord_60 : decode cX3_standardWord 60 = .ok (.aload_n 3, 1) := by decide +kernel
theorem dX3_standardWord_61 : decode cX3_standardWord 61 = .ok (.iload 5, 2) := by decide +kernel
theorem dX3_standardWord_63 : decode cX3_standardWord 63 = .ok (.aload_n 2, 1) := by decide +kernel
theorem dX3_standardWord_64 : decode cX3_standardWord 64 = .ok (.invokevirtual 38, 3) := by decide +kernel
theorem dX3_standardWord_67 : decode cX3_standardWord 67 = .ok (.astore 6, 2) := by decide +kernel
theorem dX3_standardWord_69 : decode cX3_standardWord 69 = .ok (.aload 6, 2) := by decide +kernel
theorem dX3_standardWord_71 : decode cX3_standardWord 71 = .ok (.ifnonnull 5, 3) := by decide +kernel
theorem dX3_standardWord_74 : decode cX3_standardWord 74 = .ok (.aconst_null, 1) := by decide +kernel
theorem dX3_standardWord_75 : decode cX3_standardWord 75 = .ok (.areturn, 1) := by decide +kernel
theorem dX3_standardWord_76 : decode cX3_standardWord 76 = .ok (.aload_n 3, 1) := by decide +kernel
theorem dX3_standardWord_77 : decode cX3_standardWord 77 = .ok (.astore_n 2, 1) := by decide +kernel
theorem dX3_standardWord_78 : decode cX3_standardWord 78 = .ok (.aload 6, 2) := by decide +kernel
theorem dX3_standardWord_80 : decode cX3_standardWord 80 = .ok (.astore_n 3, 1) := by decide +kernel
theorem dX3_standardWord_81 : decode cX3_standardWord 81 = .ok (.iinc 4 1, 3) := by decide +kernel
theorem dX3_standardWord_84 : decode cX3_standardWord 84 = .ok (.goto (-55), 3) := by decide +kernel
theorem dX3_standardWord_87 : decode cX3_standardWord 87 = .ok (.aload_n 3, 1) := by decide +kernel
theorem dX3_standardWord_88 : decode cX3_standardWord 88 = .ok (.areturn, 1) := by decide +kernel
theorem dX4_init_0 : decode cX4_init 0 = .ok (.aload_n 0, 1) := by decide +kernel
theorem dX4_init_1 : decode cX4_init 1 = .ok (.invokespecial 1, 3) := by decide +kernel
theorem dX4_init_4 : decode cX4_init 4 = .ok (.aload_n 0, 1) := by decide +kernel
theorem dX4_init_5 : decode cX4_init 5 = .ok (.aload_n 1, 1) := by decide +kernel
theorem dX4_init_6 : decode cX4_init 6 = .ok (.putfield 7, 3) := by decide +kernel
theorem dX4_init_9 : decode cX4_init 9 = .ok (.aload_n 0, 1) := by decide +kernel
theorem dX4_init_10 : decode cX4_init 10 = .ok (.aload_n 2, 1) := by decide +kernel
theorem dX4_init_11 : decode cX4_init 11 = .ok (.putfield 13, 3) := by decide +kernel
theorem dX4_init_14 : decode cX4_init 14 = .ok (.return_, 1) := by decide +kernel
theorem dX5_init_0 : decode cX5_init 0 = .ok (.aload_n 0, 1) := by decide +kernel
theorem dX5_init_1 : decode cX5_init 1 = .ok (.invokespecial 3, 3) := by decide +kernel
theorem dX5_init_4 : decode cX5_init 4 = .ok (.aload_n 0, 1) := by decide +kernel
theorem dX5_init_5 : decode cX5_init 5 = .ok (.lload_n 1, 1) := by decide +kernel
theorem dX5_init_6 : decode cX5_init 6 = .ok (.putfield 9, 3) := by decide +kernel
theorem dX5_init_9 : decode cX5_init 9 = .ok (.aload_n 0, 1) := by decide +kernel
theorem dX5_init_10 : decode cX5_init 10 = .ok (.iload_n 3, 1) := by decide +kernel
theorem dX5_init_11 : decode cX5_init 11 = .ok (.putfield 15, 3) := by decide +kernel
theorem dX5_init_14 : decode cX5_init 14 = .ok (.return_, 1) := by decide +kernel
set_option maxRecDepth 20000 in
theorem ggX5_letter_X5_factor : GoodIn wsX5_letter wsX5_factor := goodIn_r _ [5, 6, 7, 8, 9] (by decide +kernel) (by decide +kernel)
set_option maxRecDepth 20000 in
theorem gX5_letter_X5_factor : GoodIn wsX5_letter (wsV RX5 19 RX5 yX5_factor wsX5_factor) := goodIn_app (goodIn_of _ (by decide +kernel)) ggX5_letter_X5_factor
theorem dX5_letter_0 : decode cX5_letter 0 = .ok (.aload_n 0, 1) := by decide +kernel
theorem dX5_letter_1 : decode cX5_letter 1 = .ok (.iload_n 1, 1) := by decide +kernel
theorem dX5_letter_2 : decode cX5_letter 2 = .ok (.iconst 1, 1) := by decide +kernel
theorem dX5_letter_3 : decode cX5_letter 3 = .ok (.invokevirtual 19, 3) := by decide +kernel
theorem dX5_letter_6 : decode cX5_letter 6 = .ok (.l2i, 1) := by decide +kernel
theorem dX5_letter_7 : decode cX5_letter 7 = .ok (.ireturn, 1) := by decide +kernel
theorem dX5_factor_0 : decode cX5_factor 0 = .ok (.aload_n 0, 1) := by decide +kernel
theorem dX5_factor_1 : decode cX5_factor 1 = .ok (.getfield 9, 3) := by decide +kernel
theorem dX5_factor_4 : decode cX5_factor 4 = .ok (.aload_n 0, 1) := by decide +kernel
theorem dX5_factor_5 : decode cX5_factor 5 = .ok (.getfield 15, 3) := by decide +kernel
theorem dX5_factor_8 : decode cX5_factor 8 = .ok (.iload_n 1, 1) := by decide +kernel
theorem dX5_factor_9 : decode cX5_factor 9 = .ok (.isub, 1) := by decide +kernel
theorem dX5_factor_10 : decode cX5_factor 10 = .ok (.iload_n 2, 1) := by decide +kernel
theorem dX5_factor_11 : decode cX5_factor 11 = .ok (.isub, 1) := by decide +kernel
theorem dX5_factor_12 : decode cX5_factor 12 = .ok (.lushr, 1) := by decide +kernel
theorem dX5_factor_13 : decode cX5_factor 13 = .ok (.lconst 1, 1) := by decide +kernel
theorem dX5_factor_14 : decode cX5_factor 14 = .ok (.iload_n 2, 1) := by decide +kernel
theorem dX5_factor_15 : decode cX5_factor 15 = .ok (.lshl, 1) := by decide +kernel
theorem dX5_factor_16 : decode cX5_factor 16 = .ok (.lconst 1, 1) := by decide +kernel
theorem dX5_factor_17 : decode cX5_factor 17 = .ok (.lsub, 1) := by decide +kernel
theorem dX5_factor_18 : decode cX5_factor 18 = .ok (.land, 1) := by decide +kernel
theorem dX5_factor_19 : decode cX5_factor 19 = .ok (.lreturn, 1) := by decide +kernel
set_option maxRecDepth 20000 in
theorem ggX5_ones_J13_bitCount_95d88 : GoodIn wsX5_ones wsJ13_bitCount_95d88 := goodIn_r _ [5, 6, 7, 8] (by decide +kernel) (by decide +kernel)
set_option maxRecDepth 20000 in
theorem gX5_ones_J13_bitCount_95d88 : GoodIn wsX5_ones (va_wsS RX5 23 yJ13_bitCount_95d88 wsJ13_bitCount_95d88) := goodIn_app (goodIn_of _ (by decide +kernel)) ggX5_ones_J13_bitCount_95d88
theorem dX5_ones_0 : decode cX5_ones 0 = .ok (.aload_n 0, 1) := by decide +kernel
theorem dX5_ones_1 : decode cX5_ones 1 = .ok (.getfield 9, 3) := by decide +kernel
theorem dX5_ones_4 : decode cX5_ones 4 = .ok (.invokestatic 23, 3) := by decide +kernel
theorem dX5_ones_7 : decode cX5_ones 7 = .ok (.ireturn, 1) := by decide +kernel
set_option maxRecDepth 20000 in
theorem ggX5_reversed_X5_init : GoodIn wsX5_reversed wsX5_init := goodIn_r _ [8, 9, 10, 11, 2, 1, 12, 13] (by decide +kernel) (by decide +kernel)
set_option maxRecDepth 20000 in
theorem gX5_reversed_X5_init : GoodIn wsX5_reversed (wsX5_init) := ggX5_reversed_X5_init
theorem dX5_reversed_0 : decode cX5_reversed 0 = .ok (.lconst 0, 1) := by decide +kernel
theorem dX5_reversed_1 : decode cX5_reversed 1 = .ok (.lstore_n 1, 1) := by decide +kernel
theorem dX5_reversed_2 : decode cX5_reversed 2 = .ok (.iconst 0, 1) := by decide +kernel
theorem dX5_reversed_3 : decode cX5_reversed 3 = .ok (.istore_n 3, 1) := by decide +kernel
theorem dX5_reversed_4 : decode cX5_reversed 4 = .ok (.iload_n 3, 1) := by decide +kernel
theorem dX5_reversed_5 : decode cX5_reversed 5 = .ok (.aload_n 0, 1) := by decide +kernel
theorem dX5_reversed_6 : decode cX5_reversed 6 = .ok (.getfield 15, 3) := by decide +kernel
theorem dX5_reversed_9 : decode cX5_reversed 9 = .ok (.if_icmp .ge 22, 3) := by decide +kernel
theorem dX5_reversed_12 : decode cX5_reversed 12 = .ok (.lload_n 1, 1) := by decide +kernel
theorem dX5_reversed_13 : decode cX5_reversed 13 = .ok (.iconst 1, 1) := by decide +kernel
theorem dX5_reversed_14 : decode cX5_reversed 14 = .ok (.lshl, 1) := by decide +kernel
theorem dX5_reversed_15 : decode cX5_reversed 15 = .ok (.aload_n 0, 1) := by decide +kernel
theorem dX5_reversed_16 : decode cX5_reversed 16 = .ok (.getfield 9, 3) := by decide +kernel
theorem dX5_reversed_19 : decode cX5_reversed 19 = .ok (.iload_n 3, 1) := by decide +kernel
theorem dX5_reversed_20 : decode cX5_reversed 20 = .ok (.lushr, 1) := by decide +kernel
theorem dX5_reversed_21 : decode cX5_reversed 21 = .ok (.lconst 1, 1) := by decide +kernel
theorem dX5_reversed_22 : decode cX5_reversed 22 = .ok (.land, 1) := by decide +kernel
theorem dX5_reversed_23 : decode cX5_reversed 23 = .ok (.lor, 1) := by decide +kernel
theorem dX5_reversed_24 : decode cX5_reversed 24 = .ok (.lstore_n 1, 1) := by decide +kernel
theorem dX5_reversed_25 : decode cX5_reversed 25 = .ok (.iinc 3 1, 3) := by decide +kernel
theorem dX5_reversed_28 : decode cX5_reversed 28 = .ok (.goto (-24), 3) := by decide +kernel
theorem dX5_reversed_31 : decode cX5_reversed 31 = .ok (.new 10, 3) := by decide +kernel
theorem dX5_reversed_34 : decode cX5_reversed 34 = .ok (.dup, 1) := by decide +kernel
theorem dX5_reversed_35 : decode cX5_reversed 35 = .ok (.lload_n 1, 1) := by decide +kernel
theorem dX5_reversed_36 : decode cX5_reversed 36 = .ok (.aload_n 0, 1) := by decide +kernel
theorem dX5_reversed_37 : decode cX5_reversed 37 = .ok (.getfield 15, 3) := by decide +kernel
theorem dX5_reversed_40 : decode cX5_reversed 40 = .ok (.invokespecial 29, 3) := by decide +kernel
theorem dX5_reversed_43 : decode cX5_reversed 43 = .ok (.areturn, 1) := by decide +kernel
set_option maxRecDepth 20000 in
theorem ggX5_repeatedThen_X5_init : GoodIn wsX5_repeatedThen wsX5_init := goodIn_r _ [8, 9, 10, 11, 2, 1, 12, 13] (by decide +kernel) (by decide +kernel)
set_option maxRecDepth 20000 in
theorem gX5_repeatedThen_X5_init : GoodIn wsX5_repeatedThen (wsX5_init) := ggX5_repeatedThen_X5_init
theorem dX5_repeatedThen_0 : decode cX5_repeatedThen 0 = .ok (.iload_n 1, 1) := by decide +kernel
theorem dX5_repeatedThen_1 : decode cX5_repeatedThen 1 = .ok (.aload_n 0, 1) := by decide +kernel
theorem dX5_repeatedThen_2 : decode cX5_repeatedThen 2 = .ok (.getfield 15, 3) := by decide +kernel
theorem dX5_repeatedThen_5 : decode cX5_repeatedThen 5 = .ok (.imul, 1) := by decide +kernel
theorem dX5_repeatedThen_6 : decode cX5_repeatedThen 6 = .ok (.aload_n 2, 1) := by decide +kernel
theorem dX5_repeatedThen_7 : decode cX5_repeatedThen 7 = .ok (.getfield 15, 3) := by decide +kernel
theorem dX5_repeatedThen_10 : decode cX5_repeatedThen 10 = .ok (.iadd, 1) := by decide +kernel
theorem dX5_repeatedThen_11 : decode cX5_repeatedThen 11 = .ok (.istore_n 3, 1) := by decide +kernel
theorem dX5_repeatedThen_12 : decode cX5_repeatedThen 12 = .ok (.iload_n 3, 1) := by decide +kernel
theorem dX5_repeatedThen_13 : decode cX5_repeatedThen 13 = .ok (.bipush 60, 2) := by decide +kernel
theorem dX5_repeatedThen_15 : decode cX5_repeatedThen 15 = .ok (.if_icmp .le 5, 3) := by decide +kernel
theorem dX5_repeatedThen_18 : decode cX5_repeatedThen 18 = .ok (.aconst_null, 1) := by decide +kernel
theorem dX5_repeatedThen_19 : decode cX5_repeatedThen 19 = .ok (.areturn, 1) := by decide +kernel
theorem dX5_repeatedThen_20 : decode cX5_repeatedThen 20 = .ok (.lconst 0, 1) := by decide +kernel
theorem dX5_repeatedThen_21 : decode cX5_repeatedThen 21 = .ok (.lstore 4, 2) := by decide +kernel
theorem dX5_repeatedThen_23 : decode cX5_repeatedThen 23 = .ok (.iconst 0, 1) := by decide +kernel
theorem dX5_repeatedThen_24 : decode cX5_repeatedThen 24 = .ok (.istore 6, 2) := by decide +kernel
theorem dX5_repeatedThen_26 : decode cX5_repeatedThen 26 = .ok (.iload 6, 2) := by decide +kernel
theorem dX5_repeatedThen_28 : decode cX5_repeatedThen 28 = .ok (.iload_n 1, 1) := by decide +kernel
theorem dX5_repeatedThen_29 : decode cX5_repeatedThen 29 = .ok (.if_icmp .ge 23, 3) := by decide +kernel
theorem dX5_repeatedThen_32 : decode cX5_repeatedThen 32 = .ok (.lload 4, 2) := by decide +kernel
theorem dX5_repeatedThen_34 : decode cX5_repeatedThen 34 = .ok (.aload_n 0, 1) := by decide +kernel
theorem dX5_repeatedThen_35 : decode cX5_repeatedThen 35 = .ok (.getfield 15, 3) := by decide +kernel
theorem dX5_repeatedThen_38 : decode cX5_repeatedThen 38 = .ok (.lshl, 1) := by decide +kernel
theorem dX5_repeatedThen_39 : decode cX5_repeatedThen 39 = .ok (.aload_n 0, 1) := by decide +kernel
theorem dX5_repeatedThen_40 : decode cX5_repeatedThen 40 = .ok (.getfield 9, 3) := by decide +kernel
theorem dX5_repeatedThen_43 : decode cX5_repeatedThen 43 = .ok (.lor, 1) := by decide +kernel
theorem dX5_repeatedThen_44 : decode cX5_repeatedThen 44 = .ok (.lstore 4, 2) := by decide +kernel
theorem dX5_repeatedThen_46 : decode cX5_repeatedThen 46 = .ok (.iinc 6 1, 3) := by decide +kernel
theorem dX5_repeatedThen_49 : decode cX5_repeatedThen 49 = .ok (.goto (-23), 3) := by decide +kernel
theorem dX5_repeatedThen_52 : decode cX5_repeatedThen 52 = .ok (.new 10, 3) := by decide +kernel
theorem dX5_repeatedThen_55 : decode cX5_repeatedThen 55 = .ok (.dup, 1) := by decide +kernel
theorem dX5_repeatedThen_56 : decode cX5_repeatedThen 56 = .ok (.lload 4, 2) := by decide +kernel
theorem dX5_repeatedThen_58 : decode cX5_repeatedThen 58 = .ok (.aload_n 2, 1) := by decide +kernel
theorem dX5_repeatedThen_59 : decode cX5_repeatedThen 59 = .ok (.getfield 15, 3) := by decide +kernel
theorem dX5_repeatedThen_62 : decode cX5_repeatedThen 62 = .ok (.lshl, 1) := by decide +kernel
theorem dX5_repeatedThen_63 : decode cX5_repeatedThen 63 = .ok (.aload_n 2, 1) := by decide +kernel
theorem dX5_repeatedThen_64 : decode cX5_repeatedThen 64 = .ok (.getfield 9, 3) := by decide +kernel
theorem dX5_repeatedThen_67 : decode cX5_repeatedThen 67 = .ok (.lor, 1) := by decide +kernel
theorem dX5_repeatedThen_68 : decode cX5_repeatedThen 68 = .ok (.iload_n 3, 1) := by decide +kernel
theorem dX5_repeatedThen_69 : decode cX5_repeatedThen 69 = .ok (.invokespecial 29, 3) := by decide +kernel
theorem dX5_repeatedThen_72 : decode cX5_repeatedThen 72 = .ok (.areturn, 1) := by decide +kernel
set_option maxRecDepth 20000 in
theorem ggX5_isNew_X5_factor : GoodIn wsX5_isNew wsX5_factor := goodIn_r _ [5, 6, 7, 8, 9] (by decide +kernel) (by decide +kernel)
set_option maxRecDepth 20000 in
theorem gX5_isNew_X5_factor : GoodIn wsX5_isNew (wsV RX5 19 RX5 yX5_factor wsX5_factor) := goodIn_app (goodIn_of _ (by decide +kernel)) ggX5_isNew_X5_factor
theorem dX5_isNew_0 : decode cX5_isNew 0 = .ok (.aload_n 0, 1) := by decide +kernel
theorem dX5_isNew_1 : decode cX5_isNew 1 = .ok (.iload_n 1, 1) := by decide +kernel
theorem dX5_isNew_2 : decode cX5_isNew 2 = .ok (.iload_n 2, 1) := by decide +kernel
theorem dX5_isNew_3 : decode cX5_isNew 3 = .ok (.invokevirtual 19, 3) := by decide +kernel
theorem dX5_isNew_6 : decode cX5_isNew 6 = .ok (.lstore_n 3, 1) := by decide +kernel
theorem dX5_isNew_7 : decode cX5_isNew 7 = .ok (.iconst 0, 1) := by decide +kernel
theorem dX5_isNew_8 : decode cX5_isNew 8 = .ok (.istore 5, 2) := by decide +kernel
theorem dX5_isNew_10 : decode cX5_isNew 10 = .ok (.iload 5, 2) := by decide +kernel
theorem dX5_isNew_12 : decode cX5_isNew 12 = .ok (.iload_n 1, 1) := by decide +kernel
theorem dX5_isNew_13 : decode cX5_isNew 13 = .ok (.if_icmp .ge 23, 3) := by decide +kernel
theorem dX5_isNew_16 : decode cX5_isNew 16 = .ok (.aload_n 0, 1) := by decide +kernel
theorem dX5_isNew_17 : decode cX5_isNew 17 = .ok (.iload 5, 2) := by decide +kernel
theorem dX5_isNew_19 : decode cX5_isNew 19 = .ok (.iload_n 2, 1) := by decide +kernel
theorem dX5_isNew_20 : decode cX5_isNew 20 = .ok (.invokevirtual 19, 3) := by decide +kernel
theorem dX5_isNew_23 : decode cX5_isNew 23 = .ok (.lload_n 3, 1) := by decide +kernel
theorem dX5_isNew_24 : decode cX5_isNew 24 = .ok (.lcmp, 1) := by decide +kernel
theorem dX5_isNew_25 : decode cX5_isNew 25 = .ok (.ifCond .ne 5, 3) := by decide +kernel
theorem dX5_isNew_28 : decode cX5_isNew 28 = .ok (.iconst 0, 1) := by decide +kernel
theorem dX5_isNew_29 : decode cX5_isNew 29 = .ok (.ireturn, 1) := by decide +kernel
theorem dX5_isNew_30 : decode cX5_isNew 30 = .ok (.iinc 5 1, 3) := by decide +kernel
theorem dX5_isNew_33 : decode cX5_isNew 33 = .ok (.goto (-23), 3) := by decide +kernel
theorem dX5_isNew_36 : decode cX5_isNew 36 = .ok (.iconst 1, 1) := by decide +kernel
theorem dX5_isNew_37 : decode cX5_isNew 37 = .ok (.ireturn, 1) := by decide +kernel
set_option maxRecDepth 20000 in
theorem ggX5_differentFactors_X5_isNew : GoodIn wsX5_differentFactors wsX5_isNew := goodIn_r _ [6, 7, 8, 9, 5, 10, 11, 1, 12, 13] (by decide +kernel) (by decide +kernel)
set_option maxRecDepth 20000 in
theorem gX5_differentFactors_X5_isNew : GoodIn wsX5_differentFactors (wsV RX5 32 RX5 yX5_isNew wsX5_isNew) := goodIn_app (goodIn_of _ (by decide +kernel)) ggX5_differentFactors_X5_isNew
theorem dX5_differentFactors_0 : decode cX5_differentFactors 0 = .ok (.iconst 0, 1) := by decide +kernel
theorem dX5_differentFactors_1 : decode cX5_differentFactors 1 = .ok (.istore_n 2, 1) := by decide +kernel
theorem dX5_differentFactors_2 : decode cX5_differentFactors 2 = .ok (.iconst 0, 1) := by decide +kernel
theorem dX5_differentFactors_3 : decode cX5_differentFactors 3 = .ok (.istore_n 3, 1) := by decide +kernel
theorem dX5_differentFactors_4 : decode cX5_differentFactors 4 = .ok (.iload_n 3, 1) := by decide +kernel
theorem dX5_differentFactors_5 : decode cX5_differentFactors 5 = .ok (.aload_n 0, 1) := by decide +kernel
theorem dX5_differentFactors_6 : decode cX5_differentFactors 6 = .ok (.getfield 15, 3) := by decide +kernel
theorem dX5_differentFactors_9 : decode cX5_differentFactors 9 = .ok (.iload_n 1, 1) := by decide +kernel
theorem dX5_differentFactors_10 : decode cX5_differentFactors 10 = .ok (.isub, 1) := by decide +kernel
theorem dX5_differentFactors_11 : decode cX5_differentFactors 11 = .ok (.if_icmp .gt 21, 3) := by decide +kernel
theorem dX5_differentFactors_14 : decode cX5_differentFactors 14 = .ok (.aload_n 0, 1) := by decide +kernel
theorem dX5_differentFactors_15 : decode cX5_differentFactors 15 = .ok (.iload_n 3, 1) := by decide +kernel
theorem dX5_differentFactors_16 : decode cX5_differentFactors 16 = .ok (.iload_n 1, 1) := by decide +kernel
theorem dX5_differentFactors_17 : decode cX5_differentFactors 17 = .ok (.invokevirtual 32, 3) := by decide +kernel
theorem dX5_differentFactors_20 : decode cX5_differentFactors 20 = .ok (.ifCond .eq 6, 3) := by decide +kernel
theorem dX5_differentFactors_23 : decode cX5_differentFactors 23 = .ok (.iinc 2 1, 3) := by decide +kernel
theorem dX5_differentFactors_26 : decode cX5_differentFactors 26 = .ok (.iinc 3 1, 3) := by decide +kernel
theorem dX5_differentFactors_29 : decode cX5_differentFactors 29 = .ok (.goto (-25), 3) := by decide +kernel
theorem dX5_differentFactors_32 : decode cX5_differentFactors 32 = .ok (.iload_n 2, 1) := by decide +kernel
theorem dX5_differentFactors_33 : decode cX5_differentFactors 33 = .ok (.ireturn, 1) := by decide +kernel
set_option maxRecDepth 20000 in
theorem ggX5_listedFactor_X5_nextFactor : GoodIn wsX5_listedFactor wsX5_nextFactor := goodIn_r _ [7, 2, 1, 8, 9, 10, 6, 11, 12, 13, 14] (by decide +kernel) (by decide +kernel)
set_option maxRecDepth 20000 in
theorem gX5_listedFactor_X5_nextFactor : GoodIn wsX5_listedFactor (wsV RX5 38 RX5 yX5_nextFactor wsX5_nextFactor) := goodIn_app (goodIn_of _ (by decide +kernel)) ggX5_listedFactor_X5_nextFactor
theorem dX5_listedFactor_0 : decode cX5_listedFactor 0 = .ok (.iload_n 2, 1) := by decide +kernel
theorem dX5_listedFactor_1 : decode cX5_listedFactor 1 = .ok (.aload_n 0, 1) := by decide +kernel
theorem dX5_listedFactor_2 : decode cX5_listedFactor 2 = .ok (.getfield 15, 3) := by decide +kernel
theorem dX5_listedFactor_5 : decode cX5_listedFactor 5 = .ok (.if_icmp .lt 7, 3) := by decide +kernel
theorem dX5_listedFactor_8 : decode cX5_listedFactor 8 = .ok (.ldc2_w 36, 3) := by decide +kernel
theorem dX5_listedFactor_11 : decode cX5_listedFactor 11 = .ok (.lreturn, 1) := by decide +kernel
theorem dX5_listedFactor_12 : decode cX5_listedFactor 12 = .ok (.aload_n 0, 1) := by decide +kernel
theorem dX5_listedFactor_13 : decode cX5_listedFactor 13 = .ok (.iload_n 1, 1) := by decide +kernel
theorem dX5_listedFactor_14 : decode cX5_listedFactor 14 = .ok (.ldc2_w 36, 3) := by decide +kernel
theorem dX5_listedFactor_17 : decode cX5_listedFactor 17 = .ok (.invokevirtual 38, 3) := by decide +kernel
theorem dX5_listedFactor_20 : decode cX5_listedFactor 20 = .ok (.lstore_n 3, 1) := by decide +kernel
theorem dX5_listedFactor_21 : decode cX5_listedFactor 21 = .ok (.iconst 0, 1) := by decide +kernel
theorem dX5_listedFactor_22 : decode cX5_listedFactor 22 = .ok (.istore 5, 2) := by decide +kernel
theorem dX5_listedFactor_24 : decode cX5_listedFactor 24 = .ok (.iload 5, 2) := by decide +kernel
theorem dX5_listedFactor_26 : decode cX5_listedFactor 26 = .ok (.iload_n 2, 1) := by decide +kernel
theorem dX5_listedFactor_27 : decode cX5_listedFactor 27 = .ok (.if_icmp .ge 24, 3) := by decide +kernel
theorem dX5_listedFactor_30 : decode cX5_listedFactor 30 = .ok (.lload_n 3, 1) := by decide +kernel
theorem dX5_listedFactor_31 : decode cX5_listedFactor 31 = .ok (.ldc2_w 36, 3) := by decide +kernel
theorem dX5_listedFactor_34 : decode cX5_listedFactor 34 = .ok (.lcmp, 1) := by decide +kernel
theorem dX5_listedFactor_35 : decode cX5_listedFactor 35 = .ok (.ifCond .eq 16, 3) := by decide +kernel
theorem dX5_listedFactor_38 : decode cX5_listedFactor 38 = .ok (.aload_n 0, 1) := by decide +kernel
theorem dX5_listedFactor_39 : decode cX5_listedFactor 39 = .ok (.iload_n 1, 1) := by decide +kernel
theorem dX5_listedFactor_40 : decode cX5_listedFactor 40 = .ok (.lload_n 3, 1) := by decide +kernel
theorem dX5_listedFactor_41 : decode cX5_listedFactor 41 = .ok (.invokevirtual 38, 3) := by decide +kernel
theorem dX5_listedFactor_44 : decode cX5_listedFactor 44 = .ok (.lstore_n 3, 1) := by decide +kernel
theorem dX5_listedFactor_45 : decode cX5_listedFactor 45 = .ok (.iinc 5 1, 3) := by decide +kernel
theorem dX5_listedFactor_48 : decode cX5_listedFactor 48 = .ok (.goto (-24), 3) := by decide +kernel
theorem dX5_listedFactor_51 : decode cX5_listedFactor 51 = .ok (.lload_n 3, 1) := by decide +kernel
theorem dX5_listedFactor_52 : decode cX5_listedFactor 52 = .ok (.lreturn, 1) := by decide +kernel
set_option maxRecDepth 20000 in
theorem ggX5_nextFactor_X5_factor : GoodIn wsX5_nextFactor wsX5_factor := goodIn_r _ [7, 8, 2, 9, 10] (by decide +kernel) (by decide +kernel)
set_option maxRecDepth 20000 in
theorem gX5_nextFactor_X5_factor : GoodIn wsX5_nextFactor (wsV RX5 19 RX5 yX5_factor wsX5_factor) := goodIn_app (goodIn_of _ (by decide +kernel)) ggX5_nextFactor_X5_factor
theorem dX5_nextFactor_0 : decode cX5_nextFactor 0 = .ok (.ldc2_w 36, 3) := by decide +kernel
theorem dX5_nextFactor_3 : decode cX5_nextFactor 3 = .ok (.lstore 4, 2) := by decide +kernel
theorem dX5_nextFactor_5 : decode cX5_nextFactor 5 = .ok (.iconst 0, 1) := by decide +kernel
theorem dX5_nextFactor_6 : decode cX5_nextFactor 6 = .ok (.istore 6, 2) := by decide +kernel
theorem dX5_nextFactor_8 : decode cX5_nextFactor 8 = .ok (.iload 6, 2) := by decide +kernel
theorem dX5_nextFactor_10 : decode cX5_nextFactor 10 = .ok (.aload_n 0, 1) := by decide +kernel
theorem dX5_nextFactor_11 : decode cX5_nextFactor 11 = .ok (.getfield 15, 3) := by decide +kernel
theorem dX5_nextFactor_14 : decode cX5_nextFactor 14 = .ok (.iload_n 1, 1) := by decide +kernel
theorem dX5_nextFactor_15 : decode cX5_nextFactor 15 = .ok (.isub, 1) := by decide +kernel
theorem dX5_nextFactor_16 : decode cX5_nextFactor 16 = .ok (.if_icmp .gt 46, 3) := by decide +kernel
theorem dX5_nextFactor_19 : decode cX5_nextFactor 19 = .ok (.aload_n 0, 1) := by decide +kernel
theorem dX5_nextFactor_20 : decode cX5_nextFactor 20 = .ok (.iload 6, 2) := by decide +kernel
theorem dX5_nextFactor_22 : decode cX5_nextFactor 22 = .ok (.iload_n 1, 1) := by decide +kernel
theorem dX5_nextFactor_23 : decode cX5_nextFactor 23 = .ok (.invokevirtual 19, 3) := by decide +kernel
theorem dX5_nextFactor_26 : decode cX5_nextFactor 26 = .ok (.lstore 7, 2) := by decide +kernel
theorem dX5_nextFactor_28 : decode cX5_nextFactor 28 = .ok (.lload 7, 2) := by decide +kernel
theorem dX5_nextFactor_30 : decode cX5_nextFactor 30 = .ok (.lload_n 2, 1) := by decide +kernel
theorem dX5_nextFactor_31 : decode cX5_nextFactor 31 = .ok (.lcmp, 1) := by decide +kernel
theorem dX5_nextFactor_32 : decode cX5_nextFactor 32 = .ok (.ifCond .le 24, 3) := by decide +kernel
theorem dX5_nextFactor_35 : decode cX5_nextFactor 35 = .ok (.lload 4, 2) := by decide +kernel
theorem dX5_nextFactor_37 : decode cX5_nextFactor 37 = .ok (.ldc2_w 36, 3) := by decide +kernel
theorem dX5_nextFactor_40 : decode cX5_nextFactor 40 = .ok (.lcmp, 1) := by decide +kernel
theorem dX5_nextFactor_41 : decode cX5_nextFactor 41 = .ok (.ifCond .eq 11, 3) := by decide +kernel
theorem dX5_nextFactor_44 : decode cX5_nextFactor 44 = .ok (.lload 7, 2) := by decide +kernel
theorem dX5_nextFactor_46 : decode cX5_nextFactor 46 = .ok (.lload 4, 2) := by decide +kernel
theorem dX5_nextFactor_48 : decode cX5_nextFactor 48 = .ok (.lcmp, 1) := by decide +kernel
theorem dX5_nextFactor_49 : decode cX5_nextFactor 49 = .ok (.ifCond .ge 7, 3) := by decide +kernel
theorem dX5_nextFactor_52 : decode cX5_nextFactor 52 = .ok (.lload 7, 2) := by decide +kernel
theorem dX5_nextFactor_54 : decode cX5_nextFactor 54 = .ok (.lstore 4, 2) := by decide +kernel
theorem dX5_nextFactor_56 : decode cX5_nextFactor 56 = .ok (.iinc 6 1, 3) := by decide +kernel
theorem dX5_nextFactor_59 : decode cX5_nextFactor 59 = .ok (.goto (-51), 3) := by decide +kernel
theorem dX5_nextFactor_62 : decode cX5_nextFactor 62 = .ok (.lload 4, 2) := by decide +kernel
theorem dX5_nextFactor_64 : decode cX5_nextFactor 64 = .ok (.lreturn, 1) := by decide +kernel
set_option maxRecDepth 20000 in
theorem ggX5_weightSpread_X5_factor : GoodIn wsX5_weightSpread wsX5_factor := goodIn_r _ [13, 14, 1, 22, 23] (by decide +kernel) (by decide +kernel)
set_option maxRecDepth 20000 in
theorem gX5_weightSpread_X5_factor : GoodIn wsX5_weightSpread (wsV RX5 19 RX5 yX5_factor wsX5_factor) := goodIn_app (goodIn_of _ (by decide +kernel)) ggX5_weightSpread_X5_factor
set_option maxRecDepth 20000 in
theorem ggX5_weightSpread_J13_bitCount_95d88 : GoodIn wsX5_weightSpread wsJ13_bitCount_95d88 := goodIn_r _ [18, 19, 20, 21] (by decide +kernel) (by decide +kernel)
set_option maxRecDepth 20000 in
theorem gX5_weightSpread_J13_bitCount_95d88 : GoodIn wsX5_weightSpread (va_wsS RX5 23 yJ13_bitCount_95d88 wsJ13_bitCount_95d88) := goodIn_app (goodIn_of _ (by decide +kernel)) ggX5_weightSpread_J13_bitCount_95d88
theorem dX5_weightSpread_0 : decode cX5_weightSpread 0 = .ok (.iload_n 1, 1) := by decide +kernel
theorem dX5_weightSpread_1 : decode cX5_weightSpread 1 = .ok (.istore_n 2, 1) := by decide +kernel
theorem dX5_weightSpread_2 : decode cX5_weightSpread 2 = .ok (.iconst 0, 1) := by decide +kernel
theorem dX5_weightSpread_3 : decode cX5_weightSpread 3 = .ok (.istore_n 3, 1) := by decide +kernel
theorem dX5_weightSpread_4 : decode cX5_weightSpread 4 = .ok (.iconst 0, 1) := by decide +kernel
theorem dX5_weightSpread_5 : decode cX5_weightSpread 5 = .ok (.istore 4, 2) := by decide +kernel
theorem dX5_weightSpread_7 : decode cX5_weightSpread 7 = .ok (.iload 4, 2) := by decide +kernel
theorem dX5_weightSpread_9 : decode cX5_weightSpread 9 = .ok (.aload_n 0, 1) := by decide +kernel
theorem dX5_weightSpread_10 : decode cX5_weightSpread 10 = .ok (.getfield 15, 3) := by decide +kernel
theorem dX5_weightSpread_13 : decode cX5_weightSpread 13 = .ok (.iload_n 1, 1) := by decide +kernel
theorem dX5_weightSpread_14 : decode cX5_weightSpread 14 = .ok (.isub, 1) := by decide +kernel
theorem dX5_weightSpread_15 : decode cX5_weightSpread 15 = .ok (.if_icmp .gt 35, 3) := by decide +kernel
theorem dX5_weightSpread_18 : decode cX5_weightSpread 18 = .ok (.aload_n 0, 1) := by decide +kernel
theorem dX5_weightSpread_19 : decode cX5_weightSpread 19 = .ok (.iload 4, 2) := by decide +kernel
theorem dX5_weightSpread_21 : decode cX5_weightSpread 21 = .ok (.iload_n 1, 1) := by decide +kernel
theorem dX5_weightSpread_22 : decode cX5_weightSpread 22 = .ok (.invokevirtual 19, 3) := by decide +kernel
theorem dX5_weightSpread_25 : decode cX5_weightSpread 25 = .ok (.invokestatic 23, 3) := by decide +kernel
theorem dX5_weightSpread_28 : decode cX5_weightSpread 28 = .ok (.istore 5, 2) := by decide +kernel
theorem dX5_weightSpread_30 : decode cX5_weightSpread 30 = .ok (.iload_n 2, 1) := by decide +kernel
theorem dX5_weightSpread_31 : decode cX5_weightSpread 31 = .ok (.iload 5, 2) := by decide +kernel
theorem dX5_weightSpread_33 : decode cX5_weightSpread 33 = .ok (.invokestatic 42, 3) := by decide +kernel
theorem dX5_weightSpread_36 : decode cX5_weightSpread 36 = .ok (.istore_n 2, 1) := by decide +kernel
theorem dX5_weightSpread_37 : decode cX5_weightSpread 37 = .ok (.iload_n 3, 1) := by decide +kernel
theorem dX5_weightSpread_38 : decode cX5_weightSpread 38 = .ok (.iload 5, 2) := by decide +kernel
theorem dX5_weightSpread_40 : decode cX5_weightSpread 40 = .ok (.invokestatic 48, 3) := by decide +kernel
theorem dX5_weightSpread_43 : decode cX5_weightSpread 43 = .ok (.istore_n 3, 1) := by decide +kernel
theorem dX5_weightSpread_44 : decode cX5_weightSpread 44 = .ok (.iinc 4 1, 3) := by decide +kernel
theorem dX5_weightSpread_47 : decode cX5_weightSpread 47 = .ok (.goto (-40), 3) := by decide +kernel
theorem dX5_weightSpread_50 : decode cX5_weightSpread 50 = .ok (.iload_n 3, 1) := by decide +kernel
theorem dX5_weightSpread_51 : decode cX5_weightSpread 51 = .ok (.iload_n 2, 1) := by decide +kernel
theorem dX5_weightSpread_52 : decode cX5_weightSpread 52 = .ok (.isub, 1) := by decide +kernel
theorem dX5_weightSpread_53 : decode cX5_weightSpread 53 = .ok (.ireturn, 1) := by decide +kernel
set_option maxRecDepth 20000 in
theorem ggX5_isPalindrome_X5_factor : GoodIn wsX5_isPalindrome wsX5_factor := goodIn_r _ [6, 7, 1, 8, 9] (by decide +kernel) (by decide +kernel)
set_option maxRecDepth 20000 in
theorem gX5_isPalindrome_X5_factor : GoodIn wsX5_isPalindrome (wsV RX5 19 RX5 yX5_factor wsX5_factor) := goodIn_app (goodIn_of _ (by decide +kernel)) ggX5_isPalindrome_X5_factor
theorem dX5_isPalindrome_0 : decode cX5_isPalindrome 0 = .ok (.aload_n 0, 1) := by decide +kernel
theorem dX5_isPalindrome_1 : decode cX5_isPalindrome 1 = .ok (.iload_n 1, 1) := by decide +kernel
theorem dX5_isPalindrome_2 : decode cX5_isPalindrome 2 = .ok (.iload_n 2, 1) := by decide +kernel
theorem dX5_isPalindrome_3 : decode cX5_isPalindrome 3 = .ok (.invokevirtual 19, 3) := by decide +kernel
theorem dX5_isPalindrome_6 : decode cX5_isPalindrome 6 = .ok (.aload_n 3, 1) := by decide +kernel
theorem dX5_isPalindrome_7 : decode cX5_isPalindrome 7 = .ok (.aload_n 0, 1) := by decide +kernel
theorem dX5_isPalindrome_8 : decode cX5_isPalindrome 8 = .ok (.getfield 15, 3) := by decide +kernel
theorem dX5_isPalindrome_11 : decode cX5_isPalindrome 11 = .ok (.iload_n 1, 1) := by decide +kernel
theorem dX5_isPalindrome_12 : decode cX5_isPalindrome 12 = .ok (.isub, 1) := by decide +kernel
theorem dX5_isPalindrome_13 : decode cX5_isPalindrome 13 = .ok (.iload_n 2, 1) := by decide +kernel
theorem dX5_isPalindrome_14 : decode cX5_isPalindrome 14 = .ok (.isub, 1) := by decide +kernel
theorem dX5_isPalindrome_15 : decode cX5_isPalindrome 15 = .ok (.iload_n 2, 1) := by decide +kernel
theorem dX5_isPalindrome_16 : decode cX5_isPalindrome 16 = .ok (.invokevirtual 19, 3) := by decide +kernel
theorem dX5_isPalindrome_19 : decode cX5_isPalindrome 19 = .ok (.lcmp, 1) := by decide +kernel
theorem dX5_isPalindrome_20 : decode cX5_isPalindrome 20 = .ok (.ifCond .ne 7, 3) := by decide +kernel
theorem dX5_isPalindrome_23 : decode cX5_isPalindrome 23 = .ok (.iconst 1, 1) := by decide +kernel
theorem dX5_isPalindrome_24 : decode cX5_isPalindrome 24 = .ok (.goto 4, 3) := by decide +kernel
theorem dX5_isPalindrome_27 : decode cX5_isPalindrome 27 = .ok (.iconst 0, 1) := by decide +kernel
theorem dX5_isPalindrome_28 : decode cX5_isPalindrome 28 = .ok (.ireturn, 1) := by decide +kernel
set_option maxRecDepth 20000 in
theorem ggX5_differentPalindromes_X5_reversed : GoodIn wsX5_differentPalindromes wsX5_reversed := goodIn_r _ [6, 1, 7, 8, 9, 5, 10, 11, 12, 13, 14, 15, 28, 29] (by decide +kernel) (by decide +kernel)
set_option maxRecDepth 20000 in
theorem gX5_differentPalindromes_X5_reversed : GoodIn wsX5_differentPalindromes (wsV RX5 51 RX5 yX5_reversed wsX5_reversed) := goodIn_app (goodIn_of _ (by decide +kernel)) ggX5_differentPalindromes_X5_reversed
set_option maxRecDepth 20000 in
theorem ggX5_differentPalindromes_X5_isPalindrome : GoodIn wsX5_differentPalindromes wsX5_isPalindrome := goodIn_r _ [19, 1, 20, 21, 22, 5, 23, 7, 28, 29] (by decide +kernel) (by decide +kernel)
set_option maxRecDepth 20000 in
theorem gX5_differentPalindromes_X5_isPalindrome : GoodIn wsX5_differentPalindromes (wsV RX5 55 RX5 yX5_isPalindrome wsX5_isPalindrome) := goodIn_app (goodIn_of _ (by decide +kernel)) ggX5_differentPalindromes_X5_isPalindrome
set_option maxRecDepth 20000 in
theorem ggX5_differentPalindromes_X5_isNew : GoodIn wsX5_differentPalindromes wsX5_isNew := goodIn_r _ [27, 20, 21, 22, 5, 23, 7, 1, 28, 29] (by decide +kernel) (by decide +kernel)
set_option maxRecDepth 20000 in
theorem gX5_differentPalindromes_X5_isNew : GoodIn wsX5_differentPalindromes (wsV RX5 32 RX5 yX5_isNew wsX5_isNew) := goodIn_app (goodIn_of _ (by decide +kernel)) ggX5_differentPalindromes_X5_isNew
theorem dX5_differentPalindromes_0 : decode cX5_differentPalindromes 0 = .ok (.aload_n 0, 1) := by decide +kernel
theorem dX5_differentPalindromes_1 : decode cX5_differentPalindromes 1 = .ok (.invokevirtual 51, 3) := by decide +kernel
theorem dX5_differentPalindromes_4 : decode cX5_differentPalindromes 4 = .ok (.astore_n 1, 1) := by decide +kernel
theorem dX5_differentPalindromes_5 : decode cX5_differentPalindromes 5 = .ok (.iconst 1, 1) := by decide +kernel
theorem dX5_differentPalindromes_6 : decode cX5_differentPalindromes 6 = .ok (.istore_n 2, 1) := by decide +kernel
theorem dX5_differentPalindromes_7 : decode cX5_differentPalindromes 7 = .ok (.iconst 1, 1) := by decide +kernel
theorem dX5_differentPalindromes_8 : decode cX5_differentPalindromes 8 = .ok (.istore_n 3, 1) := by decide +kernel
theorem dX5_differentPalindromes_9 : decode cX5_differentPalindromes 9 = .ok (.iload_n 3, 1) := by decide +kernel
theorem dX5_differentPalindromes_10 : decode cX5_differentPalindromes 10 = .ok (.aload_n 0, 1) := by decide +kernel
theorem dX5_differentPalindromes_11 : decode cX5_differentPalindromes 11 = .ok (.getfield 15, 3) := by decide +kernel
theorem dX5_differentPalindromes_14 : decode cX5_differentPalindromes 14 = .ok (.if_icmp .gt 53, 3) := by decide +kernel
theorem dX5_differentPalindromes_17 : decode cX5_differentPalindromes 17 = .ok (.iconst 0, 1) := by decide +kernel
theorem dX5_differentPalindromes_18 : decode cX5_differentPalindromes 18 = .ok (.istore 4, 2) := by decide +kernel
theorem dX5_differentPalindromes_20 : decode cX5_differentPalindromes 20 = .ok (.iload 4, 2) := by decide +kernel
theorem dX5_differentPalindromes_22 : decode cX5_differentPalindromes 22 = .ok (.aload_n 0, 1) := by decide +kernel
theorem dX5_differentPalindromes_23 : decode cX5_differentPalindromes 23 = .ok (.getfield 15, 3) := by decide +kernel
theorem dX5_differentPalindromes_26 : decode cX5_differentPalindromes 26 = .ok (.iload_n 3, 1) := by decide +kernel
theorem dX5_differentPalindromes_27 : decode cX5_differentPalindromes 27 = .ok (.isub, 1) := by decide +kernel
theorem dX5_differentPalindromes_28 : decode cX5_differentPalindromes 28 = .ok (.if_icmp .gt 33, 3) := by decide +kernel
theorem dX5_differentPalindromes_31 : decode cX5_differentPalindromes 31 = .ok (.aload_n 0, 1) := by decide +kernel
theorem dX5_differentPalindromes_32 : decode cX5_differentPalindromes 32 = .ok (.iload 4, 2) := by decide +kernel
theorem dX5_differentPalindromes_34 : decode cX5_differentPalindromes 34 = .ok (.iload_n 3, 1) := by decide +kernel
theorem dX5_differentPalindromes_35 : decode cX5_differentPalindromes 35 = .ok (.aload_n 1, 1) := by decide +kernel
theorem dX5_differentPalindromes_36 : decode cX5_differentPalindromes 36 = .ok (.invokevirtual 55, 3) := by decide +kernel
theorem dX5_differentPalindromes_39 : decode cX5_differentPalindromes 39 = .ok (.ifCond .eq 16, 3) := by decide +kernel
theorem dX5_differentPalindromes_42 : decode cX5_differentPalindromes 42 = .ok (.aload_n 0, 1) := by decide +kernel
theorem dX5_differentPalindromes_43 : decode cX5_differentPalindromes 43 = .ok (.iload 4, 2) := by decide +kernel
theorem dX5_differentPalindromes_45 : decode cX5_differentPalindromes 45 = .ok (.iload_n 3, 1) := by decide +kernel
theorem dX5_differentPalindromes_46 : decode cX5_differentPalindromes 46 = .ok (.invokevirtual 32, 3) := by decide +kernel
theorem dX5_differentPalindromes_49 : decode cX5_differentPalindromes 49 = .ok (.ifCond .eq 6, 3) := by decide +kernel
theorem dX5_differentPalindromes_52 : decode cX5_differentPalindromes 52 = .ok (.iinc 2 1, 3) := by decide +kernel
theorem dX5_differentPalindromes_55 : decode cX5_differentPalindromes 55 = .ok (.iinc 4 1, 3) := by decide +kernel
theorem dX5_differentPalindromes_58 : decode cX5_differentPalindromes 58 = .ok (.goto (-38), 3) := by decide +kernel
theorem dX5_differentPalindromes_61 : decode cX5_differentPalindromes 61 = .ok (.iinc 3 1, 3) := by decide +kernel
theorem dX5_differentPalindromes_64 : decode cX5_differentPalindromes 64 = .ok (.goto (-55), 3) := by decide +kernel
theorem dX5_differentPalindromes_67 : decode cX5_differentPalindromes 67 = .ok (.iload_n 2, 1) := by decide +kernel
theorem dX5_differentPalindromes_68 : decode cX5_differentPalindromes 68 = .ok (.ireturn, 1) := by decide +kernel
set_option maxRecDepth 20000 in
theorem ggX5_hasPeriod_X5_factor : GoodIn wsX5_hasPeriod wsX5_factor := goodIn_r _ [6, 7, 1, 8, 9] (by decide +kernel) (by decide +kernel)
set_option maxRecDepth 20000 in
theorem gX5_hasPeriod_X5_factor : GoodIn wsX5_hasPeriod (wsV RX5 19 RX5 yX5_factor wsX5_factor) := goodIn_app (goodIn_of _ (by decide +kernel)) ggX5_hasPeriod_X5_factor
theorem dX5_hasPeriod_0 : decode cX5_hasPeriod 0 = .ok (.iload_n 1, 1) := by decide +kernel
theorem dX5_hasPeriod_1 : decode cX5_hasPeriod 1 = .ok (.aload_n 0, 1) := by decide +kernel
theorem dX5_hasPeriod_2 : decode cX5_hasPeriod 2 = .ok (.getfield 15, 3) := by decide +kernel
theorem dX5_hasPeriod_5 : decode cX5_hasPeriod 5 = .ok (.if_icmp .gt 29, 3) := by decide +kernel
theorem dX5_hasPeriod_8 : decode cX5_hasPeriod 8 = .ok (.aload_n 0, 1) := by decide +kernel
theorem dX5_hasPeriod_9 : decode cX5_hasPeriod 9 = .ok (.iconst 0, 1) := by decide +kernel
theorem dX5_hasPeriod_10 : decode cX5_hasPeriod 10 = .ok (.aload_n 0, 1) := by decide +kernel
theorem dX5_hasPeriod_11 : decode cX5_hasPeriod 11 = .ok (.getfield 15, 3) := by decide +kernel
theorem dX5_hasPeriod_14 : decode cX5_hasPeriod 14 = .ok (.iload_n 1, 1) := by decide +kernel
theorem dX5_hasPeriod_15 : decode cX5_hasPeriod 15 = .ok (.isub, 1) := by decide +kernel
theorem dX5_hasPeriod_16 : decode cX5_hasPeriod 16 = .ok (.invokevirtual 19, 3) := by decide +kernel
theorem dX5_hasPeriod_19 : decode cX5_hasPeriod 19 = .ok (.aload_n 0, 1) := by decide +kernel
theorem dX5_hasPeriod_20 : decode cX5_hasPeriod 20 = .ok (.iload_n 1, 1) := by decide +kernel
theorem dX5_hasPeriod_21 : decode cX5_hasPeriod 21 = .ok (.aload_n 0, 1) := by decide +kernel
theorem dX5_hasPeriod_22 : decode cX5_hasPeriod 22 = .ok (.getfield 15, 3) := by decide +kernel
theorem dX5_hasPeriod_25 : decode cX5_hasPeriod 25 = .ok (.iload_n 1, 1) := by decide +kernel
theorem dX5_hasPeriod_26 : decode cX5_hasPeriod 26 = .ok (.isub, 1) := by decide +kernel
theorem dX5_hasPeriod_27 : decode cX5_hasPeriod 27 = .ok (.invokevirtual 19, 3) := by decide +kernel
theorem dX5_hasPeriod_30 : decode cX5_hasPeriod 30 = .ok (.lcmp, 1) := by decide +kernel
theorem dX5_hasPeriod_31 : decode cX5_hasPeriod 31 = .ok (.ifCond .ne 7, 3) := by decide +kernel
theorem dX5_hasPeriod_34 : decode cX5_hasPeriod 34 = .ok (.iconst 1, 1) := by decide +kernel
theorem dX5_hasPeriod_35 : decode cX5_hasPeriod 35 = .ok (.goto 4, 3) := by decide +kernel
theorem dX5_hasPeriod_38 : decode cX5_hasPeriod 38 = .ok (.iconst 0, 1) := by decide +kernel
theorem dX5_hasPeriod_39 : decode cX5_hasPeriod 39 = .ok (.ireturn, 1) := by decide +kernel
set_option maxRecDepth 20000 in
theorem ggX5_simplest_X5_leastIntercept : GoodIn wsX5_simplest wsX5_leastIntercept := goodIn_r _ [8, 9, 10, 11, 12, 13, 14, 15, 16, 17, 18, 19, 7, 20, 21, 22, 23, 24, 25, 44, 45] (by decide +kernel) (by decide +kernel)
set_option maxRecDepth 20000 in
theorem gX5_simplest_X5_leastIntercept : GoodIn wsX5_simplest (wsV RX5 59 RX5 yX5_leastIntercept wsX5_leastIntercept) := goodIn_app (goodIn_of _ (by decide +kernel)) ggX5_simplest_X5_leastIntercept
set_option maxRecDepth 20000 in
theorem ggX5_simplest_X6_commonDivisor : GoodIn wsX5_simplest wsX6_commonDivisor := goodIn_r _ [28, 29, 30, 27, 31] (by decide +kernel) (by decide +kernel)
set_option maxRecDepth 20000 in
theorem gX5_simplest_X6_commonDivisor_n62 : GoodIn wsX5_simplest (wsX6_commonDivisor) := ggX5_simplest_X6_commonDivisor
set_option maxRecDepth 20000 in
theorem ggX5_simplest_X3_init : GoodIn wsX5_simplest wsX3_init := goodIn_r _ [34, 35, 36, 37, 38, 39, 40, 41, 42, 43] (by decide +kernel) (by decide +kernel)
set_option maxRecDepth 20000 in
theorem gX5_simplest_X3_init : GoodIn wsX5_simplest (wsX3_init) := ggX5_simplest_X3_init
theorem dX5_simplest_0 : decode cX5_simplest 0 = .ok (.iconst 1, 1) := by decide +kernel
theorem dX5_simplest_1 : decode cX5_simplest 1 = .ok (.istore_n 1, 1) := by decide +kernel
theorem dX5_simplest_2 : decode cX5_simplest 2 = .ok (.iload_n 1, 1) := by decide +kernel
theorem dX5_simplest_3 : decode cX5_simplest 3 = .ok (.bipush 61, 2) := by decide +kernel
theorem dX5_simplest_5 : decode cX5_simplest 5 = .ok (.if_icmp .gt 54, 3) := by decide +kernel
theorem dX5_simplest_8 : decode cX5_simplest 8 = .ok (.iconst 0, 1) := by decide +kernel
theorem dX5_simplest_9 : decode cX5_simplest 9 = .ok (.istore_n 2, 1) := by decide +kernel
theorem dX5_simplest_10 : decode cX5_simplest 10 = .ok (.iload_n 2, 1) := by decide +kernel
theorem dX5_simplest_11 : decode cX5_simplest 11 = .ok (.iload_n 1, 1) := by decide +kernel
theorem dX5_simplest_12 : decode cX5_simplest 12 = .ok (.if_icmp .gt 41, 3) := by decide +kernel
theorem dX5_simplest_15 : decode cX5_simplest 15 = .ok (.aload_n 0, 1) := by decide +kernel
theorem dX5_simplest_16 : decode cX5_simplest 16 = .ok (.iload_n 2, 1) := by decide +kernel
theorem dX5_simplest_17 : decode cX5_simplest 17 = .ok (.iload_n 1, 1) := by decide +kernel
theorem dX5_simplest_18 : decode cX5_simplest 18 = .ok (.invokevirtual 59, 3) := by decide +kernel
theorem dX5_simplest_21 : decode cX5_simplest 21 = .ok (.istore_n 3, 1) := by decide +kernel
theorem dX5_simplest_22 : decode cX5_simplest 22 = .ok (.iload_n 3, 1) := by decide +kernel
theorem dX5_simplest_23 : decode cX5_simplest 23 = .ok (.iconst (-1), 1) := by decide +kernel
theorem dX5_simplest_24 : decode cX5_simplest 24 = .ok (.if_icmp .eq 23, 3) := by decide +kernel
theorem dX5_simplest_27 : decode cX5_simplest 27 = .ok (.iload_n 2, 1) := by decide +kernel
theorem dX5_simplest_28 : decode cX5_simplest 28 = .ok (.iload_n 1, 1) := by decide +kernel
theorem dX5_simplest_29 : decode cX5_simplest 29 = .ok (.invokestatic 62, 3) := by decide +kernel
theorem dX5_simplest_32 : decode cX5_simplest 32 = .ok (.iconst 1, 1) := by decide +kernel
theorem dX5_simplest_33 : decode cX5_simplest 33 = .ok (.if_icmp .ne 14, 3) := by decide +kernel
theorem dX5_simplest_36 : decode cX5_simplest 36 = .ok (.new 65, 3) := by decide +kernel
theorem dX5_simplest_39 : decode cX5_simplest 39 = .ok (.dup, 1) := by decide +kernel
theorem dX5_simplest_40 : decode cX5_simplest 40 = .ok (.iload_n 2, 1) := by decide +kernel
theorem dX5_simplest_41 : decode cX5_simplest 41 = .ok (.iload_n 1, 1) := by decide +kernel
theorem dX5_simplest_42 : decode cX5_simplest 42 = .ok (.iload_n 3, 1) := by decide +kernel
theorem dX5_simplest_43 : decode cX5_simplest 43 = .ok (.invokespecial 67, 3) := by decide +kernel
theorem dX5_simplest_46 : decode cX5_simplest 46 = .ok (.areturn, 1) := by decide +kernel
theorem dX5_simplest_47 : decode cX5_simplest 47 = .ok (.iinc 2 1, 3) := by decide +kernel
theorem dX5_simplest_50 : decode cX5_simplest 50 = .ok (.goto (-40), 3) := by decide +kernel
theorem dX5_simplest_53 : decode cX5_simplest 53 = .ok (.iinc 1 1, 3) := by decide +kernel
theorem dX5_simplest_56 : decode cX5_simplest 56 = .ok (.goto (-54), 3) := by decide +kernel
theorem dX5_simplest_59 : decode cX5_simplest 59 = .ok (.aconst_null, 1) := by decide +kernel
theorem dX5_simplest_60 : decode cX5_simplest 60 = .ok (.areturn, 1) := by decide +kernel
set_option maxRecDepth 20000 in
theorem ggX5_leastIntercept_X5_letter : GoodIn wsX5_leastIntercept wsX5_letter := goodIn_r _ [13, 14, 15, 16, 12, 17, 18, 1, 19, 20] (by decide +kernel) (by decide +kernel)
set_option maxRecDepth 20000 in
theorem gX5_leastIntercept_X5_letter : GoodIn wsX5_leastIntercept (wsV RX5 70 RX5 yX5_letter wsX5_letter) := goodIn_app (goodIn_of _ (by decide +kernel)) ggX5_leastIntercept_X5_letter
theorem dX5_leastIntercept_0 : decode cX5_leastIntercept 0 = .ok (.iconst 0, 1) := by decide +kernel
theorem dX5_leastIntercept_1 : decode cX5_leastIntercept 1 = .ok (.istore_n 3, 1) := by decide +kernel
theorem dX5_leastIntercept_2 : decode cX5_leastIntercept 2 = .ok (.iload_n 2, 1) := by decide +kernel
theorem dX5_leastIntercept_3 : decode cX5_leastIntercept 3 = .ok (.iconst 1, 1) := by decide +kernel
theorem dX5_leastIntercept_4 : decode cX5_leastIntercept 4 = .ok (.isub, 1) := by decide +kernel
theorem dX5_leastIntercept_5 : decode cX5_leastIntercept 5 = .ok (.istore 4, 2) := by decide +kernel
theorem dX5_leastIntercept_7 : decode cX5_leastIntercept 7 = .ok (.iconst 0, 1) := by decide +kernel
theorem dX5_leastIntercept_8 : decode cX5_leastIntercept 8 = .ok (.istore 5, 2) := by decide +kernel
theorem dX5_leastIntercept_10 : decode cX5_leastIntercept 10 = .ok (.iconst 1, 1) := by decide +kernel
theorem dX5_leastIntercept_11 : decode cX5_leastIntercept 11 = .ok (.istore 6, 2) := by decide +kernel
theorem dX5_leastIntercept_13 : decode cX5_leastIntercept 13 = .ok (.iload 6, 2) := by decide +kernel
theorem dX5_leastIntercept_15 : decode cX5_leastIntercept 15 = .ok (.aload_n 0, 1) := by decide +kernel
theorem dX5_leastIntercept_16 : decode cX5_leastIntercept 16 = .ok (.getfield 15, 3) := by decide +kernel
theorem dX5_leastIntercept_19 : decode cX5_leastIntercept 19 = .ok (.if_icmp .gt 61, 3) := by decide +kernel
theorem dX5_leastIntercept_22 : decode cX5_leastIntercept 22 = .ok (.iload 5, 2) := by decide +kernel
theorem dX5_leastIntercept_24 : decode cX5_leastIntercept 24 = .ok (.aload_n 0, 1) := by decide +kernel
theorem dX5_leastIntercept_25 : decode cX5_leastIntercept 25 = .ok (.iload 6, 2) := by decide +kernel
theorem dX5_leastIntercept_27 : decode cX5_leastIntercept 27 = .ok (.iconst 1, 1) := by decide +kernel
theorem dX5_leastIntercept_28 : decode cX5_leastIntercept 28 = .ok (.isub, 1) := by decide +kernel
theorem dX5_leastIntercept_29 : decode cX5_leastIntercept 29 = .ok (.invokevirtual 70, 3) := by decide +kernel
theorem dX5_leastIntercept_32 : decode cX5_leastIntercept 32 = .ok (.iadd, 1) := by decide +kernel
theorem dX5_leastIntercept_33 : decode cX5_leastIntercept 33 = .ok (.istore 5, 2) := by decide +kernel
theorem dX5_leastIntercept_35 : decode cX5_leastIntercept 35 = .ok (.iload 5, 2) := by decide +kernel
theorem dX5_leastIntercept_37 : decode cX5_leastIntercept 37 = .ok (.iload_n 2, 1) := by decide +kernel
theorem dX5_leastIntercept_38 : decode cX5_leastIntercept 38 = .ok (.imul, 1) := by decide +kernel
theorem dX5_leastIntercept_39 : decode cX5_leastIntercept 39 = .ok (.iload 6, 2) := by decide +kernel
theorem dX5_leastIntercept_41 : decode cX5_leastIntercept 41 = .ok (.iload_n 1, 1) := by decide +kernel
theorem dX5_leastIntercept_42 : decode cX5_leastIntercept 42 = .ok (.imul, 1) := by decide +kernel
theorem dX5_leastIntercept_43 : decode cX5_leastIntercept 43 = .ok (.isub, 1) := by decide +kernel
theorem dX5_leastIntercept_44 : decode cX5_leastIntercept 44 = .ok (.istore 7, 2) := by decide +kernel
theorem dX5_leastIntercept_46 : decode cX5_leastIntercept 46 = .ok (.iload_n 3, 1) := by decide +kernel
theorem dX5_leastIntercept_47 : decode cX5_leastIntercept 47 = .ok (.iload 7, 2) := by decide +kernel
theorem dX5_leastIntercept_49 : decode cX5_leastIntercept 49 = .ok (.invokestatic 48, 3) := by decide +kernel
theorem dX5_leastIntercept_52 : decode cX5_leastIntercept 52 = .ok (.istore_n 3, 1) := by decide +kernel
theorem dX5_leastIntercept_53 : decode cX5_leastIntercept 53 = .ok (.iload 4, 2) := by decide +kernel
theorem dX5_leastIntercept_55 : decode cX5_leastIntercept 55 = .ok (.iload 7, 2) := by decide +kernel
theorem dX5_leastIntercept_57 : decode cX5_leastIntercept 57 = .ok (.iload_n 2, 1) := by decide +kernel
theorem dX5_leastIntercept_58 : decode cX5_leastIntercept 58 = .ok (.iadd, 1) := by decide +kernel
theorem dX5_leastIntercept_59 : decode cX5_leastIntercept 59 = .ok (.iconst 1, 1) := by decide +kernel
theorem dX5_leastIntercept_60 : decode cX5_leastIntercept 60 = .ok (.isub, 1) := by decide +kernel
theorem dX5_leastIntercept_61 : decode cX5_leastIntercept 61 = .ok (.invokestatic 42, 3) := by decide +kernel
theorem dX5_leastIntercept_64 : decode cX5_leastIntercept 64 = .ok (.istore 4, 2) := by decide +kernel
theorem dX5_leastIntercept_66 : decode cX5_leastIntercept 66 = .ok (.iload_n 3, 1) := by decide +kernel
theorem dX5_leastIntercept_67 : decode cX5_leastIntercept 67 = .ok (.iload 4, 2) := by decide +kernel
theorem dX5_leastIntercept_69 : decode cX5_leastIntercept 69 = .ok (.if_icmp .le 5, 3) := by decide +kernel
theorem dX5_leastIntercept_72 : decode cX5_leastIntercept 72 = .ok (.iconst (-1), 1) := by decide +kernel
theorem dX5_leastIntercept_73 : decode cX5_leastIntercept 73 = .ok (.ireturn, 1) := by decide +kernel
theorem dX5_leastIntercept_74 : decode cX5_leastIntercept 74 = .ok (.iinc 6 1, 3) := by decide +kernel
theorem dX5_leastIntercept_77 : decode cX5_leastIntercept 77 = .ok (.goto (-64), 3) := by decide +kernel
theorem dX5_leastIntercept_80 : decode cX5_leastIntercept 80 = .ok (.iload_n 3, 1) := by decide +kernel
theorem dX5_leastIntercept_81 : decode cX5_leastIntercept 81 = .ok (.ireturn, 1) := by decide +kernel
end
section
set_option maxRecDepth 20000 in
theorem ggX6_init_X1_init : GoodIn wsX6_init wsX1_init := goodIn_r _ [23, 24, 2, 3, 25, 26, 27, 28, 55, 56, 57] (by decide +kernel) (by decide +kernel)
set_option maxRecDepth 20000 in
theorem gX6_init_X1_init_n9 : GoodIn wsX6_init (wsX1_init) := ggX6_init_X1_init
set_option maxRecDepth 20000 in
theorem ggX6_init_X0_init : GoodIn wsX6_init wsX0_init := goodIn_r _ [30, 31, 2, 3, 32, 33, 34, 35, 61, 62] (by decide +kernel) (by decide +kernel)
set_option maxRecDepth 20000 in
theorem gX6_init_X0_init_n18 : GoodIn wsX6_init (wsX0_init) := ggX6_init_X0_init
set_option maxRecDepth 20000 in
theorem ggX6_init_X3_init : GoodIn wsX6_init wsX3_init := goodIn_r _ [38, 39, 2, 3, 40, 41, 42, 65, 66, 67] (by decide +kernel) (by decide +kernel)
set_option maxRecDepth 20000 in
theorem gX6_init_X3_init : GoodIn wsX6_init (wsX3_init) := ggX6_init_X3_init
set_option maxRecDepth 20000 in
theorem ggX6_init_X5_init : GoodIn wsX6_init wsX5_init := goodIn_r _ [45, 46, 2, 3, 47, 48, 68, 69] (by decide +kernel) (by decide +kernel)
set_option maxRecDepth 20000 in
theorem gX6_init_X5_init : GoodIn wsX6_init (wsX5_init) := ggX6_init_X5_init
set_option maxRecDepth 20000 in
theorem ggX6_init_X4_init : GoodIn wsX6_init wsX4_init := goodIn_r _ [51, 52, 2, 3, 53, 54, 63, 64] (by decide +kernel) (by decide +kernel)
set_option maxRecDepth 20000 in
theorem gX6_init_X4_init : GoodIn wsX6_init (wsX4_init) := ggX6_init_X4_init
theorem dX6_init_0 : decode cX6_init 0 = .ok (.aload_n 0, 1) := by decide +kernel
theorem dX6_init_1 : decode cX6_init 1 = .ok (.invokespecial 1, 3) := by decide +kernel
theorem dX6_init_4 : decode cX6_init 4 = .ok (.aload_n 0, 1) := by decide +kernel
theorem dX6_init_5 : decode cX6_init 5 = .ok (.new 7, 3) := by decide +kernel
theorem dX6_init_8 : decode cX6_init 8 = .ok (.dup, 1) := by decide +kernel
theorem dX6_init_9 : decode cX6_init 9 = .ok (.invokespecial 9, 3) := by decide +kernel
theorem dX6_init_12 : decode cX6_init 12 = .ok (.putfield 10, 3) := by decide +kernel
theorem dX6_init_15 : decode cX6_init 15 = .ok (.aload_n 0, 1) := by decide +kernel
theorem dX6_init_16 : decode cX6_init 16 = .ok (.new 16, 3) := by decide +kernel
theorem dX6_init_19 : decode cX6_init 19 = .ok (.dup, 1) := by decide +kernel
theorem dX6_init_20 : decode cX6_init 20 = .ok (.invokespecial 18, 3) := by decide +kernel
theorem dX6_init_23 : decode cX6_init 23 = .ok (.putfield 19, 3) := by decide +kernel
theorem dX6_init_26 : decode cX6_init 26 = .ok (.aload_n 0, 1) := by decide +kernel
theorem dX6_init_27 : decode cX6_init 27 = .ok (.new 23, 3) := by decide +kernel
theorem dX6_init_30 : decode cX6_init 30 = .ok (.dup, 1) := by decide +kernel
theorem dX6_init_31 : decode cX6_init 31 = .ok (.new 25, 3) := by decide +kernel
theorem dX6_init_34 : decode cX6_init 34 = .ok (.dup, 1) := by decide +kernel
theorem dX6_init_35 : decode cX6_init 35 = .ok (.iconst 5, 1) := by decide +kernel
theorem dX6_init_36 : decode cX6_init 36 = .ok (.bipush 13, 2) := by decide +kernel
theorem dX6_init_38 : decode cX6_init 38 = .ok (.iconst 0, 1) := by decide +kernel
theorem dX6_init_39 : decode cX6_init 39 = .ok (.invokespecial 27, 3) := by decide +kernel
theorem dX6_init_42 : decode cX6_init 42 = .ok (.new 30, 3) := by decide +kernel
theorem dX6_init_45 : decode cX6_init 45 = .ok (.dup, 1) := by decide +kernel
theorem dX6_init_46 : decode cX6_init 46 = .ok (.lconst 0, 1) := by decide +kernel
theorem dX6_init_47 : decode cX6_init 47 = .ok (.iconst 0, 1) := by decide +kernel
theorem dX6_init_48 : decode cX6_init 48 = .ok (.invokespecial 32, 3) := by decide +kernel
theorem dX6_init_51 : decode cX6_init 51 = .ok (.invokespecial 35, 3) := by decide +kernel
theorem dX6_init_54 : decode cX6_init 54 = .ok (.putfield 38, 3) := by decide +kernel
theorem dX6_init_57 : decode cX6_init 57 = .ok (.return_, 1) := by decide +kernel
set_option maxRecDepth 20000 in
theorem ggX6_setSlope_X6_commonDivisor : GoodIn wsX6_setSlope wsX6_commonDivisor := goodIn_r _ [7, 8, 9, 6, 10] (by decide +kernel) (by decide +kernel)
set_option maxRecDepth 20000 in
theorem gX6_setSlope_X6_commonDivisor : GoodIn wsX6_setSlope (va_wsS RX6 42 yX6_commonDivisor wsX6_commonDivisor) := goodIn_app (goodIn_of _ (by decide +kernel)) ggX6_setSlope_X6_commonDivisor
set_option maxRecDepth 20000 in
theorem ggX6_setSlope_X6_quotient : GoodIn wsX6_setSlope wsX6_quotient := goodIn_r _ [10] (by decide +kernel) (by decide +kernel)
set_option maxRecDepth 20000 in
theorem gX6_setSlope_X6_quotient : GoodIn wsX6_setSlope (va_wsS RX6 46 yX6_quotient wsX6_quotient) := goodIn_app (goodIn_of _ (by decide +kernel)) ggX6_setSlope_X6_quotient
set_option maxRecDepth 20000 in
theorem ggX6_setSlope_X3_init : GoodIn wsX6_setSlope wsX3_init := goodIn_r _ [13, 14, 15, 16, 17, 18, 19, 47, 48, 49] (by decide +kernel) (by decide +kernel)
set_option maxRecDepth 20000 in
theorem gX6_setSlope_X3_init : GoodIn wsX6_setSlope (wsX3_init) := ggX6_setSlope_X3_init
set_option maxRecDepth 20000 in
theorem ggX6_setSlope_X6_changeSlope : GoodIn wsX6_setSlope wsX6_changeSlope := goodIn_r _ [23, 24, 25, 26, 27, 28, 29, 30, 31, 32, 33, 34, 35, 36, 37, 38, 39, 40, 41, 42, 43, 44, 15, 16, 45, 46, 50, 51, 52, 53, 54, 55, 56, 57] (by decide +kernel) (by decide +kernel)
set_option maxRecDepth 20000 in
theorem gX6_setSlope_X6_changeSlope : GoodIn wsX6_setSlope (wsV RX6 50 RX6 yX6_changeSlope wsX6_changeSlope) := goodIn_app (goodIn_of _ (by decide +kernel)) ggX6_setSlope_X6_changeSlope
theorem dX6_setSlope_0 : decode cX6_setSlope 0 = .ok (.iload_n 2, 1) := by decide +kernel
theorem dX6_setSlope_1 : decode cX6_setSlope 1 = .ok (.iconst 1, 1) := by decide +kernel
theorem dX6_setSlope_2 : decode cX6_setSlope 2 = .ok (.if_icmp .lt 19, 3) := by decide +kernel
theorem dX6_setSlope_5 : decode cX6_setSlope 5 = .ok (.iload_n 2, 1) := by decide +kernel
theorem dX6_setSlope_6 : decode cX6_setSlope 6 = .ok (.sipush 1000, 3) := by decide +kernel
theorem dX6_setSlope_9 : decode cX6_setSlope 9 = .ok (.if_icmp .gt 12, 3) := by decide +kernel
theorem dX6_setSlope_12 : decode cX6_setSlope 12 = .ok (.iload_n 1, 1) := by decide +kernel
theorem dX6_setSlope_13 : decode cX6_setSlope 13 = .ok (.ifCond .lt 8, 3) := by decide +kernel
theorem dX6_setSlope_16 : decode cX6_setSlope 16 = .ok (.iload_n 1, 1) := by decide +kernel
theorem dX6_setSlope_17 : decode cX6_setSlope 17 = .ok (.iload_n 2, 1) := by decide +kernel
theorem dX6_setSlope_18 : decode cX6_setSlope 18 = .ok (.if_icmp .le 5, 3) := by decide +kernel
theorem dX6_setSlope_21 : decode cX6_setSlope 21 = .ok (.iconst (-1), 1) := by decide +kernel
theorem dX6_setSlope_22 : decode cX6_setSlope 22 = .ok (.ireturn, 1) := by decide +kernel
theorem dX6_setSlope_23 : decode cX6_setSlope 23 = .ok (.iload_n 1, 1) := by decide +kernel
theorem dX6_setSlope_24 : decode cX6_setSlope 24 = .ok (.iload_n 2, 1) := by decide +kernel
theorem dX6_setSlope_25 : decode cX6_setSlope 25 = .ok (.invokestatic 42, 3) := by decide +kernel
theorem dX6_setSlope_28 : decode cX6_setSlope 28 = .ok (.istore_n 3, 1) := by decide +kernel
theorem dX6_setSlope_29 : decode cX6_setSlope 29 = .ok (.iload_n 2, 1) := by decide +kernel
theorem dX6_setSlope_30 : decode cX6_setSlope 30 = .ok (.i2l, 1) := by decide +kernel
theorem dX6_setSlope_31 : decode cX6_setSlope 31 = .ok (.iload_n 3, 1) := by decide +kernel
theorem dX6_setSlope_32 : decode cX6_setSlope 32 = .ok (.i2l, 1) := by decide +kernel
theorem dX6_setSlope_33 : decode cX6_setSlope 33 = .ok (.invokestatic 46, 3) := by decide +kernel
theorem dX6_setSlope_36 : decode cX6_setSlope 36 = .ok (.l2i, 1) := by decide +kernel
theorem dX6_setSlope_37 : decode cX6_setSlope 37 = .ok (.istore 4, 2) := by decide +kernel
theorem dX6_setSlope_39 : decode cX6_setSlope 39 = .ok (.aload_n 0, 1) := by decide +kernel
theorem dX6_setSlope_40 : decode cX6_setSlope 40 = .ok (.new 25, 3) := by decide +kernel
theorem dX6_setSlope_43 : decode cX6_setSlope 43 = .ok (.dup, 1) := by decide +kernel
theorem dX6_setSlope_44 : decode cX6_setSlope 44 = .ok (.iload_n 1, 1) := by decide +kernel
theorem dX6_setSlope_45 : decode cX6_setSlope 45 = .ok (.i2l, 1) := by decide +kernel
theorem dX6_setSlope_46 : decode cX6_setSlope 46 = .ok (.iload_n 3, 1) := by decide +kernel
theorem dX6_setSlope_47 : decode cX6_setSlope 47 = .ok (.i2l, 1) := by decide +kernel
theorem dX6_setSlope_48 : decode cX6_setSlope 48 = .ok (.invokestatic 46, 3) := by decide +kernel
theorem dX6_setSlope_51 : decode cX6_setSlope 51 = .ok (.l2i, 1) := by decide +kernel
theorem dX6_setSlope_52 : decode cX6_setSlope 52 = .ok (.iload 4, 2) := by decide +kernel
theorem dX6_setSlope_54 : decode cX6_setSlope 54 = .ok (.iconst 0, 1) := by decide +kernel
theorem dX6_setSlope_55 : decode cX6_setSlope 55 = .ok (.invokespecial 27, 3) := by decide +kernel
theorem dX6_setSlope_58 : decode cX6_setSlope 58 = .ok (.invokevirtual 50, 3) := by decide +kernel
theorem dX6_setSlope_61 : decode cX6_setSlope 61 = .ok (.iload 4, 2) := by decide +kernel
theorem dX6_setSlope_63 : decode cX6_setSlope 63 = .ok (.ireturn, 1) := by decide +kernel
set_option maxRecDepth 20000 in
theorem ggX6_setIntercept_X3_init : GoodIn wsX6_setIntercept wsX3_init := goodIn_r _ [7, 8, 9, 10, 11, 12, 13, 46, 47, 48] (by decide +kernel) (by decide +kernel)
set_option maxRecDepth 20000 in
theorem gX6_setIntercept_X3_init : GoodIn wsX6_setIntercept (wsX3_init) := ggX6_setIntercept_X3_init
set_option maxRecDepth 20000 in
theorem ggX6_setIntercept_X6_changeSlope : GoodIn wsX6_setIntercept wsX6_changeSlope := goodIn_r _ [18, 19, 1, 20, 21, 22, 23, 24, 25, 26, 27, 28, 29, 30, 31, 32, 33, 34, 35, 36, 37, 38, 9, 10, 39, 40, 41, 42, 43, 44, 45, 49, 50, 51] (by decide +kernel) (by decide +kernel)
set_option maxRecDepth 20000 in
theorem gX6_setIntercept_X6_changeSlope : GoodIn wsX6_setIntercept (wsV RX6 50 RX6 yX6_changeSlope wsX6_changeSlope) := goodIn_app (goodIn_of _ (by decide +kernel)) ggX6_setIntercept_X6_changeSlope
theorem dX6_setIntercept_0 : decode cX6_setIntercept 0 = .ok (.aload_n 0, 1) := by decide +kernel
theorem dX6_setIntercept_1 : decode cX6_setIntercept 1 = .ok (.getfield 38, 3) := by decide +kernel
theorem dX6_setIntercept_4 : decode cX6_setIntercept 4 = .ok (.getfield 54, 3) := by decide +kernel
theorem dX6_setIntercept_7 : decode cX6_setIntercept 7 = .ok (.astore_n 2, 1) := by decide +kernel
theorem dX6_setIntercept_8 : decode cX6_setIntercept 8 = .ok (.iload_n 1, 1) := by decide +kernel
theorem dX6_setIntercept_9 : decode cX6_setIntercept 9 = .ok (.ifCond .lt 11, 3) := by decide +kernel
theorem dX6_setIntercept_12 : decode cX6_setIntercept 12 = .ok (.iload_n 1, 1) := by decide +kernel
theorem dX6_setIntercept_13 : decode cX6_setIntercept 13 = .ok (.aload_n 2, 1) := by decide +kernel
theorem dX6_setIntercept_14 : decode cX6_setIntercept 14 = .ok (.getfield 58, 3) := by decide +kernel
theorem dX6_setIntercept_17 : decode cX6_setIntercept 17 = .ok (.if_icmp .lt 5, 3) := by decide +kernel
theorem dX6_setIntercept_20 : decode cX6_setIntercept 20 = .ok (.iconst (-1), 1) := by decide +kernel
theorem dX6_setIntercept_21 : decode cX6_setIntercept 21 = .ok (.ireturn, 1) := by decide +kernel
theorem dX6_setIntercept_22 : decode cX6_setIntercept 22 = .ok (.aload_n 0, 1) := by decide +kernel
theorem dX6_setIntercept_23 : decode cX6_setIntercept 23 = .ok (.new 25, 3) := by decide +kernel
theorem dX6_setIntercept_26 : decode cX6_setIntercept 26 = .ok (.dup, 1) := by decide +kernel
theorem dX6_setIntercept_27 : decode cX6_setIntercept 27 = .ok (.aload_n 2, 1) := by decide +kernel
theorem dX6_setIntercept_28 : decode cX6_setIntercept 28 = .ok (.getfield 62, 3) := by decide +kernel
theorem dX6_setIntercept_31 : decode cX6_setIntercept 31 = .ok (.aload_n 2, 1) := by decide +kernel
theorem dX6_setIntercept_32 : decode cX6_setIntercept 32 = .ok (.getfield 58, 3) := by decide +kernel
theorem dX6_setIntercept_35 : decode cX6_setIntercept 35 = .ok (.iload_n 1, 1) := by decide +kernel
theorem dX6_setIntercept_36 : decode cX6_setIntercept 36 = .ok (.invokespecial 27, 3) := by decide +kernel
theorem dX6_setIntercept_39 : decode cX6_setIntercept 39 = .ok (.invokevirtual 50, 3) := by decide +kernel
theorem dX6_setIntercept_42 : decode cX6_setIntercept 42 = .ok (.aload_n 2, 1) := by decide +kernel
theorem dX6_setIntercept_43 : decode cX6_setIntercept 43 = .ok (.getfield 65, 3) := by decide +kernel
theorem dX6_setIntercept_46 : decode cX6_setIntercept 46 = .ok (.ireturn, 1) := by decide +kernel
theorem dX6_slopeNumerator_0 : decode cX6_slopeNumerator 0 = .ok (.aload_n 0, 1) := by decide +kernel
theorem dX6_slopeNumerator_1 : decode cX6_slopeNumerator 1 = .ok (.getfield 38, 3) := by decide +kernel
theorem dX6_slopeNumerator_4 : decode cX6_slopeNumerator 4 = .ok (.getfield 54, 3) := by decide +kernel
theorem dX6_slopeNumerator_7 : decode cX6_slopeNumerator 7 = .ok (.getfield 62, 3) := by decide +kernel
theorem dX6_slopeNumerator_10 : decode cX6_slopeNumerator 10 = .ok (.ireturn, 1) := by decide +kernel
theorem dX6_slopeDenominator_0 : decode cX6_slopeDenominator 0 = .ok (.aload_n 0, 1) := by decide +kernel
theorem dX6_slopeDenominator_1 : decode cX6_slopeDenominator 1 = .ok (.getfield 38, 3) := by decide +kernel
theorem dX6_slopeDenominator_4 : decode cX6_slopeDenominator 4 = .ok (.getfield 54, 3) := by decide +kernel
theorem dX6_slopeDenominator_7 : decode cX6_slopeDenominator 7 = .ok (.getfield 58, 3) := by decide +kernel
theorem dX6_slopeDenominator_10 : decode cX6_slopeDenominator 10 = .ok (.ireturn, 1) := by decide +kernel
set_option maxRecDepth 20000 in
theorem ggX6_continuedFractionTerm_X3_term : GoodIn wsX6_continuedFractionTerm wsX3_term := goodIn_r _ [6, 7, 8, 9, 10, 11, 17, 18, 19] (by decide +kernel) (by decide +kernel)
set_option maxRecDepth 20000 in
theorem gX6_continuedFractionTerm_X3_term : GoodIn wsX6_continuedFractionTerm (wsV RX6 68 RX3 yX3_term wsX3_term) := goodIn_app (goodIn_of _ (by decide +kernel)) ggX6_continuedFractionTerm_X3_term
theorem dX6_continuedFractionTerm_0 : decode cX6_continuedFractionTerm 0 = .ok (.iload_n 1, 1) := by decide +kernel
theorem dX6_continuedFractionTerm_1 : decode cX6_continuedFractionTerm 1 = .ok (.iconst 1, 1) := by decide +kernel
theorem dX6_continuedFractionTerm_2 : decode cX6_continuedFractionTerm 2 = .ok (.if_icmp .ge 5, 3) := by decide +kernel
theorem dX6_continuedFractionTerm_5 : decode cX6_continuedFractionTerm 5 = .ok (.iconst (-1), 1) := by decide +kernel
theorem dX6_continuedFractionTerm_6 : decode cX6_continuedFractionTerm 6 = .ok (.ireturn, 1) := by decide +kernel
theorem dX6_continuedFractionTerm_7 : decode cX6_continuedFractionTerm 7 = .ok (.aload_n 0, 1) := by decide +kernel
theorem dX6_continuedFractionTerm_8 : decode cX6_continuedFractionTerm 8 = .ok (.getfield 38, 3) := by decide +kernel
theorem dX6_continuedFractionTerm_11 : decode cX6_continuedFractionTerm 11 = .ok (.getfield 54, 3) := by decide +kernel
theorem dX6_continuedFractionTerm_14 : decode cX6_continuedFractionTerm 14 = .ok (.iload_n 1, 1) := by decide +kernel
theorem dX6_continuedFractionTerm_15 : decode cX6_continuedFractionTerm 15 = .ok (.invokevirtual 68, 3) := by decide +kernel
theorem dX6_continuedFractionTerm_18 : decode cX6_continuedFractionTerm 18 = .ok (.istore_n 2, 1) := by decide +kernel
theorem dX6_continuedFractionTerm_19 : decode cX6_continuedFractionTerm 19 = .ok (.iload_n 2, 1) := by decide +kernel
theorem dX6_continuedFractionTerm_20 : decode cX6_continuedFractionTerm 20 = .ok (.iconst (-1), 1) := by decide +kernel
theorem dX6_continuedFractionTerm_21 : decode cX6_continuedFractionTerm 21 = .ok (.if_icmp .ne 8, 3) := by decide +kernel
theorem dX6_continuedFractionTerm_24 : decode cX6_continuedFractionTerm 24 = .ok (.bipush (-3), 2) := by decide +kernel
theorem dX6_continuedFractionTerm_26 : decode cX6_continuedFractionTerm 26 = .ok (.goto 4, 3) := by decide +kernel
theorem dX6_continuedFractionTerm_29 : decode cX6_continuedFractionTerm 29 = .ok (.iload_n 2, 1) := by decide +kernel
theorem dX6_continuedFractionTerm_30 : decode cX6_continuedFractionTerm 30 = .ok (.ireturn, 1) := by decide +kernel
set_option maxRecDepth 20000 in
theorem ggX6_mechanicalLetter_X3_letter : GoodIn wsX6_mechanicalLetter wsX3_letter := goodIn_r _ [7, 8, 9, 10, 11, 12, 13, 19, 20, 21] (by decide +kernel) (by decide +kernel)
set_option maxRecDepth 20000 in
theorem gX6_mechanicalLetter_X3_letter : GoodIn wsX6_mechanicalLetter (wsV RX6 73 RX3 yX3_letter wsX3_letter) := goodIn_app (goodIn_of _ (by decide +kernel)) ggX6_mechanicalLetter_X3_letter
theorem dX6_mechanicalLetter_0 : decode cX6_mechanicalLetter 0 = .ok (.iload_n 1, 1) := by decide +kernel
theorem dX6_mechanicalLetter_1 : decode cX6_mechanicalLetter 1 = .ok (.ifCond .lt 9, 3) := by decide +kernel
theorem dX6_mechanicalLetter_4 : decode cX6_mechanicalLetter 4 = .ok (.iload_n 1, 1) := by decide +kernel
theorem dX6_mechanicalLetter_5 : decode cX6_mechanicalLetter 5 = .ok (.ldc 72, 2) := by decide +kernel
theorem dX6_mechanicalLetter_7 : decode cX6_mechanicalLetter 7 = .ok (.if_icmp .le 5, 3) := by decide +kernel
theorem dX6_mechanicalLetter_10 : decode cX6_mechanicalLetter 10 = .ok (.iconst (-1), 1) := by decide +kernel
theorem dX6_mechanicalLetter_11 : decode cX6_mechanicalLetter 11 = .ok (.ireturn, 1) := by decide +kernel
theorem dX6_mechanicalLetter_12 : decode cX6_mechanicalLetter 12 = .ok (.aload_n 0, 1) := by decide +kernel
theorem dX6_mechanicalLetter_13 : decode cX6_mechanicalLetter 13 = .ok (.getfield 38, 3) := by decide +kernel
theorem dX6_mechanicalLetter_16 : decode cX6_mechanicalLetter 16 = .ok (.getfield 54, 3) := by decide +kernel
theorem dX6_mechanicalLetter_19 : decode cX6_mechanicalLetter 19 = .ok (.iload_n 1, 1) := by decide +kernel
theorem dX6_mechanicalLetter_20 : decode cX6_mechanicalLetter 20 = .ok (.iload_n 2, 1) := by decide +kernel
theorem dX6_mechanicalLetter_21 : decode cX6_mechanicalLetter 21 = .ok (.invokevirtual 73, 3) := by decide +kernel
theorem dX6_mechanicalLetter_24 : decode cX6_mechanicalLetter 24 = .ok (.ireturn, 1) := by decide +kernel
set_option maxRecDepth 20000 in
theorem ggX6_loadMechanical_X3_firstLetters : GoodIn wsX6_loadMechanical wsX3_firstLetters := goodIn_r _ [6, 7, 8, 9, 10, 11, 12, 5, 13, 14, 15, 16, 17, 18, 19, 20, 21, 22, 23, 24, 25, 26, 27, 70, 71, 72, 73, 74] (by decide +kernel) (by decide +kernel)
set_option maxRecDepth 20000 in
theorem gX6_loadMechanical_X3_firstLetters : GoodIn wsX6_loadMechanical (wsV RX6 77 RX3 yX3_firstLetters wsX3_firstLetters) := goodIn_app (goodIn_of _ (by decide +kernel)) ggX6_loadMechanical_X3_firstLetters
set_option maxRecDepth 20000 in
theorem ggX6_loadMechanical_X6_changeWord : GoodIn wsX6_loadMechanical wsX6_changeWord := goodIn_r _ [31, 32, 1, 33, 34, 35, 36, 37, 38, 39, 40, 41, 42, 43, 44, 45, 46, 47, 48, 49, 50, 51, 24, 25, 52, 53, 65, 66, 67, 68, 69, 75, 76, 77] (by decide +kernel) (by decide +kernel)
set_option maxRecDepth 20000 in
theorem gX6_loadMechanical_X6_changeWord : GoodIn wsX6_loadMechanical (wsV RX6 81 RX6 yX6_changeWord wsX6_changeWord) := goodIn_app (goodIn_of _ (by decide +kernel)) ggX6_loadMechanical_X6_changeWord
set_option maxRecDepth 20000 in
theorem ggX6_loadMechanical_X5_ones : GoodIn wsX6_loadMechanical wsX5_ones := goodIn_r _ [57, 26, 58, 59, 60, 61, 62, 63, 64, 70, 71] (by decide +kernel) (by decide +kernel)
set_option maxRecDepth 20000 in
theorem gX6_loadMechanical_X5_ones : GoodIn wsX6_loadMechanical (wsV RX6 85 RX5 yX5_ones wsX5_ones) := goodIn_app (goodIn_of _ (by decide +kernel)) ggX6_loadMechanical_X5_ones
theorem dX6_loadMechanical_0 : decode cX6_loadMechanical 0 = .ok (.iload_n 1, 1) := by decide +kernel
theorem dX6_loadMechanical_1 : decode cX6_loadMechanical 1 = .ok (.ifCond .ge 5, 3) := by decide +kernel
theorem dX6_loadMechanical_4 : decode cX6_loadMechanical 4 = .ok (.iconst (-1), 1) := by decide +kernel
theorem dX6_loadMechanical_5 : decode cX6_loadMechanical 5 = .ok (.ireturn, 1) := by decide +kernel
theorem dX6_loadMechanical_6 : decode cX6_loadMechanical 6 = .ok (.iload_n 1, 1) := by decide +kernel
theorem dX6_loadMechanical_7 : decode cX6_loadMechanical 7 = .ok (.bipush 60, 2) := by decide +kernel
theorem dX6_loadMechanical_9 : decode cX6_loadMechanical 9 = .ok (.if_icmp .le 6, 3) := by decide +kernel
theorem dX6_loadMechanical_12 : decode cX6_loadMechanical 12 = .ok (.bipush (-2), 2) := by decide +kernel
theorem dX6_loadMechanical_14 : decode cX6_loadMechanical 14 = .ok (.ireturn, 1) := by decide +kernel
theorem dX6_loadMechanical_15 : decode cX6_loadMechanical 15 = .ok (.aload_n 0, 1) := by decide +kernel
theorem dX6_loadMechanical_16 : decode cX6_loadMechanical 16 = .ok (.getfield 38, 3) := by decide +kernel
theorem dX6_loadMechanical_19 : decode cX6_loadMechanical 19 = .ok (.getfield 54, 3) := by decide +kernel
theorem dX6_loadMechanical_22 : decode cX6_loadMechanical 22 = .ok (.iload_n 1, 1) := by decide +kernel
theorem dX6_loadMechanical_23 : decode cX6_loadMechanical 23 = .ok (.iload_n 2, 1) := by decide +kernel
theorem dX6_loadMechanical_24 : decode cX6_loadMechanical 24 = .ok (.invokevirtual 77, 3) := by decide +kernel
theorem dX6_loadMechanical_27 : decode cX6_loadMechanical 27 = .ok (.astore_n 3, 1) := by decide +kernel
theorem dX6_loadMechanical_28 : decode cX6_loadMechanical 28 = .ok (.aload_n 0, 1) := by decide +kernel
theorem dX6_loadMechanical_29 : decode cX6_loadMechanical 29 = .ok (.aload_n 3, 1) := by decide +kernel
theorem dX6_loadMechanical_30 : decode cX6_loadMechanical 30 = .ok (.invokevirtual 81, 3) := by decide +kernel
theorem dX6_loadMechanical_33 : decode cX6_loadMechanical 33 = .ok (.aload_n 3, 1) := by decide +kernel
theorem dX6_loadMechanical_34 : decode cX6_loadMechanical 34 = .ok (.invokevirtual 85, 3) := by decide +kernel
theorem dX6_loadMechanical_37 : decode cX6_loadMechanical 37 = .ok (.ireturn, 1) := by decide +kernel
set_option maxRecDepth 20000 in
theorem ggX6_loadStandard_X3_term : GoodIn wsX6_loadStandard wsX3_term := goodIn_r _ [6, 7, 8, 9, 10, 11, 67, 68, 69] (by decide +kernel) (by decide +kernel)
set_option maxRecDepth 20000 in
theorem gX6_loadStandard_X3_term : GoodIn wsX6_loadStandard (wsV RX6 68 RX3 yX3_term wsX3_term) := goodIn_app (goodIn_of _ (by decide +kernel)) ggX6_loadStandard_X3_term
set_option maxRecDepth 20000 in
theorem ggX6_loadStandard_X3_standardWord : GoodIn wsX6_loadStandard wsX3_standardWord := goodIn_r _ [15, 16, 17, 18, 19, 20, 21, 22, 23, 24, 25, 26, 27, 3, 4, 5, 6, 7, 8, 9, 10, 11, 28, 29, 30, 31, 32, 33, 65, 66, 67, 68, 69] (by decide +kernel) (by decide +kernel)
set_option maxRecDepth 20000 in
theorem gX6_loadStandard_X3_standardWord : GoodIn wsX6_loadStandard (wsV RX6 89 RX3 yX3_standardWord wsX3_standardWord) := goodIn_app (goodIn_of _ (by decide +kernel)) ggX6_loadStandard_X3_standardWord
set_option maxRecDepth 20000 in
theorem ggX6_loadStandard_X6_changeWord : GoodIn wsX6_loadStandard wsX6_changeWord := goodIn_r _ [37, 38, 1, 39, 40, 41, 42, 43, 44, 45, 46, 47, 48, 49, 50, 51, 52, 53, 54, 55, 56, 57, 23, 24, 58, 59, 60, 61, 62, 63, 64, 70, 71, 72] (by decide +kernel) (by decide +kernel)
set_option maxRecDepth 20000 in
theorem gX6_loadStandard_X6_changeWord : GoodIn wsX6_loadStandard (wsV RX6 81 RX6 yX6_changeWord wsX6_changeWord) := goodIn_app (goodIn_of _ (by decide +kernel)) ggX6_loadStandard_X6_changeWord
theorem dX6_loadStandard_0 : decode cX6_loadStandard 0 = .ok (.iload_n 1, 1) := by decide +kernel
theorem dX6_loadStandard_1 : decode cX6_loadStandard 1 = .ok (.iconst (-1), 1) := by decide +kernel
theorem dX6_loadStandard_2 : decode cX6_loadStandard 2 = .ok (.if_icmp .ge 5, 3) := by decide +kernel
theorem dX6_loadStandard_5 : decode cX6_loadStandard 5 = .ok (.iconst (-1), 1) := by decide +kernel
theorem dX6_loadStandard_6 : decode cX6_loadStandard 6 = .ok (.ireturn, 1) := by decide +kernel
theorem dX6_loadStandard_7 : decode cX6_loadStandard 7 = .ok (.iload_n 1, 1) := by decide +kernel
theorem dX6_loadStandard_8 : decode cX6_loadStandard 8 = .ok (.ifCond .le 21, 3) := by decide +kernel
theorem dX6_loadStandard_11 : decode cX6_loadStandard 11 = .ok (.aload_n 0, 1) := by decide +kernel
theorem dX6_loadStandard_12 : decode cX6_loadStandard 12 = .ok (.getfield 38, 3) := by decide +kernel
theorem dX6_loadStandard_15 : decode cX6_loadStandard 15 = .ok (.getfield 54, 3) := by decide +kernel
theorem dX6_loadStandard_18 : decode cX6_loadStandard 18 = .ok (.iload_n 1, 1) := by decide +kernel
theorem dX6_loadStandard_19 : decode cX6_loadStandard 19 = .ok (.invokevirtual 68, 3) := by decide +kernel
theorem dX6_loadStandard_22 : decode cX6_loadStandard 22 = .ok (.iconst (-1), 1) := by decide +kernel
theorem dX6_loadStandard_23 : decode cX6_loadStandard 23 = .ok (.if_icmp .ne 6, 3) := by decide +kernel
theorem dX6_loadStandard_26 : decode cX6_loadStandard 26 = .ok (.bipush (-3), 2) := by decide +kernel
theorem dX6_loadStandard_28 : decode cX6_loadStandard 28 = .ok (.ireturn, 1) := by decide +kernel
theorem dX6_loadStandard_29 : decode cX6_loadStandard 29 = .ok (.aload_n 0, 1) := by decide +kernel
theorem dX6_loadStandard_30 : decode cX6_loadStandard 30 = .ok (.getfield 38, 3) := by decide +kernel
theorem dX6_loadStandard_33 : decode cX6_loadStandard 33 = .ok (.getfield 54, 3) := by decide +kernel
theorem dX6_loadStandard_36 : decode cX6_loadStandard 36 = .ok (.iload_n 1, 1) := by decide +kernel
theorem dX6_loadStandard_37 : decode cX6_loadStandard 37 = .ok (.invokevirtual 89, 3) := by decide +kernel
theorem dX6_loadStandard_40 : decode cX6_loadStandard 40 = .ok (.astore_n 2, 1) := by decide +kernel
theorem dX6_loadStandard_41 : decode cX6_loadStandard 41 = .ok (.aload_n 2, 1) := by decide +kernel
theorem dX6_loadStandard_42 : decode cX6_loadStandard 42 = .ok (.ifnonnull 6, 3) := by decide +kernel
theorem dX6_loadStandard_45 : decode cX6_loadStandard 45 = .ok (.bipush (-2), 2) := by decide +kernel
theorem dX6_loadStandard_47 : decode cX6_loadStandard 47 = .ok (.ireturn, 1) := by decide +kernel
theorem dX6_loadStandard_48 : decode cX6_loadStandard 48 = .ok (.aload_n 0, 1) := by decide +kernel
theorem dX6_loadStandard_49 : decode cX6_loadStandard 49 = .ok (.aload_n 2, 1) := by decide +kernel
theorem dX6_loadStandard_50 : decode cX6_loadStandard 50 = .ok (.invokevirtual 81, 3) := by decide +kernel
theorem dX6_loadStandard_53 : decode cX6_loadStandard 53 = .ok (.aload_n 2, 1) := by decide +kernel
theorem dX6_loadStandard_54 : decode cX6_loadStandard 54 = .ok (.getfield 93, 3) := by decide +kernel
theorem dX6_loadStandard_57 : decode cX6_loadStandard 57 = .ok (.ireturn, 1) := by decide +kernel
set_option maxRecDepth 20000 in
theorem ggX6_append_X5_init : GoodIn wsX6_append wsX5_init := goodIn_r _ [7, 8, 9, 10, 11, 12, 45, 46] (by decide +kernel) (by decide +kernel)
set_option maxRecDepth 20000 in
theorem gX6_append_X5_init : GoodIn wsX6_append (wsX5_init) := ggX6_append_X5_init
set_option maxRecDepth 20000 in
theorem ggX6_append_X6_changeWord : GoodIn wsX6_append wsX6_changeWord := goodIn_r _ [17, 18, 1, 19, 20, 21, 22, 23, 24, 25, 26, 27, 28, 29, 30, 31, 32, 33, 34, 35, 36, 37, 9, 10, 38, 39, 40, 41, 42, 43, 44, 47, 48, 49] (by decide +kernel) (by decide +kernel)
set_option maxRecDepth 20000 in
theorem gX6_append_X6_changeWord : GoodIn wsX6_append (wsV RX6 81 RX6 yX6_changeWord wsX6_changeWord) := goodIn_app (goodIn_of _ (by decide +kernel)) ggX6_append_X6_changeWord
theorem dX6_append_0 : decode cX6_append 0 = .ok (.iload_n 1, 1) := by decide +kernel
theorem dX6_append_1 : decode cX6_append 1 = .ok (.ifCond .eq 10, 3) := by decide +kernel
theorem dX6_append_4 : decode cX6_append 4 = .ok (.iload_n 1, 1) := by decide +kernel
theorem dX6_append_5 : decode cX6_append 5 = .ok (.iconst 1, 1) := by decide +kernel
theorem dX6_append_6 : decode cX6_append 6 = .ok (.if_icmp .eq 5, 3) := by decide +kernel
theorem dX6_append_9 : decode cX6_append 9 = .ok (.iconst (-1), 1) := by decide +kernel
theorem dX6_append_10 : decode cX6_append 10 = .ok (.ireturn, 1) := by decide +kernel
theorem dX6_append_11 : decode cX6_append 11 = .ok (.aload_n 0, 1) := by decide +kernel
theorem dX6_append_12 : decode cX6_append 12 = .ok (.getfield 38, 3) := by decide +kernel
theorem dX6_append_15 : decode cX6_append 15 = .ok (.getfield 96, 3) := by decide +kernel
theorem dX6_append_18 : decode cX6_append 18 = .ok (.astore_n 2, 1) := by decide +kernel
theorem dX6_append_19 : decode cX6_append 19 = .ok (.aload_n 2, 1) := by decide +kernel
theorem dX6_append_20 : decode cX6_append 20 = .ok (.getfield 93, 3) := by decide +kernel
theorem dX6_append_23 : decode cX6_append 23 = .ok (.bipush 60, 2) := by decide +kernel
theorem dX6_append_25 : decode cX6_append 25 = .ok (.if_icmp .lt 6, 3) := by decide +kernel
theorem dX6_append_28 : decode cX6_append 28 = .ok (.bipush (-2), 2) := by decide +kernel
theorem dX6_append_30 : decode cX6_append 30 = .ok (.ireturn, 1) := by decide +kernel
theorem dX6_append_31 : decode cX6_append 31 = .ok (.aload_n 0, 1) := by decide +kernel
theorem dX6_append_32 : decode cX6_append 32 = .ok (.new 30, 3) := by decide +kernel
theorem dX6_append_35 : decode cX6_append 35 = .ok (.dup, 1) := by decide +kernel
theorem dX6_append_36 : decode cX6_append 36 = .ok (.aload_n 2, 1) := by decide +kernel
theorem dX6_append_37 : decode cX6_append 37 = .ok (.getfield 100, 3) := by decide +kernel
theorem dX6_append_40 : decode cX6_append 40 = .ok (.iconst 1, 1) := by decide +kernel
theorem dX6_append_41 : decode cX6_append 41 = .ok (.lshl, 1) := by decide +kernel
theorem dX6_append_42 : decode cX6_append 42 = .ok (.iload_n 1, 1) := by decide +kernel
theorem dX6_append_43 : decode cX6_append 43 = .ok (.i2l, 1) := by decide +kernel
theorem dX6_append_44 : decode cX6_append 44 = .ok (.lor, 1) := by decide +kernel
theorem dX6_append_45 : decode cX6_append 45 = .ok (.aload_n 2, 1) := by decide +kernel
theorem dX6_append_46 : decode cX6_append 46 = .ok (.getfield 93, 3) := by decide +kernel
theorem dX6_append_49 : decode cX6_append 49 = .ok (.iconst 1, 1) := by decide +kernel
theorem dX6_append_50 : decode cX6_append 50 = .ok (.iadd, 1) := by decide +kernel
theorem dX6_append_51 : decode cX6_append 51 = .ok (.invokespecial 32, 3) := by decide +kernel
theorem dX6_append_54 : decode cX6_append 54 = .ok (.invokevirtual 81, 3) := by decide +kernel
theorem dX6_append_57 : decode cX6_append 57 = .ok (.aload_n 2, 1) := by decide +kernel
theorem dX6_append_58 : decode cX6_append 58 = .ok (.getfield 93, 3) := by decide +kernel
theorem dX6_append_61 : decode cX6_append 61 = .ok (.iconst 1, 1) := by decide +kernel
theorem dX6_append_62 : decode cX6_append 62 = .ok (.iadd, 1) := by decide +kernel
theorem dX6_append_63 : decode cX6_append 63 = .ok (.ireturn, 1) := by decide +kernel
set_option maxRecDepth 20000 in
theorem ggX6_removeLast_X5_init : GoodIn wsX6_removeLast wsX5_init := goodIn_r _ [7, 8, 9, 10, 11, 12, 53, 54] (by decide +kernel) (by decide +kernel)
set_option maxRecDepth 20000 in
theorem gX6_removeLast_X5_init : GoodIn wsX6_removeLast (wsX5_init) := ggX6_removeLast_X5_init
set_option maxRecDepth 20000 in
theorem ggX6_removeLast_X6_changeWord : GoodIn wsX6_removeLast wsX6_changeWord := goodIn_r _ [17, 18, 1, 19, 20, 21, 22, 23, 24, 25, 26, 27, 28, 29, 30, 31, 32, 33, 34, 35, 36, 37, 9, 10, 38, 39, 48, 49, 50, 51, 52, 55, 56, 57] (by decide +kernel) (by decide +kernel)
set_option maxRecDepth 20000 in
theorem gX6_removeLast_X6_changeWord : GoodIn wsX6_removeLast (wsV RX6 81 RX6 yX6_changeWord wsX6_changeWord) := goodIn_app (goodIn_of _ (by decide +kernel)) ggX6_removeLast_X6_changeWord
set_option maxRecDepth 20000 in
theorem ggX6_removeLast_X5_letter : GoodIn wsX6_removeLast wsX5_letter := goodIn_r _ [43, 44, 45, 46, 4, 47, 11, 12, 53, 54] (by decide +kernel) (by decide +kernel)
set_option maxRecDepth 20000 in
theorem gX6_removeLast_X5_letter : GoodIn wsX6_removeLast (wsV RX6 104 RX5 yX5_letter wsX5_letter) := goodIn_app (goodIn_of _ (by decide +kernel)) ggX6_removeLast_X5_letter
theorem dX6_removeLast_0 : decode cX6_removeLast 0 = .ok (.aload_n 0, 1) := by decide +kernel
theorem dX6_removeLast_1 : decode cX6_removeLast 1 = .ok (.getfield 38, 3) := by decide +kernel
theorem dX6_removeLast_4 : decode cX6_removeLast 4 = .ok (.getfield 96, 3) := by decide +kernel
theorem dX6_removeLast_7 : decode cX6_removeLast 7 = .ok (.astore_n 1, 1) := by decide +kernel
theorem dX6_removeLast_8 : decode cX6_removeLast 8 = .ok (.aload_n 1, 1) := by decide +kernel
theorem dX6_removeLast_9 : decode cX6_removeLast 9 = .ok (.getfield 93, 3) := by decide +kernel
theorem dX6_removeLast_12 : decode cX6_removeLast 12 = .ok (.iconst 1, 1) := by decide +kernel
theorem dX6_removeLast_13 : decode cX6_removeLast 13 = .ok (.if_icmp .ge 6, 3) := by decide +kernel
theorem dX6_removeLast_16 : decode cX6_removeLast 16 = .ok (.bipush (-3), 2) := by decide +kernel
theorem dX6_removeLast_18 : decode cX6_removeLast 18 = .ok (.ireturn, 1) := by decide +kernel
theorem dX6_removeLast_19 : decode cX6_removeLast 19 = .ok (.aload_n 0, 1) := by decide +kernel
theorem dX6_removeLast_20 : decode cX6_removeLast 20 = .ok (.new 30, 3) := by decide +kernel
theorem dX6_removeLast_23 : decode cX6_removeLast 23 = .ok (.dup, 1) := by decide +kernel
theorem dX6_removeLast_24 : decode cX6_removeLast 24 = .ok (.aload_n 1, 1) := by decide +kernel
theorem dX6_removeLast_25 : decode cX6_removeLast 25 = .ok (.getfield 100, 3) := by decide +kernel
theorem dX6_removeLast_28 : decode cX6_removeLast 28 = .ok (.iconst 1, 1) := by decide +kernel
theorem dX6_removeLast_29 : decode cX6_removeLast 29 = .ok (.lushr, 1) := by decide +kernel
theorem dX6_removeLast_30 : decode cX6_removeLast 30 = .ok (.aload_n 1, 1) := by decide +kernel
theorem dX6_removeLast_31 : decode cX6_removeLast 31 = .ok (.getfield 93, 3) := by decide +kernel
theorem dX6_removeLast_34 : decode cX6_removeLast 34 = .ok (.iconst 1, 1) := by decide +kernel
theorem dX6_removeLast_35 : decode cX6_removeLast 35 = .ok (.isub, 1) := by decide +kernel
theorem dX6_removeLast_36 : decode cX6_removeLast 36 = .ok (.invokespecial 32, 3) := by decide +kernel
theorem dX6_removeLast_39 : decode cX6_removeLast 39 = .ok (.invokevirtual 81, 3) := by decide +kernel
theorem dX6_removeLast_42 : decode cX6_removeLast 42 = .ok (.aload_n 1, 1) := by decide +kernel
theorem dX6_removeLast_43 : decode cX6_removeLast 43 = .ok (.aload_n 1, 1) := by decide +kernel
theorem dX6_removeLast_44 : decode cX6_removeLast 44 = .ok (.getfield 93, 3) := by decide +kernel
theorem dX6_removeLast_47 : decode cX6_removeLast 47 = .ok (.iconst 1, 1) := by decide +kernel
theorem dX6_removeLast_48 : decode cX6_removeLast 48 = .ok (.isub, 1) := by decide +kernel
theorem dX6_removeLast_49 : decode cX6_removeLast 49 = .ok (.invokevirtual 104, 3) := by decide +kernel
theorem dX6_removeLast_52 : decode cX6_removeLast 52 = .ok (.ireturn, 1) := by decide +kernel
set_option maxRecDepth 20000 in
theorem ggX6_clear_X5_init : GoodIn wsX6_clear wsX5_init := goodIn_r _ [7, 8, 9, 10, 11, 12, 45, 46] (by decide +kernel) (by decide +kernel)
set_option maxRecDepth 20000 in
theorem gX6_clear_X5_init : GoodIn wsX6_clear (wsX5_init) := ggX6_clear_X5_init
set_option maxRecDepth 20000 in
theorem ggX6_clear_X6_changeWord : GoodIn wsX6_clear wsX6_changeWord := goodIn_r _ [17, 18, 1, 19, 20, 21, 22, 23, 24, 25, 26, 27, 28, 29, 30, 31, 32, 33, 34, 35, 36, 37, 9, 10, 38, 39, 40, 41, 42, 43, 44, 47, 48, 49] (by decide +kernel) (by decide +kernel)
set_option maxRecDepth 20000 in
theorem gX6_clear_X6_changeWord : GoodIn wsX6_clear (wsV RX6 81 RX6 yX6_changeWord wsX6_changeWord) := goodIn_app (goodIn_of _ (by decide +kernel)) ggX6_clear_X6_changeWord
theorem dX6_clear_0 : decode cX6_clear 0 = .ok (.aload_n 0, 1) := by decide +kernel
theorem dX6_clear_1 : decode cX6_clear 1 = .ok (.getfield 38, 3) := by decide +kernel
theorem dX6_clear_4 : decode cX6_clear 4 = .ok (.getfield 96, 3) := by decide +kernel
theorem dX6_clear_7 : decode cX6_clear 7 = .ok (.getfield 93, 3) := by decide +kernel
theorem dX6_clear_10 : decode cX6_clear 10 = .ok (.istore_n 1, 1) := by decide +kernel
theorem dX6_clear_11 : decode cX6_clear 11 = .ok (.aload_n 0, 1) := by decide +kernel
theorem dX6_clear_12 : decode cX6_clear 12 = .ok (.new 30, 3) := by decide +kernel
theorem dX6_clear_15 : decode cX6_clear 15 = .ok (.dup, 1) := by decide +kernel
theorem dX6_clear_16 : decode cX6_clear 16 = .ok (.lconst 0, 1) := by decide +kernel
theorem dX6_clear_17 : decode cX6_clear 17 = .ok (.iconst 0, 1) := by decide +kernel
theorem dX6_clear_18 : decode cX6_clear 18 = .ok (.invokespecial 32, 3) := by decide +kernel
theorem dX6_clear_21 : decode cX6_clear 21 = .ok (.invokevirtual 81, 3) := by decide +kernel
theorem dX6_clear_24 : decode cX6_clear 24 = .ok (.iload_n 1, 1) := by decide +kernel
theorem dX6_clear_25 : decode cX6_clear 25 = .ok (.ireturn, 1) := by decide +kernel
set_option maxRecDepth 20000 in
theorem ggX6_reverse_X5_reversed : GoodIn wsX6_reverse wsX5_reversed := goodIn_r _ [6, 7, 8, 9, 10, 5, 11, 12, 13, 14, 15, 16, 49, 50] (by decide +kernel) (by decide +kernel)
set_option maxRecDepth 20000 in
theorem gX6_reverse_X5_reversed : GoodIn wsX6_reverse (wsV RX6 106 RX5 yX5_reversed wsX5_reversed) := goodIn_app (goodIn_of _ (by decide +kernel)) ggX6_reverse_X5_reversed
set_option maxRecDepth 20000 in
theorem ggX6_reverse_X6_changeWord : GoodIn wsX6_reverse wsX6_changeWord := goodIn_r _ [21, 22, 1, 23, 24, 25, 26, 27, 28, 29, 30, 31, 32, 33, 34, 35, 36, 37, 38, 39, 40, 41, 15, 16, 42, 43, 44, 45, 46, 47, 48, 51, 52, 53] (by decide +kernel) (by decide +kernel)
set_option maxRecDepth 20000 in
theorem gX6_reverse_X6_changeWord : GoodIn wsX6_reverse (wsV RX6 81 RX6 yX6_changeWord wsX6_changeWord) := goodIn_app (goodIn_of _ (by decide +kernel)) ggX6_reverse_X6_changeWord
theorem dX6_reverse_0 : decode cX6_reverse 0 = .ok (.aload_n 0, 1) := by decide +kernel
theorem dX6_reverse_1 : decode cX6_reverse 1 = .ok (.getfield 38, 3) := by decide +kernel
theorem dX6_reverse_4 : decode cX6_reverse 4 = .ok (.getfield 96, 3) := by decide +kernel
theorem dX6_reverse_7 : decode cX6_reverse 7 = .ok (.astore_n 1, 1) := by decide +kernel
theorem dX6_reverse_8 : decode cX6_reverse 8 = .ok (.aload_n 1, 1) := by decide +kernel
theorem dX6_reverse_9 : decode cX6_reverse 9 = .ok (.invokevirtual 106, 3) := by decide +kernel
theorem dX6_reverse_12 : decode cX6_reverse 12 = .ok (.astore_n 2, 1) := by decide +kernel
theorem dX6_reverse_13 : decode cX6_reverse 13 = .ok (.aload_n 0, 1) := by decide +kernel
theorem dX6_reverse_14 : decode cX6_reverse 14 = .ok (.aload_n 2, 1) := by decide +kernel
theorem dX6_reverse_15 : decode cX6_reverse 15 = .ok (.invokevirtual 81, 3) := by decide +kernel
theorem dX6_reverse_18 : decode cX6_reverse 18 = .ok (.aload_n 2, 1) := by decide +kernel
theorem dX6_reverse_19 : decode cX6_reverse 19 = .ok (.getfield 100, 3) := by decide +kernel
theorem dX6_reverse_22 : decode cX6_reverse 22 = .ok (.aload_n 1, 1) := by decide +kernel
theorem dX6_reverse_23 : decode cX6_reverse 23 = .ok (.getfield 100, 3) := by decide +kernel
theorem dX6_reverse_26 : decode cX6_reverse 26 = .ok (.lcmp, 1) := by decide +kernel
theorem dX6_reverse_27 : decode cX6_reverse 27 = .ok (.ifCond .ne 7, 3) := by decide +kernel
theorem dX6_reverse_30 : decode cX6_reverse 30 = .ok (.iconst 0, 1) := by decide +kernel
theorem dX6_reverse_31 : decode cX6_reverse 31 = .ok (.goto 4, 3) := by decide +kernel
theorem dX6_reverse_34 : decode cX6_reverse 34 = .ok (.iconst 1, 1) := by decide +kernel
theorem dX6_reverse_35 : decode cX6_reverse 35 = .ok (.ireturn, 1) := by decide +kernel
set_option maxRecDepth 20000 in
theorem ggX6_applyMorphism_X2_numbered : GoodIn wsX6_applyMorphism wsX2_numbered := goodIn_r _ [5, 6, 7, 8, 9, 10] (by decide +kernel) (by decide +kernel)
set_option maxRecDepth 20000 in
theorem gX6_applyMorphism_X2_numbered : GoodIn wsX6_applyMorphism (va_wsS RX6 110 yX2_numbered wsX2_numbered) := goodIn_app (goodIn_of _ (by decide +kernel)) ggX6_applyMorphism_X2_numbered
set_option maxRecDepth 20000 in
theorem ggX6_applyMorphism_X2_imageOf : GoodIn wsX6_applyMorphism wsX2_imageOf := goodIn_r _ [14, 15, 16, 17, 18, 19, 20, 21, 22, 23, 24, 25, 26, 27, 28, 29, 30, 4, 31, 32, 33, 34, 35, 36, 37, 38, 39, 40, 41, 42, 43, 44, 45, 78, 79] (by decide +kernel) (by decide +kernel)
set_option maxRecDepth 20000 in
theorem gX6_applyMorphism_X2_imageOf : GoodIn wsX6_applyMorphism (wsV RX6 116 RX2 yX2_imageOf wsX2_imageOf) := goodIn_app (goodIn_of _ (by decide +kernel)) ggX6_applyMorphism_X2_imageOf
set_option maxRecDepth 20000 in
theorem ggX6_applyMorphism_X6_changeWord : GoodIn wsX6_applyMorphism wsX6_changeWord := goodIn_r _ [50, 51, 1, 52, 53, 54, 55, 56, 57, 58, 59, 60, 61, 62, 63, 64, 65, 66, 67, 68, 69, 70, 44, 45, 71, 72, 73, 74, 75, 76, 77, 80, 81, 82] (by decide +kernel) (by decide +kernel)
set_option maxRecDepth 20000 in
theorem gX6_applyMorphism_X6_changeWord : GoodIn wsX6_applyMorphism (wsV RX6 81 RX6 yX6_changeWord wsX6_changeWord) := goodIn_app (goodIn_of _ (by decide +kernel)) ggX6_applyMorphism_X6_changeWord
theorem dX6_applyMorphism_0 : decode cX6_applyMorphism 0 = .ok (.iload_n 1, 1) := by decide +kernel
theorem dX6_applyMorphism_1 : decode cX6_applyMorphism 1 = .ok (.invokestatic 110, 3) := by decide +kernel
theorem dX6_applyMorphism_4 : decode cX6_applyMorphism 4 = .ok (.astore_n 2, 1) := by decide +kernel
theorem dX6_applyMorphism_5 : decode cX6_applyMorphism 5 = .ok (.aload_n 2, 1) := by decide +kernel
theorem dX6_applyMorphism_6 : decode cX6_applyMorphism 6 = .ok (.ifnonnull 5, 3) := by decide +kernel
theorem dX6_applyMorphism_9 : decode cX6_applyMorphism 9 = .ok (.iconst (-1), 1) := by decide +kernel
theorem dX6_applyMorphism_10 : decode cX6_applyMorphism 10 = .ok (.ireturn, 1) := by decide +kernel
theorem dX6_applyMorphism_11 : decode cX6_applyMorphism 11 = .ok (.aload_n 2, 1) := by decide +kernel
theorem dX6_applyMorphism_12 : decode cX6_applyMorphism 12 = .ok (.aload_n 0, 1) := by decide +kernel
theorem dX6_applyMorphism_13 : decode cX6_applyMorphism 13 = .ok (.getfield 38, 3) := by decide +kernel
theorem dX6_applyMorphism_16 : decode cX6_applyMorphism 16 = .ok (.getfield 96, 3) := by decide +kernel
theorem dX6_applyMorphism_19 : decode cX6_applyMorphism 19 = .ok (.invokevirtual 116, 3) := by decide +kernel
theorem dX6_applyMorphism_22 : decode cX6_applyMorphism 22 = .ok (.astore_n 3, 1) := by decide +kernel
theorem dX6_applyMorphism_23 : decode cX6_applyMorphism 23 = .ok (.aload_n 3, 1) := by decide +kernel
theorem dX6_applyMorphism_24 : decode cX6_applyMorphism 24 = .ok (.ifnonnull 6, 3) := by decide +kernel
theorem dX6_applyMorphism_27 : decode cX6_applyMorphism 27 = .ok (.bipush (-2), 2) := by decide +kernel
theorem dX6_applyMorphism_29 : decode cX6_applyMorphism 29 = .ok (.ireturn, 1) := by decide +kernel
theorem dX6_applyMorphism_30 : decode cX6_applyMorphism 30 = .ok (.aload_n 0, 1) := by decide +kernel
theorem dX6_applyMorphism_31 : decode cX6_applyMorphism 31 = .ok (.aload_n 3, 1) := by decide +kernel
theorem dX6_applyMorphism_32 : decode cX6_applyMorphism 32 = .ok (.invokevirtual 81, 3) := by decide +kernel
theorem dX6_applyMorphism_35 : decode cX6_applyMorphism 35 = .ok (.aload_n 3, 1) := by decide +kernel
theorem dX6_applyMorphism_36 : decode cX6_applyMorphism 36 = .ok (.getfield 93, 3) := by decide +kernel
theorem dX6_applyMorphism_39 : decode cX6_applyMorphism 39 = .ok (.ireturn, 1) := by decide +kernel
set_option maxRecDepth 20000 in
theorem ggX6_invertMorphism_X2_numbered : GoodIn wsX6_invertMorphism wsX2_numbered := goodIn_r _ [5, 6, 7, 8, 9, 10] (by decide +kernel) (by decide +kernel)
set_option maxRecDepth 20000 in
theorem gX6_invertMorphism_X2_numbered : GoodIn wsX6_invertMorphism (va_wsS RX6 110 yX2_numbered wsX2_numbered) := goodIn_app (goodIn_of _ (by decide +kernel)) ggX6_invertMorphism_X2_numbered
set_option maxRecDepth 20000 in
theorem ggX6_invertMorphism_X2_originOf : GoodIn wsX6_invertMorphism wsX2_originOf := goodIn_r _ [14, 15, 16, 17, 18, 19, 20, 4, 21, 22, 23, 24, 25, 26, 27, 28, 29, 30, 31, 32, 33, 34, 35, 36, 37, 38, 39, 40, 41, 42, 43, 44, 45, 46, 47, 48, 49, 82, 83] (by decide +kernel) (by decide +kernel)
set_option maxRecDepth 20000 in
theorem gX6_invertMorphism_X2_originOf : GoodIn wsX6_invertMorphism (wsV RX6 120 RX2 yX2_originOf wsX2_originOf) := goodIn_app (goodIn_of _ (by decide +kernel)) ggX6_invertMorphism_X2_originOf
set_option maxRecDepth 20000 in
theorem ggX6_invertMorphism_X6_changeWord : GoodIn wsX6_invertMorphism wsX6_changeWord := goodIn_r _ [54, 55, 1, 56, 57, 58, 59, 60, 61, 62, 63, 64, 65, 66, 67, 68, 69, 70, 71, 72, 73, 74, 48, 49, 75, 76, 77, 78, 79, 80, 81, 84, 85, 86] (by decide +kernel) (by decide +kernel)
set_option maxRecDepth 20000 in
theorem gX6_invertMorphism_X6_changeWord : GoodIn wsX6_invertMorphism (wsV RX6 81 RX6 yX6_changeWord wsX6_changeWord) := goodIn_app (goodIn_of _ (by decide +kernel)) ggX6_invertMorphism_X6_changeWord
theorem dX6_invertMorphism_0 : decode cX6_invertMorphism 0 = .ok (.iload_n 1, 1) := by decide +kernel
theorem dX6_invertMorphism_1 : decode cX6_invertMorphism 1 = .ok (.invokestatic 110, 3) := by decide +kernel
theorem dX6_invertMorphism_4 : decode cX6_invertMorphism 4 = .ok (.astore_n 2, 1) := by decide +kernel
theorem dX6_invertMorphism_5 : decode cX6_invertMorphism 5 = .ok (.aload_n 2, 1) := by decide +kernel
theorem dX6_invertMorphism_6 : decode cX6_invertMorphism 6 = .ok (.ifnonnull 5, 3) := by decide +kernel
theorem dX6_invertMorphism_9 : decode cX6_invertMorphism 9 = .ok (.iconst (-1), 1) := by decide +kernel
theorem dX6_invertMorphism_10 : decode cX6_invertMorphism 10 = .ok (.ireturn, 1) := by decide +kernel
theorem dX6_invertMorphism_11 : decode cX6_invertMorphism 11 = .ok (.aload_n 2, 1) := by decide +kernel
theorem dX6_invertMorphism_12 : decode cX6_invertMorphism 12 = .ok (.aload_n 0, 1) := by decide +kernel
theorem dX6_invertMorphism_13 : decode cX6_invertMorphism 13 = .ok (.getfield 38, 3) := by decide +kernel
theorem dX6_invertMorphism_16 : decode cX6_invertMorphism 16 = .ok (.getfield 96, 3) := by decide +kernel
theorem dX6_invertMorphism_19 : decode cX6_invertMorphism 19 = .ok (.invokevirtual 120, 3) := by decide +kernel
theorem dX6_invertMorphism_22 : decode cX6_invertMorphism 22 = .ok (.astore_n 3, 1) := by decide +kernel
theorem dX6_invertMorphism_23 : decode cX6_invertMorphism 23 = .ok (.aload_n 3, 1) := by decide +kernel
theorem dX6_invertMorphism_24 : decode cX6_invertMorphism 24 = .ok (.ifnonnull 6, 3) := by decide +kernel
theorem dX6_invertMorphism_27 : decode cX6_invertMorphism 27 = .ok (.bipush (-3), 2) := by decide +kernel
theorem dX6_invertMorphism_29 : decode cX6_invertMorphism 29 = .ok (.ireturn, 1) := by decide +kernel
theorem dX6_invertMorphism_30 : decode cX6_invertMorphism 30 = .ok (.aload_n 0, 1) := by decide +kernel
theorem dX6_invertMorphism_31 : decode cX6_invertMorphism 31 = .ok (.aload_n 3, 1) := by decide +kernel
theorem dX6_invertMorphism_32 : decode cX6_invertMorphism 32 = .ok (.invokevirtual 81, 3) := by decide +kernel
theorem dX6_invertMorphism_35 : decode cX6_invertMorphism 35 = .ok (.aload_n 3, 1) := by decide +kernel
theorem dX6_invertMorphism_36 : decode cX6_invertMorphism 36 = .ok (.getfield 93, 3) := by decide +kernel
theorem dX6_invertMorphism_39 : decode cX6_invertMorphism 39 = .ok (.ireturn, 1) := by decide +kernel
set_option maxRecDepth 20000 in
theorem ggX6_undo_X1_takeLatest : GoodIn wsX6_undo wsX1_takeLatest := goodIn_r _ [7, 8, 9, 10, 14, 15, 16] (by decide +kernel) (by decide +kernel)
set_option maxRecDepth 20000 in
theorem gX6_undo_X1_takeLatest : GoodIn wsX6_undo (wsV RX6 123 RX1 yX1_takeLatest wsX1_takeLatest) := goodIn_app (goodIn_of _ (by decide +kernel)) ggX6_undo_X1_takeLatest
theorem dX6_undo_0 : decode cX6_undo 0 = .ok (.aload_n 0, 1) := by decide +kernel
theorem dX6_undo_1 : decode cX6_undo 1 = .ok (.getfield 10, 3) := by decide +kernel
theorem dX6_undo_4 : decode cX6_undo 4 = .ok (.invokevirtual 123, 3) := by decide +kernel
theorem dX6_undo_7 : decode cX6_undo 7 = .ok (.astore_n 1, 1) := by decide +kernel
theorem dX6_undo_8 : decode cX6_undo 8 = .ok (.aload_n 1, 1) := by decide +kernel
theorem dX6_undo_9 : decode cX6_undo 9 = .ok (.ifnonnull 6, 3) := by decide +kernel
theorem dX6_undo_12 : decode cX6_undo 12 = .ok (.bipush (-3), 2) := by decide +kernel
theorem dX6_undo_14 : decode cX6_undo 14 = .ok (.ireturn, 1) := by decide +kernel
theorem dX6_undo_15 : decode cX6_undo 15 = .ok (.aload_n 0, 1) := by decide +kernel
theorem dX6_undo_16 : decode cX6_undo 16 = .ok (.aload_n 1, 1) := by decide +kernel
theorem dX6_undo_17 : decode cX6_undo 17 = .ok (.putfield 38, 3) := by decide +kernel
theorem dX6_undo_20 : decode cX6_undo 20 = .ok (.aload_n 0, 1) := by decide +kernel
theorem dX6_undo_21 : decode cX6_undo 21 = .ok (.getfield 10, 3) := by decide +kernel
theorem dX6_undo_24 : decode cX6_undo 24 = .ok (.getfield 127, 3) := by decide +kernel
theorem dX6_undo_27 : decode cX6_undo 27 = .ok (.ireturn, 1) := by decide +kernel
theorem dX6_length_0 : decode cX6_length 0 = .ok (.aload_n 0, 1) := by decide +kernel
theorem dX6_length_1 : decode cX6_length 1 = .ok (.getfield 38, 3) := by decide +kernel
theorem dX6_length_4 : decode cX6_length 4 = .ok (.getfield 96, 3) := by decide +kernel
theorem dX6_length_7 : decode cX6_length 7 = .ok (.getfield 93, 3) := by decide +kernel
theorem dX6_length_10 : decode cX6_length 10 = .ok (.ireturn, 1) := by decide +kernel
set_option maxRecDepth 20000 in
theorem ggX6_weight_X5_ones : GoodIn wsX6_weight wsX5_ones := goodIn_r _ [6, 7, 8, 9, 10, 11, 12, 13, 14, 20, 21] (by decide +kernel) (by decide +kernel)
set_option maxRecDepth 20000 in
theorem gX6_weight_X5_ones : GoodIn wsX6_weight (wsV RX6 85 RX5 yX5_ones wsX5_ones) := goodIn_app (goodIn_of _ (by decide +kernel)) ggX6_weight_X5_ones
theorem dX6_weight_0 : decode cX6_weight 0 = .ok (.aload_n 0, 1) := by decide +kernel
theorem dX6_weight_1 : decode cX6_weight 1 = .ok (.getfield 38, 3) := by decide +kernel
theorem dX6_weight_4 : decode cX6_weight 4 = .ok (.getfield 96, 3) := by decide +kernel
theorem dX6_weight_7 : decode cX6_weight 7 = .ok (.invokevirtual 85, 3) := by decide +kernel
theorem dX6_weight_10 : decode cX6_weight 10 = .ok (.ireturn, 1) := by decide +kernel
set_option maxRecDepth 20000 in
theorem ggX6_letterAt_X5_letter : GoodIn wsX6_letterAt wsX5_letter := goodIn_r _ [6, 7, 8, 9, 5, 10, 11, 12, 18, 19] (by decide +kernel) (by decide +kernel)
set_option maxRecDepth 20000 in
theorem gX6_letterAt_X5_letter : GoodIn wsX6_letterAt (wsV RX6 104 RX5 yX5_letter wsX5_letter) := goodIn_app (goodIn_of _ (by decide +kernel)) ggX6_letterAt_X5_letter
theorem dX6_letterAt_0 : decode cX6_letterAt 0 = .ok (.iload_n 1, 1) := by decide +kernel
theorem dX6_letterAt_1 : decode cX6_letterAt 1 = .ok (.ifCond .ge 5, 3) := by decide +kernel
theorem dX6_letterAt_4 : decode cX6_letterAt 4 = .ok (.iconst (-1), 1) := by decide +kernel
theorem dX6_letterAt_5 : decode cX6_letterAt 5 = .ok (.ireturn, 1) := by decide +kernel
theorem dX6_letterAt_6 : decode cX6_letterAt 6 = .ok (.iload_n 1, 1) := by decide +kernel
theorem dX6_letterAt_7 : decode cX6_letterAt 7 = .ok (.aload_n 0, 1) := by decide +kernel
theorem dX6_letterAt_8 : decode cX6_letterAt 8 = .ok (.getfield 38, 3) := by decide +kernel
theorem dX6_letterAt_11 : decode cX6_letterAt 11 = .ok (.getfield 96, 3) := by decide +kernel
theorem dX6_letterAt_14 : decode cX6_letterAt 14 = .ok (.getfield 93, 3) := by decide +kernel
theorem dX6_letterAt_17 : decode cX6_letterAt 17 = .ok (.if_icmp .ge 17, 3) := by decide +kernel
theorem dX6_letterAt_20 : decode cX6_letterAt 20 = .ok (.aload_n 0, 1) := by decide +kernel
theorem dX6_letterAt_21 : decode cX6_letterAt 21 = .ok (.getfield 38, 3) := by decide +kernel
theorem dX6_letterAt_24 : decode cX6_letterAt 24 = .ok (.getfield 96, 3) := by decide +kernel
theorem dX6_letterAt_27 : decode cX6_letterAt 27 = .ok (.iload_n 1, 1) := by decide +kernel
theorem dX6_letterAt_28 : decode cX6_letterAt 28 = .ok (.invokevirtual 104, 3) := by decide +kernel
theorem dX6_letterAt_31 : decode cX6_letterAt 31 = .ok (.goto 5, 3) := by decide +kernel
theorem dX6_letterAt_34 : decode cX6_letterAt 34 = .ok (.bipush (-3), 2) := by decide +kernel
theorem dX6_letterAt_36 : decode cX6_letterAt 36 = .ok (.ireturn, 1) := by decide +kernel
set_option maxRecDepth 20000 in
theorem ggX6_factorCount_X5_differentFactors : GoodIn wsX6_factorCount wsX5_differentFactors := goodIn_r _ [6, 7, 8, 9, 10, 5, 11, 12, 13, 14, 15, 16, 22, 23] (by decide +kernel) (by decide +kernel)
set_option maxRecDepth 20000 in
theorem gX6_factorCount_X5_differentFactors : GoodIn wsX6_factorCount (wsV RX6 130 RX5 yX5_differentFactors wsX5_differentFactors) := goodIn_app (goodIn_of _ (by decide +kernel)) ggX6_factorCount_X5_differentFactors
theorem dX6_factorCount_0 : decode cX6_factorCount 0 = .ok (.iload_n 1, 1) := by decide +kernel
theorem dX6_factorCount_1 : decode cX6_factorCount 1 = .ok (.ifCond .ge 7, 3) := by decide +kernel
theorem dX6_factorCount_4 : decode cX6_factorCount 4 = .ok (.iconst (-1), 1) := by decide +kernel
theorem dX6_factorCount_5 : decode cX6_factorCount 5 = .ok (.goto 14, 3) := by decide +kernel
theorem dX6_factorCount_8 : decode cX6_factorCount 8 = .ok (.aload_n 0, 1) := by decide +kernel
theorem dX6_factorCount_9 : decode cX6_factorCount 9 = .ok (.getfield 38, 3) := by decide +kernel
theorem dX6_factorCount_12 : decode cX6_factorCount 12 = .ok (.getfield 96, 3) := by decide +kernel
theorem dX6_factorCount_15 : decode cX6_factorCount 15 = .ok (.iload_n 1, 1) := by decide +kernel
theorem dX6_factorCount_16 : decode cX6_factorCount 16 = .ok (.invokevirtual 130, 3) := by decide +kernel
theorem dX6_factorCount_19 : decode cX6_factorCount 19 = .ok (.ireturn, 1) := by decide +kernel
set_option maxRecDepth 20000 in
theorem ggX6_factorAt_X5_listedFactor : GoodIn wsX6_factorAt wsX5_listedFactor := goodIn_r _ [7, 8, 9, 10, 11, 12, 6, 13, 14, 15, 16, 17, 18, 24, 25] (by decide +kernel) (by decide +kernel)
set_option maxRecDepth 20000 in
theorem gX6_factorAt_X5_listedFactor : GoodIn wsX6_factorAt (wsV RX6 133 RX5 yX5_listedFactor wsX5_listedFactor) := goodIn_app (goodIn_of _ (by decide +kernel)) ggX6_factorAt_X5_listedFactor
theorem dX6_factorAt_0 : decode cX6_factorAt 0 = .ok (.iload_n 1, 1) := by decide +kernel
theorem dX6_factorAt_1 : decode cX6_factorAt 1 = .ok (.iconst 1, 1) := by decide +kernel
theorem dX6_factorAt_2 : decode cX6_factorAt 2 = .ok (.if_icmp .lt 13, 3) := by decide +kernel
theorem dX6_factorAt_5 : decode cX6_factorAt 5 = .ok (.iload_n 1, 1) := by decide +kernel
theorem dX6_factorAt_6 : decode cX6_factorAt 6 = .ok (.bipush 30, 2) := by decide +kernel
theorem dX6_factorAt_8 : decode cX6_factorAt 8 = .ok (.if_icmp .gt 7, 3) := by decide +kernel
theorem dX6_factorAt_11 : decode cX6_factorAt 11 = .ok (.iload_n 2, 1) := by decide +kernel
theorem dX6_factorAt_12 : decode cX6_factorAt 12 = .ok (.ifCond .ge 5, 3) := by decide +kernel
theorem dX6_factorAt_15 : decode cX6_factorAt 15 = .ok (.iconst (-1), 1) := by decide +kernel
theorem dX6_factorAt_16 : decode cX6_factorAt 16 = .ok (.ireturn, 1) := by decide +kernel
theorem dX6_factorAt_17 : decode cX6_factorAt 17 = .ok (.aload_n 0, 1) := by decide +kernel
theorem dX6_factorAt_18 : decode cX6_factorAt 18 = .ok (.getfield 38, 3) := by decide +kernel
theorem dX6_factorAt_21 : decode cX6_factorAt 21 = .ok (.getfield 96, 3) := by decide +kernel
theorem dX6_factorAt_24 : decode cX6_factorAt 24 = .ok (.iload_n 1, 1) := by decide +kernel
theorem dX6_factorAt_25 : decode cX6_factorAt 25 = .ok (.iload_n 2, 1) := by decide +kernel
theorem dX6_factorAt_26 : decode cX6_factorAt 26 = .ok (.invokevirtual 133, 3) := by decide +kernel
theorem dX6_factorAt_29 : decode cX6_factorAt 29 = .ok (.lstore_n 3, 1) := by decide +kernel
theorem dX6_factorAt_30 : decode cX6_factorAt 30 = .ok (.lload_n 3, 1) := by decide +kernel
theorem dX6_factorAt_31 : decode cX6_factorAt 31 = .ok (.ldc2_w 137, 3) := by decide +kernel
theorem dX6_factorAt_34 : decode cX6_factorAt 34 = .ok (.lcmp, 1) := by decide +kernel
theorem dX6_factorAt_35 : decode cX6_factorAt 35 = .ok (.ifCond .ne 8, 3) := by decide +kernel
theorem dX6_factorAt_38 : decode cX6_factorAt 38 = .ok (.bipush (-3), 2) := by decide +kernel
theorem dX6_factorAt_40 : decode cX6_factorAt 40 = .ok (.goto 5, 3) := by decide +kernel
theorem dX6_factorAt_43 : decode cX6_factorAt 43 = .ok (.lload_n 3, 1) := by decide +kernel
theorem dX6_factorAt_44 : decode cX6_factorAt 44 = .ok (.l2i, 1) := by decide +kernel
theorem dX6_factorAt_45 : decode cX6_factorAt 45 = .ok (.ireturn, 1) := by decide +kernel
set_option maxRecDepth 20000 in
theorem ggX6_unbalancedLength_X5_weightSpread : GoodIn wsX6_unbalancedLength wsX5_weightSpread := goodIn_r _ [6, 7, 8, 9, 10, 11, 12, 13, 14, 15, 16, 17, 5, 18, 19, 20, 21, 22, 23, 24, 25, 26, 32, 33] (by decide +kernel) (by decide +kernel)
set_option maxRecDepth 20000 in
theorem gX6_unbalancedLength_X5_weightSpread : GoodIn wsX6_unbalancedLength (wsV RX6 139 RX5 yX5_weightSpread wsX5_weightSpread) := goodIn_app (goodIn_of _ (by decide +kernel)) ggX6_unbalancedLength_X5_weightSpread
theorem dX6_unbalancedLength_0 : decode cX6_unbalancedLength 0 = .ok (.aload_n 0, 1) := by decide +kernel
theorem dX6_unbalancedLength_1 : decode cX6_unbalancedLength 1 = .ok (.getfield 38, 3) := by decide +kernel
theorem dX6_unbalancedLength_4 : decode cX6_unbalancedLength 4 = .ok (.getfield 96, 3) := by decide +kernel
theorem dX6_unbalancedLength_7 : decode cX6_unbalancedLength 7 = .ok (.astore_n 1, 1) := by decide +kernel
theorem dX6_unbalancedLength_8 : decode cX6_unbalancedLength 8 = .ok (.iconst 1, 1) := by decide +kernel
theorem dX6_unbalancedLength_9 : decode cX6_unbalancedLength 9 = .ok (.istore_n 2, 1) := by decide +kernel
theorem dX6_unbalancedLength_10 : decode cX6_unbalancedLength 10 = .ok (.iload_n 2, 1) := by decide +kernel
theorem dX6_unbalancedLength_11 : decode cX6_unbalancedLength 11 = .ok (.aload_n 1, 1) := by decide +kernel
theorem dX6_unbalancedLength_12 : decode cX6_unbalancedLength 12 = .ok (.getfield 93, 3) := by decide +kernel
theorem dX6_unbalancedLength_15 : decode cX6_unbalancedLength 15 = .ok (.if_icmp .gt 20, 3) := by decide +kernel
theorem dX6_unbalancedLength_18 : decode cX6_unbalancedLength 18 = .ok (.aload_n 1, 1) := by decide +kernel
theorem dX6_unbalancedLength_19 : decode cX6_unbalancedLength 19 = .ok (.iload_n 2, 1) := by decide +kernel
theorem dX6_unbalancedLength_20 : decode cX6_unbalancedLength 20 = .ok (.invokevirtual 139, 3) := by decide +kernel
theorem dX6_unbalancedLength_23 : decode cX6_unbalancedLength 23 = .ok (.iconst 2, 1) := by decide +kernel
theorem dX6_unbalancedLength_24 : decode cX6_unbalancedLength 24 = .ok (.if_icmp .lt 5, 3) := by decide +kernel
theorem dX6_unbalancedLength_27 : decode cX6_unbalancedLength 27 = .ok (.iload_n 2, 1) := by decide +kernel
theorem dX6_unbalancedLength_28 : decode cX6_unbalancedLength 28 = .ok (.ireturn, 1) := by decide +kernel
theorem dX6_unbalancedLength_29 : decode cX6_unbalancedLength 29 = .ok (.iinc 2 1, 3) := by decide +kernel
theorem dX6_unbalancedLength_32 : decode cX6_unbalancedLength 32 = .ok (.goto (-22), 3) := by decide +kernel
theorem dX6_unbalancedLength_35 : decode cX6_unbalancedLength 35 = .ok (.bipush (-3), 2) := by decide +kernel
theorem dX6_unbalancedLength_37 : decode cX6_unbalancedLength 37 = .ok (.ireturn, 1) := by decide +kernel
set_option maxRecDepth 20000 in
theorem ggX6_palindromeCount_X5_differentPalindromes : GoodIn wsX6_palindromeCount wsX5_differentPalindromes := goodIn_r _ [6, 7, 8, 9, 10, 5, 11, 12, 13, 14, 15, 16, 17, 18, 19, 20, 21, 22, 23, 24, 25, 26, 27, 28, 29, 30, 31, 32, 38, 39] (by decide +kernel) (by decide +kernel)
set_option maxRecDepth 20000 in
theorem gX6_palindromeCount_X5_differentPalindromes : GoodIn wsX6_palindromeCount (wsV RX6 142 RX5 yX5_differentPalindromes wsX5_differentPalindromes) := goodIn_app (goodIn_of _ (by decide +kernel)) ggX6_palindromeCount_X5_differentPalindromes
theorem dX6_palindromeCount_0 : decode cX6_palindromeCount 0 = .ok (.aload_n 0, 1) := by decide +kernel
theorem dX6_palindromeCount_1 : decode cX6_palindromeCount 1 = .ok (.getfield 38, 3) := by decide +kernel
theorem dX6_palindromeCount_4 : decode cX6_palindromeCount 4 = .ok (.getfield 96, 3) := by decide +kernel
theorem dX6_palindromeCount_7 : decode cX6_palindromeCount 7 = .ok (.invokevirtual 142, 3) := by decide +kernel
theorem dX6_palindromeCount_10 : decode cX6_palindromeCount 10 = .ok (.ireturn, 1) := by decide +kernel
set_option maxRecDepth 20000 in
theorem ggX6_longestPalindromicPrefix_X5_reversed : GoodIn wsX6_longestPalindromicPrefix wsX5_reversed := goodIn_r _ [6, 7, 8, 9, 10, 5, 11, 12, 13, 14, 15, 16, 30, 31] (by decide +kernel) (by decide +kernel)
set_option maxRecDepth 20000 in
theorem gX6_longestPalindromicPrefix_X5_reversed : GoodIn wsX6_longestPalindromicPrefix (wsV RX6 106 RX5 yX5_reversed wsX5_reversed) := goodIn_app (goodIn_of _ (by decide +kernel)) ggX6_longestPalindromicPrefix_X5_reversed
set_option maxRecDepth 20000 in
theorem ggX6_longestPalindromicPrefix_X5_isPalindrome : GoodIn wsX6_longestPalindromicPrefix wsX5_isPalindrome := goodIn_r _ [20, 7, 21, 22, 23, 5, 24, 8, 30, 31] (by decide +kernel) (by decide +kernel)
set_option maxRecDepth 20000 in
theorem gX6_longestPalindromicPrefix_X5_isPalindrome : GoodIn wsX6_longestPalindromicPrefix (wsV RX6 145 RX5 yX5_isPalindrome wsX5_isPalindrome) := goodIn_app (goodIn_of _ (by decide +kernel)) ggX6_longestPalindromicPrefix_X5_isPalindrome
theorem dX6_longestPalindromicPrefix_0 : decode cX6_longestPalindromicPrefix 0 = .ok (.aload_n 0, 1) := by decide +kernel
theorem dX6_longestPalindromicPrefix_1 : decode cX6_longestPalindromicPrefix 1 = .ok (.getfield 38, 3) := by decide +kernel
theorem dX6_longestPalindromicPrefix_4 : decode cX6_longestPalindromicPrefix 4 = .ok (.getfield 96, 3) := by decide +kernel
theorem dX6_longestPalindromicPrefix_7 : decode cX6_longestPalindromicPrefix 7 = .ok (.astore_n 1, 1) := by decide +kernel
theorem dX6_longestPalindromicPrefix_8 : decode cX6_longestPalindromicPrefix 8 = .ok (.aload_n 1, 1) := by decide +kernel
theorem dX6_longestPalindromicPrefix_9 : decode cX6_longestPalindromicPrefix 9 = .ok (.invokevirtual 106, 3) := by decide +kernel
theorem dX6_longestPalindromicPrefix_12 : decode cX6_longestPalindromicPrefix 12 = .ok (.astore_n 2, 1) := by decide +kernel
theorem dX6_longestPalindromicPrefix_13 : decode cX6_longestPalindromicPrefix 13 = .ok (.aload_n 1, 1) := by decide +kernel
theorem dX6_longestPalindromicPrefix_14 : decode cX6_longestPalindromicPrefix 14 = .ok (.getfield 93, 3) := by decide +kernel
theorem dX6_longestPalindromicPrefix_17 : decode cX6_longestPalindromicPrefix 17 = .ok (.istore_n 3, 1) := by decide +kernel
theorem dX6_longestPalindromicPrefix_18 : decode cX6_longestPalindromicPrefix 18 = .ok (.iload_n 3, 1) := by decide +kernel
theorem dX6_longestPalindromicPrefix_19 : decode cX6_longestPalindromicPrefix 19 = .ok (.ifCond .le 21, 3) := by decide +kernel
theorem dX6_longestPalindromicPrefix_22 : decode cX6_longestPalindromicPrefix 22 = .ok (.aload_n 1, 1) := by decide +kernel
theorem dX6_longestPalindromicPrefix_23 : decode cX6_longestPalindromicPrefix 23 = .ok (.iconst 0, 1) := by decide +kernel
theorem dX6_longestPalindromicPrefix_24 : decode cX6_longestPalindromicPrefix 24 = .ok (.iload_n 3, 1) := by decide +kernel
theorem dX6_longestPalindromicPrefix_25 : decode cX6_longestPalindromicPrefix 25 = .ok (.aload_n 2, 1) := by decide +kernel
theorem dX6_longestPalindromicPrefix_26 : decode cX6_longestPalindromicPrefix 26 = .ok (.invokevirtual 145, 3) := by decide +kernel
theorem dX6_longestPalindromicPrefix_29 : decode cX6_longestPalindromicPrefix 29 = .ok (.ifCond .eq 5, 3) := by decide +kernel
theorem dX6_longestPalindromicPrefix_32 : decode cX6_longestPalindromicPrefix 32 = .ok (.iload_n 3, 1) := by decide +kernel
theorem dX6_longestPalindromicPrefix_33 : decode cX6_longestPalindromicPrefix 33 = .ok (.ireturn, 1) := by decide +kernel
theorem dX6_longestPalindromicPrefix_34 : decode cX6_longestPalindromicPrefix 34 = .ok (.iinc 3 (-1), 3) := by decide +kernel
theorem dX6_longestPalindromicPrefix_37 : decode cX6_longestPalindromicPrefix 37 = .ok (.goto (-19), 3) := by decide +kernel
theorem dX6_longestPalindromicPrefix_40 : decode cX6_longestPalindromicPrefix 40 = .ok (.iconst 0, 1) := by decide +kernel
theorem dX6_longestPalindromicPrefix_41 : decode cX6_longestPalindromicPrefix 41 = .ok (.ireturn, 1) := by decide +kernel
set_option maxRecDepth 20000 in
theorem ggX6_leastPeriod_X5_hasPeriod : GoodIn wsX6_leastPeriod wsX5_hasPeriod := goodIn_r _ [6, 7, 8, 9, 10, 5, 11, 12, 18, 19] (by decide +kernel) (by decide +kernel)
set_option maxRecDepth 20000 in
theorem gX6_leastPeriod_X5_hasPeriod : GoodIn wsX6_leastPeriod (wsV RX6 149 RX5 yX5_hasPeriod wsX5_hasPeriod) := goodIn_app (goodIn_of _ (by decide +kernel)) ggX6_leastPeriod_X5_hasPeriod
theorem dX6_leastPeriod_0 : decode cX6_leastPeriod 0 = .ok (.aload_n 0, 1) := by decide +kernel
theorem dX6_leastPeriod_1 : decode cX6_leastPeriod 1 = .ok (.getfield 38, 3) := by decide +kernel
theorem dX6_leastPeriod_4 : decode cX6_leastPeriod 4 = .ok (.getfield 96, 3) := by decide +kernel
theorem dX6_leastPeriod_7 : decode cX6_leastPeriod 7 = .ok (.astore_n 1, 1) := by decide +kernel
theorem dX6_leastPeriod_8 : decode cX6_leastPeriod 8 = .ok (.iconst 1, 1) := by decide +kernel
theorem dX6_leastPeriod_9 : decode cX6_leastPeriod 9 = .ok (.istore_n 2, 1) := by decide +kernel
theorem dX6_leastPeriod_10 : decode cX6_leastPeriod 10 = .ok (.iload_n 2, 1) := by decide +kernel
theorem dX6_leastPeriod_11 : decode cX6_leastPeriod 11 = .ok (.aload_n 1, 1) := by decide +kernel
theorem dX6_leastPeriod_12 : decode cX6_leastPeriod 12 = .ok (.getfield 93, 3) := by decide +kernel
theorem dX6_leastPeriod_15 : decode cX6_leastPeriod 15 = .ok (.if_icmp .gt 19, 3) := by decide +kernel
theorem dX6_leastPeriod_18 : decode cX6_leastPeriod 18 = .ok (.aload_n 1, 1) := by decide +kernel
theorem dX6_leastPeriod_19 : decode cX6_leastPeriod 19 = .ok (.iload_n 2, 1) := by decide +kernel
theorem dX6_leastPeriod_20 : decode cX6_leastPeriod 20 = .ok (.invokevirtual 149, 3) := by decide +kernel
theorem dX6_leastPeriod_23 : decode cX6_leastPeriod 23 = .ok (.ifCond .eq 5, 3) := by decide +kernel
theorem dX6_leastPeriod_26 : decode cX6_leastPeriod 26 = .ok (.iload_n 2, 1) := by decide +kernel
theorem dX6_leastPeriod_27 : decode cX6_leastPeriod 27 = .ok (.ireturn, 1) := by decide +kernel
theorem dX6_leastPeriod_28 : decode cX6_leastPeriod 28 = .ok (.iinc 2 1, 3) := by decide +kernel
theorem dX6_leastPeriod_31 : decode cX6_leastPeriod 31 = .ok (.goto (-21), 3) := by decide +kernel
theorem dX6_leastPeriod_34 : decode cX6_leastPeriod 34 = .ok (.bipush (-3), 2) := by decide +kernel
theorem dX6_leastPeriod_36 : decode cX6_leastPeriod 36 = .ok (.ireturn, 1) := by decide +kernel
set_option maxRecDepth 20000 in
theorem ggX6_isCentral_X5_hasPeriod : GoodIn wsX6_isCentral wsX5_hasPeriod := goodIn_r _ [6, 7, 8, 9, 10, 5, 11, 12, 25, 26] (by decide +kernel) (by decide +kernel)
set_option maxRecDepth 20000 in
theorem gX6_isCentral_X5_hasPeriod : GoodIn wsX6_isCentral (wsV RX6 149 RX5 yX5_hasPeriod wsX5_hasPeriod) := goodIn_app (goodIn_of _ (by decide +kernel)) ggX6_isCentral_X5_hasPeriod
set_option maxRecDepth 20000 in
theorem ggX6_isCentral_X6_commonDivisor : GoodIn wsX6_isCentral wsX6_commonDivisor := goodIn_r _ [16, 17, 18, 15, 19] (by decide +kernel) (by decide +kernel)
set_option maxRecDepth 20000 in
theorem gX6_isCentral_X6_commonDivisor : GoodIn wsX6_isCentral (va_wsS RX6 42 yX6_commonDivisor wsX6_commonDivisor) := goodIn_app (goodIn_of _ (by decide +kernel)) ggX6_isCentral_X6_commonDivisor
theorem dX6_isCentral_0 : decode cX6_isCentral 0 = .ok (.aload_n 0, 1) := by decide +kernel
theorem dX6_isCentral_1 : decode cX6_isCentral 1 = .ok (.getfield 38, 3) := by decide +kernel
theorem dX6_isCentral_4 : decode cX6_isCentral 4 = .ok (.getfield 96, 3) := by decide +kernel
theorem dX6_isCentral_7 : decode cX6_isCentral 7 = .ok (.astore_n 1, 1) := by decide +kernel
theorem dX6_isCentral_8 : decode cX6_isCentral 8 = .ok (.aload_n 1, 1) := by decide +kernel
theorem dX6_isCentral_9 : decode cX6_isCentral 9 = .ok (.getfield 93, 3) := by decide +kernel
theorem dX6_isCentral_12 : decode cX6_isCentral 12 = .ok (.iconst 2, 1) := by decide +kernel
theorem dX6_isCentral_13 : decode cX6_isCentral 13 = .ok (.iadd, 1) := by decide +kernel
theorem dX6_isCentral_14 : decode cX6_isCentral 14 = .ok (.istore_n 2, 1) := by decide +kernel
theorem dX6_isCentral_15 : decode cX6_isCentral 15 = .ok (.iconst 1, 1) := by decide +kernel
theorem dX6_isCentral_16 : decode cX6_isCentral 16 = .ok (.istore_n 3, 1) := by decide +kernel
theorem dX6_isCentral_17 : decode cX6_isCentral 17 = .ok (.iload_n 3, 1) := by decide +kernel
theorem dX6_isCentral_18 : decode cX6_isCentral 18 = .ok (.iload_n 2, 1) := by decide +kernel
theorem dX6_isCentral_19 : decode cX6_isCentral 19 = .ok (.if_icmp .ge 43, 3) := by decide +kernel
theorem dX6_isCentral_22 : decode cX6_isCentral 22 = .ok (.iload_n 2, 1) := by decide +kernel
theorem dX6_isCentral_23 : decode cX6_isCentral 23 = .ok (.iload_n 3, 1) := by decide +kernel
theorem dX6_isCentral_24 : decode cX6_isCentral 24 = .ok (.isub, 1) := by decide +kernel
theorem dX6_isCentral_25 : decode cX6_isCentral 25 = .ok (.istore 4, 2) := by decide +kernel
theorem dX6_isCentral_27 : decode cX6_isCentral 27 = .ok (.aload_n 1, 1) := by decide +kernel
theorem dX6_isCentral_28 : decode cX6_isCentral 28 = .ok (.iload_n 3, 1) := by decide +kernel
theorem dX6_isCentral_29 : decode cX6_isCentral 29 = .ok (.invokevirtual 149, 3) := by decide +kernel
theorem dX6_isCentral_32 : decode cX6_isCentral 32 = .ok (.ifCond .eq 24, 3) := by decide +kernel
theorem dX6_isCentral_35 : decode cX6_isCentral 35 = .ok (.aload_n 1, 1) := by decide +kernel
theorem dX6_isCentral_36 : decode cX6_isCentral 36 = .ok (.iload 4, 2) := by decide +kernel
theorem dX6_isCentral_38 : decode cX6_isCentral 38 = .ok (.invokevirtual 149, 3) := by decide +kernel
theorem dX6_isCentral_41 : decode cX6_isCentral 41 = .ok (.ifCond .eq 15, 3) := by decide +kernel
theorem dX6_isCentral_44 : decode cX6_isCentral 44 = .ok (.iload_n 3, 1) := by decide +kernel
theorem dX6_isCentral_45 : decode cX6_isCentral 45 = .ok (.iload 4, 2) := by decide +kernel
theorem dX6_isCentral_47 : decode cX6_isCentral 47 = .ok (.invokestatic 42, 3) := by decide +kernel
theorem dX6_isCentral_50 : decode cX6_isCentral 50 = .ok (.iconst 1, 1) := by decide +kernel
theorem dX6_isCentral_51 : decode cX6_isCentral 51 = .ok (.if_icmp .ne 5, 3) := by decide +kernel
theorem dX6_isCentral_54 : decode cX6_isCentral 54 = .ok (.iconst 1, 1) := by decide +kernel
theorem dX6_isCentral_55 : decode cX6_isCentral 55 = .ok (.ireturn, 1) := by decide +kernel
theorem dX6_isCentral_56 : decode cX6_isCentral 56 = .ok (.iinc 3 1, 3) := by decide +kernel
theorem dX6_isCentral_59 : decode cX6_isCentral 59 = .ok (.goto (-42), 3) := by decide +kernel
theorem dX6_isCentral_62 : decode cX6_isCentral 62 = .ok (.iconst 0, 1) := by decide +kernel
theorem dX6_isCentral_63 : decode cX6_isCentral 63 = .ok (.ireturn, 1) := by decide +kernel
set_option maxRecDepth 20000 in
theorem ggX6_simplestSlope_X5_simplest : GoodIn wsX6_simplestSlope wsX5_simplest := goodIn_r _ [6, 7, 8, 9, 10, 11, 12, 5, 13, 14, 15, 16, 17, 18, 19, 20, 21, 22, 23, 24, 25, 26, 27, 28, 29, 30, 31, 32, 33, 34, 35, 36, 37, 38, 39, 40, 41, 42, 43, 44, 45, 51, 52, 53, 54, 55] (by decide +kernel) (by decide +kernel)
set_option maxRecDepth 20000 in
theorem gX6_simplestSlope_X5_simplest : GoodIn wsX6_simplestSlope (wsV RX6 153 RX5 yX5_simplest wsX5_simplest) := goodIn_app (goodIn_of _ (by decide +kernel)) ggX6_simplestSlope_X5_simplest
theorem dX6_simplestSlope_0 : decode cX6_simplestSlope 0 = .ok (.iload_n 1, 1) := by decide +kernel
theorem dX6_simplestSlope_1 : decode cX6_simplestSlope 1 = .ok (.ifCond .lt 8, 3) := by decide +kernel
theorem dX6_simplestSlope_4 : decode cX6_simplestSlope 4 = .ok (.iload_n 1, 1) := by decide +kernel
theorem dX6_simplestSlope_5 : decode cX6_simplestSlope 5 = .ok (.iconst 2, 1) := by decide +kernel
theorem dX6_simplestSlope_6 : decode cX6_simplestSlope 6 = .ok (.if_icmp .le 5, 3) := by decide +kernel
theorem dX6_simplestSlope_9 : decode cX6_simplestSlope 9 = .ok (.iconst (-1), 1) := by decide +kernel
theorem dX6_simplestSlope_10 : decode cX6_simplestSlope 10 = .ok (.ireturn, 1) := by decide +kernel
theorem dX6_simplestSlope_11 : decode cX6_simplestSlope 11 = .ok (.aload_n 0, 1) := by decide +kernel
theorem dX6_simplestSlope_12 : decode cX6_simplestSlope 12 = .ok (.getfield 38, 3) := by decide +kernel
theorem dX6_simplestSlope_15 : decode cX6_simplestSlope 15 = .ok (.getfield 96, 3) := by decide +kernel
theorem dX6_simplestSlope_18 : decode cX6_simplestSlope 18 = .ok (.invokevirtual 153, 3) := by decide +kernel
theorem dX6_simplestSlope_21 : decode cX6_simplestSlope 21 = .ok (.astore_n 2, 1) := by decide +kernel
theorem dX6_simplestSlope_22 : decode cX6_simplestSlope 22 = .ok (.aload_n 2, 1) := by decide +kernel
theorem dX6_simplestSlope_23 : decode cX6_simplestSlope 23 = .ok (.ifnonnull 6, 3) := by decide +kernel
theorem dX6_simplestSlope_26 : decode cX6_simplestSlope 26 = .ok (.bipush (-3), 2) := by decide +kernel
theorem dX6_simplestSlope_28 : decode cX6_simplestSlope 28 = .ok (.ireturn, 1) := by decide +kernel
theorem dX6_simplestSlope_29 : decode cX6_simplestSlope 29 = .ok (.iload_n 1, 1) := by decide +kernel
theorem dX6_simplestSlope_30 : decode cX6_simplestSlope 30 = .ok (.ifCond .ne 8, 3) := by decide +kernel
theorem dX6_simplestSlope_33 : decode cX6_simplestSlope 33 = .ok (.aload_n 2, 1) := by decide +kernel
theorem dX6_simplestSlope_34 : decode cX6_simplestSlope 34 = .ok (.getfield 62, 3) := by decide +kernel
theorem dX6_simplestSlope_37 : decode cX6_simplestSlope 37 = .ok (.ireturn, 1) := by decide +kernel
theorem dX6_simplestSlope_38 : decode cX6_simplestSlope 38 = .ok (.iload_n 1, 1) := by decide +kernel
theorem dX6_simplestSlope_39 : decode cX6_simplestSlope 39 = .ok (.iconst 1, 1) := by decide +kernel
theorem dX6_simplestSlope_40 : decode cX6_simplestSlope 40 = .ok (.if_icmp .ne 10, 3) := by decide +kernel
theorem dX6_simplestSlope_43 : decode cX6_simplestSlope 43 = .ok (.aload_n 2, 1) := by decide +kernel
theorem dX6_simplestSlope_44 : decode cX6_simplestSlope 44 = .ok (.getfield 58, 3) := by decide +kernel
theorem dX6_simplestSlope_47 : decode cX6_simplestSlope 47 = .ok (.goto 7, 3) := by decide +kernel
theorem dX6_simplestSlope_50 : decode cX6_simplestSlope 50 = .ok (.aload_n 2, 1) := by decide +kernel
theorem dX6_simplestSlope_51 : decode cX6_simplestSlope 51 = .ok (.getfield 65, 3) := by decide +kernel
theorem dX6_simplestSlope_54 : decode cX6_simplestSlope 54 = .ok (.ireturn, 1) := by decide +kernel
set_option maxRecDepth 20000 in
theorem ggX6_gapSizeCount_X0_measure : GoodIn wsX6_gapSizeCount wsX0_measure := goodIn_r _ [7, 8, 9, 10, 11, 6, 12, 13, 14, 15, 16, 17, 18, 19, 20, 21, 22, 23, 24, 25, 35, 36, 37, 38, 39] (by decide +kernel) (by decide +kernel)
set_option maxRecDepth 20000 in
theorem gX6_gapSizeCount_X0_measure : GoodIn wsX6_gapSizeCount (wsV RX6 157 RX0 yX0_measure wsX0_measure) := goodIn_app (goodIn_of _ (by decide +kernel)) ggX6_gapSizeCount_X0_measure
set_option maxRecDepth 20000 in
theorem ggX6_gapSizeCount_X0_differentSizes : GoodIn wsX6_gapSizeCount wsX0_differentSizes := goodIn_r _ [29, 8, 35, 36] (by decide +kernel) (by decide +kernel)
set_option maxRecDepth 20000 in
theorem gX6_gapSizeCount_X0_differentSizes : GoodIn wsX6_gapSizeCount (wsV RX6 161 RX0 yX0_differentSizes wsX0_differentSizes) := goodIn_app (goodIn_of _ (by decide +kernel)) ggX6_gapSizeCount_X0_differentSizes
theorem dX6_gapSizeCount_0 : decode cX6_gapSizeCount 0 = .ok (.iload_n 1, 1) := by decide +kernel
theorem dX6_gapSizeCount_1 : decode cX6_gapSizeCount 1 = .ok (.iconst 1, 1) := by decide +kernel
theorem dX6_gapSizeCount_2 : decode cX6_gapSizeCount 2 = .ok (.if_icmp .lt 10, 3) := by decide +kernel
theorem dX6_gapSizeCount_5 : decode cX6_gapSizeCount 5 = .ok (.iload_n 1, 1) := by decide +kernel
theorem dX6_gapSizeCount_6 : decode cX6_gapSizeCount 6 = .ok (.sipush 1000, 3) := by decide +kernel
theorem dX6_gapSizeCount_9 : decode cX6_gapSizeCount 9 = .ok (.if_icmp .le 5, 3) := by decide +kernel
theorem dX6_gapSizeCount_12 : decode cX6_gapSizeCount 12 = .ok (.iconst (-1), 1) := by decide +kernel
theorem dX6_gapSizeCount_13 : decode cX6_gapSizeCount 13 = .ok (.ireturn, 1) := by decide +kernel
theorem dX6_gapSizeCount_14 : decode cX6_gapSizeCount 14 = .ok (.aload_n 0, 1) := by decide +kernel
theorem dX6_gapSizeCount_15 : decode cX6_gapSizeCount 15 = .ok (.getfield 19, 3) := by decide +kernel
theorem dX6_gapSizeCount_18 : decode cX6_gapSizeCount 18 = .ok (.aload_n 0, 1) := by decide +kernel
theorem dX6_gapSizeCount_19 : decode cX6_gapSizeCount 19 = .ok (.getfield 38, 3) := by decide +kernel
theorem dX6_gapSizeCount_22 : decode cX6_gapSizeCount 22 = .ok (.getfield 54, 3) := by decide +kernel
theorem dX6_gapSizeCount_25 : decode cX6_gapSizeCount 25 = .ok (.iload_n 1, 1) := by decide +kernel
theorem dX6_gapSizeCount_26 : decode cX6_gapSizeCount 26 = .ok (.invokevirtual 157, 3) := by decide +kernel
theorem dX6_gapSizeCount_29 : decode cX6_gapSizeCount 29 = .ok (.aload_n 0, 1) := by decide +kernel
theorem dX6_gapSizeCount_30 : decode cX6_gapSizeCount 30 = .ok (.getfield 19, 3) := by decide +kernel
theorem dX6_gapSizeCount_33 : decode cX6_gapSizeCount 33 = .ok (.invokevirtual 161, 3) := by decide +kernel
theorem dX6_gapSizeCount_36 : decode cX6_gapSizeCount 36 = .ok (.ireturn, 1) := by decide +kernel
set_option maxRecDepth 20000 in
theorem ggX6_gapSize_X0_measure : GoodIn wsX6_gapSize wsX0_measure := goodIn_r _ [7, 8, 9, 10, 11, 6, 12, 13, 14, 15, 16, 17, 18, 19, 20, 21, 22, 23, 24, 25, 35, 36, 37, 38, 39] (by decide +kernel) (by decide +kernel)
set_option maxRecDepth 20000 in
theorem gX6_gapSize_X0_measure : GoodIn wsX6_gapSize (wsV RX6 157 RX0 yX0_measure wsX0_measure) := goodIn_app (goodIn_of _ (by decide +kernel)) ggX6_gapSize_X0_measure
set_option maxRecDepth 20000 in
theorem ggX6_gapSize_X0_listedSize : GoodIn wsX6_gapSize wsX0_listedSize := goodIn_r _ [29, 8, 35, 36] (by decide +kernel) (by decide +kernel)
set_option maxRecDepth 20000 in
theorem gX6_gapSize_X0_listedSize : GoodIn wsX6_gapSize (wsV RX6 164 RX0 yX0_listedSize wsX0_listedSize) := goodIn_app (goodIn_of _ (by decide +kernel)) ggX6_gapSize_X0_listedSize
theorem dX6_gapSize_0 : decode cX6_gapSize 0 = .ok (.iload_n 1, 1) := by decide +kernel
theorem dX6_gapSize_1 : decode cX6_gapSize 1 = .ok (.iconst 1, 1) := by decide +kernel
theorem dX6_gapSize_2 : decode cX6_gapSize 2 = .ok (.if_icmp .lt 14, 3) := by decide +kernel
theorem dX6_gapSize_5 : decode cX6_gapSize 5 = .ok (.iload_n 1, 1) := by decide +kernel
theorem dX6_gapSize_6 : decode cX6_gapSize 6 = .ok (.sipush 1000, 3) := by decide +kernel
theorem dX6_gapSize_9 : decode cX6_gapSize 9 = .ok (.if_icmp .gt 7, 3) := by decide +kernel
theorem dX6_gapSize_12 : decode cX6_gapSize 12 = .ok (.iload_n 2, 1) := by decide +kernel
theorem dX6_gapSize_13 : decode cX6_gapSize 13 = .ok (.ifCond .ge 5, 3) := by decide +kernel
theorem dX6_gapSize_16 : decode cX6_gapSize 16 = .ok (.iconst (-1), 1) := by decide +kernel
theorem dX6_gapSize_17 : decode cX6_gapSize 17 = .ok (.ireturn, 1) := by decide +kernel
theorem dX6_gapSize_18 : decode cX6_gapSize 18 = .ok (.aload_n 0, 1) := by decide +kernel
theorem dX6_gapSize_19 : decode cX6_gapSize 19 = .ok (.getfield 19, 3) := by decide +kernel
theorem dX6_gapSize_22 : decode cX6_gapSize 22 = .ok (.aload_n 0, 1) := by decide +kernel
theorem dX6_gapSize_23 : decode cX6_gapSize 23 = .ok (.getfield 38, 3) := by decide +kernel
theorem dX6_gapSize_26 : decode cX6_gapSize 26 = .ok (.getfield 54, 3) := by decide +kernel
theorem dX6_gapSize_29 : decode cX6_gapSize 29 = .ok (.iload_n 1, 1) := by decide +kernel
theorem dX6_gapSize_30 : decode cX6_gapSize 30 = .ok (.invokevirtual 157, 3) := by decide +kernel
theorem dX6_gapSize_33 : decode cX6_gapSize 33 = .ok (.aload_n 0, 1) := by decide +kernel
theorem dX6_gapSize_34 : decode cX6_gapSize 34 = .ok (.getfield 19, 3) := by decide +kernel
theorem dX6_gapSize_37 : decode cX6_gapSize 37 = .ok (.iload_n 2, 1) := by decide +kernel
theorem dX6_gapSize_38 : decode cX6_gapSize 38 = .ok (.invokevirtual 164, 3) := by decide +kernel
theorem dX6_gapSize_41 : decode cX6_gapSize 41 = .ok (.istore_n 3, 1) := by decide +kernel
theorem dX6_gapSize_42 : decode cX6_gapSize 42 = .ok (.iload_n 3, 1) := by decide +kernel
theorem dX6_gapSize_43 : decode cX6_gapSize 43 = .ok (.iconst (-1), 1) := by decide +kernel
theorem dX6_gapSize_44 : decode cX6_gapSize 44 = .ok (.if_icmp .ne 8, 3) := by decide +kernel
theorem dX6_gapSize_47 : decode cX6_gapSize 47 = .ok (.bipush (-3), 2) := by decide +kernel
theorem dX6_gapSize_49 : decode cX6_gapSize 49 = .ok (.goto 4, 3) := by decide +kernel
theorem dX6_gapSize_52 : decode cX6_gapSize 52 = .ok (.iload_n 3, 1) := by decide +kernel
theorem dX6_gapSize_53 : decode cX6_gapSize 53 = .ok (.ireturn, 1) := by decide +kernel
set_option maxRecDepth 20000 in
theorem ggX6_gapsOfSize_X0_measure : GoodIn wsX6_gapsOfSize wsX0_measure := goodIn_r _ [7, 8, 9, 10, 11, 6, 12, 13, 14, 15, 16, 17, 18, 19, 20, 21, 22, 23, 24, 25, 35, 36, 37, 38, 39] (by decide +kernel) (by decide +kernel)
set_option maxRecDepth 20000 in
theorem gX6_gapsOfSize_X0_measure : GoodIn wsX6_gapsOfSize (wsV RX6 157 RX0 yX0_measure wsX0_measure) := goodIn_app (goodIn_of _ (by decide +kernel)) ggX6_gapsOfSize_X0_measure
set_option maxRecDepth 20000 in
theorem ggX6_gapsOfSize_X0_gapsWith : GoodIn wsX6_gapsOfSize wsX0_gapsWith := goodIn_r _ [29, 8, 35, 36] (by decide +kernel) (by decide +kernel)
set_option maxRecDepth 20000 in
theorem gX6_gapsOfSize_X0_gapsWith : GoodIn wsX6_gapsOfSize (wsV RX6 167 RX0 yX0_gapsWith wsX0_gapsWith) := goodIn_app (goodIn_of _ (by decide +kernel)) ggX6_gapsOfSize_X0_gapsWith
theorem dX6_gapsOfSize_0 : decode cX6_gapsOfSize 0 = .ok (.iload_n 1, 1) := by decide +kernel
theorem dX6_gapsOfSize_1 : decode cX6_gapsOfSize 1 = .ok (.iconst 1, 1) := by decide +kernel
theorem dX6_gapsOfSize_2 : decode cX6_gapsOfSize 2 = .ok (.if_icmp .lt 15, 3) := by decide +kernel
theorem dX6_gapsOfSize_5 : decode cX6_gapsOfSize 5 = .ok (.iload_n 1, 1) := by decide +kernel
theorem dX6_gapsOfSize_6 : decode cX6_gapsOfSize 6 = .ok (.sipush 1000, 3) := by decide +kernel
theorem dX6_gapsOfSize_9 : decode cX6_gapsOfSize 9 = .ok (.if_icmp .gt 8, 3) := by decide +kernel
theorem dX6_gapsOfSize_12 : decode cX6_gapsOfSize 12 = .ok (.iload_n 2, 1) := by decide +kernel
theorem dX6_gapsOfSize_13 : decode cX6_gapsOfSize 13 = .ok (.iconst 1, 1) := by decide +kernel
theorem dX6_gapsOfSize_14 : decode cX6_gapsOfSize 14 = .ok (.if_icmp .ge 5, 3) := by decide +kernel
theorem dX6_gapsOfSize_17 : decode cX6_gapsOfSize 17 = .ok (.iconst (-1), 1) := by decide +kernel
theorem dX6_gapsOfSize_18 : decode cX6_gapsOfSize 18 = .ok (.ireturn, 1) := by decide +kernel
theorem dX6_gapsOfSize_19 : decode cX6_gapsOfSize 19 = .ok (.aload_n 0, 1) := by decide +kernel
theorem dX6_gapsOfSize_20 : decode cX6_gapsOfSize 20 = .ok (.getfield 19, 3) := by decide +kernel
theorem dX6_gapsOfSize_23 : decode cX6_gapsOfSize 23 = .ok (.aload_n 0, 1) := by decide +kernel
theorem dX6_gapsOfSize_24 : decode cX6_gapsOfSize 24 = .ok (.getfield 38, 3) := by decide +kernel
theorem dX6_gapsOfSize_27 : decode cX6_gapsOfSize 27 = .ok (.getfield 54, 3) := by decide +kernel
theorem dX6_gapsOfSize_30 : decode cX6_gapsOfSize 30 = .ok (.iload_n 1, 1) := by decide +kernel
theorem dX6_gapsOfSize_31 : decode cX6_gapsOfSize 31 = .ok (.invokevirtual 157, 3) := by decide +kernel
theorem dX6_gapsOfSize_34 : decode cX6_gapsOfSize 34 = .ok (.aload_n 0, 1) := by decide +kernel
theorem dX6_gapsOfSize_35 : decode cX6_gapsOfSize 35 = .ok (.getfield 19, 3) := by decide +kernel
theorem dX6_gapsOfSize_38 : decode cX6_gapsOfSize 38 = .ok (.iload_n 2, 1) := by decide +kernel
theorem dX6_gapsOfSize_39 : decode cX6_gapsOfSize 39 = .ok (.invokevirtual 167, 3) := by decide +kernel
theorem dX6_gapsOfSize_42 : decode cX6_gapsOfSize 42 = .ok (.ireturn, 1) := by decide +kernel
theorem dX6_historySize_0 : decode cX6_historySize 0 = .ok (.aload_n 0, 1) := by decide +kernel
theorem dX6_historySize_1 : decode cX6_historySize 1 = .ok (.getfield 10, 3) := by decide +kernel
theorem dX6_historySize_4 : decode cX6_historySize 4 = .ok (.getfield 127, 3) := by decide +kernel
theorem dX6_historySize_7 : decode cX6_historySize 7 = .ok (.ireturn, 1) := by decide +kernel
set_option maxRecDepth 20000 in
theorem ggX6_changeSlope_X1_keep : GoodIn wsX6_changeSlope wsX1_keep := goodIn_r _ [10, 11, 12, 13, 14, 15, 16, 17, 31, 32, 33] (by decide +kernel) (by decide +kernel)
set_option maxRecDepth 20000 in
theorem gX6_changeSlope_X1_keep : GoodIn wsX6_changeSlope (wsV RX6 170 RX1 yX1_keep wsX1_keep) := goodIn_app (goodIn_of _ (by decide +kernel)) ggX6_changeSlope_X1_keep
set_option maxRecDepth 20000 in
theorem ggX6_changeSlope_X4_init : GoodIn wsX6_changeSlope wsX4_init := goodIn_r _ [20, 21, 22, 23, 24, 25, 29, 30] (by decide +kernel) (by decide +kernel)
set_option maxRecDepth 20000 in
theorem gX6_changeSlope_X4_init : GoodIn wsX6_changeSlope (wsX4_init) := ggX6_changeSlope_X4_init
theorem dX6_changeSlope_0 : decode cX6_changeSlope 0 = .ok (.aload_n 0, 1) := by decide +kernel
theorem dX6_changeSlope_1 : decode cX6_changeSlope 1 = .ok (.getfield 10, 3) := by decide +kernel
theorem dX6_changeSlope_4 : decode cX6_changeSlope 4 = .ok (.aload_n 0, 1) := by decide +kernel
theorem dX6_changeSlope_5 : decode cX6_changeSlope 5 = .ok (.getfield 38, 3) := by decide +kernel
theorem dX6_changeSlope_8 : decode cX6_changeSlope 8 = .ok (.invokevirtual 170, 3) := by decide +kernel
theorem dX6_changeSlope_11 : decode cX6_changeSlope 11 = .ok (.aload_n 0, 1) := by decide +kernel
theorem dX6_changeSlope_12 : decode cX6_changeSlope 12 = .ok (.new 23, 3) := by decide +kernel
theorem dX6_changeSlope_15 : decode cX6_changeSlope 15 = .ok (.dup, 1) := by decide +kernel
theorem dX6_changeSlope_16 : decode cX6_changeSlope 16 = .ok (.aload_n 1, 1) := by decide +kernel
theorem dX6_changeSlope_17 : decode cX6_changeSlope 17 = .ok (.aload_n 0, 1) := by decide +kernel
theorem dX6_changeSlope_18 : decode cX6_changeSlope 18 = .ok (.getfield 38, 3) := by decide +kernel
theorem dX6_changeSlope_21 : decode cX6_changeSlope 21 = .ok (.getfield 96, 3) := by decide +kernel
theorem dX6_changeSlope_24 : decode cX6_changeSlope 24 = .ok (.invokespecial 35, 3) := by decide +kernel
theorem dX6_changeSlope_27 : decode cX6_changeSlope 27 = .ok (.putfield 38, 3) := by decide +kernel
theorem dX6_changeSlope_30 : decode cX6_changeSlope 30 = .ok (.return_, 1) := by decide +kernel
set_option maxRecDepth 20000 in
theorem ggX6_changeWord_X1_keep : GoodIn wsX6_changeWord wsX1_keep := goodIn_r _ [10, 11, 12, 13, 14, 15, 16, 17, 31, 32, 33] (by decide +kernel) (by decide +kernel)
set_option maxRecDepth 20000 in
theorem gX6_changeWord_X1_keep : GoodIn wsX6_changeWord (wsV RX6 170 RX1 yX1_keep wsX1_keep) := goodIn_app (goodIn_of _ (by decide +kernel)) ggX6_changeWord_X1_keep
set_option maxRecDepth 20000 in
theorem ggX6_changeWord_X4_init : GoodIn wsX6_changeWord wsX4_init := goodIn_r _ [20, 21, 22, 23, 24, 25, 29, 30] (by decide +kernel) (by decide +kernel)
set_option maxRecDepth 20000 in
theorem gX6_changeWord_X4_init : GoodIn wsX6_changeWord (wsX4_init) := ggX6_changeWord_X4_init
theorem dX6_changeWord_0 : decode cX6_changeWord 0 = .ok (.aload_n 0, 1) := by decide +kernel
theorem dX6_changeWord_1 : decode cX6_changeWord 1 = .ok (.getfield 10, 3) := by decide +kernel
theorem dX6_changeWord_4 : decode cX6_changeWord 4 = .ok (.aload_n 0, 1) := by decide +kernel
theorem dX6_changeWord_5 : decode cX6_changeWord 5 = .ok (.getfield 38, 3) := by decide +kernel
theorem dX6_changeWord_8 : decode cX6_changeWord 8 = .ok (.invokevirtual 170, 3) := by decide +kernel
theorem dX6_changeWord_11 : decode cX6_changeWord 11 = .ok (.aload_n 0, 1) := by decide +kernel
theorem dX6_changeWord_12 : decode cX6_changeWord 12 = .ok (.new 23, 3) := by decide +kernel
theorem dX6_changeWord_15 : decode cX6_changeWord 15 = .ok (.dup, 1) := by decide +kernel
theorem dX6_changeWord_16 : decode cX6_changeWord 16 = .ok (.aload_n 0, 1) := by decide +kernel
theorem dX6_changeWord_17 : decode cX6_changeWord 17 = .ok (.getfield 38, 3) := by decide +kernel
theorem dX6_changeWord_20 : decode cX6_changeWord 20 = .ok (.getfield 54, 3) := by decide +kernel
theorem dX6_changeWord_23 : decode cX6_changeWord 23 = .ok (.aload_n 1, 1) := by decide +kernel
theorem dX6_changeWord_24 : decode cX6_changeWord 24 = .ok (.invokespecial 35, 3) := by decide +kernel
theorem dX6_changeWord_27 : decode cX6_changeWord 27 = .ok (.putfield 38, 3) := by decide +kernel
theorem dX6_changeWord_30 : decode cX6_changeWord 30 = .ok (.return_, 1) := by decide +kernel
theorem dX6_quotient_0 : decode cX6_quotient 0 = .ok (.lload_n 2, 1) := by decide +kernel
theorem dX6_quotient_1 : decode cX6_quotient 1 = .ok (.lconst 1, 1) := by decide +kernel
theorem dX6_quotient_2 : decode cX6_quotient 2 = .ok (.lcmp, 1) := by decide +kernel
theorem dX6_quotient_3 : decode cX6_quotient 3 = .ok (.ifCond .ge 7, 3) := by decide +kernel
theorem dX6_quotient_6 : decode cX6_quotient 6 = .ok (.lconst 0, 1) := by decide +kernel
theorem dX6_quotient_7 : decode cX6_quotient 7 = .ok (.goto 6, 3) := by decide +kernel
theorem dX6_quotient_10 : decode cX6_quotient 10 = .ok (.lload_n 0, 1) := by decide +kernel
theorem dX6_quotient_11 : decode cX6_quotient 11 = .ok (.lload_n 2, 1) := by decide +kernel
theorem dX6_quotient_12 : decode cX6_quotient 12 = .ok (.ldiv, 1) := by decide +kernel
theorem dX6_quotient_13 : decode cX6_quotient 13 = .ok (.lreturn, 1) := by decide +kernel
set_option maxRecDepth 20000 in
theorem ggX6_commonDivisor_X6_quotient : GoodIn wsX6_commonDivisor wsX6_quotient := goodIn_r _ [4] (by decide +kernel) (by decide +kernel)
set_option maxRecDepth 20000 in
theorem gX6_commonDivisor_X6_quotient : GoodIn wsX6_commonDivisor (va_wsS RX6 46 yX6_quotient wsX6_quotient) := goodIn_app (goodIn_of _ (by decide +kernel)) ggX6_commonDivisor_X6_quotient
theorem dX6_commonDivisor_0 : decode cX6_commonDivisor 0 = .ok (.iload_n 1, 1) := by decide +kernel
theorem dX6_commonDivisor_1 : decode cX6_commonDivisor 1 = .ok (.istore_n 2, 1) := by decide +kernel
theorem dX6_commonDivisor_2 : decode cX6_commonDivisor 2 = .ok (.iload_n 0, 1) := by decide +kernel
theorem dX6_commonDivisor_3 : decode cX6_commonDivisor 3 = .ok (.istore_n 3, 1) := by decide +kernel
theorem dX6_commonDivisor_4 : decode cX6_commonDivisor 4 = .ok (.iconst 0, 1) := by decide +kernel
theorem dX6_commonDivisor_5 : decode cX6_commonDivisor 5 = .ok (.istore 4, 2) := by decide +kernel
theorem dX6_commonDivisor_7 : decode cX6_commonDivisor 7 = .ok (.iload 4, 2) := by decide +kernel
theorem dX6_commonDivisor_9 : decode cX6_commonDivisor 9 = .ok (.sipush 1000, 3) := by decide +kernel
theorem dX6_commonDivisor_12 : decode cX6_commonDivisor 12 = .ok (.if_icmp .ge 32, 3) := by decide +kernel
theorem dX6_commonDivisor_15 : decode cX6_commonDivisor 15 = .ok (.iload_n 3, 1) := by decide +kernel
theorem dX6_commonDivisor_16 : decode cX6_commonDivisor 16 = .ok (.ifCond .le 28, 3) := by decide +kernel
theorem dX6_commonDivisor_19 : decode cX6_commonDivisor 19 = .ok (.iload_n 2, 1) := by decide +kernel
theorem dX6_commonDivisor_20 : decode cX6_commonDivisor 20 = .ok (.iload_n 2, 1) := by decide +kernel
theorem dX6_commonDivisor_21 : decode cX6_commonDivisor 21 = .ok (.i2l, 1) := by decide +kernel
theorem dX6_commonDivisor_22 : decode cX6_commonDivisor 22 = .ok (.iload_n 3, 1) := by decide +kernel
theorem dX6_commonDivisor_23 : decode cX6_commonDivisor 23 = .ok (.i2l, 1) := by decide +kernel
theorem dX6_commonDivisor_24 : decode cX6_commonDivisor 24 = .ok (.invokestatic 46, 3) := by decide +kernel
theorem dX6_commonDivisor_27 : decode cX6_commonDivisor 27 = .ok (.l2i, 1) := by decide +kernel
theorem dX6_commonDivisor_28 : decode cX6_commonDivisor 28 = .ok (.iload_n 3, 1) := by decide +kernel
theorem dX6_commonDivisor_29 : decode cX6_commonDivisor 29 = .ok (.imul, 1) := by decide +kernel
theorem dX6_commonDivisor_30 : decode cX6_commonDivisor 30 = .ok (.isub, 1) := by decide +kernel
theorem dX6_commonDivisor_31 : decode cX6_commonDivisor 31 = .ok (.istore 5, 2) := by decide +kernel
theorem dX6_commonDivisor_33 : decode cX6_commonDivisor 33 = .ok (.iload_n 3, 1) := by decide +kernel
theorem dX6_commonDivisor_34 : decode cX6_commonDivisor 34 = .ok (.istore_n 2, 1) := by decide +kernel
theorem dX6_commonDivisor_35 : decode cX6_commonDivisor 35 = .ok (.iload 5, 2) := by decide +kernel
theorem dX6_commonDivisor_37 : decode cX6_commonDivisor 37 = .ok (.istore_n 3, 1) := by decide +kernel
theorem dX6_commonDivisor_38 : decode cX6_commonDivisor 38 = .ok (.iinc 4 1, 3) := by decide +kernel
theorem dX6_commonDivisor_41 : decode cX6_commonDivisor 41 = .ok (.goto (-34), 3) := by decide +kernel
theorem dX6_commonDivisor_44 : decode cX6_commonDivisor 44 = .ok (.iload_n 2, 1) := by decide +kernel
theorem dX6_commonDivisor_45 : decode cX6_commonDivisor 45 = .ok (.ireturn, 1) := by decide +kernel
end
section
theorem dX7_init_0 : decode cX7_init 0 = .ok (.aload_n 0, 1) := by decide +kernel
theorem dX7_init_1 : decode cX7_init 1 = .ok (.invokespecial 1, 3) := by decide +kernel
theorem dX7_init_4 : decode cX7_init 4 = .ok (.aload_n 0, 1) := by decide +kernel
theorem dX7_init_5 : decode cX7_init 5 = .ok (.bipush 64, 2) := by decide +kernel
theorem dX7_init_7 : decode cX7_init 7 = .ok (.newarray .int, 2) := by decide +kernel
theorem dX7_init_9 : decode cX7_init 9 = .ok (.putfield 7, 3) := by decide +kernel
theorem dX7_init_12 : decode cX7_init 12 = .ok (.aload_n 0, 1) := by decide +kernel
theorem dX7_init_13 : decode cX7_init 13 = .ok (.bipush 64, 2) := by decide +kernel
theorem dX7_init_15 : decode cX7_init 15 = .ok (.newarray .int, 2) := by decide +kernel
theorem dX7_init_17 : decode cX7_init 17 = .ok (.putfield 13, 3) := by decide +kernel
theorem dX7_init_20 : decode cX7_init 20 = .ok (.aload_n 0, 1) := by decide +kernel
theorem dX7_init_21 : decode cX7_init 21 = .ok (.sipush 384, 3) := by decide +kernel
theorem dX7_init_24 : decode cX7_init 24 = .ok (.newarray .int, 2) := by decide +kernel
theorem dX7_init_26 : decode cX7_init 26 = .ok (.putfield 16, 3) := by decide +kernel
theorem dX7_init_29 : decode cX7_init 29 = .ok (.aload_n 0, 1) := by decide +kernel
theorem dX7_init_30 : decode cX7_init 30 = .ok (.bipush 20, 2) := by decide +kernel
theorem dX7_init_32 : decode cX7_init 32 = .ok (.newarray .int, 2) := by decide +kernel
theorem dX7_init_34 : decode cX7_init 34 = .ok (.putfield 19, 3) := by decide +kernel
theorem dX7_init_37 : decode cX7_init 37 = .ok (.aload_n 0, 1) := by decide +kernel
theorem dX7_init_38 : decode cX7_init 38 = .ok (.bipush 60, 2) := by decide +kernel
theorem dX7_init_40 : decode cX7_init 40 = .ok (.newarray .int, 2) := by decide +kernel
theorem dX7_init_42 : decode cX7_init 42 = .ok (.putfield 22, 3) := by decide +kernel
theorem dX7_init_45 : decode cX7_init 45 = .ok (.aload_n 0, 1) := by decide +kernel
theorem dX7_init_46 : decode cX7_init 46 = .ok (.bipush 60, 2) := by decide +kernel
theorem dX7_init_48 : decode cX7_init 48 = .ok (.newarray .int, 2) := by decide +kernel
theorem dX7_init_50 : decode cX7_init 50 = .ok (.putfield 25, 3) := by decide +kernel
theorem dX7_init_53 : decode cX7_init 53 = .ok (.aload_n 0, 1) := by decide +kernel
theorem dX7_init_54 : decode cX7_init 54 = .ok (.sipush 1000, 3) := by decide +kernel
theorem dX7_init_57 : decode cX7_init 57 = .ok (.newarray .boolean, 2) := by decide +kernel
theorem dX7_init_59 : decode cX7_init 59 = .ok (.putfield 28, 3) := by decide +kernel
theorem dX7_init_62 : decode cX7_init 62 = .ok (.aload_n 0, 1) := by decide +kernel
theorem dX7_init_63 : decode cX7_init 63 = .ok (.getfield 7, 3) := by decide +kernel
theorem dX7_init_66 : decode cX7_init 66 = .ok (.iconst 0, 1) := by decide +kernel
theorem dX7_init_67 : decode cX7_init 67 = .ok (.iconst 5, 1) := by decide +kernel
theorem dX7_init_68 : decode cX7_init 68 = .ok (.iastore, 1) := by decide +kernel
theorem dX7_init_69 : decode cX7_init 69 = .ok (.aload_n 0, 1) := by decide +kernel
theorem dX7_init_70 : decode cX7_init 70 = .ok (.getfield 7, 3) := by decide +kernel
theorem dX7_init_73 : decode cX7_init 73 = .ok (.iconst 1, 1) := by decide +kernel
theorem dX7_init_74 : decode cX7_init 74 = .ok (.bipush 13, 2) := by decide +kernel
theorem dX7_init_76 : decode cX7_init 76 = .ok (.iastore, 1) := by decide +kernel
theorem dX7_init_77 : decode cX7_init 77 = .ok (.return_, 1) := by decide +kernel
theorem dX7_in_0 : decode cX7_in 0 = .ok (.iload_n 0, 1) := by decide +kernel
theorem dX7_in_1 : decode cX7_in 1 = .ok (.iload_n 1, 1) := by decide +kernel
theorem dX7_in_2 : decode cX7_in 2 = .ok (.if_icmp .lt 12, 3) := by decide +kernel
theorem dX7_in_5 : decode cX7_in 5 = .ok (.iload_n 0, 1) := by decide +kernel
theorem dX7_in_6 : decode cX7_in 6 = .ok (.iload_n 2, 1) := by decide +kernel
theorem dX7_in_7 : decode cX7_in 7 = .ok (.if_icmp .gt 7, 3) := by decide +kernel
theorem dX7_in_10 : decode cX7_in 10 = .ok (.iconst 1, 1) := by decide +kernel
theorem dX7_in_11 : decode cX7_in 11 = .ok (.goto 4, 3) := by decide +kernel
theorem dX7_in_14 : decode cX7_in 14 = .ok (.iconst 0, 1) := by decide +kernel
theorem dX7_in_15 : decode cX7_in 15 = .ok (.ireturn, 1) := by decide +kernel
theorem dX7_copy_0 : decode cX7_copy 0 = .ok (.iconst 0, 1) := by decide +kernel
theorem dX7_copy_1 : decode cX7_copy 1 = .ok (.istore 4, 2) := by decide +kernel
theorem dX7_copy_3 : decode cX7_copy 3 = .ok (.iload 4, 2) := by decide +kernel
theorem dX7_copy_5 : decode cX7_copy 5 = .ok (.bipush 64, 2) := by decide +kernel
theorem dX7_copy_7 : decode cX7_copy 7 = .ok (.if_icmp .ge 21, 3) := by decide +kernel
theorem dX7_copy_10 : decode cX7_copy 10 = .ok (.aload_n 2, 1) := by decide +kernel
theorem dX7_copy_11 : decode cX7_copy 11 = .ok (.iload_n 3, 1) := by decide +kernel
theorem dX7_copy_12 : decode cX7_copy 12 = .ok (.iload 4, 2) := by decide +kernel
theorem dX7_copy_14 : decode cX7_copy 14 = .ok (.iadd, 1) := by decide +kernel
theorem dX7_copy_15 : decode cX7_copy 15 = .ok (.aload_n 0, 1) := by decide +kernel
theorem dX7_copy_16 : decode cX7_copy 16 = .ok (.iload_n 1, 1) := by decide +kernel
theorem dX7_copy_17 : decode cX7_copy 17 = .ok (.iload 4, 2) := by decide +kernel
theorem dX7_copy_19 : decode cX7_copy 19 = .ok (.iadd, 1) := by decide +kernel
theorem dX7_copy_20 : decode cX7_copy 20 = .ok (.iaload, 1) := by decide +kernel
theorem dX7_copy_21 : decode cX7_copy 21 = .ok (.iastore, 1) := by decide +kernel
theorem dX7_copy_22 : decode cX7_copy 22 = .ok (.iinc 4 1, 3) := by decide +kernel
theorem dX7_copy_25 : decode cX7_copy 25 = .ok (.goto (-22), 3) := by decide +kernel
theorem dX7_copy_28 : decode cX7_copy 28 = .ok (.return_, 1) := by decide +kernel
set_option maxRecDepth 20000 in
theorem ggX7_save_X7_copy : GoodIn wsX7_save wsX7_copy := goodIn_r _ [7] (by decide +kernel) (by decide +kernel)
set_option maxRecDepth 20000 in
theorem gX7_save_X7_copy : GoodIn wsX7_save (va_wsS RX7 36 yX7_copy wsX7_copy) := goodIn_app (goodIn_of _ (by decide +kernel)) ggX7_save_X7_copy
theorem dX7_save_0 : decode cX7_save 0 = .ok (.aload_n 0, 1) := by decide +kernel
theorem dX7_save_1 : decode cX7_save 1 = .ok (.getfield 32, 3) := by decide +kernel
theorem dX7_save_4 : decode cX7_save 4 = .ok (.bipush 6, 2) := by decide +kernel
theorem dX7_save_6 : decode cX7_save 6 = .ok (.if_icmp .ne 43, 3) := by decide +kernel
theorem dX7_save_9 : decode cX7_save 9 = .ok (.iconst 0, 1) := by decide +kernel
theorem dX7_save_10 : decode cX7_save 10 = .ok (.istore_n 1, 1) := by decide +kernel
theorem dX7_save_11 : decode cX7_save 11 = .ok (.iload_n 1, 1) := by decide +kernel
theorem dX7_save_12 : decode cX7_save 12 = .ok (.sipush 320, 3) := by decide +kernel
theorem dX7_save_15 : decode cX7_save 15 = .ok (.if_icmp .ge 24, 3) := by decide +kernel
theorem dX7_save_18 : decode cX7_save 18 = .ok (.aload_n 0, 1) := by decide +kernel
theorem dX7_save_19 : decode cX7_save 19 = .ok (.getfield 16, 3) := by decide +kernel
theorem dX7_save_22 : decode cX7_save 22 = .ok (.iload_n 1, 1) := by decide +kernel
theorem dX7_save_23 : decode cX7_save 23 = .ok (.aload_n 0, 1) := by decide +kernel
theorem dX7_save_24 : decode cX7_save 24 = .ok (.getfield 16, 3) := by decide +kernel
theorem dX7_save_27 : decode cX7_save 27 = .ok (.iload_n 1, 1) := by decide +kernel
theorem dX7_save_28 : decode cX7_save 28 = .ok (.bipush 64, 2) := by decide +kernel
theorem dX7_save_30 : decode cX7_save 30 = .ok (.iadd, 1) := by decide +kernel
theorem dX7_save_31 : decode cX7_save 31 = .ok (.iaload, 1) := by decide +kernel
theorem dX7_save_32 : decode cX7_save 32 = .ok (.iastore, 1) := by decide +kernel
theorem dX7_save_33 : decode cX7_save 33 = .ok (.iinc 1 1, 3) := by decide +kernel
theorem dX7_save_36 : decode cX7_save 36 = .ok (.goto (-25), 3) := by decide +kernel
theorem dX7_save_39 : decode cX7_save 39 = .ok (.aload_n 0, 1) := by decide +kernel
theorem dX7_save_40 : decode cX7_save 40 = .ok (.dup, 1) := by decide +kernel
theorem dX7_save_41 : decode cX7_save 41 = .ok (.getfield 32, 3) := by decide +kernel
theorem dX7_save_44 : decode cX7_save 44 = .ok (.iconst 1, 1) := by decide +kernel
theorem dX7_save_45 : decode cX7_save 45 = .ok (.isub, 1) := by decide +kernel
theorem dX7_save_46 : decode cX7_save 46 = .ok (.putfield 32, 3) := by decide +kernel
theorem dX7_save_49 : decode cX7_save 49 = .ok (.aload_n 0, 1) := by decide +kernel
theorem dX7_save_50 : decode cX7_save 50 = .ok (.getfield 7, 3) := by decide +kernel
theorem dX7_save_53 : decode cX7_save 53 = .ok (.iconst 0, 1) := by decide +kernel
theorem dX7_save_54 : decode cX7_save 54 = .ok (.aload_n 0, 1) := by decide +kernel
theorem dX7_save_55 : decode cX7_save 55 = .ok (.getfield 16, 3) := by decide +kernel
theorem dX7_save_58 : decode cX7_save 58 = .ok (.bipush 64, 2) := by decide +kernel
theorem dX7_save_60 : decode cX7_save 60 = .ok (.aload_n 0, 1) := by decide +kernel
theorem dX7_save_61 : decode cX7_save 61 = .ok (.getfield 32, 3) := by decide +kernel
theorem dX7_save_64 : decode cX7_save 64 = .ok (.imul, 1) := by decide +kernel
theorem dX7_save_65 : decode cX7_save 65 = .ok (.invokestatic 36, 3) := by decide +kernel
theorem dX7_save_68 : decode cX7_save 68 = .ok (.aload_n 0, 1) := by decide +kernel
theorem dX7_save_69 : decode cX7_save 69 = .ok (.dup, 1) := by decide +kernel
theorem dX7_save_70 : decode cX7_save 70 = .ok (.getfield 32, 3) := by decide +kernel
theorem dX7_save_73 : decode cX7_save 73 = .ok (.iconst 1, 1) := by decide +kernel
theorem dX7_save_74 : decode cX7_save 74 = .ok (.iadd, 1) := by decide +kernel
theorem dX7_save_75 : decode cX7_save 75 = .ok (.putfield 32, 3) := by decide +kernel
theorem dX7_save_78 : decode cX7_save 78 = .ok (.return_, 1) := by decide +kernel
set_option maxRecDepth 20000 in
theorem ggX7_take_X7_save : GoodIn wsX7_take wsX7_save := goodIn_r _ [7, 8, 9, 2, 10, 11, 6, 12, 13, 14, 15, 16, 17, 18, 19, 20, 21, 22, 23] (by decide +kernel) (by decide +kernel)
set_option maxRecDepth 20000 in
theorem gX7_take_X7_save : GoodIn wsX7_take (wsV RX7 40 RX7 yX7_save wsX7_save) := goodIn_app (goodIn_of _ (by decide +kernel)) ggX7_take_X7_save
set_option maxRecDepth 20000 in
theorem ggX7_take_X7_copy : GoodIn wsX7_take wsX7_copy := goodIn_r _ [12] (by decide +kernel) (by decide +kernel)
set_option maxRecDepth 20000 in
theorem gX7_take_X7_copy : GoodIn wsX7_take (va_wsS RX7 36 yX7_copy wsX7_copy) := goodIn_app (goodIn_of _ (by decide +kernel)) ggX7_take_X7_copy
theorem dX7_take_0 : decode cX7_take 0 = .ok (.aload_n 0, 1) := by decide +kernel
theorem dX7_take_1 : decode cX7_take 1 = .ok (.invokevirtual 40, 3) := by decide +kernel
theorem dX7_take_4 : decode cX7_take 4 = .ok (.aload_n 0, 1) := by decide +kernel
theorem dX7_take_5 : decode cX7_take 5 = .ok (.getfield 13, 3) := by decide +kernel
theorem dX7_take_8 : decode cX7_take 8 = .ok (.iconst 0, 1) := by decide +kernel
theorem dX7_take_9 : decode cX7_take 9 = .ok (.aload_n 0, 1) := by decide +kernel
theorem dX7_take_10 : decode cX7_take 10 = .ok (.getfield 7, 3) := by decide +kernel
theorem dX7_take_13 : decode cX7_take 13 = .ok (.iconst 0, 1) := by decide +kernel
theorem dX7_take_14 : decode cX7_take 14 = .ok (.iaload, 1) := by decide +kernel
theorem dX7_take_15 : decode cX7_take 15 = .ok (.iastore, 1) := by decide +kernel
theorem dX7_take_16 : decode cX7_take 16 = .ok (.aload_n 0, 1) := by decide +kernel
theorem dX7_take_17 : decode cX7_take 17 = .ok (.getfield 13, 3) := by decide +kernel
theorem dX7_take_20 : decode cX7_take 20 = .ok (.iconst 1, 1) := by decide +kernel
theorem dX7_take_21 : decode cX7_take 21 = .ok (.aload_n 0, 1) := by decide +kernel
theorem dX7_take_22 : decode cX7_take 22 = .ok (.getfield 7, 3) := by decide +kernel
theorem dX7_take_25 : decode cX7_take 25 = .ok (.iconst 1, 1) := by decide +kernel
theorem dX7_take_26 : decode cX7_take 26 = .ok (.iaload, 1) := by decide +kernel
theorem dX7_take_27 : decode cX7_take 27 = .ok (.iastore, 1) := by decide +kernel
theorem dX7_take_28 : decode cX7_take 28 = .ok (.aload_n 0, 1) := by decide +kernel
theorem dX7_take_29 : decode cX7_take 29 = .ok (.getfield 13, 3) := by decide +kernel
theorem dX7_take_32 : decode cX7_take 32 = .ok (.iconst 2, 1) := by decide +kernel
theorem dX7_take_33 : decode cX7_take 33 = .ok (.aload_n 0, 1) := by decide +kernel
theorem dX7_take_34 : decode cX7_take 34 = .ok (.getfield 7, 3) := by decide +kernel
theorem dX7_take_37 : decode cX7_take 37 = .ok (.iconst 2, 1) := by decide +kernel
theorem dX7_take_38 : decode cX7_take 38 = .ok (.iaload, 1) := by decide +kernel
theorem dX7_take_39 : decode cX7_take 39 = .ok (.iastore, 1) := by decide +kernel
theorem dX7_take_40 : decode cX7_take 40 = .ok (.aload_n 0, 1) := by decide +kernel
theorem dX7_take_41 : decode cX7_take 41 = .ok (.getfield 13, 3) := by decide +kernel
theorem dX7_take_44 : decode cX7_take 44 = .ok (.iconst 0, 1) := by decide +kernel
theorem dX7_take_45 : decode cX7_take 45 = .ok (.aload_n 0, 1) := by decide +kernel
theorem dX7_take_46 : decode cX7_take 46 = .ok (.getfield 7, 3) := by decide +kernel
theorem dX7_take_49 : decode cX7_take 49 = .ok (.iconst 0, 1) := by decide +kernel
theorem dX7_take_50 : decode cX7_take 50 = .ok (.invokestatic 36, 3) := by decide +kernel
theorem dX7_take_53 : decode cX7_take 53 = .ok (.return_, 1) := by decide +kernel
theorem dX7_divisor_0 : decode cX7_divisor 0 = .ok (.iload_n 0, 1) := by decide +kernel
theorem dX7_divisor_1 : decode cX7_divisor 1 = .ok (.istore_n 2, 1) := by decide +kernel
theorem dX7_divisor_2 : decode cX7_divisor 2 = .ok (.iload_n 1, 1) := by decide +kernel
theorem dX7_divisor_3 : decode cX7_divisor 3 = .ok (.istore_n 3, 1) := by decide +kernel
theorem dX7_divisor_4 : decode cX7_divisor 4 = .ok (.iload_n 3, 1) := by decide +kernel
theorem dX7_divisor_5 : decode cX7_divisor 5 = .ok (.ifCond .eq 16, 3) := by decide +kernel
theorem dX7_divisor_8 : decode cX7_divisor 8 = .ok (.iload_n 2, 1) := by decide +kernel
theorem dX7_divisor_9 : decode cX7_divisor 9 = .ok (.iload_n 3, 1) := by decide +kernel
theorem dX7_divisor_10 : decode cX7_divisor 10 = .ok (.irem, 1) := by decide +kernel
theorem dX7_divisor_11 : decode cX7_divisor 11 = .ok (.istore 4, 2) := by decide +kernel
theorem dX7_divisor_13 : decode cX7_divisor 13 = .ok (.iload_n 3, 1) := by decide +kernel
theorem dX7_divisor_14 : decode cX7_divisor 14 = .ok (.istore_n 2, 1) := by decide +kernel
theorem dX7_divisor_15 : decode cX7_divisor 15 = .ok (.iload 4, 2) := by decide +kernel
theorem dX7_divisor_17 : decode cX7_divisor 17 = .ok (.istore_n 3, 1) := by decide +kernel
theorem dX7_divisor_18 : decode cX7_divisor 18 = .ok (.goto (-14), 3) := by decide +kernel
theorem dX7_divisor_21 : decode cX7_divisor 21 = .ok (.iload_n 2, 1) := by decide +kernel
theorem dX7_divisor_22 : decode cX7_divisor 22 = .ok (.ireturn, 1) := by decide +kernel
set_option maxRecDepth 20000 in
theorem ggX7_setSlope_X7_in : GoodIn wsX7_setSlope wsX7_in := goodIn_r _ [5] (by decide +kernel) (by decide +kernel)
set_option maxRecDepth 20000 in
theorem gX7_setSlope_X7_in : GoodIn wsX7_setSlope (va_wsS RX7 43 yX7_in wsX7_in) := goodIn_app (goodIn_of _ (by decide +kernel)) ggX7_setSlope_X7_in
set_option maxRecDepth 20000 in
theorem ggX7_setSlope_X7_save : GoodIn wsX7_setSlope wsX7_save := goodIn_r _ [9, 10, 11, 1, 12, 13, 4, 14, 18, 19, 20, 21, 22, 23, 24, 25, 26, 27, 28] (by decide +kernel) (by decide +kernel)
set_option maxRecDepth 20000 in
theorem gX7_setSlope_X7_save : GoodIn wsX7_setSlope (wsV RX7 40 RX7 yX7_save wsX7_save) := goodIn_app (goodIn_of _ (by decide +kernel)) ggX7_setSlope_X7_save
set_option maxRecDepth 20000 in
theorem ggX7_setSlope_X7_divisor : GoodIn wsX7_setSlope wsX7_divisor := goodIn_r _ [17] (by decide +kernel) (by decide +kernel)
set_option maxRecDepth 20000 in
theorem gX7_setSlope_X7_divisor : GoodIn wsX7_setSlope (va_wsS RX7 47 yX7_divisor wsX7_divisor) := goodIn_app (goodIn_of _ (by decide +kernel)) ggX7_setSlope_X7_divisor
theorem dX7_setSlope_0 : decode cX7_setSlope 0 = .ok (.iload_n 2, 1) := by decide +kernel
theorem dX7_setSlope_1 : decode cX7_setSlope 1 = .ok (.iconst 1, 1) := by decide +kernel
theorem dX7_setSlope_2 : decode cX7_setSlope 2 = .ok (.sipush 1000, 3) := by decide +kernel
theorem dX7_setSlope_5 : decode cX7_setSlope 5 = .ok (.invokestatic 43, 3) := by decide +kernel
theorem dX7_setSlope_8 : decode cX7_setSlope 8 = .ok (.ifCond .eq 12, 3) := by decide +kernel
theorem dX7_setSlope_11 : decode cX7_setSlope 11 = .ok (.iload_n 1, 1) := by decide +kernel
theorem dX7_setSlope_12 : decode cX7_setSlope 12 = .ok (.iconst 0, 1) := by decide +kernel
theorem dX7_setSlope_13 : decode cX7_setSlope 13 = .ok (.iload_n 2, 1) := by decide +kernel
theorem dX7_setSlope_14 : decode cX7_setSlope 14 = .ok (.invokestatic 43, 3) := by decide +kernel
theorem dX7_setSlope_17 : decode cX7_setSlope 17 = .ok (.ifCond .ne 5, 3) := by decide +kernel
theorem dX7_setSlope_20 : decode cX7_setSlope 20 = .ok (.iconst (-1), 1) := by decide +kernel
theorem dX7_setSlope_21 : decode cX7_setSlope 21 = .ok (.ireturn, 1) := by decide +kernel
theorem dX7_setSlope_22 : decode cX7_setSlope 22 = .ok (.aload_n 0, 1) := by decide +kernel
theorem dX7_setSlope_23 : decode cX7_setSlope 23 = .ok (.invokevirtual 40, 3) := by decide +kernel
theorem dX7_setSlope_26 : decode cX7_setSlope 26 = .ok (.iload_n 1, 1) := by decide +kernel
theorem dX7_setSlope_27 : decode cX7_setSlope 27 = .ok (.iload_n 2, 1) := by decide +kernel
theorem dX7_setSlope_28 : decode cX7_setSlope 28 = .ok (.invokestatic 47, 3) := by decide +kernel
theorem dX7_setSlope_31 : decode cX7_setSlope 31 = .ok (.istore_n 3, 1) := by decide +kernel
theorem dX7_setSlope_32 : decode cX7_setSlope 32 = .ok (.aload_n 0, 1) := by decide +kernel
theorem dX7_setSlope_33 : decode cX7_setSlope 33 = .ok (.getfield 7, 3) := by decide +kernel
theorem dX7_setSlope_36 : decode cX7_setSlope 36 = .ok (.iconst 0, 1) := by decide +kernel
theorem dX7_setSlope_37 : decode cX7_setSlope 37 = .ok (.iload_n 1, 1) := by decide +kernel
theorem dX7_setSlope_38 : decode cX7_setSlope 38 = .ok (.iload_n 3, 1) := by decide +kernel
theorem dX7_setSlope_39 : decode cX7_setSlope 39 = .ok (.idiv, 1) := by decide +kernel
theorem dX7_setSlope_40 : decode cX7_setSlope 40 = .ok (.iastore, 1) := by decide +kernel
theorem dX7_setSlope_41 : decode cX7_setSlope 41 = .ok (.aload_n 0, 1) := by decide +kernel
theorem dX7_setSlope_42 : decode cX7_setSlope 42 = .ok (.getfield 7, 3) := by decide +kernel
theorem dX7_setSlope_45 : decode cX7_setSlope 45 = .ok (.iconst 1, 1) := by decide +kernel
theorem dX7_setSlope_46 : decode cX7_setSlope 46 = .ok (.iload_n 2, 1) := by decide +kernel
theorem dX7_setSlope_47 : decode cX7_setSlope 47 = .ok (.iload_n 3, 1) := by decide +kernel
theorem dX7_setSlope_48 : decode cX7_setSlope 48 = .ok (.idiv, 1) := by decide +kernel
theorem dX7_setSlope_49 : decode cX7_setSlope 49 = .ok (.iastore, 1) := by decide +kernel
theorem dX7_setSlope_50 : decode cX7_setSlope 50 = .ok (.aload_n 0, 1) := by decide +kernel
theorem dX7_setSlope_51 : decode cX7_setSlope 51 = .ok (.getfield 7, 3) := by decide +kernel
theorem dX7_setSlope_54 : decode cX7_setSlope 54 = .ok (.iconst 2, 1) := by decide +kernel
theorem dX7_setSlope_55 : decode cX7_setSlope 55 = .ok (.iconst 0, 1) := by decide +kernel
theorem dX7_setSlope_56 : decode cX7_setSlope 56 = .ok (.iastore, 1) := by decide +kernel
theorem dX7_setSlope_57 : decode cX7_setSlope 57 = .ok (.aload_n 0, 1) := by decide +kernel
theorem dX7_setSlope_58 : decode cX7_setSlope 58 = .ok (.getfield 7, 3) := by decide +kernel
theorem dX7_setSlope_61 : decode cX7_setSlope 61 = .ok (.iconst 1, 1) := by decide +kernel
theorem dX7_setSlope_62 : decode cX7_setSlope 62 = .ok (.iaload, 1) := by decide +kernel
theorem dX7_setSlope_63 : decode cX7_setSlope 63 = .ok (.ireturn, 1) := by decide +kernel
set_option maxRecDepth 20000 in
theorem ggX7_setIntercept_X7_in : GoodIn wsX7_setIntercept wsX7_in := goodIn_r _ [5] (by decide +kernel) (by decide +kernel)
set_option maxRecDepth 20000 in
theorem gX7_setIntercept_X7_in : GoodIn wsX7_setIntercept (va_wsS RX7 43 yX7_in wsX7_in) := goodIn_app (goodIn_of _ (by decide +kernel)) ggX7_setIntercept_X7_in
set_option maxRecDepth 20000 in
theorem ggX7_setIntercept_X7_save : GoodIn wsX7_setIntercept wsX7_save := goodIn_r _ [9, 10, 11, 1, 12, 13, 4, 14, 15, 16, 17, 18, 19, 20, 21, 22, 23, 24, 25] (by decide +kernel) (by decide +kernel)
set_option maxRecDepth 20000 in
theorem gX7_setIntercept_X7_save : GoodIn wsX7_setIntercept (wsV RX7 40 RX7 yX7_save wsX7_save) := goodIn_app (goodIn_of _ (by decide +kernel)) ggX7_setIntercept_X7_save
theorem dX7_setIntercept_0 : decode cX7_setIntercept 0 = .ok (.iload_n 1, 1) := by decide +kernel
theorem dX7_setIntercept_1 : decode cX7_setIntercept 1 = .ok (.iconst 0, 1) := by decide +kernel
theorem dX7_setIntercept_2 : decode cX7_setIntercept 2 = .ok (.aload_n 0, 1) := by decide +kernel
theorem dX7_setIntercept_3 : decode cX7_setIntercept 3 = .ok (.getfield 7, 3) := by decide +kernel
theorem dX7_setIntercept_6 : decode cX7_setIntercept 6 = .ok (.iconst 1, 1) := by decide +kernel
theorem dX7_setIntercept_7 : decode cX7_setIntercept 7 = .ok (.iaload, 1) := by decide +kernel
theorem dX7_setIntercept_8 : decode cX7_setIntercept 8 = .ok (.iconst 1, 1) := by decide +kernel
theorem dX7_setIntercept_9 : decode cX7_setIntercept 9 = .ok (.isub, 1) := by decide +kernel
theorem dX7_setIntercept_10 : decode cX7_setIntercept 10 = .ok (.invokestatic 43, 3) := by decide +kernel
theorem dX7_setIntercept_13 : decode cX7_setIntercept 13 = .ok (.ifCond .ne 5, 3) := by decide +kernel
theorem dX7_setIntercept_16 : decode cX7_setIntercept 16 = .ok (.iconst (-1), 1) := by decide +kernel
theorem dX7_setIntercept_17 : decode cX7_setIntercept 17 = .ok (.ireturn, 1) := by decide +kernel
theorem dX7_setIntercept_18 : decode cX7_setIntercept 18 = .ok (.aload_n 0, 1) := by decide +kernel
theorem dX7_setIntercept_19 : decode cX7_setIntercept 19 = .ok (.invokevirtual 40, 3) := by decide +kernel
theorem dX7_setIntercept_22 : decode cX7_setIntercept 22 = .ok (.aload_n 0, 1) := by decide +kernel
theorem dX7_setIntercept_23 : decode cX7_setIntercept 23 = .ok (.getfield 7, 3) := by decide +kernel
theorem dX7_setIntercept_26 : decode cX7_setIntercept 26 = .ok (.iconst 2, 1) := by decide +kernel
theorem dX7_setIntercept_27 : decode cX7_setIntercept 27 = .ok (.iaload, 1) := by decide +kernel
theorem dX7_setIntercept_28 : decode cX7_setIntercept 28 = .ok (.istore_n 2, 1) := by decide +kernel
theorem dX7_setIntercept_29 : decode cX7_setIntercept 29 = .ok (.aload_n 0, 1) := by decide +kernel
theorem dX7_setIntercept_30 : decode cX7_setIntercept 30 = .ok (.getfield 7, 3) := by decide +kernel
theorem dX7_setIntercept_33 : decode cX7_setIntercept 33 = .ok (.iconst 2, 1) := by decide +kernel
theorem dX7_setIntercept_34 : decode cX7_setIntercept 34 = .ok (.iload_n 1, 1) := by decide +kernel
theorem dX7_setIntercept_35 : decode cX7_setIntercept 35 = .ok (.iastore, 1) := by decide +kernel
theorem dX7_setIntercept_36 : decode cX7_setIntercept 36 = .ok (.iload_n 2, 1) := by decide +kernel
theorem dX7_setIntercept_37 : decode cX7_setIntercept 37 = .ok (.ireturn, 1) := by decide +kernel
theorem dX7_slopeNumerator_0 : decode cX7_slopeNumerator 0 = .ok (.aload_n 0, 1) := by decide +kernel
theorem dX7_slopeNumerator_1 : decode cX7_slopeNumerator 1 = .ok (.getfield 7, 3) := by decide +kernel
theorem dX7_slopeNumerator_4 : decode cX7_slopeNumerator 4 = .ok (.iconst 0, 1) := by decide +kernel
theorem dX7_slopeNumerator_5 : decode cX7_slopeNumerator 5 = .ok (.iaload, 1) := by decide +kernel
theorem dX7_slopeNumerator_6 : decode cX7_slopeNumerator 6 = .ok (.ireturn, 1) := by decide +kernel
theorem dX7_slopeDenominator_0 : decode cX7_slopeDenominator 0 = .ok (.aload_n 0, 1) := by decide +kernel
theorem dX7_slopeDenominator_1 : decode cX7_slopeDenominator 1 = .ok (.getfield 7, 3) := by decide +kernel
theorem dX7_slopeDenominator_4 : decode cX7_slopeDenominator 4 = .ok (.iconst 1, 1) := by decide +kernel
theorem dX7_slopeDenominator_5 : decode cX7_slopeDenominator 5 = .ok (.iaload, 1) := by decide +kernel
theorem dX7_slopeDenominator_6 : decode cX7_slopeDenominator 6 = .ok (.ireturn, 1) := by decide +kernel
theorem dX7_expand_0 : decode cX7_expand 0 = .ok (.aload_n 0, 1) := by decide +kernel
theorem dX7_expand_1 : decode cX7_expand 1 = .ok (.iconst 0, 1) := by decide +kernel
theorem dX7_expand_2 : decode cX7_expand 2 = .ok (.putfield 51, 3) := by decide +kernel
theorem dX7_expand_5 : decode cX7_expand 5 = .ok (.aload_n 0, 1) := by decide +kernel
theorem dX7_expand_6 : decode cX7_expand 6 = .ok (.getfield 7, 3) := by decide +kernel
theorem dX7_expand_9 : decode cX7_expand 9 = .ok (.iconst 1, 1) := by decide +kernel
theorem dX7_expand_10 : decode cX7_expand 10 = .ok (.iaload, 1) := by decide +kernel
theorem dX7_expand_11 : decode cX7_expand 11 = .ok (.istore_n 1, 1) := by decide +kernel
theorem dX7_expand_12 : decode cX7_expand 12 = .ok (.aload_n 0, 1) := by decide +kernel
theorem dX7_expand_13 : decode cX7_expand 13 = .ok (.getfield 7, 3) := by decide +kernel
theorem dX7_expand_16 : decode cX7_expand 16 = .ok (.iconst 0, 1) := by decide +kernel
theorem dX7_expand_17 : decode cX7_expand 17 = .ok (.iaload, 1) := by decide +kernel
theorem dX7_expand_18 : decode cX7_expand 18 = .ok (.istore_n 2, 1) := by decide +kernel
theorem dX7_expand_19 : decode cX7_expand 19 = .ok (.iload_n 2, 1) := by decide +kernel
theorem dX7_expand_20 : decode cX7_expand 20 = .ok (.ifCond .eq 36, 3) := by decide +kernel
theorem dX7_expand_23 : decode cX7_expand 23 = .ok (.aload_n 0, 1) := by decide +kernel
theorem dX7_expand_24 : decode cX7_expand 24 = .ok (.getfield 19, 3) := by decide +kernel
theorem dX7_expand_27 : decode cX7_expand 27 = .ok (.aload_n 0, 1) := by decide +kernel
theorem dX7_expand_28 : decode cX7_expand 28 = .ok (.getfield 51, 3) := by decide +kernel
theorem dX7_expand_31 : decode cX7_expand 31 = .ok (.iload_n 1, 1) := by decide +kernel
theorem dX7_expand_32 : decode cX7_expand 32 = .ok (.iload_n 2, 1) := by decide +kernel
theorem dX7_expand_33 : decode cX7_expand 33 = .ok (.idiv, 1) := by decide +kernel
theorem dX7_expand_34 : decode cX7_expand 34 = .ok (.iastore, 1) := by decide +kernel
theorem dX7_expand_35 : decode cX7_expand 35 = .ok (.aload_n 0, 1) := by decide +kernel
theorem dX7_expand_36 : decode cX7_expand 36 = .ok (.dup, 1) := by decide +kernel
theorem dX7_expand_37 : decode cX7_expand 37 = .ok (.getfield 51, 3) := by decide +kernel
theorem dX7_expand_40 : decode cX7_expand 40 = .ok (.iconst 1, 1) := by decide +kernel
theorem dX7_expand_41 : decode cX7_expand 41 = .ok (.iadd, 1) := by decide +kernel
theorem dX7_expand_42 : decode cX7_expand 42 = .ok (.putfield 51, 3) := by decide +kernel
theorem dX7_expand_45 : decode cX7_expand 45 = .ok (.iload_n 1, 1) := by decide +kernel
theorem dX7_expand_46 : decode cX7_expand 46 = .ok (.iload_n 2, 1) := by decide +kernel
theorem dX7_expand_47 : decode cX7_expand 47 = .ok (.irem, 1) := by decide +kernel
theorem dX7_expand_48 : decode cX7_expand 48 = .ok (.istore_n 3, 1) := by decide +kernel
theorem dX7_expand_49 : decode cX7_expand 49 = .ok (.iload_n 2, 1) := by decide +kernel
theorem dX7_expand_50 : decode cX7_expand 50 = .ok (.istore_n 1, 1) := by decide +kernel
theorem dX7_expand_51 : decode cX7_expand 51 = .ok (.iload_n 3, 1) := by decide +kernel
theorem dX7_expand_52 : decode cX7_expand 52 = .ok (.istore_n 2, 1) := by decide +kernel
theorem dX7_expand_53 : decode cX7_expand 53 = .ok (.goto (-34), 3) := by decide +kernel
theorem dX7_expand_56 : decode cX7_expand 56 = .ok (.return_, 1) := by decide +kernel
set_option maxRecDepth 20000 in
theorem ggX7_continuedFractionTerm_X7_expand : GoodIn wsX7_continuedFractionTerm wsX7_expand := goodIn_r _ [7, 1, 8, 2, 9, 10, 11, 12, 13, 14, 15, 16, 17, 18, 19] (by decide +kernel) (by decide +kernel)
set_option maxRecDepth 20000 in
theorem gX7_continuedFractionTerm_X7_expand : GoodIn wsX7_continuedFractionTerm (wsV RX7 54 RX7 yX7_expand wsX7_expand) := goodIn_app (goodIn_of _ (by decide +kernel)) ggX7_continuedFractionTerm_X7_expand
theorem dX7_continuedFractionTerm_0 : decode cX7_continuedFractionTerm 0 = .ok (.iload_n 1, 1) := by decide +kernel
theorem dX7_continuedFractionTerm_1 : decode cX7_continuedFractionTerm 1 = .ok (.iconst 1, 1) := by decide +kernel
theorem dX7_continuedFractionTerm_2 : decode cX7_continuedFractionTerm 2 = .ok (.if_icmp .ge 5, 3) := by decide +kernel
theorem dX7_continuedFractionTerm_5 : decode cX7_continuedFractionTerm 5 = .ok (.iconst (-1), 1) := by decide +kernel
theorem dX7_continuedFractionTerm_6 : decode cX7_continuedFractionTerm 6 = .ok (.ireturn, 1) := by decide +kernel
theorem dX7_continuedFractionTerm_7 : decode cX7_continuedFractionTerm 7 = .ok (.aload_n 0, 1) := by decide +kernel
theorem dX7_continuedFractionTerm_8 : decode cX7_continuedFractionTerm 8 = .ok (.invokevirtual 54, 3) := by decide +kernel
theorem dX7_continuedFractionTerm_11 : decode cX7_continuedFractionTerm 11 = .ok (.iload_n 1, 1) := by decide +kernel
theorem dX7_continuedFractionTerm_12 : decode cX7_continuedFractionTerm 12 = .ok (.aload_n 0, 1) := by decide +kernel
theorem dX7_continuedFractionTerm_13 : decode cX7_continuedFractionTerm 13 = .ok (.getfield 51, 3) := by decide +kernel
theorem dX7_continuedFractionTerm_16 : decode cX7_continuedFractionTerm 16 = .ok (.if_icmp .gt 14, 3) := by decide +kernel
theorem dX7_continuedFractionTerm_19 : decode cX7_continuedFractionTerm 19 = .ok (.aload_n 0, 1) := by decide +kernel
theorem dX7_continuedFractionTerm_20 : decode cX7_continuedFractionTerm 20 = .ok (.getfield 19, 3) := by decide +kernel
theorem dX7_continuedFractionTerm_23 : decode cX7_continuedFractionTerm 23 = .ok (.iload_n 1, 1) := by decide +kernel
theorem dX7_continuedFractionTerm_24 : decode cX7_continuedFractionTerm 24 = .ok (.iconst 1, 1) := by decide +kernel
theorem dX7_continuedFractionTerm_25 : decode cX7_continuedFractionTerm 25 = .ok (.isub, 1) := by decide +kernel
theorem dX7_continuedFractionTerm_26 : decode cX7_continuedFractionTerm 26 = .ok (.iaload, 1) := by decide +kernel
theorem dX7_continuedFractionTerm_27 : decode cX7_continuedFractionTerm 27 = .ok (.goto 5, 3) := by decide +kernel
theorem dX7_continuedFractionTerm_30 : decode cX7_continuedFractionTerm 30 = .ok (.bipush (-3), 2) := by decide +kernel
theorem dX7_continuedFractionTerm_32 : decode cX7_continuedFractionTerm 32 = .ok (.ireturn, 1) := by decide +kernel
theorem dX7_roundedUp_0 : decode cX7_roundedUp 0 = .ok (.iload_n 0, 1) := by decide +kernel
theorem dX7_roundedUp_1 : decode cX7_roundedUp 1 = .ok (.iload_n 1, 1) := by decide +kernel
theorem dX7_roundedUp_2 : decode cX7_roundedUp 2 = .ok (.iadd, 1) := by decide +kernel
theorem dX7_roundedUp_3 : decode cX7_roundedUp 3 = .ok (.iconst 1, 1) := by decide +kernel
theorem dX7_roundedUp_4 : decode cX7_roundedUp 4 = .ok (.isub, 1) := by decide +kernel
theorem dX7_roundedUp_5 : decode cX7_roundedUp 5 = .ok (.iload_n 1, 1) := by decide +kernel
theorem dX7_roundedUp_6 : decode cX7_roundedUp 6 = .ok (.idiv, 1) := by decide +kernel
theorem dX7_roundedUp_7 : decode cX7_roundedUp 7 = .ok (.ireturn, 1) := by decide +kernel
set_option maxRecDepth 20000 in
theorem ggX7_letterOf_X7_roundedUp : GoodIn wsX7_letterOf wsX7_roundedUp := goodIn_r _ [5] (by decide +kernel) (by decide +kernel)
set_option maxRecDepth 20000 in
theorem gX7_letterOf_X7_roundedUp : GoodIn wsX7_letterOf (va_wsS RX7 57 yX7_roundedUp wsX7_roundedUp) := goodIn_app (goodIn_of _ (by decide +kernel)) ggX7_letterOf_X7_roundedUp
theorem dX7_letterOf_0 : decode cX7_letterOf 0 = .ok (.iload_n 1, 1) := by decide +kernel
theorem dX7_letterOf_1 : decode cX7_letterOf 1 = .ok (.aload_n 0, 1) := by decide +kernel
theorem dX7_letterOf_2 : decode cX7_letterOf 2 = .ok (.getfield 7, 3) := by decide +kernel
theorem dX7_letterOf_5 : decode cX7_letterOf 5 = .ok (.iconst 0, 1) := by decide +kernel
theorem dX7_letterOf_6 : decode cX7_letterOf 6 = .ok (.iaload, 1) := by decide +kernel
theorem dX7_letterOf_7 : decode cX7_letterOf 7 = .ok (.imul, 1) := by decide +kernel
theorem dX7_letterOf_8 : decode cX7_letterOf 8 = .ok (.aload_n 0, 1) := by decide +kernel
theorem dX7_letterOf_9 : decode cX7_letterOf 9 = .ok (.getfield 7, 3) := by decide +kernel
theorem dX7_letterOf_12 : decode cX7_letterOf 12 = .ok (.iconst 2, 1) := by decide +kernel
theorem dX7_letterOf_13 : decode cX7_letterOf 13 = .ok (.iaload, 1) := by decide +kernel
theorem dX7_letterOf_14 : decode cX7_letterOf 14 = .ok (.iadd, 1) := by decide +kernel
theorem dX7_letterOf_15 : decode cX7_letterOf 15 = .ok (.istore_n 3, 1) := by decide +kernel
theorem dX7_letterOf_16 : decode cX7_letterOf 16 = .ok (.iload_n 3, 1) := by decide +kernel
theorem dX7_letterOf_17 : decode cX7_letterOf 17 = .ok (.aload_n 0, 1) := by decide +kernel
theorem dX7_letterOf_18 : decode cX7_letterOf 18 = .ok (.getfield 7, 3) := by decide +kernel
theorem dX7_letterOf_21 : decode cX7_letterOf 21 = .ok (.iconst 0, 1) := by decide +kernel
theorem dX7_letterOf_22 : decode cX7_letterOf 22 = .ok (.iaload, 1) := by decide +kernel
theorem dX7_letterOf_23 : decode cX7_letterOf 23 = .ok (.iadd, 1) := by decide +kernel
theorem dX7_letterOf_24 : decode cX7_letterOf 24 = .ok (.istore 4, 2) := by decide +kernel
theorem dX7_letterOf_26 : decode cX7_letterOf 26 = .ok (.iload_n 2, 1) := by decide +kernel
theorem dX7_letterOf_27 : decode cX7_letterOf 27 = .ok (.ifCond .eq 28, 3) := by decide +kernel
theorem dX7_letterOf_30 : decode cX7_letterOf 30 = .ok (.iload 4, 2) := by decide +kernel
theorem dX7_letterOf_32 : decode cX7_letterOf 32 = .ok (.aload_n 0, 1) := by decide +kernel
theorem dX7_letterOf_33 : decode cX7_letterOf 33 = .ok (.getfield 7, 3) := by decide +kernel
theorem dX7_letterOf_36 : decode cX7_letterOf 36 = .ok (.iconst 1, 1) := by decide +kernel
theorem dX7_letterOf_37 : decode cX7_letterOf 37 = .ok (.iaload, 1) := by decide +kernel
theorem dX7_letterOf_38 : decode cX7_letterOf 38 = .ok (.invokestatic 57, 3) := by decide +kernel
theorem dX7_letterOf_41 : decode cX7_letterOf 41 = .ok (.iload_n 3, 1) := by decide +kernel
theorem dX7_letterOf_42 : decode cX7_letterOf 42 = .ok (.aload_n 0, 1) := by decide +kernel
theorem dX7_letterOf_43 : decode cX7_letterOf 43 = .ok (.getfield 7, 3) := by decide +kernel
theorem dX7_letterOf_46 : decode cX7_letterOf 46 = .ok (.iconst 1, 1) := by decide +kernel
theorem dX7_letterOf_47 : decode cX7_letterOf 47 = .ok (.iaload, 1) := by decide +kernel
theorem dX7_letterOf_48 : decode cX7_letterOf 48 = .ok (.invokestatic 57, 3) := by decide +kernel
theorem dX7_letterOf_51 : decode cX7_letterOf 51 = .ok (.isub, 1) := by decide +kernel
theorem dX7_letterOf_52 : decode cX7_letterOf 52 = .ok (.goto 21, 3) := by decide +kernel
theorem dX7_letterOf_55 : decode cX7_letterOf 55 = .ok (.iload 4, 2) := by decide +kernel
theorem dX7_letterOf_57 : decode cX7_letterOf 57 = .ok (.aload_n 0, 1) := by decide +kernel
theorem dX7_letterOf_58 : decode cX7_letterOf 58 = .ok (.getfield 7, 3) := by decide +kernel
theorem dX7_letterOf_61 : decode cX7_letterOf 61 = .ok (.iconst 1, 1) := by decide +kernel
theorem dX7_letterOf_62 : decode cX7_letterOf 62 = .ok (.iaload, 1) := by decide +kernel
theorem dX7_letterOf_63 : decode cX7_letterOf 63 = .ok (.idiv, 1) := by decide +kernel
theorem dX7_letterOf_64 : decode cX7_letterOf 64 = .ok (.iload_n 3, 1) := by decide +kernel
theorem dX7_letterOf_65 : decode cX7_letterOf 65 = .ok (.aload_n 0, 1) := by decide +kernel
theorem dX7_letterOf_66 : decode cX7_letterOf 66 = .ok (.getfield 7, 3) := by decide +kernel
theorem dX7_letterOf_69 : decode cX7_letterOf 69 = .ok (.iconst 1, 1) := by decide +kernel
theorem dX7_letterOf_70 : decode cX7_letterOf 70 = .ok (.iaload, 1) := by decide +kernel
theorem dX7_letterOf_71 : decode cX7_letterOf 71 = .ok (.idiv, 1) := by decide +kernel
theorem dX7_letterOf_72 : decode cX7_letterOf 72 = .ok (.isub, 1) := by decide +kernel
theorem dX7_letterOf_73 : decode cX7_letterOf 73 = .ok (.ireturn, 1) := by decide +kernel
set_option maxRecDepth 20000 in
theorem ggX7_mechanicalLetter_X7_in : GoodIn wsX7_mechanicalLetter wsX7_in := goodIn_r _ [5] (by decide +kernel) (by decide +kernel)
set_option maxRecDepth 20000 in
theorem gX7_mechanicalLetter_X7_in : GoodIn wsX7_mechanicalLetter (va_wsS RX7 43 yX7_in wsX7_in) := goodIn_app (goodIn_of _ (by decide +kernel)) ggX7_mechanicalLetter_X7_in
set_option maxRecDepth 20000 in
theorem ggX7_mechanicalLetter_X7_letterOf : GoodIn wsX7_mechanicalLetter wsX7_letterOf := goodIn_r _ [9, 10, 11, 12, 4, 13, 14, 15, 16, 17, 18, 19, 20, 21, 22, 23, 24] (by decide +kernel) (by decide +kernel)
set_option maxRecDepth 20000 in
theorem gX7_mechanicalLetter_X7_letterOf : GoodIn wsX7_mechanicalLetter (wsV RX7 61 RX7 yX7_letterOf wsX7_letterOf) := goodIn_app (goodIn_of _ (by decide +kernel)) ggX7_mechanicalLetter_X7_letterOf
theorem dX7_mechanicalLetter_0 : decode cX7_mechanicalLetter 0 = .ok (.iload_n 1, 1) := by decide +kernel
theorem dX7_mechanicalLetter_1 : decode cX7_mechanicalLetter 1 = .ok (.iconst 0, 1) := by decide +kernel
theorem dX7_mechanicalLetter_2 : decode cX7_mechanicalLetter 2 = .ok (.ldc 60, 2) := by decide +kernel
theorem dX7_mechanicalLetter_4 : decode cX7_mechanicalLetter 4 = .ok (.invokestatic 43, 3) := by decide +kernel
theorem dX7_mechanicalLetter_7 : decode cX7_mechanicalLetter 7 = .ok (.ifCond .eq 12, 3) := by decide +kernel
theorem dX7_mechanicalLetter_10 : decode cX7_mechanicalLetter 10 = .ok (.aload_n 0, 1) := by decide +kernel
theorem dX7_mechanicalLetter_11 : decode cX7_mechanicalLetter 11 = .ok (.iload_n 1, 1) := by decide +kernel
theorem dX7_mechanicalLetter_12 : decode cX7_mechanicalLetter 12 = .ok (.iload_n 2, 1) := by decide +kernel
theorem dX7_mechanicalLetter_13 : decode cX7_mechanicalLetter 13 = .ok (.invokevirtual 61, 3) := by decide +kernel
theorem dX7_mechanicalLetter_16 : decode cX7_mechanicalLetter 16 = .ok (.goto 4, 3) := by decide +kernel
theorem dX7_mechanicalLetter_19 : decode cX7_mechanicalLetter 19 = .ok (.iconst (-1), 1) := by decide +kernel
theorem dX7_mechanicalLetter_20 : decode cX7_mechanicalLetter 20 = .ok (.ireturn, 1) := by decide +kernel
theorem dX7_weightOf_0 : decode cX7_weightOf 0 = .ok (.iconst 0, 1) := by decide +kernel
theorem dX7_weightOf_1 : decode cX7_weightOf 1 = .ok (.istore_n 1, 1) := by decide +kernel
theorem dX7_weightOf_2 : decode cX7_weightOf 2 = .ok (.iconst 0, 1) := by decide +kernel
theorem dX7_weightOf_3 : decode cX7_weightOf 3 = .ok (.istore_n 2, 1) := by decide +kernel
theorem dX7_weightOf_4 : decode cX7_weightOf 4 = .ok (.iload_n 2, 1) := by decide +kernel
theorem dX7_weightOf_5 : decode cX7_weightOf 5 = .ok (.aload_n 0, 1) := by decide +kernel
theorem dX7_weightOf_6 : decode cX7_weightOf 6 = .ok (.iconst 3, 1) := by decide +kernel
theorem dX7_weightOf_7 : decode cX7_weightOf 7 = .ok (.iaload, 1) := by decide +kernel
theorem dX7_weightOf_8 : decode cX7_weightOf 8 = .ok (.if_icmp .ge 17, 3) := by decide +kernel
theorem dX7_weightOf_11 : decode cX7_weightOf 11 = .ok (.iload_n 1, 1) := by decide +kernel
theorem dX7_weightOf_12 : decode cX7_weightOf 12 = .ok (.aload_n 0, 1) := by decide +kernel
theorem dX7_weightOf_13 : decode cX7_weightOf 13 = .ok (.iconst 4, 1) := by decide +kernel
theorem dX7_weightOf_14 : decode cX7_weightOf 14 = .ok (.iload_n 2, 1) := by decide +kernel
theorem dX7_weightOf_15 : decode cX7_weightOf 15 = .ok (.iadd, 1) := by decide +kernel
theorem dX7_weightOf_16 : decode cX7_weightOf 16 = .ok (.iaload, 1) := by decide +kernel
theorem dX7_weightOf_17 : decode cX7_weightOf 17 = .ok (.iadd, 1) := by decide +kernel
theorem dX7_weightOf_18 : decode cX7_weightOf 18 = .ok (.istore_n 1, 1) := by decide +kernel
theorem dX7_weightOf_19 : decode cX7_weightOf 19 = .ok (.iinc 2 1, 3) := by decide +kernel
theorem dX7_weightOf_22 : decode cX7_weightOf 22 = .ok (.goto (-18), 3) := by decide +kernel
theorem dX7_weightOf_25 : decode cX7_weightOf 25 = .ok (.iload_n 1, 1) := by decide +kernel
theorem dX7_weightOf_26 : decode cX7_weightOf 26 = .ok (.ireturn, 1) := by decide +kernel
set_option maxRecDepth 20000 in
theorem ggX7_loadMechanical_X7_letterOf : GoodIn wsX7_loadMechanical wsX7_letterOf := goodIn_r _ [7, 2, 8, 9, 6, 10, 27, 28, 29, 30, 31, 32, 33, 34, 35, 36, 37] (by decide +kernel) (by decide +kernel)
set_option maxRecDepth 20000 in
theorem gX7_loadMechanical_X7_letterOf : GoodIn wsX7_loadMechanical (wsV RX7 61 RX7 yX7_letterOf wsX7_letterOf) := goodIn_app (goodIn_of _ (by decide +kernel)) ggX7_loadMechanical_X7_letterOf
set_option maxRecDepth 20000 in
theorem ggX7_loadMechanical_X7_take : GoodIn wsX7_loadMechanical wsX7_take := goodIn_r _ [14, 1, 2, 15, 16, 17, 6, 18, 19, 20, 21, 22, 23, 27, 28, 29, 30, 31, 32, 33, 34, 35, 36, 37] (by decide +kernel) (by decide +kernel)
set_option maxRecDepth 20000 in
theorem gX7_loadMechanical_X7_take : GoodIn wsX7_loadMechanical (wsV RX7 65 RX7 yX7_take wsX7_take) := goodIn_app (goodIn_of _ (by decide +kernel)) ggX7_loadMechanical_X7_take
set_option maxRecDepth 20000 in
theorem ggX7_loadMechanical_X7_weightOf : GoodIn wsX7_loadMechanical wsX7_weightOf := goodIn_r _ [26] (by decide +kernel) (by decide +kernel)
set_option maxRecDepth 20000 in
theorem gX7_loadMechanical_X7_weightOf : GoodIn wsX7_loadMechanical (va_wsS RX7 68 yX7_weightOf wsX7_weightOf) := goodIn_app (goodIn_of _ (by decide +kernel)) ggX7_loadMechanical_X7_weightOf
theorem dX7_loadMechanical_0 : decode cX7_loadMechanical 0 = .ok (.iload_n 1, 1) := by decide +kernel
theorem dX7_loadMechanical_1 : decode cX7_loadMechanical 1 = .ok (.ifCond .ge 5, 3) := by decide +kernel
theorem dX7_loadMechanical_4 : decode cX7_loadMechanical 4 = .ok (.iconst (-1), 1) := by decide +kernel
theorem dX7_loadMechanical_5 : decode cX7_loadMechanical 5 = .ok (.ireturn, 1) := by decide +kernel
theorem dX7_loadMechanical_6 : decode cX7_loadMechanical 6 = .ok (.iload_n 1, 1) := by decide +kernel
theorem dX7_loadMechanical_7 : decode cX7_loadMechanical 7 = .ok (.bipush 60, 2) := by decide +kernel
theorem dX7_loadMechanical_9 : decode cX7_loadMechanical 9 = .ok (.if_icmp .le 6, 3) := by decide +kernel
theorem dX7_loadMechanical_12 : decode cX7_loadMechanical 12 = .ok (.bipush (-2), 2) := by decide +kernel
theorem dX7_loadMechanical_14 : decode cX7_loadMechanical 14 = .ok (.ireturn, 1) := by decide +kernel
theorem dX7_loadMechanical_15 : decode cX7_loadMechanical 15 = .ok (.aload_n 0, 1) := by decide +kernel
theorem dX7_loadMechanical_16 : decode cX7_loadMechanical 16 = .ok (.getfield 13, 3) := by decide +kernel
theorem dX7_loadMechanical_19 : decode cX7_loadMechanical 19 = .ok (.iconst 3, 1) := by decide +kernel
theorem dX7_loadMechanical_20 : decode cX7_loadMechanical 20 = .ok (.iload_n 1, 1) := by decide +kernel
theorem dX7_loadMechanical_21 : decode cX7_loadMechanical 21 = .ok (.iastore, 1) := by decide +kernel
theorem dX7_loadMechanical_22 : decode cX7_loadMechanical 22 = .ok (.iconst 0, 1) := by decide +kernel
theorem dX7_loadMechanical_23 : decode cX7_loadMechanical 23 = .ok (.istore_n 3, 1) := by decide +kernel
theorem dX7_loadMechanical_24 : decode cX7_loadMechanical 24 = .ok (.iload_n 3, 1) := by decide +kernel
theorem dX7_loadMechanical_25 : decode cX7_loadMechanical 25 = .ok (.iload_n 1, 1) := by decide +kernel
theorem dX7_loadMechanical_26 : decode cX7_loadMechanical 26 = .ok (.if_icmp .ge 23, 3) := by decide +kernel
theorem dX7_loadMechanical_29 : decode cX7_loadMechanical 29 = .ok (.aload_n 0, 1) := by decide +kernel
theorem dX7_loadMechanical_30 : decode cX7_loadMechanical 30 = .ok (.getfield 13, 3) := by decide +kernel
theorem dX7_loadMechanical_33 : decode cX7_loadMechanical 33 = .ok (.iconst 4, 1) := by decide +kernel
theorem dX7_loadMechanical_34 : decode cX7_loadMechanical 34 = .ok (.iload_n 3, 1) := by decide +kernel
theorem dX7_loadMechanical_35 : decode cX7_loadMechanical 35 = .ok (.iadd, 1) := by decide +kernel
theorem dX7_loadMechanical_36 : decode cX7_loadMechanical 36 = .ok (.aload_n 0, 1) := by decide +kernel
theorem dX7_loadMechanical_37 : decode cX7_loadMechanical 37 = .ok (.iload_n 3, 1) := by decide +kernel
theorem dX7_loadMechanical_38 : decode cX7_loadMechanical 38 = .ok (.iload_n 2, 1) := by decide +kernel
theorem dX7_loadMechanical_39 : decode cX7_loadMechanical 39 = .ok (.invokevirtual 61, 3) := by decide +kernel
theorem dX7_loadMechanical_42 : decode cX7_loadMechanical 42 = .ok (.iastore, 1) := by decide +kernel
theorem dX7_loadMechanical_43 : decode cX7_loadMechanical 43 = .ok (.iinc 3 1, 3) := by decide +kernel
theorem dX7_loadMechanical_46 : decode cX7_loadMechanical 46 = .ok (.goto (-22), 3) := by decide +kernel
theorem dX7_loadMechanical_49 : decode cX7_loadMechanical 49 = .ok (.aload_n 0, 1) := by decide +kernel
theorem dX7_loadMechanical_50 : decode cX7_loadMechanical 50 = .ok (.invokevirtual 65, 3) := by decide +kernel
theorem dX7_loadMechanical_53 : decode cX7_loadMechanical 53 = .ok (.aload_n 0, 1) := by decide +kernel
theorem dX7_loadMechanical_54 : decode cX7_loadMechanical 54 = .ok (.getfield 7, 3) := by decide +kernel
theorem dX7_loadMechanical_57 : decode cX7_loadMechanical 57 = .ok (.invokestatic 68, 3) := by decide +kernel
theorem dX7_loadMechanical_60 : decode cX7_loadMechanical 60 = .ok (.ireturn, 1) := by decide +kernel
theorem dX7_appendTo_0 : decode cX7_appendTo 0 = .ok (.aload_n 0, 1) := by decide +kernel
theorem dX7_appendTo_1 : decode cX7_appendTo 1 = .ok (.getfield 13, 3) := by decide +kernel
theorem dX7_appendTo_4 : decode cX7_appendTo 4 = .ok (.iconst 3, 1) := by decide +kernel
theorem dX7_appendTo_5 : decode cX7_appendTo 5 = .ok (.iaload, 1) := by decide +kernel
theorem dX7_appendTo_6 : decode cX7_appendTo 6 = .ok (.bipush 60, 2) := by decide +kernel
theorem dX7_appendTo_8 : decode cX7_appendTo 8 = .ok (.if_icmp .ge 17, 3) := by decide +kernel
theorem dX7_appendTo_11 : decode cX7_appendTo 11 = .ok (.aload_n 0, 1) := by decide +kernel
theorem dX7_appendTo_12 : decode cX7_appendTo 12 = .ok (.getfield 13, 3) := by decide +kernel
theorem dX7_appendTo_15 : decode cX7_appendTo 15 = .ok (.iconst 4, 1) := by decide +kernel
theorem dX7_appendTo_16 : decode cX7_appendTo 16 = .ok (.aload_n 0, 1) := by decide +kernel
theorem dX7_appendTo_17 : decode cX7_appendTo 17 = .ok (.getfield 13, 3) := by decide +kernel
theorem dX7_appendTo_20 : decode cX7_appendTo 20 = .ok (.iconst 3, 1) := by decide +kernel
theorem dX7_appendTo_21 : decode cX7_appendTo 21 = .ok (.iaload, 1) := by decide +kernel
theorem dX7_appendTo_22 : decode cX7_appendTo 22 = .ok (.iadd, 1) := by decide +kernel
theorem dX7_appendTo_23 : decode cX7_appendTo 23 = .ok (.iload_n 1, 1) := by decide +kernel
theorem dX7_appendTo_24 : decode cX7_appendTo 24 = .ok (.iastore, 1) := by decide +kernel
theorem dX7_appendTo_25 : decode cX7_appendTo 25 = .ok (.aload_n 0, 1) := by decide +kernel
theorem dX7_appendTo_26 : decode cX7_appendTo 26 = .ok (.getfield 13, 3) := by decide +kernel
theorem dX7_appendTo_29 : decode cX7_appendTo 29 = .ok (.iconst 3, 1) := by decide +kernel
theorem dX7_appendTo_30 : decode cX7_appendTo 30 = .ok (.dup2, 1) := by decide +kernel
theorem dX7_appendTo_31 : decode cX7_appendTo 31 = .ok (.iaload, 1) := by decide +kernel
theorem dX7_appendTo_32 : decode cX7_appendTo 32 = .ok (.iconst 1, 1) := by decide +kernel
theorem dX7_appendTo_33 : decode cX7_appendTo 33 = .ok (.iadd, 1) := by decide +kernel
theorem dX7_appendTo_34 : decode cX7_appendTo 34 = .ok (.iastore, 1) := by decide +kernel
theorem dX7_appendTo_35 : decode cX7_appendTo 35 = .ok (.return_, 1) := by decide +kernel
set_option maxRecDepth 20000 in
theorem ggX7_further_X7_appendTo : GoodIn wsX7_further wsX7_appendTo := goodIn_r _ [10, 1, 11, 12, 13, 14, 15, 16, 17, 18, 19, 20, 21] (by decide +kernel) (by decide +kernel)
set_option maxRecDepth 20000 in
theorem gX7_further_X7_appendTo : GoodIn wsX7_further (wsV RX7 75 RX7 yX7_appendTo wsX7_appendTo) := goodIn_app (goodIn_of _ (by decide +kernel)) ggX7_further_X7_appendTo
theorem dX7_further_0 : decode cX7_further 0 = .ok (.aload_n 0, 1) := by decide +kernel
theorem dX7_further_1 : decode cX7_further 1 = .ok (.getfield 13, 3) := by decide +kernel
theorem dX7_further_4 : decode cX7_further 4 = .ok (.iconst 3, 1) := by decide +kernel
theorem dX7_further_5 : decode cX7_further 5 = .ok (.iconst 0, 1) := by decide +kernel
theorem dX7_further_6 : decode cX7_further 6 = .ok (.iastore, 1) := by decide +kernel
theorem dX7_further_7 : decode cX7_further 7 = .ok (.iconst 0, 1) := by decide +kernel
theorem dX7_further_8 : decode cX7_further 8 = .ok (.istore_n 2, 1) := by decide +kernel
theorem dX7_further_9 : decode cX7_further 9 = .ok (.iload_n 2, 1) := by decide +kernel
theorem dX7_further_10 : decode cX7_further 10 = .ok (.iload_n 1, 1) := by decide +kernel
theorem dX7_further_11 : decode cX7_further 11 = .ok (.if_icmp .ge 46, 3) := by decide +kernel
theorem dX7_further_14 : decode cX7_further 14 = .ok (.aload_n 0, 1) := by decide +kernel
theorem dX7_further_15 : decode cX7_further 15 = .ok (.getfield 13, 3) := by decide +kernel
theorem dX7_further_18 : decode cX7_further 18 = .ok (.iconst 3, 1) := by decide +kernel
theorem dX7_further_19 : decode cX7_further 19 = .ok (.iaload, 1) := by decide +kernel
theorem dX7_further_20 : decode cX7_further 20 = .ok (.bipush 60, 2) := by decide +kernel
theorem dX7_further_22 : decode cX7_further 22 = .ok (.if_icmp .gt 35, 3) := by decide +kernel
theorem dX7_further_25 : decode cX7_further 25 = .ok (.iconst 0, 1) := by decide +kernel
theorem dX7_further_26 : decode cX7_further 26 = .ok (.istore_n 3, 1) := by decide +kernel
theorem dX7_further_27 : decode cX7_further 27 = .ok (.iload_n 3, 1) := by decide +kernel
theorem dX7_further_28 : decode cX7_further 28 = .ok (.aload_n 0, 1) := by decide +kernel
theorem dX7_further_29 : decode cX7_further 29 = .ok (.getfield 72, 3) := by decide +kernel
theorem dX7_further_32 : decode cX7_further 32 = .ok (.if_icmp .ge 19, 3) := by decide +kernel
theorem dX7_further_35 : decode cX7_further 35 = .ok (.aload_n 0, 1) := by decide +kernel
theorem dX7_further_36 : decode cX7_further 36 = .ok (.aload_n 0, 1) := by decide +kernel
theorem dX7_further_37 : decode cX7_further 37 = .ok (.getfield 25, 3) := by decide +kernel
theorem dX7_further_40 : decode cX7_further 40 = .ok (.iload_n 3, 1) := by decide +kernel
theorem dX7_further_41 : decode cX7_further 41 = .ok (.iaload, 1) := by decide +kernel
theorem dX7_further_42 : decode cX7_further 42 = .ok (.invokevirtual 75, 3) := by decide +kernel
theorem dX7_further_45 : decode cX7_further 45 = .ok (.iinc 3 1, 3) := by decide +kernel
theorem dX7_further_48 : decode cX7_further 48 = .ok (.goto (-21), 3) := by decide +kernel
theorem dX7_further_51 : decode cX7_further 51 = .ok (.iinc 2 1, 3) := by decide +kernel
theorem dX7_further_54 : decode cX7_further 54 = .ok (.goto (-45), 3) := by decide +kernel
theorem dX7_further_57 : decode cX7_further 57 = .ok (.iconst 0, 1) := by decide +kernel
theorem dX7_further_58 : decode cX7_further 58 = .ok (.istore_n 2, 1) := by decide +kernel
theorem dX7_further_59 : decode cX7_further 59 = .ok (.iload_n 2, 1) := by decide +kernel
theorem dX7_further_60 : decode cX7_further 60 = .ok (.aload_n 0, 1) := by decide +kernel
theorem dX7_further_61 : decode cX7_further 61 = .ok (.getfield 79, 3) := by decide +kernel
theorem dX7_further_64 : decode cX7_further 64 = .ok (.if_icmp .ge 19, 3) := by decide +kernel
theorem dX7_further_67 : decode cX7_further 67 = .ok (.aload_n 0, 1) := by decide +kernel
theorem dX7_further_68 : decode cX7_further 68 = .ok (.aload_n 0, 1) := by decide +kernel
theorem dX7_further_69 : decode cX7_further 69 = .ok (.getfield 22, 3) := by decide +kernel
theorem dX7_further_72 : decode cX7_further 72 = .ok (.iload_n 2, 1) := by decide +kernel
theorem dX7_further_73 : decode cX7_further 73 = .ok (.iaload, 1) := by decide +kernel
theorem dX7_further_74 : decode cX7_further 74 = .ok (.invokevirtual 75, 3) := by decide +kernel
theorem dX7_further_77 : decode cX7_further 77 = .ok (.iinc 2 1, 3) := by decide +kernel
theorem dX7_further_80 : decode cX7_further 80 = .ok (.goto (-21), 3) := by decide +kernel
theorem dX7_further_83 : decode cX7_further 83 = .ok (.aload_n 0, 1) := by decide +kernel
theorem dX7_further_84 : decode cX7_further 84 = .ok (.getfield 13, 3) := by decide +kernel
theorem dX7_further_87 : decode cX7_further 87 = .ok (.iconst 3, 1) := by decide +kernel
theorem dX7_further_88 : decode cX7_further 88 = .ok (.iaload, 1) := by decide +kernel
theorem dX7_further_89 : decode cX7_further 89 = .ok (.bipush 60, 2) := by decide +kernel
theorem dX7_further_91 : decode cX7_further 91 = .ok (.if_icmp .le 5, 3) := by decide +kernel
theorem dX7_further_94 : decode cX7_further 94 = .ok (.iconst 0, 1) := by decide +kernel
theorem dX7_further_95 : decode cX7_further 95 = .ok (.ireturn, 1) := by decide +kernel
theorem dX7_further_96 : decode cX7_further 96 = .ok (.iconst 0, 1) := by decide +kernel
theorem dX7_further_97 : decode cX7_further 97 = .ok (.istore_n 2, 1) := by decide +kernel
theorem dX7_further_98 : decode cX7_further 98 = .ok (.iload_n 2, 1) := by decide +kernel
theorem dX7_further_99 : decode cX7_further 99 = .ok (.aload_n 0, 1) := by decide +kernel
theorem dX7_further_100 : decode cX7_further 100 = .ok (.getfield 72, 3) := by decide +kernel
theorem dX7_further_103 : decode cX7_further 103 = .ok (.if_icmp .ge 21, 3) := by decide +kernel
theorem dX7_further_106 : decode cX7_further 106 = .ok (.aload_n 0, 1) := by decide +kernel
theorem dX7_further_107 : decode cX7_further 107 = .ok (.getfield 22, 3) := by decide +kernel
theorem dX7_further_110 : decode cX7_further 110 = .ok (.iload_n 2, 1) := by decide +kernel
theorem dX7_further_111 : decode cX7_further 111 = .ok (.aload_n 0, 1) := by decide +kernel
theorem dX7_further_112 : decode cX7_further 112 = .ok (.getfield 25, 3) := by decide +kernel
theorem dX7_further_115 : decode cX7_further 115 = .ok (.iload_n 2, 1) := by decide +kernel
theorem dX7_further_116 : decode cX7_further 116 = .ok (.iaload, 1) := by decide +kernel
theorem dX7_further_117 : decode cX7_further 117 = .ok (.iastore, 1) := by decide +kernel
theorem dX7_further_118 : decode cX7_further 118 = .ok (.iinc 2 1, 3) := by decide +kernel
theorem dX7_further_121 : decode cX7_further 121 = .ok (.goto (-23), 3) := by decide +kernel
theorem dX7_further_124 : decode cX7_further 124 = .ok (.aload_n 0, 1) := by decide +kernel
theorem dX7_further_125 : decode cX7_further 125 = .ok (.aload_n 0, 1) := by decide +kernel
theorem dX7_further_126 : decode cX7_further 126 = .ok (.getfield 72, 3) := by decide +kernel
theorem dX7_further_129 : decode cX7_further 129 = .ok (.putfield 79, 3) := by decide +kernel
theorem dX7_further_132 : decode cX7_further 132 = .ok (.aload_n 0, 1) := by decide +kernel
theorem dX7_further_133 : decode cX7_further 133 = .ok (.aload_n 0, 1) := by decide +kernel
theorem dX7_further_134 : decode cX7_further 134 = .ok (.getfield 13, 3) := by decide +kernel
theorem dX7_further_137 : decode cX7_further 137 = .ok (.iconst 3, 1) := by decide +kernel
theorem dX7_further_138 : decode cX7_further 138 = .ok (.iaload, 1) := by decide +kernel
theorem dX7_further_139 : decode cX7_further 139 = .ok (.putfield 72, 3) := by decide +kernel
theorem dX7_further_142 : decode cX7_further 142 = .ok (.iconst 0, 1) := by decide +kernel
theorem dX7_further_143 : decode cX7_further 143 = .ok (.istore_n 2, 1) := by decide +kernel
theorem dX7_further_144 : decode cX7_further 144 = .ok (.iload_n 2, 1) := by decide +kernel
theorem dX7_further_145 : decode cX7_further 145 = .ok (.aload_n 0, 1) := by decide +kernel
theorem dX7_further_146 : decode cX7_further 146 = .ok (.getfield 72, 3) := by decide +kernel
theorem dX7_further_149 : decode cX7_further 149 = .ok (.if_icmp .ge 23, 3) := by decide +kernel
theorem dX7_further_152 : decode cX7_further 152 = .ok (.aload_n 0, 1) := by decide +kernel
theorem dX7_further_153 : decode cX7_further 153 = .ok (.getfield 25, 3) := by decide +kernel
theorem dX7_further_156 : decode cX7_further 156 = .ok (.iload_n 2, 1) := by decide +kernel
theorem dX7_further_157 : decode cX7_further 157 = .ok (.aload_n 0, 1) := by decide +kernel
theorem dX7_further_158 : decode cX7_further 158 = .ok (.getfield 13, 3) := by decide +kernel
theorem dX7_further_161 : decode cX7_further 161 = .ok (.iconst 4, 1) := by decide +kernel
theorem dX7_further_162 : decode cX7_further 162 = .ok (.iload_n 2, 1) := by decide +kernel
theorem dX7_further_163 : decode cX7_further 163 = .ok (.iadd, 1) := by decide +kernel
theorem dX7_further_164 : decode cX7_further 164 = .ok (.iaload, 1) := by decide +kernel
theorem dX7_further_165 : decode cX7_further 165 = .ok (.iastore, 1) := by decide +kernel
theorem dX7_further_166 : decode cX7_further 166 = .ok (.iinc 2 1, 3) := by decide +kernel
theorem dX7_further_169 : decode cX7_further 169 = .ok (.goto (-25), 3) := by decide +kernel
theorem dX7_further_172 : decode cX7_further 172 = .ok (.iconst 1, 1) := by decide +kernel
theorem dX7_further_173 : decode cX7_further 173 = .ok (.ireturn, 1) := by decide +kernel
set_option maxRecDepth 20000 in
theorem ggX7_loadStandard_X7_expand : GoodIn wsX7_loadStandard wsX7_expand := goodIn_r _ [13, 1, 8, 7, 35, 36, 37, 38, 39, 40, 41, 42, 43, 44, 45] (by decide +kernel) (by decide +kernel)
set_option maxRecDepth 20000 in
theorem gX7_loadStandard_X7_expand : GoodIn wsX7_loadStandard (wsV RX7 54 RX7 yX7_expand wsX7_expand) := goodIn_app (goodIn_of _ (by decide +kernel)) ggX7_loadStandard_X7_expand
set_option maxRecDepth 20000 in
theorem ggX7_loadStandard_X7_further : GoodIn wsX7_loadStandard wsX7_further := goodIn_r _ [17, 6, 5, 4, 3, 2, 18, 19, 20, 12, 21, 35, 36, 37, 38, 39, 40, 41, 42, 43, 44, 45] (by decide +kernel) (by decide +kernel)
set_option maxRecDepth 20000 in
theorem gX7_loadStandard_X7_further : GoodIn wsX7_loadStandard (wsV RX7 82 RX7 yX7_further wsX7_further) := goodIn_app (goodIn_of _ (by decide +kernel)) ggX7_loadStandard_X7_further
set_option maxRecDepth 20000 in
theorem ggX7_loadStandard_X7_take : GoodIn wsX7_loadStandard wsX7_take := goodIn_r _ [25, 6, 8, 26, 27, 28, 12, 29, 30, 31, 32, 33, 34, 35, 36, 37, 38, 39, 40, 41, 42, 43, 44, 45] (by decide +kernel) (by decide +kernel)
set_option maxRecDepth 20000 in
theorem gX7_loadStandard_X7_take : GoodIn wsX7_loadStandard (wsV RX7 65 RX7 yX7_take wsX7_take) := goodIn_app (goodIn_of _ (by decide +kernel)) ggX7_loadStandard_X7_take
theorem dX7_loadStandard_0 : decode cX7_loadStandard 0 = .ok (.iload_n 1, 1) := by decide +kernel
theorem dX7_loadStandard_1 : decode cX7_loadStandard 1 = .ok (.iconst (-1), 1) := by decide +kernel
theorem dX7_loadStandard_2 : decode cX7_loadStandard 2 = .ok (.if_icmp .ge 5, 3) := by decide +kernel
theorem dX7_loadStandard_5 : decode cX7_loadStandard 5 = .ok (.iconst (-1), 1) := by decide +kernel
theorem dX7_loadStandard_6 : decode cX7_loadStandard 6 = .ok (.ireturn, 1) := by decide +kernel
theorem dX7_loadStandard_7 : decode cX7_loadStandard 7 = .ok (.aload_n 0, 1) := by decide +kernel
theorem dX7_loadStandard_8 : decode cX7_loadStandard 8 = .ok (.invokevirtual 54, 3) := by decide +kernel
theorem dX7_loadStandard_11 : decode cX7_loadStandard 11 = .ok (.iload_n 1, 1) := by decide +kernel
theorem dX7_loadStandard_12 : decode cX7_loadStandard 12 = .ok (.aload_n 0, 1) := by decide +kernel
theorem dX7_loadStandard_13 : decode cX7_loadStandard 13 = .ok (.getfield 51, 3) := by decide +kernel
theorem dX7_loadStandard_16 : decode cX7_loadStandard 16 = .ok (.if_icmp .le 6, 3) := by decide +kernel
theorem dX7_loadStandard_19 : decode cX7_loadStandard 19 = .ok (.bipush (-3), 2) := by decide +kernel
theorem dX7_loadStandard_21 : decode cX7_loadStandard 21 = .ok (.ireturn, 1) := by decide +kernel
theorem dX7_loadStandard_22 : decode cX7_loadStandard 22 = .ok (.aload_n 0, 1) := by decide +kernel
theorem dX7_loadStandard_23 : decode cX7_loadStandard 23 = .ok (.getfield 22, 3) := by decide +kernel
theorem dX7_loadStandard_26 : decode cX7_loadStandard 26 = .ok (.iconst 0, 1) := by decide +kernel
theorem dX7_loadStandard_27 : decode cX7_loadStandard 27 = .ok (.iconst 1, 1) := by decide +kernel
theorem dX7_loadStandard_28 : decode cX7_loadStandard 28 = .ok (.iastore, 1) := by decide +kernel
theorem dX7_loadStandard_29 : decode cX7_loadStandard 29 = .ok (.aload_n 0, 1) := by decide +kernel
theorem dX7_loadStandard_30 : decode cX7_loadStandard 30 = .ok (.iconst 1, 1) := by decide +kernel
theorem dX7_loadStandard_31 : decode cX7_loadStandard 31 = .ok (.putfield 79, 3) := by decide +kernel
theorem dX7_loadStandard_34 : decode cX7_loadStandard 34 = .ok (.aload_n 0, 1) := by decide +kernel
theorem dX7_loadStandard_35 : decode cX7_loadStandard 35 = .ok (.getfield 25, 3) := by decide +kernel
theorem dX7_loadStandard_38 : decode cX7_loadStandard 38 = .ok (.iconst 0, 1) := by decide +kernel
theorem dX7_loadStandard_39 : decode cX7_loadStandard 39 = .ok (.iconst 0, 1) := by decide +kernel
theorem dX7_loadStandard_40 : decode cX7_loadStandard 40 = .ok (.iastore, 1) := by decide +kernel
theorem dX7_loadStandard_41 : decode cX7_loadStandard 41 = .ok (.aload_n 0, 1) := by decide +kernel
theorem dX7_loadStandard_42 : decode cX7_loadStandard 42 = .ok (.iconst 1, 1) := by decide +kernel
theorem dX7_loadStandard_43 : decode cX7_loadStandard 43 = .ok (.putfield 72, 3) := by decide +kernel
theorem dX7_loadStandard_46 : decode cX7_loadStandard 46 = .ok (.aload_n 0, 1) := by decide +kernel
theorem dX7_loadStandard_47 : decode cX7_loadStandard 47 = .ok (.getfield 13, 3) := by decide +kernel
theorem dX7_loadStandard_50 : decode cX7_loadStandard 50 = .ok (.iconst 3, 1) := by decide +kernel
theorem dX7_loadStandard_51 : decode cX7_loadStandard 51 = .ok (.iconst 1, 1) := by decide +kernel
theorem dX7_loadStandard_52 : decode cX7_loadStandard 52 = .ok (.iastore, 1) := by decide +kernel
theorem dX7_loadStandard_53 : decode cX7_loadStandard 53 = .ok (.aload_n 0, 1) := by decide +kernel
theorem dX7_loadStandard_54 : decode cX7_loadStandard 54 = .ok (.getfield 13, 3) := by decide +kernel
theorem dX7_loadStandard_57 : decode cX7_loadStandard 57 = .ok (.iconst 4, 1) := by decide +kernel
theorem dX7_loadStandard_58 : decode cX7_loadStandard 58 = .ok (.iload_n 1, 1) := by decide +kernel
theorem dX7_loadStandard_59 : decode cX7_loadStandard 59 = .ok (.ifCond .ge 7, 3) := by decide +kernel
theorem dX7_loadStandard_62 : decode cX7_loadStandard 62 = .ok (.iconst 1, 1) := by decide +kernel
theorem dX7_loadStandard_63 : decode cX7_loadStandard 63 = .ok (.goto 4, 3) := by decide +kernel
theorem dX7_loadStandard_66 : decode cX7_loadStandard 66 = .ok (.iconst 0, 1) := by decide +kernel
theorem dX7_loadStandard_67 : decode cX7_loadStandard 67 = .ok (.iastore, 1) := by decide +kernel
theorem dX7_loadStandard_68 : decode cX7_loadStandard 68 = .ok (.iconst 1, 1) := by decide +kernel
theorem dX7_loadStandard_69 : decode cX7_loadStandard 69 = .ok (.istore_n 2, 1) := by decide +kernel
theorem dX7_loadStandard_70 : decode cX7_loadStandard 70 = .ok (.iload_n 2, 1) := by decide +kernel
theorem dX7_loadStandard_71 : decode cX7_loadStandard 71 = .ok (.iload_n 1, 1) := by decide +kernel
theorem dX7_loadStandard_72 : decode cX7_loadStandard 72 = .ok (.if_icmp .gt 43, 3) := by decide +kernel
theorem dX7_loadStandard_75 : decode cX7_loadStandard 75 = .ok (.aload_n 0, 1) := by decide +kernel
theorem dX7_loadStandard_76 : decode cX7_loadStandard 76 = .ok (.iload_n 2, 1) := by decide +kernel
theorem dX7_loadStandard_77 : decode cX7_loadStandard 77 = .ok (.iconst 1, 1) := by decide +kernel
theorem dX7_loadStandard_78 : decode cX7_loadStandard 78 = .ok (.if_icmp .ne 14, 3) := by decide +kernel
theorem dX7_loadStandard_81 : decode cX7_loadStandard 81 = .ok (.aload_n 0, 1) := by decide +kernel
theorem dX7_loadStandard_82 : decode cX7_loadStandard 82 = .ok (.getfield 19, 3) := by decide +kernel
theorem dX7_loadStandard_85 : decode cX7_loadStandard 85 = .ok (.iconst 0, 1) := by decide +kernel
theorem dX7_loadStandard_86 : decode cX7_loadStandard 86 = .ok (.iaload, 1) := by decide +kernel
theorem dX7_loadStandard_87 : decode cX7_loadStandard 87 = .ok (.iconst 1, 1) := by decide +kernel
theorem dX7_loadStandard_88 : decode cX7_loadStandard 88 = .ok (.isub, 1) := by decide +kernel
theorem dX7_loadStandard_89 : decode cX7_loadStandard 89 = .ok (.goto 11, 3) := by decide +kernel
theorem dX7_loadStandard_92 : decode cX7_loadStandard 92 = .ok (.aload_n 0, 1) := by decide +kernel
theorem dX7_loadStandard_93 : decode cX7_loadStandard 93 = .ok (.getfield 19, 3) := by decide +kernel
theorem dX7_loadStandard_96 : decode cX7_loadStandard 96 = .ok (.iload_n 2, 1) := by decide +kernel
theorem dX7_loadStandard_97 : decode cX7_loadStandard 97 = .ok (.iconst 1, 1) := by decide +kernel
theorem dX7_loadStandard_98 : decode cX7_loadStandard 98 = .ok (.isub, 1) := by decide +kernel
theorem dX7_loadStandard_99 : decode cX7_loadStandard 99 = .ok (.iaload, 1) := by decide +kernel
theorem dX7_loadStandard_100 : decode cX7_loadStandard 100 = .ok (.invokevirtual 82, 3) := by decide +kernel
theorem dX7_loadStandard_103 : decode cX7_loadStandard 103 = .ok (.ifCond .ne 6, 3) := by decide +kernel
theorem dX7_loadStandard_106 : decode cX7_loadStandard 106 = .ok (.bipush (-2), 2) := by decide +kernel
theorem dX7_loadStandard_108 : decode cX7_loadStandard 108 = .ok (.ireturn, 1) := by decide +kernel
theorem dX7_loadStandard_109 : decode cX7_loadStandard 109 = .ok (.iinc 2 1, 3) := by decide +kernel
theorem dX7_loadStandard_112 : decode cX7_loadStandard 112 = .ok (.goto (-42), 3) := by decide +kernel
theorem dX7_loadStandard_115 : decode cX7_loadStandard 115 = .ok (.aload_n 0, 1) := by decide +kernel
theorem dX7_loadStandard_116 : decode cX7_loadStandard 116 = .ok (.invokevirtual 65, 3) := by decide +kernel
theorem dX7_loadStandard_119 : decode cX7_loadStandard 119 = .ok (.aload_n 0, 1) := by decide +kernel
theorem dX7_loadStandard_120 : decode cX7_loadStandard 120 = .ok (.getfield 7, 3) := by decide +kernel
theorem dX7_loadStandard_123 : decode cX7_loadStandard 123 = .ok (.iconst 3, 1) := by decide +kernel
theorem dX7_loadStandard_124 : decode cX7_loadStandard 124 = .ok (.iaload, 1) := by decide +kernel
theorem dX7_loadStandard_125 : decode cX7_loadStandard 125 = .ok (.ireturn, 1) := by decide +kernel
set_option maxRecDepth 20000 in
theorem ggX7_append_X7_in : GoodIn wsX7_append wsX7_in := goodIn_r _ [5] (by decide +kernel) (by decide +kernel)
set_option maxRecDepth 20000 in
theorem gX7_append_X7_in : GoodIn wsX7_append (va_wsS RX7 43 yX7_in wsX7_in) := goodIn_app (goodIn_of _ (by decide +kernel)) ggX7_append_X7_in
set_option maxRecDepth 20000 in
theorem ggX7_append_X7_save : GoodIn wsX7_append wsX7_save := goodIn_r _ [9, 10, 11, 1, 12, 13, 4, 14, 15, 16, 17, 18, 19, 20, 21, 22, 23, 24, 25] (by decide +kernel) (by decide +kernel)
set_option maxRecDepth 20000 in
theorem gX7_append_X7_save : GoodIn wsX7_append (wsV RX7 40 RX7 yX7_save wsX7_save) := goodIn_app (goodIn_of _ (by decide +kernel)) ggX7_append_X7_save
theorem dX7_append_0 : decode cX7_append 0 = .ok (.iload_n 1, 1) := by decide +kernel
theorem dX7_append_1 : decode cX7_append 1 = .ok (.iconst 0, 1) := by decide +kernel
theorem dX7_append_2 : decode cX7_append 2 = .ok (.iconst 1, 1) := by decide +kernel
theorem dX7_append_3 : decode cX7_append 3 = .ok (.invokestatic 43, 3) := by decide +kernel
theorem dX7_append_6 : decode cX7_append 6 = .ok (.ifCond .ne 5, 3) := by decide +kernel
theorem dX7_append_9 : decode cX7_append 9 = .ok (.iconst (-1), 1) := by decide +kernel
theorem dX7_append_10 : decode cX7_append 10 = .ok (.ireturn, 1) := by decide +kernel
theorem dX7_append_11 : decode cX7_append 11 = .ok (.aload_n 0, 1) := by decide +kernel
theorem dX7_append_12 : decode cX7_append 12 = .ok (.getfield 7, 3) := by decide +kernel
theorem dX7_append_15 : decode cX7_append 15 = .ok (.iconst 3, 1) := by decide +kernel
theorem dX7_append_16 : decode cX7_append 16 = .ok (.iaload, 1) := by decide +kernel
theorem dX7_append_17 : decode cX7_append 17 = .ok (.bipush 60, 2) := by decide +kernel
theorem dX7_append_19 : decode cX7_append 19 = .ok (.if_icmp .ne 6, 3) := by decide +kernel
theorem dX7_append_22 : decode cX7_append 22 = .ok (.bipush (-2), 2) := by decide +kernel
theorem dX7_append_24 : decode cX7_append 24 = .ok (.ireturn, 1) := by decide +kernel
theorem dX7_append_25 : decode cX7_append 25 = .ok (.aload_n 0, 1) := by decide +kernel
theorem dX7_append_26 : decode cX7_append 26 = .ok (.invokevirtual 40, 3) := by decide +kernel
theorem dX7_append_29 : decode cX7_append 29 = .ok (.aload_n 0, 1) := by decide +kernel
theorem dX7_append_30 : decode cX7_append 30 = .ok (.getfield 7, 3) := by decide +kernel
theorem dX7_append_33 : decode cX7_append 33 = .ok (.iconst 4, 1) := by decide +kernel
theorem dX7_append_34 : decode cX7_append 34 = .ok (.aload_n 0, 1) := by decide +kernel
theorem dX7_append_35 : decode cX7_append 35 = .ok (.getfield 7, 3) := by decide +kernel
theorem dX7_append_38 : decode cX7_append 38 = .ok (.iconst 3, 1) := by decide +kernel
theorem dX7_append_39 : decode cX7_append 39 = .ok (.iaload, 1) := by decide +kernel
theorem dX7_append_40 : decode cX7_append 40 = .ok (.iadd, 1) := by decide +kernel
theorem dX7_append_41 : decode cX7_append 41 = .ok (.iload_n 1, 1) := by decide +kernel
theorem dX7_append_42 : decode cX7_append 42 = .ok (.iastore, 1) := by decide +kernel
theorem dX7_append_43 : decode cX7_append 43 = .ok (.aload_n 0, 1) := by decide +kernel
theorem dX7_append_44 : decode cX7_append 44 = .ok (.getfield 7, 3) := by decide +kernel
theorem dX7_append_47 : decode cX7_append 47 = .ok (.iconst 3, 1) := by decide +kernel
theorem dX7_append_48 : decode cX7_append 48 = .ok (.dup2, 1) := by decide +kernel
theorem dX7_append_49 : decode cX7_append 49 = .ok (.iaload, 1) := by decide +kernel
theorem dX7_append_50 : decode cX7_append 50 = .ok (.iconst 1, 1) := by decide +kernel
theorem dX7_append_51 : decode cX7_append 51 = .ok (.iadd, 1) := by decide +kernel
theorem dX7_append_52 : decode cX7_append 52 = .ok (.iastore, 1) := by decide +kernel
theorem dX7_append_53 : decode cX7_append 53 = .ok (.aload_n 0, 1) := by decide +kernel
theorem dX7_append_54 : decode cX7_append 54 = .ok (.getfield 7, 3) := by decide +kernel
theorem dX7_append_57 : decode cX7_append 57 = .ok (.iconst 3, 1) := by decide +kernel
theorem dX7_append_58 : decode cX7_append 58 = .ok (.iaload, 1) := by decide +kernel
theorem dX7_append_59 : decode cX7_append 59 = .ok (.ireturn, 1) := by decide +kernel
set_option maxRecDepth 20000 in
theorem ggX7_removeLast_X7_save : GoodIn wsX7_removeLast wsX7_save := goodIn_r _ [6, 7, 8, 1, 9, 10, 5, 11, 12, 13, 14, 15, 16, 17, 18, 19, 20, 21, 22] (by decide +kernel) (by decide +kernel)
set_option maxRecDepth 20000 in
theorem gX7_removeLast_X7_save : GoodIn wsX7_removeLast (wsV RX7 40 RX7 yX7_save wsX7_save) := goodIn_app (goodIn_of _ (by decide +kernel)) ggX7_removeLast_X7_save
theorem dX7_removeLast_0 : decode cX7_removeLast 0 = .ok (.aload_n 0, 1) := by decide +kernel
theorem dX7_removeLast_1 : decode cX7_removeLast 1 = .ok (.getfield 7, 3) := by decide +kernel
theorem dX7_removeLast_4 : decode cX7_removeLast 4 = .ok (.iconst 3, 1) := by decide +kernel
theorem dX7_removeLast_5 : decode cX7_removeLast 5 = .ok (.iaload, 1) := by decide +kernel
theorem dX7_removeLast_6 : decode cX7_removeLast 6 = .ok (.ifCond .ne 6, 3) := by decide +kernel
theorem dX7_removeLast_9 : decode cX7_removeLast 9 = .ok (.bipush (-3), 2) := by decide +kernel
theorem dX7_removeLast_11 : decode cX7_removeLast 11 = .ok (.ireturn, 1) := by decide +kernel
theorem dX7_removeLast_12 : decode cX7_removeLast 12 = .ok (.aload_n 0, 1) := by decide +kernel
theorem dX7_removeLast_13 : decode cX7_removeLast 13 = .ok (.invokevirtual 40, 3) := by decide +kernel
theorem dX7_removeLast_16 : decode cX7_removeLast 16 = .ok (.aload_n 0, 1) := by decide +kernel
theorem dX7_removeLast_17 : decode cX7_removeLast 17 = .ok (.getfield 7, 3) := by decide +kernel
theorem dX7_removeLast_20 : decode cX7_removeLast 20 = .ok (.iconst 3, 1) := by decide +kernel
theorem dX7_removeLast_21 : decode cX7_removeLast 21 = .ok (.dup2, 1) := by decide +kernel
theorem dX7_removeLast_22 : decode cX7_removeLast 22 = .ok (.iaload, 1) := by decide +kernel
theorem dX7_removeLast_23 : decode cX7_removeLast 23 = .ok (.iconst 1, 1) := by decide +kernel
theorem dX7_removeLast_24 : decode cX7_removeLast 24 = .ok (.isub, 1) := by decide +kernel
theorem dX7_removeLast_25 : decode cX7_removeLast 25 = .ok (.iastore, 1) := by decide +kernel
theorem dX7_removeLast_26 : decode cX7_removeLast 26 = .ok (.aload_n 0, 1) := by decide +kernel
theorem dX7_removeLast_27 : decode cX7_removeLast 27 = .ok (.getfield 7, 3) := by decide +kernel
theorem dX7_removeLast_30 : decode cX7_removeLast 30 = .ok (.iconst 4, 1) := by decide +kernel
theorem dX7_removeLast_31 : decode cX7_removeLast 31 = .ok (.aload_n 0, 1) := by decide +kernel
theorem dX7_removeLast_32 : decode cX7_removeLast 32 = .ok (.getfield 7, 3) := by decide +kernel
theorem dX7_removeLast_35 : decode cX7_removeLast 35 = .ok (.iconst 3, 1) := by decide +kernel
theorem dX7_removeLast_36 : decode cX7_removeLast 36 = .ok (.iaload, 1) := by decide +kernel
theorem dX7_removeLast_37 : decode cX7_removeLast 37 = .ok (.iadd, 1) := by decide +kernel
theorem dX7_removeLast_38 : decode cX7_removeLast 38 = .ok (.iaload, 1) := by decide +kernel
theorem dX7_removeLast_39 : decode cX7_removeLast 39 = .ok (.ireturn, 1) := by decide +kernel
set_option maxRecDepth 20000 in
theorem ggX7_clear_X7_save : GoodIn wsX7_clear wsX7_save := goodIn_r _ [6, 7, 8, 1, 9, 10, 5, 11, 12, 13, 14, 15, 16, 17, 18, 19, 20, 21, 22] (by decide +kernel) (by decide +kernel)
set_option maxRecDepth 20000 in
theorem gX7_clear_X7_save : GoodIn wsX7_clear (wsV RX7 40 RX7 yX7_save wsX7_save) := goodIn_app (goodIn_of _ (by decide +kernel)) ggX7_clear_X7_save
theorem dX7_clear_0 : decode cX7_clear 0 = .ok (.aload_n 0, 1) := by decide +kernel
theorem dX7_clear_1 : decode cX7_clear 1 = .ok (.invokevirtual 40, 3) := by decide +kernel
theorem dX7_clear_4 : decode cX7_clear 4 = .ok (.aload_n 0, 1) := by decide +kernel
theorem dX7_clear_5 : decode cX7_clear 5 = .ok (.getfield 7, 3) := by decide +kernel
theorem dX7_clear_8 : decode cX7_clear 8 = .ok (.iconst 3, 1) := by decide +kernel
theorem dX7_clear_9 : decode cX7_clear 9 = .ok (.iaload, 1) := by decide +kernel
theorem dX7_clear_10 : decode cX7_clear 10 = .ok (.istore_n 1, 1) := by decide +kernel
theorem dX7_clear_11 : decode cX7_clear 11 = .ok (.aload_n 0, 1) := by decide +kernel
theorem dX7_clear_12 : decode cX7_clear 12 = .ok (.getfield 7, 3) := by decide +kernel
theorem dX7_clear_15 : decode cX7_clear 15 = .ok (.iconst 3, 1) := by decide +kernel
theorem dX7_clear_16 : decode cX7_clear 16 = .ok (.iconst 0, 1) := by decide +kernel
theorem dX7_clear_17 : decode cX7_clear 17 = .ok (.iastore, 1) := by decide +kernel
theorem dX7_clear_18 : decode cX7_clear 18 = .ok (.iload_n 1, 1) := by decide +kernel
theorem dX7_clear_19 : decode cX7_clear 19 = .ok (.ireturn, 1) := by decide +kernel
end
section
theorem dX7_isPalindrome_0 : decode cX7_isPalindrome 0 = .ok (.iconst 0, 1) := by decide +kernel
theorem dX7_isPalindrome_1 : decode cX7_isPalindrome 1 = .ok (.istore_n 3, 1) := by decide +kernel
theorem dX7_isPalindrome_2 : decode cX7_isPalindrome 2 = .ok (.iload_n 3, 1) := by decide +kernel
theorem dX7_isPalindrome_3 : decode cX7_isPalindrome 3 = .ok (.iload_n 2, 1) := by decide +kernel
theorem dX7_isPalindrome_4 : decode cX7_isPalindrome 4 = .ok (.iconst 2, 1) := by decide +kernel
theorem dX7_isPalindrome_5 : decode cX7_isPalindrome 5 = .ok (.idiv, 1) := by decide +kernel
theorem dX7_isPalindrome_6 : decode cX7_isPalindrome 6 = .ok (.if_icmp .ge 38, 3) := by decide +kernel
theorem dX7_isPalindrome_9 : decode cX7_isPalindrome 9 = .ok (.aload_n 0, 1) := by decide +kernel
theorem dX7_isPalindrome_10 : decode cX7_isPalindrome 10 = .ok (.getfield 7, 3) := by decide +kernel
theorem dX7_isPalindrome_13 : decode cX7_isPalindrome 13 = .ok (.iconst 4, 1) := by decide +kernel
theorem dX7_isPalindrome_14 : decode cX7_isPalindrome 14 = .ok (.iload_n 1, 1) := by decide +kernel
theorem dX7_isPalindrome_15 : decode cX7_isPalindrome 15 = .ok (.iadd, 1) := by decide +kernel
theorem dX7_isPalindrome_16 : decode cX7_isPalindrome 16 = .ok (.iload_n 3, 1) := by decide +kernel
theorem dX7_isPalindrome_17 : decode cX7_isPalindrome 17 = .ok (.iadd, 1) := by decide +kernel
theorem dX7_isPalindrome_18 : decode cX7_isPalindrome 18 = .ok (.iaload, 1) := by decide +kernel
theorem dX7_isPalindrome_19 : decode cX7_isPalindrome 19 = .ok (.aload_n 0, 1) := by decide +kernel
theorem dX7_isPalindrome_20 : decode cX7_isPalindrome 20 = .ok (.getfield 7, 3) := by decide +kernel
theorem dX7_isPalindrome_23 : decode cX7_isPalindrome 23 = .ok (.iconst 4, 1) := by decide +kernel
theorem dX7_isPalindrome_24 : decode cX7_isPalindrome 24 = .ok (.iload_n 1, 1) := by decide +kernel
theorem dX7_isPalindrome_25 : decode cX7_isPalindrome 25 = .ok (.iadd, 1) := by decide +kernel
theorem dX7_isPalindrome_26 : decode cX7_isPalindrome 26 = .ok (.iload_n 2, 1) := by decide +kernel
theorem dX7_isPalindrome_27 : decode cX7_isPalindrome 27 = .ok (.iadd, 1) := by decide +kernel
theorem dX7_isPalindrome_28 : decode cX7_isPalindrome 28 = .ok (.iconst 1, 1) := by decide +kernel
theorem dX7_isPalindrome_29 : decode cX7_isPalindrome 29 = .ok (.isub, 1) := by decide +kernel
theorem dX7_isPalindrome_30 : decode cX7_isPalindrome 30 = .ok (.iload_n 3, 1) := by decide +kernel
theorem dX7_isPalindrome_31 : decode cX7_isPalindrome 31 = .ok (.isub, 1) := by decide +kernel
theorem dX7_isPalindrome_32 : decode cX7_isPalindrome 32 = .ok (.iaload, 1) := by decide +kernel
theorem dX7_isPalindrome_33 : decode cX7_isPalindrome 33 = .ok (.if_icmp .eq 5, 3) := by decide +kernel
theorem dX7_isPalindrome_36 : decode cX7_isPalindrome 36 = .ok (.iconst 0, 1) := by decide +kernel
theorem dX7_isPalindrome_37 : decode cX7_isPalindrome 37 = .ok (.ireturn, 1) := by decide +kernel
theorem dX7_isPalindrome_38 : decode cX7_isPalindrome 38 = .ok (.iinc 3 1, 3) := by decide +kernel
theorem dX7_isPalindrome_41 : decode cX7_isPalindrome 41 = .ok (.goto (-39), 3) := by decide +kernel
theorem dX7_isPalindrome_44 : decode cX7_isPalindrome 44 = .ok (.iconst 1, 1) := by decide +kernel
theorem dX7_isPalindrome_45 : decode cX7_isPalindrome 45 = .ok (.ireturn, 1) := by decide +kernel
set_option maxRecDepth 20000 in
theorem ggX7_reverse_X7_isPalindrome : GoodIn wsX7_reverse wsX7_isPalindrome := goodIn_r _ [7, 1, 21, 22, 23, 24, 25, 26, 27, 28, 29, 30, 31] (by decide +kernel) (by decide +kernel)
set_option maxRecDepth 20000 in
theorem gX7_reverse_X7_isPalindrome : GoodIn wsX7_reverse (wsV RX7 86 RX7 yX7_isPalindrome wsX7_isPalindrome) := goodIn_app (goodIn_of _ (by decide +kernel)) ggX7_reverse_X7_isPalindrome
set_option maxRecDepth 20000 in
theorem ggX7_reverse_X7_take : GoodIn wsX7_reverse wsX7_take := goodIn_r _ [11, 2, 1, 12, 13, 14, 6, 15, 16, 17, 18, 19, 20, 21, 22, 23, 24, 25, 26, 27, 28, 29, 30, 31] (by decide +kernel) (by decide +kernel)
set_option maxRecDepth 20000 in
theorem gX7_reverse_X7_take : GoodIn wsX7_reverse (wsV RX7 65 RX7 yX7_take wsX7_take) := goodIn_app (goodIn_of _ (by decide +kernel)) ggX7_reverse_X7_take
theorem dX7_reverse_0 : decode cX7_reverse 0 = .ok (.aload_n 0, 1) := by decide +kernel
theorem dX7_reverse_1 : decode cX7_reverse 1 = .ok (.iconst 0, 1) := by decide +kernel
theorem dX7_reverse_2 : decode cX7_reverse 2 = .ok (.aload_n 0, 1) := by decide +kernel
theorem dX7_reverse_3 : decode cX7_reverse 3 = .ok (.getfield 7, 3) := by decide +kernel
theorem dX7_reverse_6 : decode cX7_reverse 6 = .ok (.iconst 3, 1) := by decide +kernel
theorem dX7_reverse_7 : decode cX7_reverse 7 = .ok (.iaload, 1) := by decide +kernel
theorem dX7_reverse_8 : decode cX7_reverse 8 = .ok (.invokevirtual 86, 3) := by decide +kernel
theorem dX7_reverse_11 : decode cX7_reverse 11 = .ok (.istore_n 1, 1) := by decide +kernel
theorem dX7_reverse_12 : decode cX7_reverse 12 = .ok (.aload_n 0, 1) := by decide +kernel
theorem dX7_reverse_13 : decode cX7_reverse 13 = .ok (.getfield 13, 3) := by decide +kernel
theorem dX7_reverse_16 : decode cX7_reverse 16 = .ok (.iconst 3, 1) := by decide +kernel
theorem dX7_reverse_17 : decode cX7_reverse 17 = .ok (.aload_n 0, 1) := by decide +kernel
theorem dX7_reverse_18 : decode cX7_reverse 18 = .ok (.getfield 7, 3) := by decide +kernel
theorem dX7_reverse_21 : decode cX7_reverse 21 = .ok (.iconst 3, 1) := by decide +kernel
theorem dX7_reverse_22 : decode cX7_reverse 22 = .ok (.iaload, 1) := by decide +kernel
theorem dX7_reverse_23 : decode cX7_reverse 23 = .ok (.iastore, 1) := by decide +kernel
theorem dX7_reverse_24 : decode cX7_reverse 24 = .ok (.iconst 0, 1) := by decide +kernel
theorem dX7_reverse_25 : decode cX7_reverse 25 = .ok (.istore_n 2, 1) := by decide +kernel
theorem dX7_reverse_26 : decode cX7_reverse 26 = .ok (.iload_n 2, 1) := by decide +kernel
theorem dX7_reverse_27 : decode cX7_reverse 27 = .ok (.aload_n 0, 1) := by decide +kernel
theorem dX7_reverse_28 : decode cX7_reverse 28 = .ok (.getfield 7, 3) := by decide +kernel
theorem dX7_reverse_31 : decode cX7_reverse 31 = .ok (.iconst 3, 1) := by decide +kernel
theorem dX7_reverse_32 : decode cX7_reverse 32 = .ok (.iaload, 1) := by decide +kernel
theorem dX7_reverse_33 : decode cX7_reverse 33 = .ok (.if_icmp .ge 34, 3) := by decide +kernel
theorem dX7_reverse_36 : decode cX7_reverse 36 = .ok (.aload_n 0, 1) := by decide +kernel
theorem dX7_reverse_37 : decode cX7_reverse 37 = .ok (.getfield 13, 3) := by decide +kernel
theorem dX7_reverse_40 : decode cX7_reverse 40 = .ok (.iconst 4, 1) := by decide +kernel
theorem dX7_reverse_41 : decode cX7_reverse 41 = .ok (.iload_n 2, 1) := by decide +kernel
theorem dX7_reverse_42 : decode cX7_reverse 42 = .ok (.iadd, 1) := by decide +kernel
theorem dX7_reverse_43 : decode cX7_reverse 43 = .ok (.aload_n 0, 1) := by decide +kernel
theorem dX7_reverse_44 : decode cX7_reverse 44 = .ok (.getfield 7, 3) := by decide +kernel
theorem dX7_reverse_47 : decode cX7_reverse 47 = .ok (.iconst 4, 1) := by decide +kernel
theorem dX7_reverse_48 : decode cX7_reverse 48 = .ok (.aload_n 0, 1) := by decide +kernel
theorem dX7_reverse_49 : decode cX7_reverse 49 = .ok (.getfield 7, 3) := by decide +kernel
theorem dX7_reverse_52 : decode cX7_reverse 52 = .ok (.iconst 3, 1) := by decide +kernel
theorem dX7_reverse_53 : decode cX7_reverse 53 = .ok (.iaload, 1) := by decide +kernel
theorem dX7_reverse_54 : decode cX7_reverse 54 = .ok (.iadd, 1) := by decide +kernel
theorem dX7_reverse_55 : decode cX7_reverse 55 = .ok (.iconst 1, 1) := by decide +kernel
theorem dX7_reverse_56 : decode cX7_reverse 56 = .ok (.isub, 1) := by decide +kernel
theorem dX7_reverse_57 : decode cX7_reverse 57 = .ok (.iload_n 2, 1) := by decide +kernel
theorem dX7_reverse_58 : decode cX7_reverse 58 = .ok (.isub, 1) := by decide +kernel
theorem dX7_reverse_59 : decode cX7_reverse 59 = .ok (.iaload, 1) := by decide +kernel
theorem dX7_reverse_60 : decode cX7_reverse 60 = .ok (.iastore, 1) := by decide +kernel
theorem dX7_reverse_61 : decode cX7_reverse 61 = .ok (.iinc 2 1, 3) := by decide +kernel
theorem dX7_reverse_64 : decode cX7_reverse 64 = .ok (.goto (-38), 3) := by decide +kernel
theorem dX7_reverse_67 : decode cX7_reverse 67 = .ok (.aload_n 0, 1) := by decide +kernel
theorem dX7_reverse_68 : decode cX7_reverse 68 = .ok (.invokevirtual 65, 3) := by decide +kernel
theorem dX7_reverse_71 : decode cX7_reverse 71 = .ok (.iload_n 1, 1) := by decide +kernel
theorem dX7_reverse_72 : decode cX7_reverse 72 = .ok (.ifCond .eq 7, 3) := by decide +kernel
theorem dX7_reverse_75 : decode cX7_reverse 75 = .ok (.iconst 0, 1) := by decide +kernel
theorem dX7_reverse_76 : decode cX7_reverse 76 = .ok (.goto 4, 3) := by decide +kernel
theorem dX7_reverse_79 : decode cX7_reverse 79 = .ok (.iconst 1, 1) := by decide +kernel
theorem dX7_reverse_80 : decode cX7_reverse 80 = .ok (.ireturn, 1) := by decide +kernel
theorem dX7_imageOf_0 : decode cX7_imageOf 0 = .ok (.iload_n 0, 1) := by decide +kernel
theorem dX7_imageOf_1 : decode cX7_imageOf 1 = .ok (.tableswitch 75 0 3 #[31, 36, 49, 62], 31) := by decide +kernel
theorem dX7_imageOf_32 : decode cX7_imageOf 32 = .ok (.bipush 21, 2) := by decide +kernel
theorem dX7_imageOf_34 : decode cX7_imageOf 34 = .ok (.iload_n 1, 1) := by decide +kernel
theorem dX7_imageOf_35 : decode cX7_imageOf 35 = .ok (.isub, 1) := by decide +kernel
theorem dX7_imageOf_36 : decode cX7_imageOf 36 = .ok (.ireturn, 1) := by decide +kernel
theorem dX7_imageOf_37 : decode cX7_imageOf 37 = .ok (.iload_n 1, 1) := by decide +kernel
theorem dX7_imageOf_38 : decode cX7_imageOf 38 = .ok (.ifCond .ne 9, 3) := by decide +kernel
theorem dX7_imageOf_41 : decode cX7_imageOf 41 = .ok (.sipush 201, 3) := by decide +kernel
theorem dX7_imageOf_44 : decode cX7_imageOf 44 = .ok (.goto 5, 3) := by decide +kernel
theorem dX7_imageOf_47 : decode cX7_imageOf 47 = .ok (.bipush 20, 2) := by decide +kernel
theorem dX7_imageOf_49 : decode cX7_imageOf 49 = .ok (.ireturn, 1) := by decide +kernel
theorem dX7_imageOf_50 : decode cX7_imageOf 50 = .ok (.iload_n 1, 1) := by decide +kernel
theorem dX7_imageOf_51 : decode cX7_imageOf 51 = .ok (.ifCond .ne 9, 3) := by decide +kernel
theorem dX7_imageOf_54 : decode cX7_imageOf 54 = .ok (.sipush 210, 3) := by decide +kernel
theorem dX7_imageOf_57 : decode cX7_imageOf 57 = .ok (.goto 5, 3) := by decide +kernel
theorem dX7_imageOf_60 : decode cX7_imageOf 60 = .ok (.bipush 20, 2) := by decide +kernel
theorem dX7_imageOf_62 : decode cX7_imageOf 62 = .ok (.ireturn, 1) := by decide +kernel
theorem dX7_imageOf_63 : decode cX7_imageOf 63 = .ok (.iload_n 1, 1) := by decide +kernel
theorem dX7_imageOf_64 : decode cX7_imageOf 64 = .ok (.ifCond .ne 8, 3) := by decide +kernel
theorem dX7_imageOf_67 : decode cX7_imageOf 67 = .ok (.bipush 20, 2) := by decide +kernel
theorem dX7_imageOf_69 : decode cX7_imageOf 69 = .ok (.goto 6, 3) := by decide +kernel
theorem dX7_imageOf_72 : decode cX7_imageOf 72 = .ok (.sipush 201, 3) := by decide +kernel
theorem dX7_imageOf_75 : decode cX7_imageOf 75 = .ok (.ireturn, 1) := by decide +kernel
theorem dX7_imageOf_76 : decode cX7_imageOf 76 = .ok (.iload_n 1, 1) := by decide +kernel
theorem dX7_imageOf_77 : decode cX7_imageOf 77 = .ok (.ifCond .ne 8, 3) := by decide +kernel
theorem dX7_imageOf_80 : decode cX7_imageOf 80 = .ok (.bipush 20, 2) := by decide +kernel
theorem dX7_imageOf_82 : decode cX7_imageOf 82 = .ok (.goto 6, 3) := by decide +kernel
theorem dX7_imageOf_85 : decode cX7_imageOf 85 = .ok (.sipush 210, 3) := by decide +kernel
theorem dX7_imageOf_88 : decode cX7_imageOf 88 = .ok (.ireturn, 1) := by decide +kernel
set_option maxRecDepth 20000 in
theorem ggX7_applyMorphism_X7_in : GoodIn wsX7_applyMorphism wsX7_in := goodIn_r _ [6] (by decide +kernel) (by decide +kernel)
set_option maxRecDepth 20000 in
theorem gX7_applyMorphism_X7_in : GoodIn wsX7_applyMorphism (va_wsS RX7 43 yX7_in wsX7_in) := goodIn_app (goodIn_of _ (by decide +kernel)) ggX7_applyMorphism_X7_in
set_option maxRecDepth 20000 in
theorem ggX7_applyMorphism_X7_imageOf : GoodIn wsX7_applyMorphism wsX7_imageOf := goodIn_r _ [9] (by decide +kernel) (by decide +kernel)
set_option maxRecDepth 20000 in
theorem gX7_applyMorphism_X7_imageOf : GoodIn wsX7_applyMorphism (va_wsS RX7 90 yX7_imageOf wsX7_imageOf) := goodIn_app (goodIn_of _ (by decide +kernel)) ggX7_applyMorphism_X7_imageOf
set_option maxRecDepth 20000 in
theorem ggX7_applyMorphism_X7_appendTo : GoodIn wsX7_applyMorphism wsX7_appendTo := goodIn_r _ [13, 1, 27, 28, 29, 30, 31, 32, 33, 34, 35, 36, 37] (by decide +kernel) (by decide +kernel)
set_option maxRecDepth 20000 in
theorem gX7_applyMorphism_X7_appendTo : GoodIn wsX7_applyMorphism (wsV RX7 75 RX7 yX7_appendTo wsX7_appendTo) := goodIn_app (goodIn_of _ (by decide +kernel)) ggX7_applyMorphism_X7_appendTo
set_option maxRecDepth 20000 in
theorem ggX7_applyMorphism_X7_take : GoodIn wsX7_applyMorphism wsX7_take := goodIn_r _ [17, 1, 2, 18, 19, 20, 5, 21, 22, 23, 24, 25, 26, 27, 28, 29, 30, 31, 32, 33, 34, 35, 36, 37] (by decide +kernel) (by decide +kernel)
set_option maxRecDepth 20000 in
theorem gX7_applyMorphism_X7_take : GoodIn wsX7_applyMorphism (wsV RX7 65 RX7 yX7_take wsX7_take) := goodIn_app (goodIn_of _ (by decide +kernel)) ggX7_applyMorphism_X7_take
theorem dX7_applyMorphism_0 : decode cX7_applyMorphism 0 = .ok (.iload_n 1, 1) := by decide +kernel
theorem dX7_applyMorphism_1 : decode cX7_applyMorphism 1 = .ok (.iconst 0, 1) := by decide +kernel
theorem dX7_applyMorphism_2 : decode cX7_applyMorphism 2 = .ok (.iconst 4, 1) := by decide +kernel
theorem dX7_applyMorphism_3 : decode cX7_applyMorphism 3 = .ok (.invokestatic 43, 3) := by decide +kernel
theorem dX7_applyMorphism_6 : decode cX7_applyMorphism 6 = .ok (.ifCond .ne 5, 3) := by decide +kernel
theorem dX7_applyMorphism_9 : decode cX7_applyMorphism 9 = .ok (.iconst (-1), 1) := by decide +kernel
theorem dX7_applyMorphism_10 : decode cX7_applyMorphism 10 = .ok (.ireturn, 1) := by decide +kernel
theorem dX7_applyMorphism_11 : decode cX7_applyMorphism 11 = .ok (.aload_n 0, 1) := by decide +kernel
theorem dX7_applyMorphism_12 : decode cX7_applyMorphism 12 = .ok (.getfield 13, 3) := by decide +kernel
theorem dX7_applyMorphism_15 : decode cX7_applyMorphism 15 = .ok (.iconst 3, 1) := by decide +kernel
theorem dX7_applyMorphism_16 : decode cX7_applyMorphism 16 = .ok (.iconst 0, 1) := by decide +kernel
theorem dX7_applyMorphism_17 : decode cX7_applyMorphism 17 = .ok (.iastore, 1) := by decide +kernel
theorem dX7_applyMorphism_18 : decode cX7_applyMorphism 18 = .ok (.iconst 0, 1) := by decide +kernel
theorem dX7_applyMorphism_19 : decode cX7_applyMorphism 19 = .ok (.istore_n 2, 1) := by decide +kernel
theorem dX7_applyMorphism_20 : decode cX7_applyMorphism 20 = .ok (.iload_n 2, 1) := by decide +kernel
theorem dX7_applyMorphism_21 : decode cX7_applyMorphism 21 = .ok (.aload_n 0, 1) := by decide +kernel
theorem dX7_applyMorphism_22 : decode cX7_applyMorphism 22 = .ok (.getfield 7, 3) := by decide +kernel
theorem dX7_applyMorphism_25 : decode cX7_applyMorphism 25 = .ok (.iconst 3, 1) := by decide +kernel
theorem dX7_applyMorphism_26 : decode cX7_applyMorphism 26 = .ok (.iaload, 1) := by decide +kernel
theorem dX7_applyMorphism_27 : decode cX7_applyMorphism 27 = .ok (.if_icmp .ge 47, 3) := by decide +kernel
theorem dX7_applyMorphism_30 : decode cX7_applyMorphism 30 = .ok (.iload_n 1, 1) := by decide +kernel
theorem dX7_applyMorphism_31 : decode cX7_applyMorphism 31 = .ok (.aload_n 0, 1) := by decide +kernel
theorem dX7_applyMorphism_32 : decode cX7_applyMorphism 32 = .ok (.getfield 7, 3) := by decide +kernel
theorem dX7_applyMorphism_35 : decode cX7_applyMorphism 35 = .ok (.iconst 4, 1) := by decide +kernel
theorem dX7_applyMorphism_36 : decode cX7_applyMorphism 36 = .ok (.iload_n 2, 1) := by decide +kernel
theorem dX7_applyMorphism_37 : decode cX7_applyMorphism 37 = .ok (.iadd, 1) := by decide +kernel
theorem dX7_applyMorphism_38 : decode cX7_applyMorphism 38 = .ok (.iaload, 1) := by decide +kernel
theorem dX7_applyMorphism_39 : decode cX7_applyMorphism 39 = .ok (.invokestatic 90, 3) := by decide +kernel
theorem dX7_applyMorphism_42 : decode cX7_applyMorphism 42 = .ok (.istore_n 3, 1) := by decide +kernel
theorem dX7_applyMorphism_43 : decode cX7_applyMorphism 43 = .ok (.iload_n 3, 1) := by decide +kernel
theorem dX7_applyMorphism_44 : decode cX7_applyMorphism 44 = .ok (.bipush 99, 2) := by decide +kernel
theorem dX7_applyMorphism_46 : decode cX7_applyMorphism 46 = .ok (.if_icmp .le 14, 3) := by decide +kernel
theorem dX7_applyMorphism_49 : decode cX7_applyMorphism 49 = .ok (.aload_n 0, 1) := by decide +kernel
theorem dX7_applyMorphism_50 : decode cX7_applyMorphism 50 = .ok (.iload_n 3, 1) := by decide +kernel
theorem dX7_applyMorphism_51 : decode cX7_applyMorphism 51 = .ok (.bipush 10, 2) := by decide +kernel
theorem dX7_applyMorphism_53 : decode cX7_applyMorphism 53 = .ok (.idiv, 1) := by decide +kernel
theorem dX7_applyMorphism_54 : decode cX7_applyMorphism 54 = .ok (.bipush 10, 2) := by decide +kernel
theorem dX7_applyMorphism_56 : decode cX7_applyMorphism 56 = .ok (.irem, 1) := by decide +kernel
theorem dX7_applyMorphism_57 : decode cX7_applyMorphism 57 = .ok (.invokevirtual 75, 3) := by decide +kernel
theorem dX7_applyMorphism_60 : decode cX7_applyMorphism 60 = .ok (.aload_n 0, 1) := by decide +kernel
theorem dX7_applyMorphism_61 : decode cX7_applyMorphism 61 = .ok (.iload_n 3, 1) := by decide +kernel
theorem dX7_applyMorphism_62 : decode cX7_applyMorphism 62 = .ok (.bipush 10, 2) := by decide +kernel
theorem dX7_applyMorphism_64 : decode cX7_applyMorphism 64 = .ok (.irem, 1) := by decide +kernel
theorem dX7_applyMorphism_65 : decode cX7_applyMorphism 65 = .ok (.invokevirtual 75, 3) := by decide +kernel
theorem dX7_applyMorphism_68 : decode cX7_applyMorphism 68 = .ok (.iinc 2 1, 3) := by decide +kernel
theorem dX7_applyMorphism_71 : decode cX7_applyMorphism 71 = .ok (.goto (-51), 3) := by decide +kernel
theorem dX7_applyMorphism_74 : decode cX7_applyMorphism 74 = .ok (.aload_n 0, 1) := by decide +kernel
theorem dX7_applyMorphism_75 : decode cX7_applyMorphism 75 = .ok (.getfield 13, 3) := by decide +kernel
theorem dX7_applyMorphism_78 : decode cX7_applyMorphism 78 = .ok (.iconst 3, 1) := by decide +kernel
theorem dX7_applyMorphism_79 : decode cX7_applyMorphism 79 = .ok (.iaload, 1) := by decide +kernel
theorem dX7_applyMorphism_80 : decode cX7_applyMorphism 80 = .ok (.bipush 60, 2) := by decide +kernel
theorem dX7_applyMorphism_82 : decode cX7_applyMorphism 82 = .ok (.if_icmp .le 6, 3) := by decide +kernel
theorem dX7_applyMorphism_85 : decode cX7_applyMorphism 85 = .ok (.bipush (-2), 2) := by decide +kernel
theorem dX7_applyMorphism_87 : decode cX7_applyMorphism 87 = .ok (.ireturn, 1) := by decide +kernel
theorem dX7_applyMorphism_88 : decode cX7_applyMorphism 88 = .ok (.aload_n 0, 1) := by decide +kernel
theorem dX7_applyMorphism_89 : decode cX7_applyMorphism 89 = .ok (.invokevirtual 65, 3) := by decide +kernel
theorem dX7_applyMorphism_92 : decode cX7_applyMorphism 92 = .ok (.aload_n 0, 1) := by decide +kernel
theorem dX7_applyMorphism_93 : decode cX7_applyMorphism 93 = .ok (.getfield 7, 3) := by decide +kernel
theorem dX7_applyMorphism_96 : decode cX7_applyMorphism 96 = .ok (.iconst 3, 1) := by decide +kernel
theorem dX7_applyMorphism_97 : decode cX7_applyMorphism 97 = .ok (.iaload, 1) := by decide +kernel
theorem dX7_applyMorphism_98 : decode cX7_applyMorphism 98 = .ok (.ireturn, 1) := by decide +kernel
theorem dX7_stands_0 : decode cX7_stands 0 = .ok (.iload_n 1, 1) := by decide +kernel
theorem dX7_stands_1 : decode cX7_stands 1 = .ok (.bipush 99, 2) := by decide +kernel
theorem dX7_stands_3 : decode cX7_stands 3 = .ok (.if_icmp .le 56, 3) := by decide +kernel
theorem dX7_stands_6 : decode cX7_stands 6 = .ok (.iload_n 2, 1) := by decide +kernel
theorem dX7_stands_7 : decode cX7_stands 7 = .ok (.iconst 1, 1) := by decide +kernel
theorem dX7_stands_8 : decode cX7_stands 8 = .ok (.iadd, 1) := by decide +kernel
theorem dX7_stands_9 : decode cX7_stands 9 = .ok (.aload_n 0, 1) := by decide +kernel
theorem dX7_stands_10 : decode cX7_stands 10 = .ok (.getfield 7, 3) := by decide +kernel
theorem dX7_stands_13 : decode cX7_stands 13 = .ok (.iconst 3, 1) := by decide +kernel
theorem dX7_stands_14 : decode cX7_stands 14 = .ok (.iaload, 1) := by decide +kernel
theorem dX7_stands_15 : decode cX7_stands 15 = .ok (.if_icmp .ge 42, 3) := by decide +kernel
theorem dX7_stands_18 : decode cX7_stands 18 = .ok (.aload_n 0, 1) := by decide +kernel
theorem dX7_stands_19 : decode cX7_stands 19 = .ok (.getfield 7, 3) := by decide +kernel
theorem dX7_stands_22 : decode cX7_stands 22 = .ok (.iconst 4, 1) := by decide +kernel
theorem dX7_stands_23 : decode cX7_stands 23 = .ok (.iload_n 2, 1) := by decide +kernel
theorem dX7_stands_24 : decode cX7_stands 24 = .ok (.iadd, 1) := by decide +kernel
theorem dX7_stands_25 : decode cX7_stands 25 = .ok (.iaload, 1) := by decide +kernel
theorem dX7_stands_26 : decode cX7_stands 26 = .ok (.iload_n 1, 1) := by decide +kernel
theorem dX7_stands_27 : decode cX7_stands 27 = .ok (.bipush 10, 2) := by decide +kernel
theorem dX7_stands_29 : decode cX7_stands 29 = .ok (.idiv, 1) := by decide +kernel
theorem dX7_stands_30 : decode cX7_stands 30 = .ok (.bipush 10, 2) := by decide +kernel
theorem dX7_stands_32 : decode cX7_stands 32 = .ok (.irem, 1) := by decide +kernel
theorem dX7_stands_33 : decode cX7_stands 33 = .ok (.if_icmp .ne 24, 3) := by decide +kernel
theorem dX7_stands_36 : decode cX7_stands 36 = .ok (.aload_n 0, 1) := by decide +kernel
theorem dX7_stands_37 : decode cX7_stands 37 = .ok (.getfield 7, 3) := by decide +kernel
theorem dX7_stands_40 : decode cX7_stands 40 = .ok (.iconst 4, 1) := by decide +kernel
theorem dX7_stands_41 : decode cX7_stands 41 = .ok (.iload_n 2, 1) := by decide +kernel
theorem dX7_stands_42 : decode cX7_stands 42 = .ok (.iadd, 1) := by decide +kernel
theorem dX7_stands_43 : decode cX7_stands 43 = .ok (.iconst 1, 1) := by decide +kernel
theorem dX7_stands_44 : decode cX7_stands 44 = .ok (.iadd, 1) := by decide +kernel
theorem dX7_stands_45 : decode cX7_stands 45 = .ok (.iaload, 1) := by decide +kernel
theorem dX7_stands_46 : decode cX7_stands 46 = .ok (.iload_n 1, 1) := by decide +kernel
theorem dX7_stands_47 : decode cX7_stands 47 = .ok (.bipush 10, 2) := by decide +kernel
theorem dX7_stands_49 : decode cX7_stands 49 = .ok (.irem, 1) := by decide +kernel
theorem dX7_stands_50 : decode cX7_stands 50 = .ok (.if_icmp .ne 7, 3) := by decide +kernel
theorem dX7_stands_53 : decode cX7_stands 53 = .ok (.iconst 1, 1) := by decide +kernel
theorem dX7_stands_54 : decode cX7_stands 54 = .ok (.goto 4, 3) := by decide +kernel
theorem dX7_stands_57 : decode cX7_stands 57 = .ok (.iconst 0, 1) := by decide +kernel
theorem dX7_stands_58 : decode cX7_stands 58 = .ok (.ireturn, 1) := by decide +kernel
theorem dX7_stands_59 : decode cX7_stands 59 = .ok (.aload_n 0, 1) := by decide +kernel
theorem dX7_stands_60 : decode cX7_stands 60 = .ok (.getfield 7, 3) := by decide +kernel
theorem dX7_stands_63 : decode cX7_stands 63 = .ok (.iconst 4, 1) := by decide +kernel
theorem dX7_stands_64 : decode cX7_stands 64 = .ok (.iload_n 2, 1) := by decide +kernel
theorem dX7_stands_65 : decode cX7_stands 65 = .ok (.iadd, 1) := by decide +kernel
theorem dX7_stands_66 : decode cX7_stands 66 = .ok (.iaload, 1) := by decide +kernel
theorem dX7_stands_67 : decode cX7_stands 67 = .ok (.iload_n 1, 1) := by decide +kernel
theorem dX7_stands_68 : decode cX7_stands 68 = .ok (.bipush 10, 2) := by decide +kernel
theorem dX7_stands_70 : decode cX7_stands 70 = .ok (.irem, 1) := by decide +kernel
theorem dX7_stands_71 : decode cX7_stands 71 = .ok (.if_icmp .ne 7, 3) := by decide +kernel
theorem dX7_stands_74 : decode cX7_stands 74 = .ok (.iconst 1, 1) := by decide +kernel
theorem dX7_stands_75 : decode cX7_stands 75 = .ok (.goto 4, 3) := by decide +kernel
theorem dX7_stands_78 : decode cX7_stands 78 = .ok (.iconst 0, 1) := by decide +kernel
theorem dX7_stands_79 : decode cX7_stands 79 = .ok (.ireturn, 1) := by decide +kernel
set_option maxRecDepth 20000 in
theorem ggX7_invertMorphism_X7_in : GoodIn wsX7_invertMorphism wsX7_in := goodIn_r _ [6] (by decide +kernel) (by decide +kernel)
set_option maxRecDepth 20000 in
theorem gX7_invertMorphism_X7_in : GoodIn wsX7_invertMorphism (va_wsS RX7 43 yX7_in wsX7_in) := goodIn_app (goodIn_of _ (by decide +kernel)) ggX7_invertMorphism_X7_in
set_option maxRecDepth 20000 in
theorem ggX7_invertMorphism_X7_imageOf : GoodIn wsX7_invertMorphism wsX7_imageOf := goodIn_r _ [9] (by decide +kernel) (by decide +kernel)
set_option maxRecDepth 20000 in
theorem gX7_invertMorphism_X7_imageOf : GoodIn wsX7_invertMorphism (va_wsS RX7 90 yX7_imageOf wsX7_imageOf) := goodIn_app (goodIn_of _ (by decide +kernel)) ggX7_invertMorphism_X7_imageOf
set_option maxRecDepth 20000 in
theorem ggX7_invertMorphism_X7_stands : GoodIn wsX7_invertMorphism wsX7_stands := goodIn_r _ [13, 2, 31, 32, 33, 34, 35, 36, 37, 38, 39, 40, 41] (by decide +kernel) (by decide +kernel)
set_option maxRecDepth 20000 in
theorem gX7_invertMorphism_X7_stands : GoodIn wsX7_invertMorphism (wsV RX7 93 RX7 yX7_stands wsX7_stands) := goodIn_app (goodIn_of _ (by decide +kernel)) ggX7_invertMorphism_X7_stands
set_option maxRecDepth 20000 in
theorem ggX7_invertMorphism_X7_appendTo : GoodIn wsX7_invertMorphism wsX7_appendTo := goodIn_r _ [17, 1, 31, 32, 33, 34, 35, 36, 37, 38, 39, 40, 41] (by decide +kernel) (by decide +kernel)
set_option maxRecDepth 20000 in
theorem gX7_invertMorphism_X7_appendTo : GoodIn wsX7_invertMorphism (wsV RX7 75 RX7 yX7_appendTo wsX7_appendTo) := goodIn_app (goodIn_of _ (by decide +kernel)) ggX7_invertMorphism_X7_appendTo
set_option maxRecDepth 20000 in
theorem ggX7_invertMorphism_X7_take : GoodIn wsX7_invertMorphism wsX7_take := goodIn_r _ [21, 1, 2, 22, 23, 24, 5, 25, 26, 27, 28, 29, 30, 31, 32, 33, 34, 35, 36, 37, 38, 39, 40, 41] (by decide +kernel) (by decide +kernel)
set_option maxRecDepth 20000 in
theorem gX7_invertMorphism_X7_take : GoodIn wsX7_invertMorphism (wsV RX7 65 RX7 yX7_take wsX7_take) := goodIn_app (goodIn_of _ (by decide +kernel)) ggX7_invertMorphism_X7_take
theorem dX7_invertMorphism_0 : decode cX7_invertMorphism 0 = .ok (.iload_n 1, 1) := by decide +kernel
theorem dX7_invertMorphism_1 : decode cX7_invertMorphism 1 = .ok (.iconst 0, 1) := by decide +kernel
theorem dX7_invertMorphism_2 : decode cX7_invertMorphism 2 = .ok (.iconst 4, 1) := by decide +kernel
theorem dX7_invertMorphism_3 : decode cX7_invertMorphism 3 = .ok (.invokestatic 43, 3) := by decide +kernel
theorem dX7_invertMorphism_6 : decode cX7_invertMorphism 6 = .ok (.ifCond .ne 5, 3) := by decide +kernel
theorem dX7_invertMorphism_9 : decode cX7_invertMorphism 9 = .ok (.iconst (-1), 1) := by decide +kernel
theorem dX7_invertMorphism_10 : decode cX7_invertMorphism 10 = .ok (.ireturn, 1) := by decide +kernel
theorem dX7_invertMorphism_11 : decode cX7_invertMorphism 11 = .ok (.aload_n 0, 1) := by decide +kernel
theorem dX7_invertMorphism_12 : decode cX7_invertMorphism 12 = .ok (.getfield 13, 3) := by decide +kernel
theorem dX7_invertMorphism_15 : decode cX7_invertMorphism 15 = .ok (.iconst 3, 1) := by decide +kernel
theorem dX7_invertMorphism_16 : decode cX7_invertMorphism 16 = .ok (.iconst 0, 1) := by decide +kernel
theorem dX7_invertMorphism_17 : decode cX7_invertMorphism 17 = .ok (.iastore, 1) := by decide +kernel
theorem dX7_invertMorphism_18 : decode cX7_invertMorphism 18 = .ok (.iconst 0, 1) := by decide +kernel
theorem dX7_invertMorphism_19 : decode cX7_invertMorphism 19 = .ok (.istore_n 2, 1) := by decide +kernel
theorem dX7_invertMorphism_20 : decode cX7_invertMorphism 20 = .ok (.iload_n 2, 1) := by decide +kernel
theorem dX7_invertMorphism_21 : decode cX7_invertMorphism 21 = .ok (.aload_n 0, 1) := by decide +kernel
theorem dX7_invertMorphism_22 : decode cX7_invertMorphism 22 = .ok (.getfield 7, 3) := by decide +kernel
theorem dX7_invertMorphism_25 : decode cX7_invertMorphism 25 = .ok (.iconst 3, 1) := by decide +kernel
theorem dX7_invertMorphism_26 : decode cX7_invertMorphism 26 = .ok (.iaload, 1) := by decide +kernel
theorem dX7_invertMorphism_27 : decode cX7_invertMorphism 27 = .ok (.if_icmp .ge 86, 3) := by decide +kernel
theorem dX7_invertMorphism_30 : decode cX7_invertMorphism 30 = .ok (.iload_n 1, 1) := by decide +kernel
theorem dX7_invertMorphism_31 : decode cX7_invertMorphism 31 = .ok (.iconst 0, 1) := by decide +kernel
theorem dX7_invertMorphism_32 : decode cX7_invertMorphism 32 = .ok (.invokestatic 90, 3) := by decide +kernel
theorem dX7_invertMorphism_35 : decode cX7_invertMorphism 35 = .ok (.bipush 99, 2) := by decide +kernel
theorem dX7_invertMorphism_37 : decode cX7_invertMorphism 37 = .ok (.if_icmp .le 7, 3) := by decide +kernel
theorem dX7_invertMorphism_40 : decode cX7_invertMorphism 40 = .ok (.iconst 0, 1) := by decide +kernel
theorem dX7_invertMorphism_41 : decode cX7_invertMorphism 41 = .ok (.goto 4, 3) := by decide +kernel
theorem dX7_invertMorphism_44 : decode cX7_invertMorphism 44 = .ok (.iconst 1, 1) := by decide +kernel
theorem dX7_invertMorphism_45 : decode cX7_invertMorphism 45 = .ok (.istore_n 3, 1) := by decide +kernel
theorem dX7_invertMorphism_46 : decode cX7_invertMorphism 46 = .ok (.aload_n 0, 1) := by decide +kernel
theorem dX7_invertMorphism_47 : decode cX7_invertMorphism 47 = .ok (.iload_n 1, 1) := by decide +kernel
theorem dX7_invertMorphism_48 : decode cX7_invertMorphism 48 = .ok (.iload_n 3, 1) := by decide +kernel
theorem dX7_invertMorphism_49 : decode cX7_invertMorphism 49 = .ok (.invokestatic 90, 3) := by decide +kernel
theorem dX7_invertMorphism_52 : decode cX7_invertMorphism 52 = .ok (.iload_n 2, 1) := by decide +kernel
theorem dX7_invertMorphism_53 : decode cX7_invertMorphism 53 = .ok (.invokevirtual 93, 3) := by decide +kernel
theorem dX7_invertMorphism_56 : decode cX7_invertMorphism 56 = .ok (.ifCond .eq 7, 3) := by decide +kernel
theorem dX7_invertMorphism_59 : decode cX7_invertMorphism 59 = .ok (.iload_n 3, 1) := by decide +kernel
theorem dX7_invertMorphism_60 : decode cX7_invertMorphism 60 = .ok (.goto 6, 3) := by decide +kernel
theorem dX7_invertMorphism_63 : decode cX7_invertMorphism 63 = .ok (.iconst 1, 1) := by decide +kernel
theorem dX7_invertMorphism_64 : decode cX7_invertMorphism 64 = .ok (.iload_n 3, 1) := by decide +kernel
theorem dX7_invertMorphism_65 : decode cX7_invertMorphism 65 = .ok (.isub, 1) := by decide +kernel
theorem dX7_invertMorphism_66 : decode cX7_invertMorphism 66 = .ok (.istore 4, 2) := by decide +kernel
theorem dX7_invertMorphism_68 : decode cX7_invertMorphism 68 = .ok (.iload_n 1, 1) := by decide +kernel
theorem dX7_invertMorphism_69 : decode cX7_invertMorphism 69 = .ok (.iload 4, 2) := by decide +kernel
theorem dX7_invertMorphism_71 : decode cX7_invertMorphism 71 = .ok (.invokestatic 90, 3) := by decide +kernel
theorem dX7_invertMorphism_74 : decode cX7_invertMorphism 74 = .ok (.istore 5, 2) := by decide +kernel
theorem dX7_invertMorphism_76 : decode cX7_invertMorphism 76 = .ok (.aload_n 0, 1) := by decide +kernel
theorem dX7_invertMorphism_77 : decode cX7_invertMorphism 77 = .ok (.iload 5, 2) := by decide +kernel
theorem dX7_invertMorphism_79 : decode cX7_invertMorphism 79 = .ok (.iload_n 2, 1) := by decide +kernel
theorem dX7_invertMorphism_80 : decode cX7_invertMorphism 80 = .ok (.invokevirtual 93, 3) := by decide +kernel
theorem dX7_invertMorphism_83 : decode cX7_invertMorphism 83 = .ok (.ifCond .ne 6, 3) := by decide +kernel
theorem dX7_invertMorphism_86 : decode cX7_invertMorphism 86 = .ok (.bipush (-3), 2) := by decide +kernel
theorem dX7_invertMorphism_88 : decode cX7_invertMorphism 88 = .ok (.ireturn, 1) := by decide +kernel
theorem dX7_invertMorphism_89 : decode cX7_invertMorphism 89 = .ok (.aload_n 0, 1) := by decide +kernel
theorem dX7_invertMorphism_90 : decode cX7_invertMorphism 90 = .ok (.iload 4, 2) := by decide +kernel
theorem dX7_invertMorphism_92 : decode cX7_invertMorphism 92 = .ok (.invokevirtual 75, 3) := by decide +kernel
theorem dX7_invertMorphism_95 : decode cX7_invertMorphism 95 = .ok (.iload_n 2, 1) := by decide +kernel
theorem dX7_invertMorphism_96 : decode cX7_invertMorphism 96 = .ok (.iload 5, 2) := by decide +kernel
theorem dX7_invertMorphism_98 : decode cX7_invertMorphism 98 = .ok (.bipush 99, 2) := by decide +kernel
theorem dX7_invertMorphism_100 : decode cX7_invertMorphism 100 = .ok (.if_icmp .le 7, 3) := by decide +kernel
theorem dX7_invertMorphism_103 : decode cX7_invertMorphism 103 = .ok (.iconst 2, 1) := by decide +kernel
theorem dX7_invertMorphism_104 : decode cX7_invertMorphism 104 = .ok (.goto 4, 3) := by decide +kernel
theorem dX7_invertMorphism_107 : decode cX7_invertMorphism 107 = .ok (.iconst 1, 1) := by decide +kernel
theorem dX7_invertMorphism_108 : decode cX7_invertMorphism 108 = .ok (.iadd, 1) := by decide +kernel
theorem dX7_invertMorphism_109 : decode cX7_invertMorphism 109 = .ok (.istore_n 2, 1) := by decide +kernel
theorem dX7_invertMorphism_110 : decode cX7_invertMorphism 110 = .ok (.goto (-90), 3) := by decide +kernel
theorem dX7_invertMorphism_113 : decode cX7_invertMorphism 113 = .ok (.aload_n 0, 1) := by decide +kernel
theorem dX7_invertMorphism_114 : decode cX7_invertMorphism 114 = .ok (.invokevirtual 65, 3) := by decide +kernel
theorem dX7_invertMorphism_117 : decode cX7_invertMorphism 117 = .ok (.aload_n 0, 1) := by decide +kernel
theorem dX7_invertMorphism_118 : decode cX7_invertMorphism 118 = .ok (.getfield 7, 3) := by decide +kernel
theorem dX7_invertMorphism_121 : decode cX7_invertMorphism 121 = .ok (.iconst 3, 1) := by decide +kernel
theorem dX7_invertMorphism_122 : decode cX7_invertMorphism 122 = .ok (.iaload, 1) := by decide +kernel
theorem dX7_invertMorphism_123 : decode cX7_invertMorphism 123 = .ok (.ireturn, 1) := by decide +kernel
set_option maxRecDepth 20000 in
theorem ggX7_undo_X7_copy : GoodIn wsX7_undo wsX7_copy := goodIn_r _ [7] (by decide +kernel) (by decide +kernel)
set_option maxRecDepth 20000 in
theorem gX7_undo_X7_copy : GoodIn wsX7_undo (va_wsS RX7 36 yX7_copy wsX7_copy) := goodIn_app (goodIn_of _ (by decide +kernel)) ggX7_undo_X7_copy
theorem dX7_undo_0 : decode cX7_undo 0 = .ok (.aload_n 0, 1) := by decide +kernel
theorem dX7_undo_1 : decode cX7_undo 1 = .ok (.getfield 32, 3) := by decide +kernel
theorem dX7_undo_4 : decode cX7_undo 4 = .ok (.ifCond .ne 6, 3) := by decide +kernel
theorem dX7_undo_7 : decode cX7_undo 7 = .ok (.bipush (-3), 2) := by decide +kernel
theorem dX7_undo_9 : decode cX7_undo 9 = .ok (.ireturn, 1) := by decide +kernel
theorem dX7_undo_10 : decode cX7_undo 10 = .ok (.aload_n 0, 1) := by decide +kernel
theorem dX7_undo_11 : decode cX7_undo 11 = .ok (.dup, 1) := by decide +kernel
theorem dX7_undo_12 : decode cX7_undo 12 = .ok (.getfield 32, 3) := by decide +kernel
theorem dX7_undo_15 : decode cX7_undo 15 = .ok (.iconst 1, 1) := by decide +kernel
theorem dX7_undo_16 : decode cX7_undo 16 = .ok (.isub, 1) := by decide +kernel
theorem dX7_undo_17 : decode cX7_undo 17 = .ok (.putfield 32, 3) := by decide +kernel
theorem dX7_undo_20 : decode cX7_undo 20 = .ok (.aload_n 0, 1) := by decide +kernel
theorem dX7_undo_21 : decode cX7_undo 21 = .ok (.getfield 16, 3) := by decide +kernel
theorem dX7_undo_24 : decode cX7_undo 24 = .ok (.bipush 64, 2) := by decide +kernel
theorem dX7_undo_26 : decode cX7_undo 26 = .ok (.aload_n 0, 1) := by decide +kernel
theorem dX7_undo_27 : decode cX7_undo 27 = .ok (.getfield 32, 3) := by decide +kernel
theorem dX7_undo_30 : decode cX7_undo 30 = .ok (.imul, 1) := by decide +kernel
theorem dX7_undo_31 : decode cX7_undo 31 = .ok (.aload_n 0, 1) := by decide +kernel
theorem dX7_undo_32 : decode cX7_undo 32 = .ok (.getfield 7, 3) := by decide +kernel
theorem dX7_undo_35 : decode cX7_undo 35 = .ok (.iconst 0, 1) := by decide +kernel
theorem dX7_undo_36 : decode cX7_undo 36 = .ok (.invokestatic 36, 3) := by decide +kernel
theorem dX7_undo_39 : decode cX7_undo 39 = .ok (.aload_n 0, 1) := by decide +kernel
theorem dX7_undo_40 : decode cX7_undo 40 = .ok (.getfield 32, 3) := by decide +kernel
theorem dX7_undo_43 : decode cX7_undo 43 = .ok (.ireturn, 1) := by decide +kernel
theorem dX7_length_0 : decode cX7_length 0 = .ok (.aload_n 0, 1) := by decide +kernel
theorem dX7_length_1 : decode cX7_length 1 = .ok (.getfield 7, 3) := by decide +kernel
theorem dX7_length_4 : decode cX7_length 4 = .ok (.iconst 3, 1) := by decide +kernel
theorem dX7_length_5 : decode cX7_length 5 = .ok (.iaload, 1) := by decide +kernel
theorem dX7_length_6 : decode cX7_length 6 = .ok (.ireturn, 1) := by decide +kernel
set_option maxRecDepth 20000 in
theorem ggX7_weight_X7_weightOf : GoodIn wsX7_weight wsX7_weightOf := goodIn_r _ [5] (by decide +kernel) (by decide +kernel)
set_option maxRecDepth 20000 in
theorem gX7_weight_X7_weightOf : GoodIn wsX7_weight (va_wsS RX7 68 yX7_weightOf wsX7_weightOf) := goodIn_app (goodIn_of _ (by decide +kernel)) ggX7_weight_X7_weightOf
theorem dX7_weight_0 : decode cX7_weight 0 = .ok (.aload_n 0, 1) := by decide +kernel
theorem dX7_weight_1 : decode cX7_weight 1 = .ok (.getfield 7, 3) := by decide +kernel
theorem dX7_weight_4 : decode cX7_weight 4 = .ok (.invokestatic 68, 3) := by decide +kernel
theorem dX7_weight_7 : decode cX7_weight 7 = .ok (.ireturn, 1) := by decide +kernel
theorem dX7_letterAt_0 : decode cX7_letterAt 0 = .ok (.iload_n 1, 1) := by decide +kernel
theorem dX7_letterAt_1 : decode cX7_letterAt 1 = .ok (.ifCond .ge 5, 3) := by decide +kernel
theorem dX7_letterAt_4 : decode cX7_letterAt 4 = .ok (.iconst (-1), 1) := by decide +kernel
theorem dX7_letterAt_5 : decode cX7_letterAt 5 = .ok (.ireturn, 1) := by decide +kernel
theorem dX7_letterAt_6 : decode cX7_letterAt 6 = .ok (.iload_n 1, 1) := by decide +kernel
theorem dX7_letterAt_7 : decode cX7_letterAt 7 = .ok (.aload_n 0, 1) := by decide +kernel
theorem dX7_letterAt_8 : decode cX7_letterAt 8 = .ok (.getfield 7, 3) := by decide +kernel
theorem dX7_letterAt_11 : decode cX7_letterAt 11 = .ok (.iconst 3, 1) := by decide +kernel
theorem dX7_letterAt_12 : decode cX7_letterAt 12 = .ok (.iaload, 1) := by decide +kernel
theorem dX7_letterAt_13 : decode cX7_letterAt 13 = .ok (.if_icmp .ge 14, 3) := by decide +kernel
theorem dX7_letterAt_16 : decode cX7_letterAt 16 = .ok (.aload_n 0, 1) := by decide +kernel
theorem dX7_letterAt_17 : decode cX7_letterAt 17 = .ok (.getfield 7, 3) := by decide +kernel
theorem dX7_letterAt_20 : decode cX7_letterAt 20 = .ok (.iconst 4, 1) := by decide +kernel
theorem dX7_letterAt_21 : decode cX7_letterAt 21 = .ok (.iload_n 1, 1) := by decide +kernel
theorem dX7_letterAt_22 : decode cX7_letterAt 22 = .ok (.iadd, 1) := by decide +kernel
theorem dX7_letterAt_23 : decode cX7_letterAt 23 = .ok (.iaload, 1) := by decide +kernel
theorem dX7_letterAt_24 : decode cX7_letterAt 24 = .ok (.goto 5, 3) := by decide +kernel
theorem dX7_letterAt_27 : decode cX7_letterAt 27 = .ok (.bipush (-3), 2) := by decide +kernel
theorem dX7_letterAt_29 : decode cX7_letterAt 29 = .ok (.ireturn, 1) := by decide +kernel
theorem dX7_compare_0 : decode cX7_compare 0 = .ok (.iconst 0, 1) := by decide +kernel
theorem dX7_compare_1 : decode cX7_compare 1 = .ok (.istore 4, 2) := by decide +kernel
theorem dX7_compare_3 : decode cX7_compare 3 = .ok (.iload 4, 2) := by decide +kernel
theorem dX7_compare_5 : decode cX7_compare 5 = .ok (.iload_n 3, 1) := by decide +kernel
theorem dX7_compare_6 : decode cX7_compare 6 = .ok (.if_icmp .ge 58, 3) := by decide +kernel
theorem dX7_compare_9 : decode cX7_compare 9 = .ok (.aload_n 0, 1) := by decide +kernel
theorem dX7_compare_10 : decode cX7_compare 10 = .ok (.getfield 7, 3) := by decide +kernel
theorem dX7_compare_13 : decode cX7_compare 13 = .ok (.iconst 4, 1) := by decide +kernel
theorem dX7_compare_14 : decode cX7_compare 14 = .ok (.iload_n 1, 1) := by decide +kernel
theorem dX7_compare_15 : decode cX7_compare 15 = .ok (.iadd, 1) := by decide +kernel
theorem dX7_compare_16 : decode cX7_compare 16 = .ok (.iload 4, 2) := by decide +kernel
theorem dX7_compare_18 : decode cX7_compare 18 = .ok (.iadd, 1) := by decide +kernel
theorem dX7_compare_19 : decode cX7_compare 19 = .ok (.iaload, 1) := by decide +kernel
theorem dX7_compare_20 : decode cX7_compare 20 = .ok (.aload_n 0, 1) := by decide +kernel
theorem dX7_compare_21 : decode cX7_compare 21 = .ok (.getfield 7, 3) := by decide +kernel
theorem dX7_compare_24 : decode cX7_compare 24 = .ok (.iconst 4, 1) := by decide +kernel
theorem dX7_compare_25 : decode cX7_compare 25 = .ok (.iload_n 2, 1) := by decide +kernel
theorem dX7_compare_26 : decode cX7_compare 26 = .ok (.iadd, 1) := by decide +kernel
theorem dX7_compare_27 : decode cX7_compare 27 = .ok (.iload 4, 2) := by decide +kernel
theorem dX7_compare_29 : decode cX7_compare 29 = .ok (.iadd, 1) := by decide +kernel
theorem dX7_compare_30 : decode cX7_compare 30 = .ok (.iaload, 1) := by decide +kernel
theorem dX7_compare_31 : decode cX7_compare 31 = .ok (.if_icmp .eq 27, 3) := by decide +kernel
theorem dX7_compare_34 : decode cX7_compare 34 = .ok (.aload_n 0, 1) := by decide +kernel
theorem dX7_compare_35 : decode cX7_compare 35 = .ok (.getfield 7, 3) := by decide +kernel
theorem dX7_compare_38 : decode cX7_compare 38 = .ok (.iconst 4, 1) := by decide +kernel
theorem dX7_compare_39 : decode cX7_compare 39 = .ok (.iload_n 1, 1) := by decide +kernel
theorem dX7_compare_40 : decode cX7_compare 40 = .ok (.iadd, 1) := by decide +kernel
theorem dX7_compare_41 : decode cX7_compare 41 = .ok (.iload 4, 2) := by decide +kernel
theorem dX7_compare_43 : decode cX7_compare 43 = .ok (.iadd, 1) := by decide +kernel
theorem dX7_compare_44 : decode cX7_compare 44 = .ok (.iaload, 1) := by decide +kernel
theorem dX7_compare_45 : decode cX7_compare 45 = .ok (.aload_n 0, 1) := by decide +kernel
theorem dX7_compare_46 : decode cX7_compare 46 = .ok (.getfield 7, 3) := by decide +kernel
theorem dX7_compare_49 : decode cX7_compare 49 = .ok (.iconst 4, 1) := by decide +kernel
theorem dX7_compare_50 : decode cX7_compare 50 = .ok (.iload_n 2, 1) := by decide +kernel
theorem dX7_compare_51 : decode cX7_compare 51 = .ok (.iadd, 1) := by decide +kernel
theorem dX7_compare_52 : decode cX7_compare 52 = .ok (.iload 4, 2) := by decide +kernel
theorem dX7_compare_54 : decode cX7_compare 54 = .ok (.iadd, 1) := by decide +kernel
theorem dX7_compare_55 : decode cX7_compare 55 = .ok (.iaload, 1) := by decide +kernel
theorem dX7_compare_56 : decode cX7_compare 56 = .ok (.isub, 1) := by decide +kernel
theorem dX7_compare_57 : decode cX7_compare 57 = .ok (.ireturn, 1) := by decide +kernel
theorem dX7_compare_58 : decode cX7_compare 58 = .ok (.iinc 4 1, 3) := by decide +kernel
theorem dX7_compare_61 : decode cX7_compare 61 = .ok (.goto (-58), 3) := by decide +kernel
theorem dX7_compare_64 : decode cX7_compare 64 = .ok (.iconst 0, 1) := by decide +kernel
theorem dX7_compare_65 : decode cX7_compare 65 = .ok (.ireturn, 1) := by decide +kernel
set_option maxRecDepth 20000 in
theorem ggX7_isFirst_X7_compare : GoodIn wsX7_isFirst wsX7_compare := goodIn_r _ [5, 6, 7, 8, 9, 10, 11, 12, 13, 14, 15, 16, 17] (by decide +kernel) (by decide +kernel)
set_option maxRecDepth 20000 in
theorem gX7_isFirst_X7_compare : GoodIn wsX7_isFirst (wsV RX7 96 RX7 yX7_compare wsX7_compare) := goodIn_app (goodIn_of _ (by decide +kernel)) ggX7_isFirst_X7_compare
theorem dX7_isFirst_0 : decode cX7_isFirst 0 = .ok (.iconst 0, 1) := by decide +kernel
theorem dX7_isFirst_1 : decode cX7_isFirst 1 = .ok (.istore_n 3, 1) := by decide +kernel
theorem dX7_isFirst_2 : decode cX7_isFirst 2 = .ok (.iload_n 3, 1) := by decide +kernel
theorem dX7_isFirst_3 : decode cX7_isFirst 3 = .ok (.iload_n 1, 1) := by decide +kernel
theorem dX7_isFirst_4 : decode cX7_isFirst 4 = .ok (.if_icmp .ge 21, 3) := by decide +kernel
theorem dX7_isFirst_7 : decode cX7_isFirst 7 = .ok (.aload_n 0, 1) := by decide +kernel
theorem dX7_isFirst_8 : decode cX7_isFirst 8 = .ok (.iload_n 3, 1) := by decide +kernel
theorem dX7_isFirst_9 : decode cX7_isFirst 9 = .ok (.iload_n 1, 1) := by decide +kernel
theorem dX7_isFirst_10 : decode cX7_isFirst 10 = .ok (.iload_n 2, 1) := by decide +kernel
theorem dX7_isFirst_11 : decode cX7_isFirst 11 = .ok (.invokevirtual 96, 3) := by decide +kernel
theorem dX7_isFirst_14 : decode cX7_isFirst 14 = .ok (.ifCond .ne 5, 3) := by decide +kernel
theorem dX7_isFirst_17 : decode cX7_isFirst 17 = .ok (.iconst 0, 1) := by decide +kernel
theorem dX7_isFirst_18 : decode cX7_isFirst 18 = .ok (.ireturn, 1) := by decide +kernel
theorem dX7_isFirst_19 : decode cX7_isFirst 19 = .ok (.iinc 3 1, 3) := by decide +kernel
theorem dX7_isFirst_22 : decode cX7_isFirst 22 = .ok (.goto (-20), 3) := by decide +kernel
theorem dX7_isFirst_25 : decode cX7_isFirst 25 = .ok (.iconst 1, 1) := by decide +kernel
theorem dX7_isFirst_26 : decode cX7_isFirst 26 = .ok (.ireturn, 1) := by decide +kernel
set_option maxRecDepth 20000 in
theorem ggX7_factorCount_X7_isFirst : GoodIn wsX7_factorCount wsX7_isFirst := goodIn_r _ [6, 7, 8, 9, 5, 10, 1, 11, 12, 13, 14, 15, 16, 17, 18, 19, 20, 21] (by decide +kernel) (by decide +kernel)
set_option maxRecDepth 20000 in
theorem gX7_factorCount_X7_isFirst : GoodIn wsX7_factorCount (wsV RX7 100 RX7 yX7_isFirst wsX7_isFirst) := goodIn_app (goodIn_of _ (by decide +kernel)) ggX7_factorCount_X7_isFirst
theorem dX7_factorCount_0 : decode cX7_factorCount 0 = .ok (.iload_n 1, 1) := by decide +kernel
theorem dX7_factorCount_1 : decode cX7_factorCount 1 = .ok (.ifCond .ge 5, 3) := by decide +kernel
theorem dX7_factorCount_4 : decode cX7_factorCount 4 = .ok (.iconst (-1), 1) := by decide +kernel
theorem dX7_factorCount_5 : decode cX7_factorCount 5 = .ok (.ireturn, 1) := by decide +kernel
theorem dX7_factorCount_6 : decode cX7_factorCount 6 = .ok (.iconst 0, 1) := by decide +kernel
theorem dX7_factorCount_7 : decode cX7_factorCount 7 = .ok (.istore_n 2, 1) := by decide +kernel
theorem dX7_factorCount_8 : decode cX7_factorCount 8 = .ok (.iconst 0, 1) := by decide +kernel
theorem dX7_factorCount_9 : decode cX7_factorCount 9 = .ok (.istore_n 3, 1) := by decide +kernel
theorem dX7_factorCount_10 : decode cX7_factorCount 10 = .ok (.iload_n 3, 1) := by decide +kernel
theorem dX7_factorCount_11 : decode cX7_factorCount 11 = .ok (.aload_n 0, 1) := by decide +kernel
theorem dX7_factorCount_12 : decode cX7_factorCount 12 = .ok (.getfield 7, 3) := by decide +kernel
theorem dX7_factorCount_15 : decode cX7_factorCount 15 = .ok (.iconst 3, 1) := by decide +kernel
theorem dX7_factorCount_16 : decode cX7_factorCount 16 = .ok (.iaload, 1) := by decide +kernel
theorem dX7_factorCount_17 : decode cX7_factorCount 17 = .ok (.iload_n 1, 1) := by decide +kernel
theorem dX7_factorCount_18 : decode cX7_factorCount 18 = .ok (.isub, 1) := by decide +kernel
theorem dX7_factorCount_19 : decode cX7_factorCount 19 = .ok (.if_icmp .gt 26, 3) := by decide +kernel
theorem dX7_factorCount_22 : decode cX7_factorCount 22 = .ok (.iload_n 2, 1) := by decide +kernel
theorem dX7_factorCount_23 : decode cX7_factorCount 23 = .ok (.aload_n 0, 1) := by decide +kernel
theorem dX7_factorCount_24 : decode cX7_factorCount 24 = .ok (.iload_n 3, 1) := by decide +kernel
theorem dX7_factorCount_25 : decode cX7_factorCount 25 = .ok (.iload_n 1, 1) := by decide +kernel
theorem dX7_factorCount_26 : decode cX7_factorCount 26 = .ok (.invokevirtual 100, 3) := by decide +kernel
theorem dX7_factorCount_29 : decode cX7_factorCount 29 = .ok (.ifCond .eq 7, 3) := by decide +kernel
theorem dX7_factorCount_32 : decode cX7_factorCount 32 = .ok (.iconst 1, 1) := by decide +kernel
theorem dX7_factorCount_33 : decode cX7_factorCount 33 = .ok (.goto 4, 3) := by decide +kernel
theorem dX7_factorCount_36 : decode cX7_factorCount 36 = .ok (.iconst 0, 1) := by decide +kernel
theorem dX7_factorCount_37 : decode cX7_factorCount 37 = .ok (.iadd, 1) := by decide +kernel
theorem dX7_factorCount_38 : decode cX7_factorCount 38 = .ok (.istore_n 2, 1) := by decide +kernel
theorem dX7_factorCount_39 : decode cX7_factorCount 39 = .ok (.iinc 3 1, 3) := by decide +kernel
theorem dX7_factorCount_42 : decode cX7_factorCount 42 = .ok (.goto (-32), 3) := by decide +kernel
theorem dX7_factorCount_45 : decode cX7_factorCount 45 = .ok (.iload_n 2, 1) := by decide +kernel
theorem dX7_factorCount_46 : decode cX7_factorCount 46 = .ok (.ireturn, 1) := by decide +kernel
theorem dX7_numberAt_0 : decode cX7_numberAt 0 = .ok (.iconst 0, 1) := by decide +kernel
theorem dX7_numberAt_1 : decode cX7_numberAt 1 = .ok (.istore_n 3, 1) := by decide +kernel
theorem dX7_numberAt_2 : decode cX7_numberAt 2 = .ok (.iconst 0, 1) := by decide +kernel
theorem dX7_numberAt_3 : decode cX7_numberAt 3 = .ok (.istore 4, 2) := by decide +kernel
theorem dX7_numberAt_5 : decode cX7_numberAt 5 = .ok (.iload 4, 2) := by decide +kernel
theorem dX7_numberAt_7 : decode cX7_numberAt 7 = .ok (.iload_n 2, 1) := by decide +kernel
theorem dX7_numberAt_8 : decode cX7_numberAt 8 = .ok (.if_icmp .ge 25, 3) := by decide +kernel
theorem dX7_numberAt_11 : decode cX7_numberAt 11 = .ok (.iconst 2, 1) := by decide +kernel
theorem dX7_numberAt_12 : decode cX7_numberAt 12 = .ok (.iload_n 3, 1) := by decide +kernel
theorem dX7_numberAt_13 : decode cX7_numberAt 13 = .ok (.imul, 1) := by decide +kernel
theorem dX7_numberAt_14 : decode cX7_numberAt 14 = .ok (.aload_n 0, 1) := by decide +kernel
theorem dX7_numberAt_15 : decode cX7_numberAt 15 = .ok (.getfield 7, 3) := by decide +kernel
theorem dX7_numberAt_18 : decode cX7_numberAt 18 = .ok (.iconst 4, 1) := by decide +kernel
theorem dX7_numberAt_19 : decode cX7_numberAt 19 = .ok (.iload_n 1, 1) := by decide +kernel
theorem dX7_numberAt_20 : decode cX7_numberAt 20 = .ok (.iadd, 1) := by decide +kernel
theorem dX7_numberAt_21 : decode cX7_numberAt 21 = .ok (.iload 4, 2) := by decide +kernel
theorem dX7_numberAt_23 : decode cX7_numberAt 23 = .ok (.iadd, 1) := by decide +kernel
theorem dX7_numberAt_24 : decode cX7_numberAt 24 = .ok (.iaload, 1) := by decide +kernel
theorem dX7_numberAt_25 : decode cX7_numberAt 25 = .ok (.iadd, 1) := by decide +kernel
theorem dX7_numberAt_26 : decode cX7_numberAt 26 = .ok (.istore_n 3, 1) := by decide +kernel
theorem dX7_numberAt_27 : decode cX7_numberAt 27 = .ok (.iinc 4 1, 3) := by decide +kernel
theorem dX7_numberAt_30 : decode cX7_numberAt 30 = .ok (.goto (-25), 3) := by decide +kernel
theorem dX7_numberAt_33 : decode cX7_numberAt 33 = .ok (.iload_n 3, 1) := by decide +kernel
theorem dX7_numberAt_34 : decode cX7_numberAt 34 = .ok (.ireturn, 1) := by decide +kernel
set_option maxRecDepth 20000 in
theorem ggX7_factorAt_X7_in : GoodIn wsX7_factorAt wsX7_in := goodIn_r _ [5] (by decide +kernel) (by decide +kernel)
set_option maxRecDepth 20000 in
theorem gX7_factorAt_X7_in : GoodIn wsX7_factorAt (va_wsS RX7 43 yX7_in wsX7_in) := goodIn_app (goodIn_of _ (by decide +kernel)) ggX7_factorAt_X7_in
set_option maxRecDepth 20000 in
theorem ggX7_factorAt_X7_isFirst : GoodIn wsX7_factorAt wsX7_isFirst := goodIn_r _ [9, 10, 11, 12, 4, 13, 1, 18, 19, 20, 21, 22, 23, 24, 25, 26, 27, 28] (by decide +kernel) (by decide +kernel)
set_option maxRecDepth 20000 in
theorem gX7_factorAt_X7_isFirst : GoodIn wsX7_factorAt (wsV RX7 100 RX7 yX7_isFirst wsX7_isFirst) := goodIn_app (goodIn_of _ (by decide +kernel)) ggX7_factorAt_X7_isFirst
set_option maxRecDepth 20000 in
theorem ggX7_factorAt_X7_compare : GoodIn wsX7_factorAt wsX7_compare := goodIn_r _ [13, 1, 18, 19, 20, 21, 22, 23, 24, 25, 26, 27, 28] (by decide +kernel) (by decide +kernel)
set_option maxRecDepth 20000 in
theorem gX7_factorAt_X7_compare : GoodIn wsX7_factorAt (wsV RX7 96 RX7 yX7_compare wsX7_compare) := goodIn_app (goodIn_of _ (by decide +kernel)) ggX7_factorAt_X7_compare
set_option maxRecDepth 20000 in
theorem ggX7_factorAt_X7_numberAt : GoodIn wsX7_factorAt wsX7_numberAt := goodIn_r _ [17, 1, 18, 19, 20, 21, 22, 23, 24, 25, 26, 27, 28] (by decide +kernel) (by decide +kernel)
set_option maxRecDepth 20000 in
theorem gX7_factorAt_X7_numberAt : GoodIn wsX7_factorAt (wsV RX7 103 RX7 yX7_numberAt wsX7_numberAt) := goodIn_app (goodIn_of _ (by decide +kernel)) ggX7_factorAt_X7_numberAt
theorem dX7_factorAt_0 : decode cX7_factorAt 0 = .ok (.iload_n 1, 1) := by decide +kernel
theorem dX7_factorAt_1 : decode cX7_factorAt 1 = .ok (.iconst 1, 1) := by decide +kernel
theorem dX7_factorAt_2 : decode cX7_factorAt 2 = .ok (.bipush 30, 2) := by decide +kernel
theorem dX7_factorAt_4 : decode cX7_factorAt 4 = .ok (.invokestatic 43, 3) := by decide +kernel
theorem dX7_factorAt_7 : decode cX7_factorAt 7 = .ok (.ifCond .eq 7, 3) := by decide +kernel
theorem dX7_factorAt_10 : decode cX7_factorAt 10 = .ok (.iload_n 2, 1) := by decide +kernel
theorem dX7_factorAt_11 : decode cX7_factorAt 11 = .ok (.ifCond .ge 5, 3) := by decide +kernel
theorem dX7_factorAt_14 : decode cX7_factorAt 14 = .ok (.iconst (-1), 1) := by decide +kernel
theorem dX7_factorAt_15 : decode cX7_factorAt 15 = .ok (.ireturn, 1) := by decide +kernel
theorem dX7_factorAt_16 : decode cX7_factorAt 16 = .ok (.iconst 0, 1) := by decide +kernel
theorem dX7_factorAt_17 : decode cX7_factorAt 17 = .ok (.istore_n 3, 1) := by decide +kernel
theorem dX7_factorAt_18 : decode cX7_factorAt 18 = .ok (.iload_n 3, 1) := by decide +kernel
theorem dX7_factorAt_19 : decode cX7_factorAt 19 = .ok (.aload_n 0, 1) := by decide +kernel
theorem dX7_factorAt_20 : decode cX7_factorAt 20 = .ok (.getfield 7, 3) := by decide +kernel
theorem dX7_factorAt_23 : decode cX7_factorAt 23 = .ok (.iconst 3, 1) := by decide +kernel
theorem dX7_factorAt_24 : decode cX7_factorAt 24 = .ok (.iaload, 1) := by decide +kernel
theorem dX7_factorAt_25 : decode cX7_factorAt 25 = .ok (.iload_n 1, 1) := by decide +kernel
theorem dX7_factorAt_26 : decode cX7_factorAt 26 = .ok (.isub, 1) := by decide +kernel
theorem dX7_factorAt_27 : decode cX7_factorAt 27 = .ok (.if_icmp .gt 78, 3) := by decide +kernel
theorem dX7_factorAt_30 : decode cX7_factorAt 30 = .ok (.iconst 0, 1) := by decide +kernel
theorem dX7_factorAt_31 : decode cX7_factorAt 31 = .ok (.istore 4, 2) := by decide +kernel
theorem dX7_factorAt_33 : decode cX7_factorAt 33 = .ok (.iconst 0, 1) := by decide +kernel
theorem dX7_factorAt_34 : decode cX7_factorAt 34 = .ok (.istore 5, 2) := by decide +kernel
theorem dX7_factorAt_36 : decode cX7_factorAt 36 = .ok (.iload 5, 2) := by decide +kernel
theorem dX7_factorAt_38 : decode cX7_factorAt 38 = .ok (.aload_n 0, 1) := by decide +kernel
theorem dX7_factorAt_39 : decode cX7_factorAt 39 = .ok (.getfield 7, 3) := by decide +kernel
theorem dX7_factorAt_42 : decode cX7_factorAt 42 = .ok (.iconst 3, 1) := by decide +kernel
theorem dX7_factorAt_43 : decode cX7_factorAt 43 = .ok (.iaload, 1) := by decide +kernel
theorem dX7_factorAt_44 : decode cX7_factorAt 44 = .ok (.iload_n 1, 1) := by decide +kernel
theorem dX7_factorAt_45 : decode cX7_factorAt 45 = .ok (.isub, 1) := by decide +kernel
theorem dX7_factorAt_46 : decode cX7_factorAt 46 = .ok (.if_icmp .gt 40, 3) := by decide +kernel
theorem dX7_factorAt_49 : decode cX7_factorAt 49 = .ok (.iload 4, 2) := by decide +kernel
theorem dX7_factorAt_51 : decode cX7_factorAt 51 = .ok (.aload_n 0, 1) := by decide +kernel
theorem dX7_factorAt_52 : decode cX7_factorAt 52 = .ok (.iload 5, 2) := by decide +kernel
theorem dX7_factorAt_54 : decode cX7_factorAt 54 = .ok (.iload_n 1, 1) := by decide +kernel
theorem dX7_factorAt_55 : decode cX7_factorAt 55 = .ok (.invokevirtual 100, 3) := by decide +kernel
theorem dX7_factorAt_58 : decode cX7_factorAt 58 = .ok (.ifCond .eq 18, 3) := by decide +kernel
theorem dX7_factorAt_61 : decode cX7_factorAt 61 = .ok (.aload_n 0, 1) := by decide +kernel
theorem dX7_factorAt_62 : decode cX7_factorAt 62 = .ok (.iload 5, 2) := by decide +kernel
theorem dX7_factorAt_64 : decode cX7_factorAt 64 = .ok (.iload_n 3, 1) := by decide +kernel
theorem dX7_factorAt_65 : decode cX7_factorAt 65 = .ok (.iload_n 1, 1) := by decide +kernel
theorem dX7_factorAt_66 : decode cX7_factorAt 66 = .ok (.invokevirtual 96, 3) := by decide +kernel
theorem dX7_factorAt_69 : decode cX7_factorAt 69 = .ok (.ifCond .ge 7, 3) := by decide +kernel
theorem dX7_factorAt_72 : decode cX7_factorAt 72 = .ok (.iconst 1, 1) := by decide +kernel
theorem dX7_factorAt_73 : decode cX7_factorAt 73 = .ok (.goto 4, 3) := by decide +kernel
theorem dX7_factorAt_76 : decode cX7_factorAt 76 = .ok (.iconst 0, 1) := by decide +kernel
theorem dX7_factorAt_77 : decode cX7_factorAt 77 = .ok (.iadd, 1) := by decide +kernel
theorem dX7_factorAt_78 : decode cX7_factorAt 78 = .ok (.istore 4, 2) := by decide +kernel
theorem dX7_factorAt_80 : decode cX7_factorAt 80 = .ok (.iinc 5 1, 3) := by decide +kernel
theorem dX7_factorAt_83 : decode cX7_factorAt 83 = .ok (.goto (-47), 3) := by decide +kernel
theorem dX7_factorAt_86 : decode cX7_factorAt 86 = .ok (.iload 4, 2) := by decide +kernel
theorem dX7_factorAt_88 : decode cX7_factorAt 88 = .ok (.iload_n 2, 1) := by decide +kernel
theorem dX7_factorAt_89 : decode cX7_factorAt 89 = .ok (.if_icmp .ne 10, 3) := by decide +kernel
theorem dX7_factorAt_92 : decode cX7_factorAt 92 = .ok (.aload_n 0, 1) := by decide +kernel
theorem dX7_factorAt_93 : decode cX7_factorAt 93 = .ok (.iload_n 3, 1) := by decide +kernel
theorem dX7_factorAt_94 : decode cX7_factorAt 94 = .ok (.iload_n 1, 1) := by decide +kernel
theorem dX7_factorAt_95 : decode cX7_factorAt 95 = .ok (.invokevirtual 103, 3) := by decide +kernel
theorem dX7_factorAt_98 : decode cX7_factorAt 98 = .ok (.ireturn, 1) := by decide +kernel
theorem dX7_factorAt_99 : decode cX7_factorAt 99 = .ok (.iinc 3 1, 3) := by decide +kernel
theorem dX7_factorAt_102 : decode cX7_factorAt 102 = .ok (.goto (-84), 3) := by decide +kernel
theorem dX7_factorAt_105 : decode cX7_factorAt 105 = .ok (.bipush (-3), 2) := by decide +kernel
theorem dX7_factorAt_107 : decode cX7_factorAt 107 = .ok (.ireturn, 1) := by decide +kernel
theorem dX7_unbalancedLength_0 : decode cX7_unbalancedLength 0 = .ok (.iconst 1, 1) := by decide +kernel
theorem dX7_unbalancedLength_1 : decode cX7_unbalancedLength 1 = .ok (.istore_n 1, 1) := by decide +kernel
theorem dX7_unbalancedLength_2 : decode cX7_unbalancedLength 2 = .ok (.iload_n 1, 1) := by decide +kernel
theorem dX7_unbalancedLength_3 : decode cX7_unbalancedLength 3 = .ok (.aload_n 0, 1) := by decide +kernel
theorem dX7_unbalancedLength_4 : decode cX7_unbalancedLength 4 = .ok (.getfield 7, 3) := by decide +kernel
theorem dX7_unbalancedLength_7 : decode cX7_unbalancedLength 7 = .ok (.iconst 3, 1) := by decide +kernel
theorem dX7_unbalancedLength_8 : decode cX7_unbalancedLength 8 = .ok (.iaload, 1) := by decide +kernel
theorem dX7_unbalancedLength_9 : decode cX7_unbalancedLength 9 = .ok (.if_icmp .gt 106, 3) := by decide +kernel
theorem dX7_unbalancedLength_12 : decode cX7_unbalancedLength 12 = .ok (.bipush 60, 2) := by decide +kernel
theorem dX7_unbalancedLength_14 : decode cX7_unbalancedLength 14 = .ok (.istore_n 2, 1) := by decide +kernel
theorem dX7_unbalancedLength_15 : decode cX7_unbalancedLength 15 = .ok (.iconst 0, 1) := by decide +kernel
theorem dX7_unbalancedLength_16 : decode cX7_unbalancedLength 16 = .ok (.istore_n 3, 1) := by decide +kernel
theorem dX7_unbalancedLength_17 : decode cX7_unbalancedLength 17 = .ok (.iconst 0, 1) := by decide +kernel
theorem dX7_unbalancedLength_18 : decode cX7_unbalancedLength 18 = .ok (.istore 4, 2) := by decide +kernel
theorem dX7_unbalancedLength_20 : decode cX7_unbalancedLength 20 = .ok (.iload 4, 2) := by decide +kernel
theorem dX7_unbalancedLength_22 : decode cX7_unbalancedLength 22 = .ok (.aload_n 0, 1) := by decide +kernel
theorem dX7_unbalancedLength_23 : decode cX7_unbalancedLength 23 = .ok (.getfield 7, 3) := by decide +kernel
theorem dX7_unbalancedLength_26 : decode cX7_unbalancedLength 26 = .ok (.iconst 3, 1) := by decide +kernel
theorem dX7_unbalancedLength_27 : decode cX7_unbalancedLength 27 = .ok (.iaload, 1) := by decide +kernel
theorem dX7_unbalancedLength_28 : decode cX7_unbalancedLength 28 = .ok (.iload_n 1, 1) := by decide +kernel
theorem dX7_unbalancedLength_29 : decode cX7_unbalancedLength 29 = .ok (.isub, 1) := by decide +kernel
theorem dX7_unbalancedLength_30 : decode cX7_unbalancedLength 30 = .ok (.if_icmp .gt 70, 3) := by decide +kernel
theorem dX7_unbalancedLength_33 : decode cX7_unbalancedLength 33 = .ok (.iconst 0, 1) := by decide +kernel
theorem dX7_unbalancedLength_34 : decode cX7_unbalancedLength 34 = .ok (.istore 5, 2) := by decide +kernel
theorem dX7_unbalancedLength_36 : decode cX7_unbalancedLength 36 = .ok (.iconst 0, 1) := by decide +kernel
theorem dX7_unbalancedLength_37 : decode cX7_unbalancedLength 37 = .ok (.istore 6, 2) := by decide +kernel
theorem dX7_unbalancedLength_39 : decode cX7_unbalancedLength 39 = .ok (.iload 6, 2) := by decide +kernel
theorem dX7_unbalancedLength_41 : decode cX7_unbalancedLength 41 = .ok (.iload_n 1, 1) := by decide +kernel
theorem dX7_unbalancedLength_42 : decode cX7_unbalancedLength 42 = .ok (.if_icmp .ge 26, 3) := by decide +kernel
theorem dX7_unbalancedLength_45 : decode cX7_unbalancedLength 45 = .ok (.iload 5, 2) := by decide +kernel
theorem dX7_unbalancedLength_47 : decode cX7_unbalancedLength 47 = .ok (.aload_n 0, 1) := by decide +kernel
theorem dX7_unbalancedLength_48 : decode cX7_unbalancedLength 48 = .ok (.getfield 7, 3) := by decide +kernel
theorem dX7_unbalancedLength_51 : decode cX7_unbalancedLength 51 = .ok (.iconst 4, 1) := by decide +kernel
theorem dX7_unbalancedLength_52 : decode cX7_unbalancedLength 52 = .ok (.iload 4, 2) := by decide +kernel
theorem dX7_unbalancedLength_54 : decode cX7_unbalancedLength 54 = .ok (.iadd, 1) := by decide +kernel
theorem dX7_unbalancedLength_55 : decode cX7_unbalancedLength 55 = .ok (.iload 6, 2) := by decide +kernel
theorem dX7_unbalancedLength_57 : decode cX7_unbalancedLength 57 = .ok (.iadd, 1) := by decide +kernel
theorem dX7_unbalancedLength_58 : decode cX7_unbalancedLength 58 = .ok (.iaload, 1) := by decide +kernel
theorem dX7_unbalancedLength_59 : decode cX7_unbalancedLength 59 = .ok (.iadd, 1) := by decide +kernel
theorem dX7_unbalancedLength_60 : decode cX7_unbalancedLength 60 = .ok (.istore 5, 2) := by decide +kernel
theorem dX7_unbalancedLength_62 : decode cX7_unbalancedLength 62 = .ok (.iinc 6 1, 3) := by decide +kernel
theorem dX7_unbalancedLength_65 : decode cX7_unbalancedLength 65 = .ok (.goto (-26), 3) := by decide +kernel
theorem dX7_unbalancedLength_68 : decode cX7_unbalancedLength 68 = .ok (.iload 5, 2) := by decide +kernel
theorem dX7_unbalancedLength_70 : decode cX7_unbalancedLength 70 = .ok (.iload_n 2, 1) := by decide +kernel
theorem dX7_unbalancedLength_71 : decode cX7_unbalancedLength 71 = .ok (.if_icmp .ge 8, 3) := by decide +kernel
theorem dX7_unbalancedLength_74 : decode cX7_unbalancedLength 74 = .ok (.iload 5, 2) := by decide +kernel
theorem dX7_unbalancedLength_76 : decode cX7_unbalancedLength 76 = .ok (.goto 4, 3) := by decide +kernel
theorem dX7_unbalancedLength_79 : decode cX7_unbalancedLength 79 = .ok (.iload_n 2, 1) := by decide +kernel
theorem dX7_unbalancedLength_80 : decode cX7_unbalancedLength 80 = .ok (.istore_n 2, 1) := by decide +kernel
theorem dX7_unbalancedLength_81 : decode cX7_unbalancedLength 81 = .ok (.iload 5, 2) := by decide +kernel
theorem dX7_unbalancedLength_83 : decode cX7_unbalancedLength 83 = .ok (.iload_n 3, 1) := by decide +kernel
theorem dX7_unbalancedLength_84 : decode cX7_unbalancedLength 84 = .ok (.if_icmp .le 8, 3) := by decide +kernel
theorem dX7_unbalancedLength_87 : decode cX7_unbalancedLength 87 = .ok (.iload 5, 2) := by decide +kernel
theorem dX7_unbalancedLength_89 : decode cX7_unbalancedLength 89 = .ok (.goto 4, 3) := by decide +kernel
theorem dX7_unbalancedLength_92 : decode cX7_unbalancedLength 92 = .ok (.iload_n 3, 1) := by decide +kernel
theorem dX7_unbalancedLength_93 : decode cX7_unbalancedLength 93 = .ok (.istore_n 3, 1) := by decide +kernel
theorem dX7_unbalancedLength_94 : decode cX7_unbalancedLength 94 = .ok (.iinc 4 1, 3) := by decide +kernel
theorem dX7_unbalancedLength_97 : decode cX7_unbalancedLength 97 = .ok (.goto (-77), 3) := by decide +kernel
theorem dX7_unbalancedLength_100 : decode cX7_unbalancedLength 100 = .ok (.iload_n 3, 1) := by decide +kernel
theorem dX7_unbalancedLength_101 : decode cX7_unbalancedLength 101 = .ok (.iload_n 2, 1) := by decide +kernel
theorem dX7_unbalancedLength_102 : decode cX7_unbalancedLength 102 = .ok (.isub, 1) := by decide +kernel
theorem dX7_unbalancedLength_103 : decode cX7_unbalancedLength 103 = .ok (.iconst 1, 1) := by decide +kernel
theorem dX7_unbalancedLength_104 : decode cX7_unbalancedLength 104 = .ok (.if_icmp .le 5, 3) := by decide +kernel
theorem dX7_unbalancedLength_107 : decode cX7_unbalancedLength 107 = .ok (.iload_n 1, 1) := by decide +kernel
theorem dX7_unbalancedLength_108 : decode cX7_unbalancedLength 108 = .ok (.ireturn, 1) := by decide +kernel
theorem dX7_unbalancedLength_109 : decode cX7_unbalancedLength 109 = .ok (.iinc 1 1, 3) := by decide +kernel
theorem dX7_unbalancedLength_112 : decode cX7_unbalancedLength 112 = .ok (.goto (-110), 3) := by decide +kernel
theorem dX7_unbalancedLength_115 : decode cX7_unbalancedLength 115 = .ok (.bipush (-3), 2) := by decide +kernel
theorem dX7_unbalancedLength_117 : decode cX7_unbalancedLength 117 = .ok (.ireturn, 1) := by decide +kernel
set_option maxRecDepth 20000 in
theorem ggX7_palindromeCount_X7_isPalindrome : GoodIn wsX7_palindromeCount wsX7_isPalindrome := goodIn_r _ [6, 1, 15, 16, 17, 18, 19, 20, 21, 22, 23, 24, 25] (by decide +kernel) (by decide +kernel)
set_option maxRecDepth 20000 in
theorem gX7_palindromeCount_X7_isPalindrome : GoodIn wsX7_palindromeCount (wsV RX7 86 RX7 yX7_isPalindrome wsX7_isPalindrome) := goodIn_app (goodIn_of _ (by decide +kernel)) ggX7_palindromeCount_X7_isPalindrome
set_option maxRecDepth 20000 in
theorem ggX7_palindromeCount_X7_isFirst : GoodIn wsX7_palindromeCount wsX7_isFirst := goodIn_r _ [10, 11, 12, 13, 5, 14, 1, 15, 16, 17, 18, 19, 20, 21, 22, 23, 24, 25] (by decide +kernel) (by decide +kernel)
set_option maxRecDepth 20000 in
theorem gX7_palindromeCount_X7_isFirst : GoodIn wsX7_palindromeCount (wsV RX7 100 RX7 yX7_isFirst wsX7_isFirst) := goodIn_app (goodIn_of _ (by decide +kernel)) ggX7_palindromeCount_X7_isFirst
theorem dX7_palindromeCount_0 : decode cX7_palindromeCount 0 = .ok (.iconst 1, 1) := by decide +kernel
theorem dX7_palindromeCount_1 : decode cX7_palindromeCount 1 = .ok (.istore_n 1, 1) := by decide +kernel
theorem dX7_palindromeCount_2 : decode cX7_palindromeCount 2 = .ok (.iconst 1, 1) := by decide +kernel
theorem dX7_palindromeCount_3 : decode cX7_palindromeCount 3 = .ok (.istore_n 2, 1) := by decide +kernel
theorem dX7_palindromeCount_4 : decode cX7_palindromeCount 4 = .ok (.iload_n 2, 1) := by decide +kernel
theorem dX7_palindromeCount_5 : decode cX7_palindromeCount 5 = .ok (.aload_n 0, 1) := by decide +kernel
theorem dX7_palindromeCount_6 : decode cX7_palindromeCount 6 = .ok (.getfield 7, 3) := by decide +kernel
theorem dX7_palindromeCount_9 : decode cX7_palindromeCount 9 = .ok (.iconst 3, 1) := by decide +kernel
theorem dX7_palindromeCount_10 : decode cX7_palindromeCount 10 = .ok (.iaload, 1) := by decide +kernel
theorem dX7_palindromeCount_11 : decode cX7_palindromeCount 11 = .ok (.if_icmp .gt 55, 3) := by decide +kernel
theorem dX7_palindromeCount_14 : decode cX7_palindromeCount 14 = .ok (.iconst 0, 1) := by decide +kernel
theorem dX7_palindromeCount_15 : decode cX7_palindromeCount 15 = .ok (.istore_n 3, 1) := by decide +kernel
theorem dX7_palindromeCount_16 : decode cX7_palindromeCount 16 = .ok (.iload_n 3, 1) := by decide +kernel
theorem dX7_palindromeCount_17 : decode cX7_palindromeCount 17 = .ok (.aload_n 0, 1) := by decide +kernel
theorem dX7_palindromeCount_18 : decode cX7_palindromeCount 18 = .ok (.getfield 7, 3) := by decide +kernel
theorem dX7_palindromeCount_21 : decode cX7_palindromeCount 21 = .ok (.iconst 3, 1) := by decide +kernel
theorem dX7_palindromeCount_22 : decode cX7_palindromeCount 22 = .ok (.iaload, 1) := by decide +kernel
theorem dX7_palindromeCount_23 : decode cX7_palindromeCount 23 = .ok (.iload_n 2, 1) := by decide +kernel
theorem dX7_palindromeCount_24 : decode cX7_palindromeCount 24 = .ok (.isub, 1) := by decide +kernel
theorem dX7_palindromeCount_25 : decode cX7_palindromeCount 25 = .ok (.if_icmp .gt 35, 3) := by decide +kernel
theorem dX7_palindromeCount_28 : decode cX7_palindromeCount 28 = .ok (.iload_n 1, 1) := by decide +kernel
theorem dX7_palindromeCount_29 : decode cX7_palindromeCount 29 = .ok (.aload_n 0, 1) := by decide +kernel
theorem dX7_palindromeCount_30 : decode cX7_palindromeCount 30 = .ok (.iload_n 3, 1) := by decide +kernel
theorem dX7_palindromeCount_31 : decode cX7_palindromeCount 31 = .ok (.iload_n 2, 1) := by decide +kernel
theorem dX7_palindromeCount_32 : decode cX7_palindromeCount 32 = .ok (.invokevirtual 86, 3) := by decide +kernel
theorem dX7_palindromeCount_35 : decode cX7_palindromeCount 35 = .ok (.ifCond .eq 16, 3) := by decide +kernel
theorem dX7_palindromeCount_38 : decode cX7_palindromeCount 38 = .ok (.aload_n 0, 1) := by decide +kernel
theorem dX7_palindromeCount_39 : decode cX7_palindromeCount 39 = .ok (.iload_n 3, 1) := by decide +kernel
theorem dX7_palindromeCount_40 : decode cX7_palindromeCount 40 = .ok (.iload_n 2, 1) := by decide +kernel
theorem dX7_palindromeCount_41 : decode cX7_palindromeCount 41 = .ok (.invokevirtual 100, 3) := by decide +kernel
theorem dX7_palindromeCount_44 : decode cX7_palindromeCount 44 = .ok (.ifCond .eq 7, 3) := by decide +kernel
theorem dX7_palindromeCount_47 : decode cX7_palindromeCount 47 = .ok (.iconst 1, 1) := by decide +kernel
theorem dX7_palindromeCount_48 : decode cX7_palindromeCount 48 = .ok (.goto 4, 3) := by decide +kernel
theorem dX7_palindromeCount_51 : decode cX7_palindromeCount 51 = .ok (.iconst 0, 1) := by decide +kernel
theorem dX7_palindromeCount_52 : decode cX7_palindromeCount 52 = .ok (.iadd, 1) := by decide +kernel
theorem dX7_palindromeCount_53 : decode cX7_palindromeCount 53 = .ok (.istore_n 1, 1) := by decide +kernel
theorem dX7_palindromeCount_54 : decode cX7_palindromeCount 54 = .ok (.iinc 3 1, 3) := by decide +kernel
theorem dX7_palindromeCount_57 : decode cX7_palindromeCount 57 = .ok (.goto (-41), 3) := by decide +kernel
theorem dX7_palindromeCount_60 : decode cX7_palindromeCount 60 = .ok (.iinc 2 1, 3) := by decide +kernel
theorem dX7_palindromeCount_63 : decode cX7_palindromeCount 63 = .ok (.goto (-59), 3) := by decide +kernel
theorem dX7_palindromeCount_66 : decode cX7_palindromeCount 66 = .ok (.iload_n 1, 1) := by decide +kernel
theorem dX7_palindromeCount_67 : decode cX7_palindromeCount 67 = .ok (.ireturn, 1) := by decide +kernel
set_option maxRecDepth 20000 in
theorem ggX7_longestPalindromicPrefix_X7_isPalindrome : GoodIn wsX7_longestPalindromicPrefix wsX7_isPalindrome := goodIn_r _ [6, 1, 7, 8, 9, 10, 11, 12, 13, 14, 15, 16, 17] (by decide +kernel) (by decide +kernel)
set_option maxRecDepth 20000 in
theorem gX7_longestPalindromicPrefix_X7_isPalindrome : GoodIn wsX7_longestPalindromicPrefix (wsV RX7 86 RX7 yX7_isPalindrome wsX7_isPalindrome) := goodIn_app (goodIn_of _ (by decide +kernel)) ggX7_longestPalindromicPrefix_X7_isPalindrome
theorem dX7_longestPalindromicPrefix_0 : decode cX7_longestPalindromicPrefix 0 = .ok (.aload_n 0, 1) := by decide +kernel
theorem dX7_longestPalindromicPrefix_1 : decode cX7_longestPalindromicPrefix 1 = .ok (.getfield 7, 3) := by decide +kernel
theorem dX7_longestPalindromicPrefix_4 : decode cX7_longestPalindromicPrefix 4 = .ok (.iconst 3, 1) := by decide +kernel
theorem dX7_longestPalindromicPrefix_5 : decode cX7_longestPalindromicPrefix 5 = .ok (.iaload, 1) := by decide +kernel
theorem dX7_longestPalindromicPrefix_6 : decode cX7_longestPalindromicPrefix 6 = .ok (.istore_n 1, 1) := by decide +kernel
theorem dX7_longestPalindromicPrefix_7 : decode cX7_longestPalindromicPrefix 7 = .ok (.aload_n 0, 1) := by decide +kernel
theorem dX7_longestPalindromicPrefix_8 : decode cX7_longestPalindromicPrefix 8 = .ok (.iconst 0, 1) := by decide +kernel
theorem dX7_longestPalindromicPrefix_9 : decode cX7_longestPalindromicPrefix 9 = .ok (.iload_n 1, 1) := by decide +kernel
theorem dX7_longestPalindromicPrefix_10 : decode cX7_longestPalindromicPrefix 10 = .ok (.invokevirtual 86, 3) := by decide +kernel
theorem dX7_longestPalindromicPrefix_13 : decode cX7_longestPalindromicPrefix 13 = .ok (.ifCond .ne 9, 3) := by decide +kernel
theorem dX7_longestPalindromicPrefix_16 : decode cX7_longestPalindromicPrefix 16 = .ok (.iinc 1 (-1), 3) := by decide +kernel
theorem dX7_longestPalindromicPrefix_19 : decode cX7_longestPalindromicPrefix 19 = .ok (.goto (-12), 3) := by decide +kernel
theorem dX7_longestPalindromicPrefix_22 : decode cX7_longestPalindromicPrefix 22 = .ok (.iload_n 1, 1) := by decide +kernel
theorem dX7_longestPalindromicPrefix_23 : decode cX7_longestPalindromicPrefix 23 = .ok (.ireturn, 1) := by decide +kernel
theorem dX7_isPeriod_0 : decode cX7_isPeriod 0 = .ok (.iconst 0, 1) := by decide +kernel
theorem dX7_isPeriod_1 : decode cX7_isPeriod 1 = .ok (.istore_n 2, 1) := by decide +kernel
theorem dX7_isPeriod_2 : decode cX7_isPeriod 2 = .ok (.iload_n 2, 1) := by decide +kernel
theorem dX7_isPeriod_3 : decode cX7_isPeriod 3 = .ok (.iload_n 1, 1) := by decide +kernel
theorem dX7_isPeriod_4 : decode cX7_isPeriod 4 = .ok (.iadd, 1) := by decide +kernel
theorem dX7_isPeriod_5 : decode cX7_isPeriod 5 = .ok (.aload_n 0, 1) := by decide +kernel
theorem dX7_isPeriod_6 : decode cX7_isPeriod 6 = .ok (.getfield 7, 3) := by decide +kernel
theorem dX7_isPeriod_9 : decode cX7_isPeriod 9 = .ok (.iconst 3, 1) := by decide +kernel
theorem dX7_isPeriod_10 : decode cX7_isPeriod 10 = .ok (.iaload, 1) := by decide +kernel
theorem dX7_isPeriod_11 : decode cX7_isPeriod 11 = .ok (.if_icmp .ge 32, 3) := by decide +kernel
theorem dX7_isPeriod_14 : decode cX7_isPeriod 14 = .ok (.aload_n 0, 1) := by decide +kernel
theorem dX7_isPeriod_15 : decode cX7_isPeriod 15 = .ok (.getfield 7, 3) := by decide +kernel
theorem dX7_isPeriod_18 : decode cX7_isPeriod 18 = .ok (.iconst 4, 1) := by decide +kernel
theorem dX7_isPeriod_19 : decode cX7_isPeriod 19 = .ok (.iload_n 2, 1) := by decide +kernel
theorem dX7_isPeriod_20 : decode cX7_isPeriod 20 = .ok (.iadd, 1) := by decide +kernel
theorem dX7_isPeriod_21 : decode cX7_isPeriod 21 = .ok (.iaload, 1) := by decide +kernel
theorem dX7_isPeriod_22 : decode cX7_isPeriod 22 = .ok (.aload_n 0, 1) := by decide +kernel
theorem dX7_isPeriod_23 : decode cX7_isPeriod 23 = .ok (.getfield 7, 3) := by decide +kernel
theorem dX7_isPeriod_26 : decode cX7_isPeriod 26 = .ok (.iconst 4, 1) := by decide +kernel
theorem dX7_isPeriod_27 : decode cX7_isPeriod 27 = .ok (.iload_n 2, 1) := by decide +kernel
theorem dX7_isPeriod_28 : decode cX7_isPeriod 28 = .ok (.iadd, 1) := by decide +kernel
theorem dX7_isPeriod_29 : decode cX7_isPeriod 29 = .ok (.iload_n 1, 1) := by decide +kernel
theorem dX7_isPeriod_30 : decode cX7_isPeriod 30 = .ok (.iadd, 1) := by decide +kernel
theorem dX7_isPeriod_31 : decode cX7_isPeriod 31 = .ok (.iaload, 1) := by decide +kernel
theorem dX7_isPeriod_32 : decode cX7_isPeriod 32 = .ok (.if_icmp .eq 5, 3) := by decide +kernel
theorem dX7_isPeriod_35 : decode cX7_isPeriod 35 = .ok (.iconst 0, 1) := by decide +kernel
theorem dX7_isPeriod_36 : decode cX7_isPeriod 36 = .ok (.ireturn, 1) := by decide +kernel
theorem dX7_isPeriod_37 : decode cX7_isPeriod 37 = .ok (.iinc 2 1, 3) := by decide +kernel
theorem dX7_isPeriod_40 : decode cX7_isPeriod 40 = .ok (.goto (-38), 3) := by decide +kernel
theorem dX7_isPeriod_43 : decode cX7_isPeriod 43 = .ok (.iconst 1, 1) := by decide +kernel
theorem dX7_isPeriod_44 : decode cX7_isPeriod 44 = .ok (.ireturn, 1) := by decide +kernel
set_option maxRecDepth 20000 in
theorem ggX7_leastPeriod_X7_isPeriod : GoodIn wsX7_leastPeriod wsX7_isPeriod := goodIn_r _ [6, 1, 7, 8, 9, 10, 11, 12, 13, 14, 15, 16, 17] (by decide +kernel) (by decide +kernel)
set_option maxRecDepth 20000 in
theorem gX7_leastPeriod_X7_isPeriod : GoodIn wsX7_leastPeriod (wsV RX7 106 RX7 yX7_isPeriod wsX7_isPeriod) := goodIn_app (goodIn_of _ (by decide +kernel)) ggX7_leastPeriod_X7_isPeriod
theorem dX7_leastPeriod_0 : decode cX7_leastPeriod 0 = .ok (.iconst 1, 1) := by decide +kernel
theorem dX7_leastPeriod_1 : decode cX7_leastPeriod 1 = .ok (.istore_n 1, 1) := by decide +kernel
theorem dX7_leastPeriod_2 : decode cX7_leastPeriod 2 = .ok (.iload_n 1, 1) := by decide +kernel
theorem dX7_leastPeriod_3 : decode cX7_leastPeriod 3 = .ok (.aload_n 0, 1) := by decide +kernel
theorem dX7_leastPeriod_4 : decode cX7_leastPeriod 4 = .ok (.getfield 7, 3) := by decide +kernel
theorem dX7_leastPeriod_7 : decode cX7_leastPeriod 7 = .ok (.iconst 3, 1) := by decide +kernel
theorem dX7_leastPeriod_8 : decode cX7_leastPeriod 8 = .ok (.iaload, 1) := by decide +kernel
theorem dX7_leastPeriod_9 : decode cX7_leastPeriod 9 = .ok (.if_icmp .gt 19, 3) := by decide +kernel
theorem dX7_leastPeriod_12 : decode cX7_leastPeriod 12 = .ok (.aload_n 0, 1) := by decide +kernel
theorem dX7_leastPeriod_13 : decode cX7_leastPeriod 13 = .ok (.iload_n 1, 1) := by decide +kernel
theorem dX7_leastPeriod_14 : decode cX7_leastPeriod 14 = .ok (.invokevirtual 106, 3) := by decide +kernel
theorem dX7_leastPeriod_17 : decode cX7_leastPeriod 17 = .ok (.ifCond .eq 5, 3) := by decide +kernel
theorem dX7_leastPeriod_20 : decode cX7_leastPeriod 20 = .ok (.iload_n 1, 1) := by decide +kernel
theorem dX7_leastPeriod_21 : decode cX7_leastPeriod 21 = .ok (.ireturn, 1) := by decide +kernel
theorem dX7_leastPeriod_22 : decode cX7_leastPeriod 22 = .ok (.iinc 1 1, 3) := by decide +kernel
theorem dX7_leastPeriod_25 : decode cX7_leastPeriod 25 = .ok (.goto (-23), 3) := by decide +kernel
theorem dX7_leastPeriod_28 : decode cX7_leastPeriod 28 = .ok (.bipush (-3), 2) := by decide +kernel
theorem dX7_leastPeriod_30 : decode cX7_leastPeriod 30 = .ok (.ireturn, 1) := by decide +kernel
set_option maxRecDepth 20000 in
theorem ggX7_isCentral_X7_divisor : GoodIn wsX7_isCentral wsX7_divisor := goodIn_r _ [5] (by decide +kernel) (by decide +kernel)
set_option maxRecDepth 20000 in
theorem gX7_isCentral_X7_divisor : GoodIn wsX7_isCentral (va_wsS RX7 47 yX7_divisor wsX7_divisor) := goodIn_app (goodIn_of _ (by decide +kernel)) ggX7_isCentral_X7_divisor
set_option maxRecDepth 20000 in
theorem ggX7_isCentral_X7_isPeriod : GoodIn wsX7_isCentral wsX7_isPeriod := goodIn_r _ [9, 1, 10, 11, 12, 13, 14, 15, 16, 17, 18, 19, 20] (by decide +kernel) (by decide +kernel)
set_option maxRecDepth 20000 in
theorem gX7_isCentral_X7_isPeriod : GoodIn wsX7_isCentral (wsV RX7 106 RX7 yX7_isPeriod wsX7_isPeriod) := goodIn_app (goodIn_of _ (by decide +kernel)) ggX7_isCentral_X7_isPeriod
theorem dX7_isCentral_0 : decode cX7_isCentral 0 = .ok (.aload_n 0, 1) := by decide +kernel
theorem dX7_isCentral_1 : decode cX7_isCentral 1 = .ok (.getfield 7, 3) := by decide +kernel
theorem dX7_isCentral_4 : decode cX7_isCentral 4 = .ok (.iconst 3, 1) := by decide +kernel
theorem dX7_isCentral_5 : decode cX7_isCentral 5 = .ok (.iaload, 1) := by decide +kernel
theorem dX7_isCentral_6 : decode cX7_isCentral 6 = .ok (.istore_n 1, 1) := by decide +kernel
theorem dX7_isCentral_7 : decode cX7_isCentral 7 = .ok (.iconst 1, 1) := by decide +kernel
theorem dX7_isCentral_8 : decode cX7_isCentral 8 = .ok (.istore_n 2, 1) := by decide +kernel
theorem dX7_isCentral_9 : decode cX7_isCentral 9 = .ok (.iload_n 2, 1) := by decide +kernel
theorem dX7_isCentral_10 : decode cX7_isCentral 10 = .ok (.iload_n 1, 1) := by decide +kernel
theorem dX7_isCentral_11 : decode cX7_isCentral 11 = .ok (.iconst 1, 1) := by decide +kernel
theorem dX7_isCentral_12 : decode cX7_isCentral 12 = .ok (.iadd, 1) := by decide +kernel
theorem dX7_isCentral_13 : decode cX7_isCentral 13 = .ok (.if_icmp .gt 42, 3) := by decide +kernel
theorem dX7_isCentral_16 : decode cX7_isCentral 16 = .ok (.iload_n 1, 1) := by decide +kernel
theorem dX7_isCentral_17 : decode cX7_isCentral 17 = .ok (.iconst 2, 1) := by decide +kernel
theorem dX7_isCentral_18 : decode cX7_isCentral 18 = .ok (.iadd, 1) := by decide +kernel
theorem dX7_isCentral_19 : decode cX7_isCentral 19 = .ok (.iload_n 2, 1) := by decide +kernel
theorem dX7_isCentral_20 : decode cX7_isCentral 20 = .ok (.isub, 1) := by decide +kernel
theorem dX7_isCentral_21 : decode cX7_isCentral 21 = .ok (.istore_n 3, 1) := by decide +kernel
theorem dX7_isCentral_22 : decode cX7_isCentral 22 = .ok (.iload_n 2, 1) := by decide +kernel
theorem dX7_isCentral_23 : decode cX7_isCentral 23 = .ok (.iload_n 3, 1) := by decide +kernel
theorem dX7_isCentral_24 : decode cX7_isCentral 24 = .ok (.invokestatic 47, 3) := by decide +kernel
theorem dX7_isCentral_27 : decode cX7_isCentral 27 = .ok (.iconst 1, 1) := by decide +kernel
theorem dX7_isCentral_28 : decode cX7_isCentral 28 = .ok (.if_icmp .ne 21, 3) := by decide +kernel
theorem dX7_isCentral_31 : decode cX7_isCentral 31 = .ok (.aload_n 0, 1) := by decide +kernel
theorem dX7_isCentral_32 : decode cX7_isCentral 32 = .ok (.iload_n 2, 1) := by decide +kernel
theorem dX7_isCentral_33 : decode cX7_isCentral 33 = .ok (.invokevirtual 106, 3) := by decide +kernel
theorem dX7_isCentral_36 : decode cX7_isCentral 36 = .ok (.ifCond .eq 13, 3) := by decide +kernel
theorem dX7_isCentral_39 : decode cX7_isCentral 39 = .ok (.aload_n 0, 1) := by decide +kernel
theorem dX7_isCentral_40 : decode cX7_isCentral 40 = .ok (.iload_n 3, 1) := by decide +kernel
theorem dX7_isCentral_41 : decode cX7_isCentral 41 = .ok (.invokevirtual 106, 3) := by decide +kernel
theorem dX7_isCentral_44 : decode cX7_isCentral 44 = .ok (.ifCond .eq 5, 3) := by decide +kernel
theorem dX7_isCentral_47 : decode cX7_isCentral 47 = .ok (.iconst 1, 1) := by decide +kernel
theorem dX7_isCentral_48 : decode cX7_isCentral 48 = .ok (.ireturn, 1) := by decide +kernel
theorem dX7_isCentral_49 : decode cX7_isCentral 49 = .ok (.iinc 2 1, 3) := by decide +kernel
theorem dX7_isCentral_52 : decode cX7_isCentral 52 = .ok (.goto (-43), 3) := by decide +kernel
theorem dX7_isCentral_55 : decode cX7_isCentral 55 = .ok (.iconst 0, 1) := by decide +kernel
theorem dX7_isCentral_56 : decode cX7_isCentral 56 = .ok (.ireturn, 1) := by decide +kernel
theorem dX7_begins_0 : decode cX7_begins 0 = .ok (.iconst 0, 1) := by decide +kernel
theorem dX7_begins_1 : decode cX7_begins 1 = .ok (.istore 4, 2) := by decide +kernel
theorem dX7_begins_3 : decode cX7_begins 3 = .ok (.iload 4, 2) := by decide +kernel
theorem dX7_begins_5 : decode cX7_begins 5 = .ok (.aload_n 0, 1) := by decide +kernel
theorem dX7_begins_6 : decode cX7_begins 6 = .ok (.getfield 7, 3) := by decide +kernel
theorem dX7_begins_9 : decode cX7_begins 9 = .ok (.iconst 3, 1) := by decide +kernel
theorem dX7_begins_10 : decode cX7_begins 10 = .ok (.iaload, 1) := by decide +kernel
theorem dX7_begins_11 : decode cX7_begins 11 = .ok (.if_icmp .ge 42, 3) := by decide +kernel
theorem dX7_begins_14 : decode cX7_begins 14 = .ok (.iload 4, 2) := by decide +kernel
theorem dX7_begins_16 : decode cX7_begins 16 = .ok (.iconst 1, 1) := by decide +kernel
theorem dX7_begins_17 : decode cX7_begins 17 = .ok (.iadd, 1) := by decide +kernel
theorem dX7_begins_18 : decode cX7_begins 18 = .ok (.iload_n 1, 1) := by decide +kernel
theorem dX7_begins_19 : decode cX7_begins 19 = .ok (.imul, 1) := by decide +kernel
theorem dX7_begins_20 : decode cX7_begins 20 = .ok (.iload_n 3, 1) := by decide +kernel
theorem dX7_begins_21 : decode cX7_begins 21 = .ok (.iadd, 1) := by decide +kernel
theorem dX7_begins_22 : decode cX7_begins 22 = .ok (.iload_n 2, 1) := by decide +kernel
theorem dX7_begins_23 : decode cX7_begins 23 = .ok (.idiv, 1) := by decide +kernel
theorem dX7_begins_24 : decode cX7_begins 24 = .ok (.iload 4, 2) := by decide +kernel
theorem dX7_begins_26 : decode cX7_begins 26 = .ok (.iload_n 1, 1) := by decide +kernel
theorem dX7_begins_27 : decode cX7_begins 27 = .ok (.imul, 1) := by decide +kernel
theorem dX7_begins_28 : decode cX7_begins 28 = .ok (.iload_n 3, 1) := by decide +kernel
theorem dX7_begins_29 : decode cX7_begins 29 = .ok (.iadd, 1) := by decide +kernel
theorem dX7_begins_30 : decode cX7_begins 30 = .ok (.iload_n 2, 1) := by decide +kernel
theorem dX7_begins_31 : decode cX7_begins 31 = .ok (.idiv, 1) := by decide +kernel
theorem dX7_begins_32 : decode cX7_begins 32 = .ok (.isub, 1) := by decide +kernel
theorem dX7_begins_33 : decode cX7_begins 33 = .ok (.aload_n 0, 1) := by decide +kernel
theorem dX7_begins_34 : decode cX7_begins 34 = .ok (.getfield 7, 3) := by decide +kernel
theorem dX7_begins_37 : decode cX7_begins 37 = .ok (.iconst 4, 1) := by decide +kernel
theorem dX7_begins_38 : decode cX7_begins 38 = .ok (.iload 4, 2) := by decide +kernel
theorem dX7_begins_40 : decode cX7_begins 40 = .ok (.iadd, 1) := by decide +kernel
theorem dX7_begins_41 : decode cX7_begins 41 = .ok (.iaload, 1) := by decide +kernel
theorem dX7_begins_42 : decode cX7_begins 42 = .ok (.if_icmp .eq 5, 3) := by decide +kernel
theorem dX7_begins_45 : decode cX7_begins 45 = .ok (.iconst 0, 1) := by decide +kernel
theorem dX7_begins_46 : decode cX7_begins 46 = .ok (.ireturn, 1) := by decide +kernel
theorem dX7_begins_47 : decode cX7_begins 47 = .ok (.iinc 4 1, 3) := by decide +kernel
theorem dX7_begins_50 : decode cX7_begins 50 = .ok (.goto (-47), 3) := by decide +kernel
theorem dX7_begins_53 : decode cX7_begins 53 = .ok (.iconst 1, 1) := by decide +kernel
theorem dX7_begins_54 : decode cX7_begins 54 = .ok (.ireturn, 1) := by decide +kernel
set_option maxRecDepth 20000 in
theorem ggX7_simplest_X7_divisor : GoodIn wsX7_simplest wsX7_divisor := goodIn_r _ [4] (by decide +kernel) (by decide +kernel)
set_option maxRecDepth 20000 in
theorem gX7_simplest_X7_divisor : GoodIn wsX7_simplest (va_wsS RX7 47 yX7_divisor wsX7_divisor) := goodIn_app (goodIn_of _ (by decide +kernel)) ggX7_simplest_X7_divisor
set_option maxRecDepth 20000 in
theorem ggX7_simplest_X7_begins : GoodIn wsX7_simplest wsX7_begins := goodIn_r _ [8, 9, 10, 11, 12, 13, 14, 15, 16, 17, 18, 19, 20] (by decide +kernel) (by decide +kernel)
set_option maxRecDepth 20000 in
theorem gX7_simplest_X7_begins : GoodIn wsX7_simplest (wsV RX7 109 RX7 yX7_begins wsX7_begins) := goodIn_app (goodIn_of _ (by decide +kernel)) ggX7_simplest_X7_begins
theorem dX7_simplest_0 : decode cX7_simplest 0 = .ok (.iconst 1, 1) := by decide +kernel
theorem dX7_simplest_1 : decode cX7_simplest 1 = .ok (.istore_n 2, 1) := by decide +kernel
theorem dX7_simplest_2 : decode cX7_simplest 2 = .ok (.iload_n 2, 1) := by decide +kernel
theorem dX7_simplest_3 : decode cX7_simplest 3 = .ok (.bipush 62, 2) := by decide +kernel
theorem dX7_simplest_5 : decode cX7_simplest 5 = .ok (.if_icmp .ge 77, 3) := by decide +kernel
theorem dX7_simplest_8 : decode cX7_simplest 8 = .ok (.iconst 0, 1) := by decide +kernel
theorem dX7_simplest_9 : decode cX7_simplest 9 = .ok (.istore_n 3, 1) := by decide +kernel
theorem dX7_simplest_10 : decode cX7_simplest 10 = .ok (.iload_n 3, 1) := by decide +kernel
theorem dX7_simplest_11 : decode cX7_simplest 11 = .ok (.iload_n 2, 1) := by decide +kernel
theorem dX7_simplest_12 : decode cX7_simplest 12 = .ok (.if_icmp .gt 64, 3) := by decide +kernel
theorem dX7_simplest_15 : decode cX7_simplest 15 = .ok (.iconst 0, 1) := by decide +kernel
theorem dX7_simplest_16 : decode cX7_simplest 16 = .ok (.istore 4, 2) := by decide +kernel
theorem dX7_simplest_18 : decode cX7_simplest 18 = .ok (.iload 4, 2) := by decide +kernel
theorem dX7_simplest_20 : decode cX7_simplest 20 = .ok (.iload_n 2, 1) := by decide +kernel
theorem dX7_simplest_21 : decode cX7_simplest 21 = .ok (.if_icmp .ge 49, 3) := by decide +kernel
theorem dX7_simplest_24 : decode cX7_simplest 24 = .ok (.iload_n 3, 1) := by decide +kernel
theorem dX7_simplest_25 : decode cX7_simplest 25 = .ok (.iload_n 2, 1) := by decide +kernel
theorem dX7_simplest_26 : decode cX7_simplest 26 = .ok (.invokestatic 47, 3) := by decide +kernel
theorem dX7_simplest_29 : decode cX7_simplest 29 = .ok (.iconst 1, 1) := by decide +kernel
theorem dX7_simplest_30 : decode cX7_simplest 30 = .ok (.if_icmp .ne 40, 3) := by decide +kernel
theorem dX7_simplest_33 : decode cX7_simplest 33 = .ok (.aload_n 0, 1) := by decide +kernel
theorem dX7_simplest_34 : decode cX7_simplest 34 = .ok (.iload_n 3, 1) := by decide +kernel
theorem dX7_simplest_35 : decode cX7_simplest 35 = .ok (.iload_n 2, 1) := by decide +kernel
theorem dX7_simplest_36 : decode cX7_simplest 36 = .ok (.iload 4, 2) := by decide +kernel
theorem dX7_simplest_38 : decode cX7_simplest 38 = .ok (.invokevirtual 109, 3) := by decide +kernel
theorem dX7_simplest_41 : decode cX7_simplest 41 = .ok (.ifCond .eq 23, 3) := by decide +kernel
theorem dX7_simplest_44 : decode cX7_simplest 44 = .ok (.iload_n 1, 1) := by decide +kernel
theorem dX7_simplest_45 : decode cX7_simplest 45 = .ok (.ifCond .ne 7, 3) := by decide +kernel
theorem dX7_simplest_48 : decode cX7_simplest 48 = .ok (.iload_n 3, 1) := by decide +kernel
theorem dX7_simplest_49 : decode cX7_simplest 49 = .ok (.goto 14, 3) := by decide +kernel
theorem dX7_simplest_52 : decode cX7_simplest 52 = .ok (.iload_n 1, 1) := by decide +kernel
theorem dX7_simplest_53 : decode cX7_simplest 53 = .ok (.iconst 1, 1) := by decide +kernel
theorem dX7_simplest_54 : decode cX7_simplest 54 = .ok (.if_icmp .ne 7, 3) := by decide +kernel
theorem dX7_simplest_57 : decode cX7_simplest 57 = .ok (.iload_n 2, 1) := by decide +kernel
theorem dX7_simplest_58 : decode cX7_simplest 58 = .ok (.goto 5, 3) := by decide +kernel
theorem dX7_simplest_61 : decode cX7_simplest 61 = .ok (.iload 4, 2) := by decide +kernel
theorem dX7_simplest_63 : decode cX7_simplest 63 = .ok (.ireturn, 1) := by decide +kernel
theorem dX7_simplest_64 : decode cX7_simplest 64 = .ok (.iinc 4 1, 3) := by decide +kernel
theorem dX7_simplest_67 : decode cX7_simplest 67 = .ok (.goto (-49), 3) := by decide +kernel
theorem dX7_simplest_70 : decode cX7_simplest 70 = .ok (.iinc 3 1, 3) := by decide +kernel
theorem dX7_simplest_73 : decode cX7_simplest 73 = .ok (.goto (-63), 3) := by decide +kernel
theorem dX7_simplest_76 : decode cX7_simplest 76 = .ok (.iinc 2 1, 3) := by decide +kernel
theorem dX7_simplest_79 : decode cX7_simplest 79 = .ok (.goto (-77), 3) := by decide +kernel
theorem dX7_simplest_82 : decode cX7_simplest 82 = .ok (.bipush (-3), 2) := by decide +kernel
theorem dX7_simplest_84 : decode cX7_simplest 84 = .ok (.ireturn, 1) := by decide +kernel
set_option maxRecDepth 20000 in
theorem ggX7_simplestSlope_X7_in : GoodIn wsX7_simplestSlope wsX7_in := goodIn_r _ [4] (by decide +kernel) (by decide +kernel)
set_option maxRecDepth 20000 in
theorem gX7_simplestSlope_X7_in : GoodIn wsX7_simplestSlope (va_wsS RX7 43 yX7_in wsX7_in) := goodIn_app (goodIn_of _ (by decide +kernel)) ggX7_simplestSlope_X7_in
set_option maxRecDepth 20000 in
theorem ggX7_simplestSlope_X7_simplest : GoodIn wsX7_simplestSlope wsX7_simplest := goodIn_r _ [8, 9, 10, 3, 11, 12, 13, 14, 15, 16, 17, 18, 19, 20, 21, 22, 23, 24, 25, 26, 27] (by decide +kernel) (by decide +kernel)
set_option maxRecDepth 20000 in
theorem gX7_simplestSlope_X7_simplest : GoodIn wsX7_simplestSlope (wsV RX7 112 RX7 yX7_simplest wsX7_simplest) := goodIn_app (goodIn_of _ (by decide +kernel)) ggX7_simplestSlope_X7_simplest
theorem dX7_simplestSlope_0 : decode cX7_simplestSlope 0 = .ok (.iload_n 1, 1) := by decide +kernel
theorem dX7_simplestSlope_1 : decode cX7_simplestSlope 1 = .ok (.iconst 0, 1) := by decide +kernel
theorem dX7_simplestSlope_2 : decode cX7_simplestSlope 2 = .ok (.iconst 2, 1) := by decide +kernel
theorem dX7_simplestSlope_3 : decode cX7_simplestSlope 3 = .ok (.invokestatic 43, 3) := by decide +kernel
theorem dX7_simplestSlope_6 : decode cX7_simplestSlope 6 = .ok (.ifCond .eq 11, 3) := by decide +kernel
theorem dX7_simplestSlope_9 : decode cX7_simplestSlope 9 = .ok (.aload_n 0, 1) := by decide +kernel
theorem dX7_simplestSlope_10 : decode cX7_simplestSlope 10 = .ok (.iload_n 1, 1) := by decide +kernel
theorem dX7_simplestSlope_11 : decode cX7_simplestSlope 11 = .ok (.invokevirtual 112, 3) := by decide +kernel
theorem dX7_simplestSlope_14 : decode cX7_simplestSlope 14 = .ok (.goto 4, 3) := by decide +kernel
theorem dX7_simplestSlope_17 : decode cX7_simplestSlope 17 = .ok (.iconst (-1), 1) := by decide +kernel
theorem dX7_simplestSlope_18 : decode cX7_simplestSlope 18 = .ok (.ireturn, 1) := by decide +kernel
theorem dX7_layPoints_0 : decode cX7_layPoints 0 = .ok (.iconst 0, 1) := by decide +kernel
theorem dX7_layPoints_1 : decode cX7_layPoints 1 = .ok (.istore_n 2, 1) := by decide +kernel
theorem dX7_layPoints_2 : decode cX7_layPoints 2 = .ok (.iload_n 2, 1) := by decide +kernel
theorem dX7_layPoints_3 : decode cX7_layPoints 3 = .ok (.aload_n 0, 1) := by decide +kernel
theorem dX7_layPoints_4 : decode cX7_layPoints 4 = .ok (.getfield 7, 3) := by decide +kernel
theorem dX7_layPoints_7 : decode cX7_layPoints 7 = .ok (.iconst 1, 1) := by decide +kernel
theorem dX7_layPoints_8 : decode cX7_layPoints 8 = .ok (.iaload, 1) := by decide +kernel
theorem dX7_layPoints_9 : decode cX7_layPoints 9 = .ok (.if_icmp .ge 16, 3) := by decide +kernel
theorem dX7_layPoints_12 : decode cX7_layPoints 12 = .ok (.aload_n 0, 1) := by decide +kernel
theorem dX7_layPoints_13 : decode cX7_layPoints 13 = .ok (.getfield 28, 3) := by decide +kernel
theorem dX7_layPoints_16 : decode cX7_layPoints 16 = .ok (.iload_n 2, 1) := by decide +kernel
theorem dX7_layPoints_17 : decode cX7_layPoints 17 = .ok (.iconst 0, 1) := by decide +kernel
theorem dX7_layPoints_18 : decode cX7_layPoints 18 = .ok (.bastore, 1) := by decide +kernel
theorem dX7_layPoints_19 : decode cX7_layPoints 19 = .ok (.iinc 2 1, 3) := by decide +kernel
theorem dX7_layPoints_22 : decode cX7_layPoints 22 = .ok (.goto (-20), 3) := by decide +kernel
theorem dX7_layPoints_25 : decode cX7_layPoints 25 = .ok (.iconst 0, 1) := by decide +kernel
theorem dX7_layPoints_26 : decode cX7_layPoints 26 = .ok (.istore_n 2, 1) := by decide +kernel
theorem dX7_layPoints_27 : decode cX7_layPoints 27 = .ok (.iconst 0, 1) := by decide +kernel
theorem dX7_layPoints_28 : decode cX7_layPoints 28 = .ok (.istore_n 3, 1) := by decide +kernel
theorem dX7_layPoints_29 : decode cX7_layPoints 29 = .ok (.iload_n 3, 1) := by decide +kernel
theorem dX7_layPoints_30 : decode cX7_layPoints 30 = .ok (.iload_n 1, 1) := by decide +kernel
theorem dX7_layPoints_31 : decode cX7_layPoints 31 = .ok (.if_icmp .ge 32, 3) := by decide +kernel
theorem dX7_layPoints_34 : decode cX7_layPoints 34 = .ok (.aload_n 0, 1) := by decide +kernel
theorem dX7_layPoints_35 : decode cX7_layPoints 35 = .ok (.getfield 28, 3) := by decide +kernel
theorem dX7_layPoints_38 : decode cX7_layPoints 38 = .ok (.iload_n 2, 1) := by decide +kernel
theorem dX7_layPoints_39 : decode cX7_layPoints 39 = .ok (.iconst 1, 1) := by decide +kernel
theorem dX7_layPoints_40 : decode cX7_layPoints 40 = .ok (.bastore, 1) := by decide +kernel
theorem dX7_layPoints_41 : decode cX7_layPoints 41 = .ok (.iload_n 2, 1) := by decide +kernel
theorem dX7_layPoints_42 : decode cX7_layPoints 42 = .ok (.aload_n 0, 1) := by decide +kernel
theorem dX7_layPoints_43 : decode cX7_layPoints 43 = .ok (.getfield 7, 3) := by decide +kernel
theorem dX7_layPoints_46 : decode cX7_layPoints 46 = .ok (.iconst 0, 1) := by decide +kernel
theorem dX7_layPoints_47 : decode cX7_layPoints 47 = .ok (.iaload, 1) := by decide +kernel
theorem dX7_layPoints_48 : decode cX7_layPoints 48 = .ok (.iadd, 1) := by decide +kernel
theorem dX7_layPoints_49 : decode cX7_layPoints 49 = .ok (.aload_n 0, 1) := by decide +kernel
theorem dX7_layPoints_50 : decode cX7_layPoints 50 = .ok (.getfield 7, 3) := by decide +kernel
theorem dX7_layPoints_53 : decode cX7_layPoints 53 = .ok (.iconst 1, 1) := by decide +kernel
theorem dX7_layPoints_54 : decode cX7_layPoints 54 = .ok (.iaload, 1) := by decide +kernel
theorem dX7_layPoints_55 : decode cX7_layPoints 55 = .ok (.irem, 1) := by decide +kernel
theorem dX7_layPoints_56 : decode cX7_layPoints 56 = .ok (.istore_n 2, 1) := by decide +kernel
theorem dX7_layPoints_57 : decode cX7_layPoints 57 = .ok (.iinc 3 1, 3) := by decide +kernel
theorem dX7_layPoints_60 : decode cX7_layPoints 60 = .ok (.goto (-31), 3) := by decide +kernel
theorem dX7_layPoints_63 : decode cX7_layPoints 63 = .ok (.return_, 1) := by decide +kernel
theorem dX7_gapsWith_0 : decode cX7_gapsWith 0 = .ok (.iconst 0, 1) := by decide +kernel
theorem dX7_gapsWith_1 : decode cX7_gapsWith 1 = .ok (.istore_n 2, 1) := by decide +kernel
theorem dX7_gapsWith_2 : decode cX7_gapsWith 2 = .ok (.iconst 0, 1) := by decide +kernel
theorem dX7_gapsWith_3 : decode cX7_gapsWith 3 = .ok (.istore_n 3, 1) := by decide +kernel
theorem dX7_gapsWith_4 : decode cX7_gapsWith 4 = .ok (.iload_n 3, 1) := by decide +kernel
theorem dX7_gapsWith_5 : decode cX7_gapsWith 5 = .ok (.aload_n 0, 1) := by decide +kernel
theorem dX7_gapsWith_6 : decode cX7_gapsWith 6 = .ok (.getfield 7, 3) := by decide +kernel
theorem dX7_gapsWith_9 : decode cX7_gapsWith 9 = .ok (.iconst 1, 1) := by decide +kernel
theorem dX7_gapsWith_10 : decode cX7_gapsWith 10 = .ok (.iaload, 1) := by decide +kernel
theorem dX7_gapsWith_11 : decode cX7_gapsWith 11 = .ok (.if_icmp .ge 60, 3) := by decide +kernel
theorem dX7_gapsWith_14 : decode cX7_gapsWith 14 = .ok (.aload_n 0, 1) := by decide +kernel
theorem dX7_gapsWith_15 : decode cX7_gapsWith 15 = .ok (.getfield 28, 3) := by decide +kernel
theorem dX7_gapsWith_18 : decode cX7_gapsWith 18 = .ok (.iload_n 3, 1) := by decide +kernel
theorem dX7_gapsWith_19 : decode cX7_gapsWith 19 = .ok (.baload, 1) := by decide +kernel
theorem dX7_gapsWith_20 : decode cX7_gapsWith 20 = .ok (.ifCond .eq 45, 3) := by decide +kernel
theorem dX7_gapsWith_23 : decode cX7_gapsWith 23 = .ok (.iconst 1, 1) := by decide +kernel
theorem dX7_gapsWith_24 : decode cX7_gapsWith 24 = .ok (.istore 4, 2) := by decide +kernel
theorem dX7_gapsWith_26 : decode cX7_gapsWith 26 = .ok (.aload_n 0, 1) := by decide +kernel
theorem dX7_gapsWith_27 : decode cX7_gapsWith 27 = .ok (.getfield 28, 3) := by decide +kernel
theorem dX7_gapsWith_30 : decode cX7_gapsWith 30 = .ok (.iload_n 3, 1) := by decide +kernel
theorem dX7_gapsWith_31 : decode cX7_gapsWith 31 = .ok (.iload 4, 2) := by decide +kernel
theorem dX7_gapsWith_33 : decode cX7_gapsWith 33 = .ok (.iadd, 1) := by decide +kernel
theorem dX7_gapsWith_34 : decode cX7_gapsWith 34 = .ok (.aload_n 0, 1) := by decide +kernel
theorem dX7_gapsWith_35 : decode cX7_gapsWith 35 = .ok (.getfield 7, 3) := by decide +kernel
theorem dX7_gapsWith_38 : decode cX7_gapsWith 38 = .ok (.iconst 1, 1) := by decide +kernel
theorem dX7_gapsWith_39 : decode cX7_gapsWith 39 = .ok (.iaload, 1) := by decide +kernel
theorem dX7_gapsWith_40 : decode cX7_gapsWith 40 = .ok (.irem, 1) := by decide +kernel
theorem dX7_gapsWith_41 : decode cX7_gapsWith 41 = .ok (.baload, 1) := by decide +kernel
theorem dX7_gapsWith_42 : decode cX7_gapsWith 42 = .ok (.ifCond .ne 9, 3) := by decide +kernel
theorem dX7_gapsWith_45 : decode cX7_gapsWith 45 = .ok (.iinc 4 1, 3) := by decide +kernel
theorem dX7_gapsWith_48 : decode cX7_gapsWith 48 = .ok (.goto (-22), 3) := by decide +kernel
theorem dX7_gapsWith_51 : decode cX7_gapsWith 51 = .ok (.iload_n 2, 1) := by decide +kernel
theorem dX7_gapsWith_52 : decode cX7_gapsWith 52 = .ok (.iload 4, 2) := by decide +kernel
theorem dX7_gapsWith_54 : decode cX7_gapsWith 54 = .ok (.iload_n 1, 1) := by decide +kernel
theorem dX7_gapsWith_55 : decode cX7_gapsWith 55 = .ok (.if_icmp .ne 7, 3) := by decide +kernel
theorem dX7_gapsWith_58 : decode cX7_gapsWith 58 = .ok (.iconst 1, 1) := by decide +kernel
theorem dX7_gapsWith_59 : decode cX7_gapsWith 59 = .ok (.goto 4, 3) := by decide +kernel
theorem dX7_gapsWith_62 : decode cX7_gapsWith 62 = .ok (.iconst 0, 1) := by decide +kernel
theorem dX7_gapsWith_63 : decode cX7_gapsWith 63 = .ok (.iadd, 1) := by decide +kernel
theorem dX7_gapsWith_64 : decode cX7_gapsWith 64 = .ok (.istore_n 2, 1) := by decide +kernel
theorem dX7_gapsWith_65 : decode cX7_gapsWith 65 = .ok (.iinc 3 1, 3) := by decide +kernel
theorem dX7_gapsWith_68 : decode cX7_gapsWith 68 = .ok (.goto (-64), 3) := by decide +kernel
theorem dX7_gapsWith_71 : decode cX7_gapsWith 71 = .ok (.iload_n 2, 1) := by decide +kernel
theorem dX7_gapsWith_72 : decode cX7_gapsWith 72 = .ok (.ireturn, 1) := by decide +kernel
set_option maxRecDepth 20000 in
theorem ggX7_sizeAt_X7_layPoints : GoodIn wsX7_sizeAt wsX7_layPoints := goodIn_r _ [6, 1, 7, 12, 13, 14, 15, 16, 17, 18, 19, 20, 21, 22] (by decide +kernel) (by decide +kernel)
set_option maxRecDepth 20000 in
theorem gX7_sizeAt_X7_layPoints : GoodIn wsX7_sizeAt (wsV RX7 116 RX7 yX7_layPoints wsX7_layPoints) := goodIn_app (goodIn_of _ (by decide +kernel)) ggX7_sizeAt_X7_layPoints
set_option maxRecDepth 20000 in
theorem ggX7_sizeAt_X7_gapsWith : GoodIn wsX7_sizeAt wsX7_gapsWith := goodIn_r _ [11, 1, 7, 12, 13, 14, 15, 16, 17, 18, 19, 20, 21, 22] (by decide +kernel) (by decide +kernel)
set_option maxRecDepth 20000 in
theorem gX7_sizeAt_X7_gapsWith : GoodIn wsX7_sizeAt (wsV RX7 119 RX7 yX7_gapsWith wsX7_gapsWith) := goodIn_app (goodIn_of _ (by decide +kernel)) ggX7_sizeAt_X7_gapsWith
theorem dX7_sizeAt_0 : decode cX7_sizeAt 0 = .ok (.aload_n 0, 1) := by decide +kernel
theorem dX7_sizeAt_1 : decode cX7_sizeAt 1 = .ok (.iload_n 1, 1) := by decide +kernel
theorem dX7_sizeAt_2 : decode cX7_sizeAt 2 = .ok (.invokevirtual 116, 3) := by decide +kernel
theorem dX7_sizeAt_5 : decode cX7_sizeAt 5 = .ok (.iconst 0, 1) := by decide +kernel
theorem dX7_sizeAt_6 : decode cX7_sizeAt 6 = .ok (.istore_n 3, 1) := by decide +kernel
theorem dX7_sizeAt_7 : decode cX7_sizeAt 7 = .ok (.iconst 1, 1) := by decide +kernel
theorem dX7_sizeAt_8 : decode cX7_sizeAt 8 = .ok (.istore 4, 2) := by decide +kernel
theorem dX7_sizeAt_10 : decode cX7_sizeAt 10 = .ok (.iload 4, 2) := by decide +kernel
theorem dX7_sizeAt_12 : decode cX7_sizeAt 12 = .ok (.aload_n 0, 1) := by decide +kernel
theorem dX7_sizeAt_13 : decode cX7_sizeAt 13 = .ok (.getfield 7, 3) := by decide +kernel
theorem dX7_sizeAt_16 : decode cX7_sizeAt 16 = .ok (.iconst 1, 1) := by decide +kernel
theorem dX7_sizeAt_17 : decode cX7_sizeAt 17 = .ok (.iaload, 1) := by decide +kernel
theorem dX7_sizeAt_18 : decode cX7_sizeAt 18 = .ok (.if_icmp .gt 29, 3) := by decide +kernel
theorem dX7_sizeAt_21 : decode cX7_sizeAt 21 = .ok (.aload_n 0, 1) := by decide +kernel
theorem dX7_sizeAt_22 : decode cX7_sizeAt 22 = .ok (.iload 4, 2) := by decide +kernel
theorem dX7_sizeAt_24 : decode cX7_sizeAt 24 = .ok (.invokevirtual 119, 3) := by decide +kernel
theorem dX7_sizeAt_27 : decode cX7_sizeAt 27 = .ok (.ifCond .le 14, 3) := by decide +kernel
theorem dX7_sizeAt_30 : decode cX7_sizeAt 30 = .ok (.iload_n 3, 1) := by decide +kernel
theorem dX7_sizeAt_31 : decode cX7_sizeAt 31 = .ok (.iload_n 2, 1) := by decide +kernel
theorem dX7_sizeAt_32 : decode cX7_sizeAt 32 = .ok (.if_icmp .ne 6, 3) := by decide +kernel
theorem dX7_sizeAt_35 : decode cX7_sizeAt 35 = .ok (.iload 4, 2) := by decide +kernel
theorem dX7_sizeAt_37 : decode cX7_sizeAt 37 = .ok (.ireturn, 1) := by decide +kernel
theorem dX7_sizeAt_38 : decode cX7_sizeAt 38 = .ok (.iinc 3 1, 3) := by decide +kernel
theorem dX7_sizeAt_41 : decode cX7_sizeAt 41 = .ok (.iinc 4 1, 3) := by decide +kernel
theorem dX7_sizeAt_44 : decode cX7_sizeAt 44 = .ok (.goto (-34), 3) := by decide +kernel
theorem dX7_sizeAt_47 : decode cX7_sizeAt 47 = .ok (.iload_n 2, 1) := by decide +kernel
theorem dX7_sizeAt_48 : decode cX7_sizeAt 48 = .ok (.ifCond .ge 7, 3) := by decide +kernel
theorem dX7_sizeAt_51 : decode cX7_sizeAt 51 = .ok (.iload_n 3, 1) := by decide +kernel
theorem dX7_sizeAt_52 : decode cX7_sizeAt 52 = .ok (.goto 5, 3) := by decide +kernel
theorem dX7_sizeAt_55 : decode cX7_sizeAt 55 = .ok (.bipush (-3), 2) := by decide +kernel
theorem dX7_sizeAt_57 : decode cX7_sizeAt 57 = .ok (.ireturn, 1) := by decide +kernel
set_option maxRecDepth 20000 in
theorem ggX7_gapSizeCount_X7_in : GoodIn wsX7_gapSizeCount wsX7_in := goodIn_r _ [4] (by decide +kernel) (by decide +kernel)
set_option maxRecDepth 20000 in
theorem gX7_gapSizeCount_X7_in : GoodIn wsX7_gapSizeCount (va_wsS RX7 43 yX7_in wsX7_in) := goodIn_app (goodIn_of _ (by decide +kernel)) ggX7_gapSizeCount_X7_in
set_option maxRecDepth 20000 in
theorem ggX7_gapSizeCount_X7_sizeAt : GoodIn wsX7_gapSizeCount wsX7_sizeAt := goodIn_r _ [8, 9, 10, 11, 12, 3, 13, 14, 15, 16, 17, 18, 19, 20, 21, 22, 23, 24, 25, 26, 27, 28, 29] (by decide +kernel) (by decide +kernel)
set_option maxRecDepth 20000 in
theorem gX7_gapSizeCount_X7_sizeAt : GoodIn wsX7_gapSizeCount (wsV RX7 122 RX7 yX7_sizeAt wsX7_sizeAt) := goodIn_app (goodIn_of _ (by decide +kernel)) ggX7_gapSizeCount_X7_sizeAt
theorem dX7_gapSizeCount_0 : decode cX7_gapSizeCount 0 = .ok (.iload_n 1, 1) := by decide +kernel
theorem dX7_gapSizeCount_1 : decode cX7_gapSizeCount 1 = .ok (.iconst 1, 1) := by decide +kernel
theorem dX7_gapSizeCount_2 : decode cX7_gapSizeCount 2 = .ok (.sipush 1000, 3) := by decide +kernel
theorem dX7_gapSizeCount_5 : decode cX7_gapSizeCount 5 = .ok (.invokestatic 43, 3) := by decide +kernel
theorem dX7_gapSizeCount_8 : decode cX7_gapSizeCount 8 = .ok (.ifCond .eq 12, 3) := by decide +kernel
theorem dX7_gapSizeCount_11 : decode cX7_gapSizeCount 11 = .ok (.aload_n 0, 1) := by decide +kernel
theorem dX7_gapSizeCount_12 : decode cX7_gapSizeCount 12 = .ok (.iload_n 1, 1) := by decide +kernel
theorem dX7_gapSizeCount_13 : decode cX7_gapSizeCount 13 = .ok (.iconst (-1), 1) := by decide +kernel
theorem dX7_gapSizeCount_14 : decode cX7_gapSizeCount 14 = .ok (.invokevirtual 122, 3) := by decide +kernel
theorem dX7_gapSizeCount_17 : decode cX7_gapSizeCount 17 = .ok (.goto 4, 3) := by decide +kernel
theorem dX7_gapSizeCount_20 : decode cX7_gapSizeCount 20 = .ok (.iconst (-1), 1) := by decide +kernel
theorem dX7_gapSizeCount_21 : decode cX7_gapSizeCount 21 = .ok (.ireturn, 1) := by decide +kernel
set_option maxRecDepth 20000 in
theorem ggX7_gapSize_X7_in : GoodIn wsX7_gapSize wsX7_in := goodIn_r _ [4] (by decide +kernel) (by decide +kernel)
set_option maxRecDepth 20000 in
theorem gX7_gapSize_X7_in : GoodIn wsX7_gapSize (va_wsS RX7 43 yX7_in wsX7_in) := goodIn_app (goodIn_of _ (by decide +kernel)) ggX7_gapSize_X7_in
set_option maxRecDepth 20000 in
theorem ggX7_gapSize_X7_sizeAt : GoodIn wsX7_gapSize wsX7_sizeAt := goodIn_r _ [8, 9, 10, 11, 12, 3, 13, 14, 15, 16, 17, 18, 19, 20, 21, 22, 23, 24, 25, 26, 27, 28, 29] (by decide +kernel) (by decide +kernel)
set_option maxRecDepth 20000 in
theorem gX7_gapSize_X7_sizeAt : GoodIn wsX7_gapSize (wsV RX7 122 RX7 yX7_sizeAt wsX7_sizeAt) := goodIn_app (goodIn_of _ (by decide +kernel)) ggX7_gapSize_X7_sizeAt
theorem dX7_gapSize_0 : decode cX7_gapSize 0 = .ok (.iload_n 1, 1) := by decide +kernel
theorem dX7_gapSize_1 : decode cX7_gapSize 1 = .ok (.iconst 1, 1) := by decide +kernel
theorem dX7_gapSize_2 : decode cX7_gapSize 2 = .ok (.sipush 1000, 3) := by decide +kernel
theorem dX7_gapSize_5 : decode cX7_gapSize 5 = .ok (.invokestatic 43, 3) := by decide +kernel
theorem dX7_gapSize_8 : decode cX7_gapSize 8 = .ok (.ifCond .eq 16, 3) := by decide +kernel
theorem dX7_gapSize_11 : decode cX7_gapSize 11 = .ok (.iload_n 2, 1) := by decide +kernel
theorem dX7_gapSize_12 : decode cX7_gapSize 12 = .ok (.ifCond .lt 12, 3) := by decide +kernel
theorem dX7_gapSize_15 : decode cX7_gapSize 15 = .ok (.aload_n 0, 1) := by decide +kernel
theorem dX7_gapSize_16 : decode cX7_gapSize 16 = .ok (.iload_n 1, 1) := by decide +kernel
theorem dX7_gapSize_17 : decode cX7_gapSize 17 = .ok (.iload_n 2, 1) := by decide +kernel
theorem dX7_gapSize_18 : decode cX7_gapSize 18 = .ok (.invokevirtual 122, 3) := by decide +kernel
theorem dX7_gapSize_21 : decode cX7_gapSize 21 = .ok (.goto 4, 3) := by decide +kernel
theorem dX7_gapSize_24 : decode cX7_gapSize 24 = .ok (.iconst (-1), 1) := by decide +kernel
theorem dX7_gapSize_25 : decode cX7_gapSize 25 = .ok (.ireturn, 1) := by decide +kernel
set_option maxRecDepth 20000 in
theorem ggX7_gapsOfSize_X7_in : GoodIn wsX7_gapsOfSize wsX7_in := goodIn_r _ [4] (by decide +kernel) (by decide +kernel)
set_option maxRecDepth 20000 in
theorem gX7_gapsOfSize_X7_in : GoodIn wsX7_gapsOfSize (va_wsS RX7 43 yX7_in wsX7_in) := goodIn_app (goodIn_of _ (by decide +kernel)) ggX7_gapsOfSize_X7_in
set_option maxRecDepth 20000 in
theorem ggX7_gapsOfSize_X7_layPoints : GoodIn wsX7_gapsOfSize wsX7_layPoints := goodIn_r _ [8, 9, 10, 15, 16, 17, 18, 19, 20, 21, 22, 23, 24, 25] (by decide +kernel) (by decide +kernel)
set_option maxRecDepth 20000 in
theorem gX7_gapsOfSize_X7_layPoints : GoodIn wsX7_gapsOfSize (wsV RX7 116 RX7 yX7_layPoints wsX7_layPoints) := goodIn_app (goodIn_of _ (by decide +kernel)) ggX7_gapsOfSize_X7_layPoints
set_option maxRecDepth 20000 in
theorem ggX7_gapsOfSize_X7_gapsWith : GoodIn wsX7_gapsOfSize wsX7_gapsWith := goodIn_r _ [14, 9, 10, 15, 16, 17, 18, 19, 20, 21, 22, 23, 24, 25] (by decide +kernel) (by decide +kernel)
set_option maxRecDepth 20000 in
theorem gX7_gapsOfSize_X7_gapsWith : GoodIn wsX7_gapsOfSize (wsV RX7 119 RX7 yX7_gapsWith wsX7_gapsWith) := goodIn_app (goodIn_of _ (by decide +kernel)) ggX7_gapsOfSize_X7_gapsWith
theorem dX7_gapsOfSize_0 : decode cX7_gapsOfSize 0 = .ok (.iload_n 1, 1) := by decide +kernel
theorem dX7_gapsOfSize_1 : decode cX7_gapsOfSize 1 = .ok (.iconst 1, 1) := by decide +kernel
theorem dX7_gapsOfSize_2 : decode cX7_gapsOfSize 2 = .ok (.sipush 1000, 3) := by decide +kernel
theorem dX7_gapsOfSize_5 : decode cX7_gapsOfSize 5 = .ok (.invokestatic 43, 3) := by decide +kernel
theorem dX7_gapsOfSize_8 : decode cX7_gapsOfSize 8 = .ok (.ifCond .eq 8, 3) := by decide +kernel
theorem dX7_gapsOfSize_11 : decode cX7_gapsOfSize 11 = .ok (.iload_n 2, 1) := by decide +kernel
theorem dX7_gapsOfSize_12 : decode cX7_gapsOfSize 12 = .ok (.iconst 1, 1) := by decide +kernel
theorem dX7_gapsOfSize_13 : decode cX7_gapsOfSize 13 = .ok (.if_icmp .ge 5, 3) := by decide +kernel
theorem dX7_gapsOfSize_16 : decode cX7_gapsOfSize 16 = .ok (.iconst (-1), 1) := by decide +kernel
theorem dX7_gapsOfSize_17 : decode cX7_gapsOfSize 17 = .ok (.ireturn, 1) := by decide +kernel
theorem dX7_gapsOfSize_18 : decode cX7_gapsOfSize 18 = .ok (.aload_n 0, 1) := by decide +kernel
theorem dX7_gapsOfSize_19 : decode cX7_gapsOfSize 19 = .ok (.iload_n 1, 1) := by decide +kernel
theorem dX7_gapsOfSize_20 : decode cX7_gapsOfSize 20 = .ok (.invokevirtual 116, 3) := by decide +kernel
theorem dX7_gapsOfSize_23 : decode cX7_gapsOfSize 23 = .ok (.aload_n 0, 1) := by decide +kernel
theorem dX7_gapsOfSize_24 : decode cX7_gapsOfSize 24 = .ok (.iload_n 2, 1) := by decide +kernel
theorem dX7_gapsOfSize_25 : decode cX7_gapsOfSize 25 = .ok (.invokevirtual 119, 3) := by decide +kernel
theorem dX7_gapsOfSize_28 : decode cX7_gapsOfSize 28 = .ok (.ireturn, 1) := by decide +kernel
theorem dX7_historySize_0 : decode cX7_historySize 0 = .ok (.aload_n 0, 1) := by decide +kernel
theorem dX7_historySize_1 : decode cX7_historySize 1 = .ok (.getfield 32, 3) := by decide +kernel
theorem dX7_historySize_4 : decode cX7_historySize 4 = .ok (.ireturn, 1) := by decide +kernel
theorem dJ13_bitCount_95d88_0 : decode cJ13_bitCount_95d88 0 = .ok (.lload_n 0, 1) := by decide +kernel
theorem dJ13_bitCount_95d88_1 : decode cJ13_bitCount_95d88 1 = .ok (.lload_n 0, 1) := by decide +kernel
theorem dJ13_bitCount_95d88_2 : decode cJ13_bitCount_95d88 2 = .ok (.iconst 1, 1) := by decide +kernel
theorem dJ13_bitCount_95d88_3 : decode cJ13_bitCount_95d88 3 = .ok (.lushr, 1) := by decide +kernel
theorem dJ13_bitCount_95d88_4 : decode cJ13_bitCount_95d88 4 = .ok (.ldc2_w 314, 3) := by decide +kernel
theorem dJ13_bitCount_95d88_7 : decode cJ13_bitCount_95d88 7 = .ok (.land, 1) := by decide +kernel
theorem dJ13_bitCount_95d88_8 : decode cJ13_bitCount_95d88 8 = .ok (.lsub, 1) := by decide +kernel
theorem dJ13_bitCount_95d88_9 : decode cJ13_bitCount_95d88 9 = .ok (.lstore_n 0, 1) := by decide +kernel
theorem dJ13_bitCount_95d88_10 : decode cJ13_bitCount_95d88 10 = .ok (.lload_n 0, 1) := by decide +kernel
theorem dJ13_bitCount_95d88_11 : decode cJ13_bitCount_95d88 11 = .ok (.ldc2_w 316, 3) := by decide +kernel
theorem dJ13_bitCount_95d88_14 : decode cJ13_bitCount_95d88 14 = .ok (.land, 1) := by decide +kernel
theorem dJ13_bitCount_95d88_15 : decode cJ13_bitCount_95d88 15 = .ok (.lload_n 0, 1) := by decide +kernel
theorem dJ13_bitCount_95d88_16 : decode cJ13_bitCount_95d88 16 = .ok (.iconst 2, 1) := by decide +kernel
theorem dJ13_bitCount_95d88_17 : decode cJ13_bitCount_95d88 17 = .ok (.lushr, 1) := by decide +kernel
theorem dJ13_bitCount_95d88_18 : decode cJ13_bitCount_95d88 18 = .ok (.ldc2_w 316, 3) := by decide +kernel
theorem dJ13_bitCount_95d88_21 : decode cJ13_bitCount_95d88 21 = .ok (.land, 1) := by decide +kernel
theorem dJ13_bitCount_95d88_22 : decode cJ13_bitCount_95d88 22 = .ok (.ladd, 1) := by decide +kernel
theorem dJ13_bitCount_95d88_23 : decode cJ13_bitCount_95d88 23 = .ok (.lstore_n 0, 1) := by decide +kernel
theorem dJ13_bitCount_95d88_24 : decode cJ13_bitCount_95d88 24 = .ok (.lload_n 0, 1) := by decide +kernel
theorem dJ13_bitCount_95d88_25 : decode cJ13_bitCount_95d88 25 = .ok (.lload_n 0, 1) := by decide +kernel
theorem dJ13_bitCount_95d88_26 : decode cJ13_bitCount_95d88 26 = .ok (.iconst 4, 1) := by decide +kernel
theorem dJ13_bitCount_95d88_27 : decode cJ13_bitCount_95d88 27 = .ok (.lushr, 1) := by decide +kernel
theorem dJ13_bitCount_95d88_28 : decode cJ13_bitCount_95d88 28 = .ok (.ladd, 1) := by decide +kernel
theorem dJ13_bitCount_95d88_29 : decode cJ13_bitCount_95d88 29 = .ok (.ldc2_w 318, 3) := by decide +kernel
theorem dJ13_bitCount_95d88_32 : decode cJ13_bitCount_95d88 32 = .ok (.land, 1) := by decide +kernel
theorem dJ13_bitCount_95d88_33 : decode cJ13_bitCount_95d88 33 = .ok (.lstore_n 0, 1) := by decide +kernel
theorem dJ13_bitCount_95d88_34 : decode cJ13_bitCount_95d88 34 = .ok (.lload_n 0, 1) := by decide +kernel
theorem dJ13_bitCount_95d88_35 : decode cJ13_bitCount_95d88 35 = .ok (.lload_n 0, 1) := by decide +kernel
theorem dJ13_bitCount_95d88_36 : decode cJ13_bitCount_95d88 36 = .ok (.bipush 8, 2) := by decide +kernel
theorem dJ13_bitCount_95d88_38 : decode cJ13_bitCount_95d88 38 = .ok (.lushr, 1) := by decide +kernel
theorem dJ13_bitCount_95d88_39 : decode cJ13_bitCount_95d88 39 = .ok (.ladd, 1) := by decide +kernel
theorem dJ13_bitCount_95d88_40 : decode cJ13_bitCount_95d88 40 = .ok (.lstore_n 0, 1) := by decide +kernel
theorem dJ13_bitCount_95d88_41 : decode cJ13_bitCount_95d88 41 = .ok (.lload_n 0, 1) := by decide +kernel
theorem dJ13_bitCount_95d88_42 : decode cJ13_bitCount_95d88 42 = .ok (.lload_n 0, 1) := by decide +kernel
theorem dJ13_bitCount_95d88_43 : decode cJ13_bitCount_95d88 43 = .ok (.bipush 16, 2) := by decide +kernel
theorem dJ13_bitCount_95d88_45 : decode cJ13_bitCount_95d88 45 = .ok (.lushr, 1) := by decide +kernel
theorem dJ13_bitCount_95d88_46 : decode cJ13_bitCount_95d88 46 = .ok (.ladd, 1) := by decide +kernel
theorem dJ13_bitCount_95d88_47 : decode cJ13_bitCount_95d88 47 = .ok (.lstore_n 0, 1) := by decide +kernel
theorem dJ13_bitCount_95d88_48 : decode cJ13_bitCount_95d88 48 = .ok (.lload_n 0, 1) := by decide +kernel
theorem dJ13_bitCount_95d88_49 : decode cJ13_bitCount_95d88 49 = .ok (.lload_n 0, 1) := by decide +kernel
theorem dJ13_bitCount_95d88_50 : decode cJ13_bitCount_95d88 50 = .ok (.bipush 32, 2) := by decide +kernel
theorem dJ13_bitCount_95d88_52 : decode cJ13_bitCount_95d88 52 = .ok (.lushr, 1) := by decide +kernel
theorem dJ13_bitCount_95d88_53 : decode cJ13_bitCount_95d88 53 = .ok (.ladd, 1) := by decide +kernel
theorem dJ13_bitCount_95d88_54 : decode cJ13_bitCount_95d88 54 = .ok (.lstore_n 0, 1) := by decide +kernel
theorem dJ13_bitCount_95d88_55 : decode cJ13_bitCount_95d88 55 = .ok (.lload_n 0, 1) := by decide +kernel
theorem dJ13_bitCount_95d88_56 : decode cJ13_bitCount_95d88 56 = .ok (.l2i, 1) := by decide +kernel
theorem dJ13_bitCount_95d88_57 : decode cJ13_bitCount_95d88 57 = .ok (.bipush 127, 2) := by decide +kernel
theorem dJ13_bitCount_95d88_59 : decode cJ13_bitCount_95d88 59 = .ok (.iand, 1) := by decide +kernel
theorem dJ13_bitCount_95d88_60 : decode cJ13_bitCount_95d88 60 = .ok (.ireturn, 1) := by decide +kernel
theorem dJ9_max_7cf53_0 : decode cJ9_max_7cf53 0 = .ok (.iload_n 0, 1) := by decide +kernel
theorem dJ9_max_7cf53_1 : decode cJ9_max_7cf53 1 = .ok (.iload_n 1, 1) := by decide +kernel
theorem dJ9_max_7cf53_2 : decode cJ9_max_7cf53 2 = .ok (.if_icmp .lt 7, 3) := by decide +kernel
theorem dJ9_max_7cf53_5 : decode cJ9_max_7cf53 5 = .ok (.iload_n 0, 1) := by decide +kernel
theorem dJ9_max_7cf53_6 : decode cJ9_max_7cf53 6 = .ok (.goto 4, 3) := by decide +kernel
theorem dJ9_max_7cf53_9 : decode cJ9_max_7cf53 9 = .ok (.iload_n 1, 1) := by decide +kernel
theorem dJ9_max_7cf53_10 : decode cJ9_max_7cf53 10 = .ok (.ireturn, 1) := by decide +kernel
theorem dJ9_min_7cf53_0 : decode cJ9_min_7cf53 0 = .ok (.iload_n 0, 1) := by decide +kernel
theorem dJ9_min_7cf53_1 : decode cJ9_min_7cf53 1 = .ok (.iload_n 1, 1) := by decide +kernel
theorem dJ9_min_7cf53_2 : decode cJ9_min_7cf53 2 = .ok (.if_icmp .gt 7, 3) := by decide +kernel
theorem dJ9_min_7cf53_5 : decode cJ9_min_7cf53 5 = .ok (.iload_n 0, 1) := by decide +kernel
theorem dJ9_min_7cf53_6 : decode cJ9_min_7cf53 6 = .ok (.goto 4, 3) := by decide +kernel
theorem dJ9_min_7cf53_9 : decode cJ9_min_7cf53 9 = .ok (.iload_n 1, 1) := by decide +kernel
theorem dJ9_min_7cf53_10 : decode cJ9_min_7cf53 10 = .ok (.ireturn, 1) := by decide +kernel
theorem dJ7_fill_53178_0 : decode cJ7_fill_53178 0 = .ok (.iconst 0, 1) := by decide +kernel
theorem dJ7_fill_53178_1 : decode cJ7_fill_53178 1 = .ok (.istore_n 2, 1) := by decide +kernel
theorem dJ7_fill_53178_2 : decode cJ7_fill_53178 2 = .ok (.aload_n 0, 1) := by decide +kernel
theorem dJ7_fill_53178_3 : decode cJ7_fill_53178 3 = .ok (.arraylength, 1) := by decide +kernel
theorem dJ7_fill_53178_4 : decode cJ7_fill_53178 4 = .ok (.istore_n 3, 1) := by decide +kernel
theorem dJ7_fill_53178_5 : decode cJ7_fill_53178 5 = .ok (.iload_n 2, 1) := by decide +kernel
theorem dJ7_fill_53178_6 : decode cJ7_fill_53178 6 = .ok (.iload_n 3, 1) := by decide +kernel
theorem dJ7_fill_53178_7 : decode cJ7_fill_53178 7 = .ok (.if_icmp .ge 13, 3) := by decide +kernel
theorem dJ7_fill_53178_10 : decode cJ7_fill_53178 10 = .ok (.aload_n 0, 1) := by decide +kernel
theorem dJ7_fill_53178_11 : decode cJ7_fill_53178 11 = .ok (.iload_n 2, 1) := by decide +kernel
theorem dJ7_fill_53178_12 : decode cJ7_fill_53178 12 = .ok (.iload_n 1, 1) := by decide +kernel
theorem dJ7_fill_53178_13 : decode cJ7_fill_53178 13 = .ok (.iastore, 1) := by decide +kernel
theorem dJ7_fill_53178_14 : decode cJ7_fill_53178 14 = .ok (.iinc 2 1, 3) := by decide +kernel
theorem dJ7_fill_53178_17 : decode cJ7_fill_53178 17 = .ok (.goto (-12), 3) := by decide +kernel
theorem dJ7_fill_53178_20 : decode cJ7_fill_53178 20 = .ok (.return_, 1) := by decide +kernel
end
section
/-! what the methods answer, as functions of whole numbers -/
def zf (f : Int → Int) : Nat → Int32 := fun j => iZ (f (j : Int))
def up1 (f : Int → Int) (k v : Int) : Int → Int := fun j => if j = k then v else f j
theorem up1_s {f : Int → Int} {k v : Int} : up1 f k v k = v := if_pos rfl
theorem up1_n {f : Int → Int} {k v j : Int} (h : j ≠ k) : up1 f k v j = f j := if_neg h
theorem zf_at {f : Int → Int} {k : Int} (h : 0 ≤ k ∧ k < 2147483648) : zf f (iZ k).toNatClampNeg = iZ (f k) := by
  rw [iZ_cl h.1 h.2]
  show iZ (f ((k.toNat : Nat) : Int)) = _
  rw [Int.toNat_of_nonneg h.1]
theorem zf_up {f : Int → Int} {k v : Int} (h : 0 ≤ k ∧ k < 2147483648) : upd (zf f) (iZ k).toNatClampNeg (iZ v) = zf (up1 f k v) := by
  rw [iZ_cl h.1 h.2]
  funext j
  show (if j = k.toNat then iZ v else iZ (f j)) = iZ (if (j : Int) = k then v else f j)
  by_cases q : j = k.toNat
  · rw [if_pos q, if_pos (by omega)]
  · rw [if_neg q, if_neg (by omega)]
/-- a count below N -/
noncomputable def cntN (P : Int → Prop) : Nat → Int
  | 0 => 0
  | k + 1 => cntN P k + bv (P (k : Int))
noncomputable def cnt (P : Int → Prop) (N : Int) : Int := cntN P N.toNat
theorem cnt_0 {P : Int → Prop} {N : Int} (h : N ≤ 0) : cnt P N = 0 := by
  unfold cnt
  rw [show N.toNat = 0 by omega]
  rfl
theorem cnt_s {P : Int → Prop} {N : Int} (h : 0 ≤ N) : cnt P (N + 1) = cnt P N + bv (P N) := by
  unfold cnt
  rw [show (N + 1).toNat = N.toNat + 1 by omega]
  show cntN P N.toNat + bv (P ((N.toNat : Nat) : Int)) = _
  rw [Int.toNat_of_nonneg h]
theorem cnt_t {P : Int → Prop} {N : Int} (h : 0 ≤ N) (q : P N) : cnt P (N + 1) = cnt P N + 1 := by rw [cnt_s h, bv_t q]
theorem cnt_f {P : Int → Prop} {N : Int} (h : 0 ≤ N) (q : ¬ P N) : cnt P (N + 1) = cnt P N := by rw [cnt_s h, bv_f q, Int.add_zero]
theorem cntN_le (P : Int → Prop) : ∀ k : Nat, 0 ≤ cntN P k ∧ cntN P k ≤ k
  | 0 => ⟨Int.le_refl 0, Int.le_refl 0⟩
  | k + 1 => by
    have h := cntN_le P k
    have q := bv_r (P (k : Int))
    show 0 ≤ cntN P k + _ ∧ cntN P k + _ ≤ _
    omega
theorem cnt_le {P : Int → Prop} {N : Int} (h : 0 ≤ N) : 0 ≤ cnt P N ∧ cnt P N ≤ N := by
  have := cntN_le P N.toNat
  unfold cnt
  omega
theorem cnt_c {P Q : Int → Prop} {N : Int} (h : ∀ k, 0 ≤ k → k < N → (P k ↔ Q k)) : cnt P N = cnt Q N := by
  have key : ∀ k : Nat, (k : Int) ≤ N → cntN P k = cntN Q k := by
    intro k
    induction k with
    | zero => intro _; rfl
    | succ k ih =>
      intro hk
      show cntN P k + _ = cntN Q k + _
      rw [ih (by omega), bv_c (h k (by omega) (by omega))]
  unfold cnt
  rcases Int.lt_or_le N 0 with q | q
  · rw [show N.toNat = 0 by omega]; rfl
  · exact key _ (by omega)
/-- a recursion below N -/
def itN {α : Type} (f : Int → α → α) (a : α) : Nat → α
  | 0 => a
  | k + 1 => f (k : Int) (itN f a k)
def it {α : Type} (f : Int → α → α) (a : α) (N : Int) : α := itN f a N.toNat
theorem it_0 {α : Type} {f : Int → α → α} {a : α} {N : Int} (h : N ≤ 0) : it f a N = a := by
  unfold it
  rw [show N.toNat = 0 by omega]
  rfl
theorem it_s {α : Type} {f : Int → α → α} {a : α} {N : Int} (h : 0 ≤ N) : it f a (N + 1) = f N (it f a N) := by
  unfold it
  rw [show (N + 1).toNat = N.toNat + 1 by omega]
  show f ((N.toNat : Nat) : Int) _ = _
  rw [Int.toNat_of_nonneg h]
/-- the factor of ct letters from st on of the word b of n letters, as a number -/
def fct (b n st ct : Int) : Int := b / pw (n - st - ct) % pw ct
def ltr (b n j : Int) : Int := fct b n j 1
theorem fct_r (b n st ct : Int) : 0 ≤ fct b n st ct ∧ fct b n st ct < pw ct := ⟨Int.emod_nonneg _ (by have := pw_pos ct; omega), Int.emod_lt_of_pos _ (pw_pos ct)⟩
theorem fct_b {b n st ct : Int} (h : ct ≤ 61) : 0 ≤ fct b n st ct ∧ fct b n st ct < 2305843009213693953 := by
  have h1 := fct_r b n st ct
  have h2 := pw_62 h
  omega
theorem ltr_r (b n j : Int) : 0 ≤ ltr b n j ∧ ltr b n j < 2 := fct_r b n j 1
def newP (b n st ct : Int) : Prop := ∀ k : Int, 0 ≤ k → k < st → fct b n k ct ≠ fct b n st ct
/-- the number of the ones of a number's binary digits -/
def pcN : Nat → Nat → Int
  | 0, _ => 0
  | k + 1, b => (b % 2 : Nat) + pcN k (b / 2)
def ons (b : Int) : Int := pcN 64 b.toNat
theorem pcN_r : ∀ (k b : Nat), 0 ≤ pcN k b ∧ pcN k b ≤ k
  | 0, _ => ⟨Int.le_refl 0, Int.le_refl 0⟩
  | k + 1, b => by
    have := pcN_r k (b / 2)
    show 0 ≤ ((b % 2 : Nat) : Int) + _ ∧ ((b % 2 : Nat) : Int) + _ ≤ _
    omega
theorem ons_r (b : Int) : 0 ≤ ons b ∧ ons b ≤ 64 := pcN_r 64 _
/-- the least of the first N numbers f above a; -1 if there is none -/
noncomputable def nxt (f : Int → Int) (a N : Int) : Int := it (fun k r => @ite _ (a < f k ∧ (r = -1 ∨ f k < r)) (Classical.propDecidable _) (f k) r) (-1) N
/-- the i-th of them in order -/
noncomputable def lstF (f : Int → Int) (N i : Int) : Int := it (fun _ r => @ite _ (r = -1) (Classical.propDecidable _) (-1) (nxt f r N)) (nxt f (-1) N) i
theorem lstF_m {f : Int → Int} {N i : Int} (hi : 0 ≤ i) (h : lstF f N i = -1) {j : Int} (hj : i ≤ j) : lstF f N j = -1 := by
  obtain ⟨k, rfl⟩ : ∃ k : Nat, j = i + k := ⟨(j - i).toNat, by omega⟩
  induction k with
  | zero => simpa using h
  | succ k ih =>
    have e : lstF f N (i + k + 1) = @ite _ (lstF f N (i + k) = -1) (Classical.propDecidable _) (-1) (nxt f (lstF f N (i + k)) N) := it_s (by omega)
    rw [show i + ((k + 1 : Nat) : Int) = i + k + 1 by omega, e, if_pos (ih (by omega))]
/-- Euclid's steps on dividend and divisor -/
def euS (x : Int × Int) : Int × Int := if x.2 ≤ 0 then x else (x.2, x.1 % x.2)
def eu (p q k : Int) : Int × Int := it (fun _ x => euS x) (q, p) k
theorem eu_0 (p q : Int) : eu p q 0 = (q, p) := it_0 (Int.le_refl 0)
theorem eu_s {p q k : Int} (h : 0 ≤ k) : eu p q (k + 1) = euS (eu p q k) := it_s h
theorem eu_p {p q k : Int} (h : 0 ≤ k) (q2 : 0 < (eu p q k).2) : eu p q (k + 1) = ((eu p q k).2, (eu p q k).1 % (eu p q k).2) := by
  rw [eu_s h]
  unfold euS
  rw [if_neg (by omega)]
theorem eu_z {p q k : Int} (h : 0 ≤ k) (q2 : (eu p q k).2 ≤ 0) {j : Int} (hj : k ≤ j) : eu p q j = eu p q k := by
  obtain ⟨i, rfl⟩ : ∃ i : Nat, j = k + i := ⟨(j - k).toNat, by omega⟩
  induction i with
  | zero => simp
  | succ i ih =>
    rw [show k + ((i + 1 : Nat) : Int) = k + i + 1 by omega, eu_s (by omega), ih (by omega)]
    unfold euS
    rw [if_pos q2]
/-- the term of the continued fraction, from 1 on; -1 if there is none -/
def cft (p q i : Int) : Int := if 0 < (eu p q (i - 1)).2 then (eu p q (i - 1)).1 / (eu p q (i - 1)).2 else -1
theorem sub_mul_div (a b : Int) : a - a / b * b = a % b := by rw [Int.emod_def, Int.mul_comm b]
/-- the letter n of a mechanical word -/
def mlt (p q c up n : Int) : Int := (n * p + c + (if up = 0 then 0 else q - 1) + p) / q - (n * p + c + (if up = 0 then 0 else q - 1)) / q
/-- the interval of intercepts -/
def sm (f : Int → Int) (N : Int) : Int := it (fun k r => r + f k) 0 N
theorem sm_0 (f : Int → Int) : sm f 0 = 0 := it_0 (Int.le_refl 0)
theorem sm_s {f : Int → Int} {N : Int} (h : 0 ≤ N) : sm f (N + 1) = sm f N + f N := it_s h
def lilo (f : Int → Int) (a q N : Int) : Int := it (fun k r => max r (sm f (k + 1) * q - (k + 1) * a)) 0 N
def lihi (f : Int → Int) (a q N : Int) : Int := it (fun k r => min r (sm f (k + 1) * q - (k + 1) * a + q - 1)) (q - 1) N
theorem cd_step {la sm : Int} (h1 : 0 ≤ la) (h2 : 0 ≤ sm) : Int.gcd (la % sm) sm = Int.gcd sm la := by
  obtain ⟨x, rfl⟩ : ∃ x : Nat, la = x := ⟨la.toNat, by omega⟩
  obtain ⟨y, rfl⟩ : ∃ y : Nat, sm = y := ⟨sm.toNat, by omega⟩
  show Nat.gcd (x % y) y = Nat.gcd y x
  exact (Nat.gcd_rec y x).symm
theorem cd_0 {la : Int} (h : 0 ≤ la) : ((Int.gcd 0 la : Nat) : Int) = la := by
  obtain ⟨x, rfl⟩ : ∃ x : Nat, la = x := ⟨la.toNat, by omega⟩
  show ((Nat.gcd 0 x : Nat) : Int) = x
  rw [Nat.gcd_zero_left]
theorem cd_r {a d : Int} (hd : 0 < d) : 0 < ((Int.gcd a d : Nat) : Int) ∧ ((Int.gcd a d : Nat) : Int) ≤ d := by
  have h1 : 0 < Int.gcd a d := Nat.pos_of_ne_zero (fun h => by have := (Int.gcd_eq_zero_iff.mp h).2; omega)
  have h2 : ((Int.gcd a d : Nat) : Int) ≤ d := Int.le_of_dvd hd (Int.gcd_dvd_right ..)
  omega
theorem nxt_step {f : Int → Int} {a i le le2 : Int} (hi : 0 ≤ i) (h : le = nxt f a i) (h2 : (a < f i ∧ (le = -1 ∨ f i < le) ∧ le2 = f i) ∨ (¬ (a < f i ∧ (le = -1 ∨ f i < le)) ∧ le2 = le)) : le2 = nxt f a (i + 1) := by
  have e : nxt f a (i + 1) = @ite _ (a < f i ∧ (nxt f a i = -1 ∨ f i < nxt f a i)) (Classical.propDecidable _) (f i) (nxt f a i) := it_s hi
  rw [e, ← h]
  rcases h2 with ⟨q1, q2, q3⟩ | ⟨q1, q2⟩
  · rw [if_pos ⟨q1, q2⟩, q3]
  · rw [if_neg q1, q2]
theorem nxt_b {f : Int → Int} {a N M : Int} (hM : -1 < M) (h : ∀ k, 0 ≤ f k ∧ f k < M) : -1 ≤ nxt f a N ∧ nxt f a N < M := by
  have key : ∀ k : Nat, -1 ≤ itN (fun k r => @ite _ (a < f k ∧ (r = -1 ∨ f k < r)) (Classical.propDecidable _) (f k) r) (-1) k ∧ itN (fun k r => @ite _ (a < f k ∧ (r = -1 ∨ f k < r)) (Classical.propDecidable _) (f k) r) (-1) k < M := by
    intro k
    induction k with
    | zero => exact ⟨Int.le_refl _, hM⟩
    | succ k ih =>
      have := h k
      show -1 ≤ @ite Int _ (Classical.propDecidable _) (f k) _ ∧ @ite Int _ (Classical.propDecidable _) (f k) _ < M
      split
      · omega
      · exact ih
  exact key _
theorem lst_step {f : Int → Int} {N i fa : Int} (hi : 0 ≤ i) (h : fa = lstF f N i) (h2 : ¬ fa = -1) : nxt f fa N = lstF f N (i + 1) := by
  have e : lstF f N (i + 1) = @ite _ (lstF f N i = -1) (Classical.propDecidable _) (-1) (nxt f (lstF f N i) N) := it_s hi
  rw [e, ← h, if_neg h2]
/-- the first k below N with P; -1 if there is none -/
noncomputable def fnd (P : Int → Prop) (N : Int) : Int := it (fun k r => @ite _ (r = -1 ∧ P k) (Classical.propDecidable _) k r) (-1) N
theorem fnd_0 {P : Int → Prop} {N : Int} (h : N ≤ 0) : fnd P N = -1 := it_0 h
theorem fnd_s {P : Int → Prop} {N : Int} (h : 0 ≤ N) : fnd P (N + 1) = @ite _ (fnd P N = -1 ∧ P N) (Classical.propDecidable _) N (fnd P N) := it_s h
theorem fnd_miss {P : Int → Prop} {i : Int} (hi : 0 ≤ i) (h : fnd P i = -1) (q : ¬ P i) : fnd P (i + 1) = -1 := by rw [fnd_s hi, if_neg (fun z => q z.2), h]
theorem fnd_keep {P : Int → Prop} {i v : Int} (hi : 0 ≤ i) (h : fnd P i = v) (hv : ¬ v = -1) {N : Int} (hN : i ≤ N) : fnd P N = v := by
  obtain ⟨k, rfl⟩ : ∃ k : Nat, N = i + k := ⟨(N - i).toNat, by omega⟩
  induction k with
  | zero => simpa using h
  | succ k ih =>
    rw [show i + ((k + 1 : Nat) : Int) = i + k + 1 by omega, fnd_s (by omega), ih (by omega), if_neg (fun z => hv z.1)]
theorem fnd_hit {P : Int → Prop} {i N : Int} (hi : 0 ≤ i) (h : fnd P i = -1) (q : P i) (hN : i < N) : fnd P N = i := by
  refine fnd_keep (i := i + 1) (by omega) ?_ (by omega) (by omega)
  rw [fnd_s hi, if_pos ⟨h, q⟩]
theorem fnd_c {P Q : Int → Prop} {N : Int} (h : ∀ k, 0 ≤ k → k < N → (P k ↔ Q k)) : fnd P N = fnd Q N := by
  have key : ∀ k : Nat, (k : Int) ≤ N → fnd P k = fnd Q k := by
    intro k
    induction k with
    | zero => intro _; rw [fnd_0 (by omega), fnd_0 (by omega)]
    | succ k ih =>
      intro hk
      rw [show ((k + 1 : Nat) : Int) = (k : Int) + 1 by omega, fnd_s (by omega), fnd_s (by omega), ih (by omega)]
      have := propext (h k (by omega) (by omega))
      rw [this]
  rcases Int.lt_or_le N 0 with q | q
  · rw [fnd_0 (by omega), fnd_0 (by omega)]
  · have := key N.toNat (by omega)
    rwa [Int.toNat_of_nonneg q] at this
/-- how two factors of a row compare -/
def cmpS (w : Int → Int) (a b m : Int) : Int := it (fun k r => if r = 0 then w (4 + a + k) - w (4 + b + k) else r) 0 m
theorem cmpS_s {w : Int → Int} {a b m : Int} (h : 0 ≤ m) (q : cmpS w a b m = 0) : cmpS w a b (m + 1) = w (4 + a + m) - w (4 + b + m) := by
  show it _ _ (m + 1) = _
  rw [it_s h]
  show (if cmpS w a b m = 0 then _ else _) = _
  rw [if_pos q]
theorem cmpS_k {w : Int → Int} {a b i : Int} (hi : 0 ≤ i) (q : ¬ cmpS w a b i = 0) {m : Int} (hm : i ≤ m) : cmpS w a b m = cmpS w a b i := by
  obtain ⟨k, rfl⟩ : ∃ k : Nat, m = i + k := ⟨(m - i).toNat, by omega⟩
  induction k with
  | zero => simp
  | succ k ih =>
    have e := ih (by omega)
    rw [show i + ((k + 1 : Nat) : Int) = i + k + 1 by omega]
    show it _ _ (i + k + 1) = _
    rw [it_s (by omega)]
    show (if cmpS w a b (i + k) = 0 then _ else cmpS w a b (i + k)) = _
    rw [e, if_neg q]
def fstP (w : Int → Int) (st m : Int) : Prop := ∀ k : Int, 0 ≤ k → k < st → ¬ cmpS w k st m = 0
def numS (w : Int → Int) (a m : Int) : Int := it (fun k v => 2 * v + w (4 + a + k)) 0 m
def palP (w : Int → Int) (f m : Int) : Prop := ∀ k : Int, 0 ≤ k → k < m / 2 → w (4 + f + k) = w (4 + f + m - 1 - k)
def perP (w : Int → Int) (t : Int) : Prop := ∀ k : Int, 0 ≤ k → k + t < w 3 → w (4 + k) = w (4 + k + t)
def begP (w : Int → Int) (a b d : Int) : Prop := ∀ k : Int, 0 ≤ k → k < w 3 → ((k + 1) * a + d) / b - (k * a + d) / b = w (4 + k)
def imgS (m x : Int) : Int := if m = 0 then 21 - x else if m = 1 then (if x = 0 then 201 else 20) else if m = 2 then (if x = 0 then 210 else 20) else if m = 3 then (if x = 0 then 20 else 201) else (if x = 0 then 20 else 210)
def stdP (w : Int → Int) (im x : Int) : Prop := (99 < im ∧ x + 1 < w 3 ∧ w (4 + x) = im / 10 % 10 ∧ w (4 + x + 1) = im % 10) ∨ (im ≤ 99 ∧ w (4 + x) = im % 10)
/-- the sum of a factor's letters, the least and the greatest of them over the first N starts -/
def smW (w : Int → Int) (a m : Int) : Int := it (fun k r => r + w (4 + a + k)) 0 m
def mnW (w : Int → Int) (m N : Int) : Int := it (fun a r => if smW w a m < r then smW w a m else r) 60 N
def mxW (w : Int → Int) (m N : Int) : Int := it (fun a r => if r < smW w a m then smW w a m else r) 0 N
theorem cmpS_r {w : Int → Int} (hL : ∀ x, 4 ≤ x → x < 4 + w 3 → 0 ≤ w x ∧ w x ≤ 1) {x y m : Int} (h1 : 0 ≤ x ∧ 0 ≤ y ∧ 0 ≤ m) (h2 : x + m ≤ w 3) (h3 : y + m ≤ w 3) : -1 ≤ cmpS w x y m ∧ cmpS w x y m ≤ 1 := by
  have key : ∀ k : Nat, (k : Int) ≤ m → -1 ≤ cmpS w x y k ∧ cmpS w x y k ≤ 1 := by
    intro k
    induction k with
    | zero =>
      intro _
      rw [show cmpS w x y ((0 : Nat) : Int) = 0 from it_0 (by omega)]
      omega
    | succ k ih =>
      intro hk
      have q := ih (by omega)
      rw [show ((k + 1 : Nat) : Int) = (k : Int) + 1 by omega]
      by_cases z : cmpS w x y k = 0
      · rw [cmpS_s (by omega) z]
        have := hL (4 + x + k) (by omega) (by omega)
        have := hL (4 + y + k) (by omega) (by omega)
        omega
      · rw [cmpS_k (i := k) (by omega) z (by omega)]
        exact q
  have := key m.toNat (by omega)
  rwa [Int.toNat_of_nonneg h1.2.2] at this
theorem fnd_eq {P : Int → Prop} {x N v : Int} (h : fnd P x = v) (e : x = N) : fnd P N = v := e ▸ h
theorem fnd_none {P : Int → Prop} {N : Int} (h : ∀ k, 0 ≤ k → k < N → ¬ P k) : fnd P N = -1 := by
  have key : ∀ k : Nat, (k : Int) ≤ N → fnd P k = -1 := by
    intro k
    induction k with
    | zero => intro _; exact fnd_0 (by omega)
    | succ k ih =>
      intro hk
      rw [show ((k + 1 : Nat) : Int) = (k : Int) + 1 by omega]
      exact fnd_miss (by omega) (ih (by omega)) (h k (by omega) (by omega))
  rcases Int.lt_or_le N 0 with q | q
  · exact fnd_0 (by omega)
  · exact fnd_eq (key N.toNat (by omega)) (Int.toNat_of_nonneg q)
/-- the simplest slope: the first intercept, the first numerator, the first denominator -/
noncomputable def siD (w : Int → Int) (b a : Int) : Int := fnd (fun d => (Int.gcd a b : Int) = 1 ∧ begP w a b d) b
noncomputable def siA (w : Int → Int) (b : Int) : Int := fnd (fun a => ¬ siD w b a = -1) (b + 1)
noncomputable def siB (w : Int → Int) : Int := fnd (fun b => 1 ≤ b ∧ ¬ siA w b = -1) 62
noncomputable def siR (w : Int → Int) (part : Int) : Int := if siB w = -1 then -3 else if part = 0 then siA w (siB w) else if part = 1 then siB w else siD w (siB w) (siA w (siB w))
theorem siR_hit {w : Int → Int} {b a d part : Int} (hb : 1 ≤ b ∧ b < 62) (ha : 0 ≤ a ∧ a ≤ b) (hd : 0 ≤ d ∧ d < b) (h1 : fnd (fun b => 1 ≤ b ∧ ¬ siA w b = -1) b = -1) (h2 : fnd (fun a => ¬ siD w b a = -1) a = -1) (h3 : fnd (fun d => (Int.gcd a b : Int) = 1 ∧ begP w a b d) d = -1) (h4 : (Int.gcd a b : Int) = 1 ∧ begP w a b d) : siR w part = if part = 0 then a else if part = 1 then b else d := by
  have e1 : siD w b a = d := fnd_hit hd.1 h3 h4 hd.2
  have e2 : siA w b = a := fnd_hit (P := fun a => ¬ siD w b a = -1) ha.1 h2 (by show ¬ siD w b a = -1; omega) (by omega)
  have e3 : siB w = b := fnd_hit (P := fun b => 1 ≤ b ∧ ¬ siA w b = -1) (by omega) h1 ⟨hb.1, by omega⟩ hb.2
  unfold siR
  rw [e3, if_neg (by omega), e2, e1]
/-- the distance from a point to the next one -/
noncomputable def nxg (pt : Int → Int) (q k : Int) : Int := fnd (fun g => 1 ≤ g ∧ ¬ pt ((k + g) % q) = 0) (q + 1)
/-- 64 places copied, the first k of them -/
def cpy (f : Int → Int) (i : Int) (t : Int → Int) (j k : Int) : Int → Int := fun x => if j ≤ x ∧ x < j + k then f (i + (x - j)) else t x
theorem cpy_0 (f : Int → Int) (i : Int) (t : Int → Int) (j : Int) : cpy f i t j 0 = t := by
  funext x
  exact if_neg (by omega)
theorem cpy_s {f : Int → Int} {i : Int} {t : Int → Int} {j k : Int} (h : 0 ≤ k) : up1 (cpy f i t j k) (j + k) (f (i + k)) = cpy f i t j (k + 1) := by
  funext x
  unfold up1 cpy
  by_cases q : x = j + k
  · subst q
    rw [if_pos rfl, if_pos (by omega), show j + k - j = k by omega]
  · rw [if_neg q]
    by_cases z : j ≤ x ∧ x < j + k
    · rw [if_pos z, if_pos (by omega)]
    · rw [if_neg z, if_neg (by omega)]
/-- rows moved down by 64 -/
def shd (f : Int → Int) (k : Int) : Int → Int := fun x => if 0 ≤ x ∧ x < k then f (x + 64) else f x
theorem shd_0 (f : Int → Int) : shd f 0 = f := by
  funext x
  exact if_neg (by omega)
theorem shd_g {f : Int → Int} {k x : Int} (h : k ≤ x) : shd f k x = f x := if_neg (by omega)
theorem shd_s {f : Int → Int} {k : Int} (h : 0 ≤ k) : up1 (shd f k) k (f (k + 64)) = shd f (k + 1) := by
  funext x
  unfold up1 shd
  by_cases q : x = k
  · subst q
    rw [if_pos rfl, if_pos (by omega)]
  · rw [if_neg q]
    by_cases z : 0 ≤ x ∧ x < k
    · rw [if_pos z, if_pos (by omega)]
    · rw [if_neg z, if_neg (by omega)]
/-- the past and the number of edits behind a save -/
def svP (ps nw : Int → Int) (ed : Int) : Int → Int := cpy nw 0 (if ed = 6 then shd ps 320 else ps) (64 * (if ed = 6 then 5 else ed)) 64
def svE (ed : Int) : Int := (if ed = 6 then 5 else ed) + 1
/-- the next and the current row behind a take -/
def tkX (nx nw : Int → Int) : Int → Int := up1 (up1 (up1 nx 0 (nw 0)) 1 (nw 1)) 2 (nw 2)
def tkW (nx nw : Int → Int) : Int → Int := cpy (tkX nx nw) 0 nw 0 64
/-- the terms behind an expansion, the first k of them -/
def tmE (tm : Int → Int) (p q k : Int) : Int → Int := fun x => if 0 ≤ x ∧ x < k then cft p q (x + 1) else tm x
theorem tmE_0 (tm : Int → Int) (p q : Int) : tmE tm p q 0 = tm := by
  funext x
  exact if_neg (by omega)
theorem tmE_s {tm : Int → Int} {p q k : Int} (h : 0 ≤ k) : up1 (tmE tm p q k) k (cft p q (k + 1)) = tmE tm p q (k + 1) := by
  funext x
  unfold up1 tmE
  by_cases z : x = k
  · subst z
    rw [if_pos rfl, if_pos (by omega)]
  · rw [if_neg z]
    by_cases y : 0 ≤ x ∧ x < k
    · rw [if_pos y, if_pos (by omega)]
    · rw [if_neg y, if_neg (by omega)]
/-- Euclid's numbers: what they are between, and how fast they fall -/
theorem eu_r {p q : Int} (hp : 0 ≤ p ∧ p ≤ q) (hq : 0 < q) : ∀ k : Nat, 0 ≤ (eu p q k).2 ∧ (eu p q k).2 ≤ (eu p q k).1 ∧ 0 < (eu p q k).1 ∧ (eu p q k).1 ≤ q
  | 0 => by rw [show ((0 : Nat) : Int) = 0 from rfl, eu_0]; exact ⟨hp.1, hp.2, hq, Int.le_refl q⟩
  | k + 1 => by
    have h := eu_r hp hq k
    rw [show ((k + 1 : Nat) : Int) = (k : Int) + 1 by omega]
    by_cases z : 0 < (eu p q k).2
    · rw [eu_p (by omega) z]
      have e1 := Int.emod_nonneg (eu p q k).1 (show (eu p q k).2 ≠ 0 by omega)
      have e2 := Int.emod_lt_of_pos (eu p q k).1 z
      exact ⟨e1, Int.le_of_lt e2, z, by omega⟩
    · rw [eu_z (k := (k : Int)) (by omega) (by omega) (by omega)]
      exact h
theorem eu_h {p q : Int} (hp : 0 ≤ p ∧ p ≤ q) (hq : 0 < q) (k : Nat) (z : 0 < (eu p q (k + 1)).2) : 2 * (eu p q (k + 2)).1 ≤ (eu p q k).1 := by
  have h := eu_r hp hq k
  have z0 : 0 < (eu p q k).2 := by
    rcases Int.lt_or_le 0 (eu p q k).2 with y | y
    · exact y
    · rw [eu_z (k := (k : Int)) (by omega) y (by omega)] at z; omega
  have e := eu_p (p := p) (q := q) (k := k) (by omega) z0
  rw [show (k : Int) + 2 = (k : Int) + 1 + 1 by omega, eu_p (by omega) z]
  show 2 * (eu p q (k + 1)).2 ≤ _
  rw [e]
  show 2 * ((eu p q k).1 % (eu p q k).2) ≤ _
  have e2 := Int.emod_lt_of_pos (eu p q k).1 z0
  have e3 := Int.emod_add_mul_ediv (eu p q k).1 (eu p q k).2
  have e4 : 1 ≤ (eu p q k).1 / (eu p q k).2 := by
    rw [Int.le_ediv_iff_mul_le z0]; omega
  have e5 : (eu p q k).2 * 1 ≤ (eu p q k).2 * ((eu p q k).1 / (eu p q k).2) := Int.mul_le_mul_of_nonneg_left e4 (by omega)
  omega
theorem eu_20 {p q k : Int} (hp : 0 ≤ p ∧ p ≤ q) (hq : 0 < q ∧ q ≤ 1000) (hk : 0 ≤ k) (z : 0 < (eu p q k).2) : k < 19 := by
  rcases Int.lt_or_le k 19 with y | y
  · exact y
  · exfalso
    have all : ∀ j : Int, 0 ≤ j → j ≤ 19 → 0 < (eu p q j).2 := by
      intro j hj hj2
      rcases Int.lt_or_le 0 (eu p q j).2 with x | x
      · exact x
      · rw [eu_z hj x (show j ≤ k by omega)] at z; omega
    have h := fun (j : Nat) (hj : (j : Int) + 1 ≤ 19) => eu_h hp hq.1 j (all _ (by omega) hj)
    have a0 : 2 * (eu p q 2).1 ≤ (eu p q 0).1 := h 0 (by decide)
    have a2 : 2 * (eu p q 4).1 ≤ (eu p q 2).1 := h 2 (by decide)
    have a4 : 2 * (eu p q 6).1 ≤ (eu p q 4).1 := h 4 (by decide)
    have a6 : 2 * (eu p q 8).1 ≤ (eu p q 6).1 := h 6 (by decide)
    have a8 : 2 * (eu p q 10).1 ≤ (eu p q 8).1 := h 8 (by decide)
    have a10 : 2 * (eu p q 12).1 ≤ (eu p q 10).1 := h 10 (by decide)
    have a12 : 2 * (eu p q 14).1 ≤ (eu p q 12).1 := h 12 (by decide)
    have a14 : 2 * (eu p q 16).1 ≤ (eu p q 14).1 := h 14 (by decide)
    have a16 : 2 * (eu p q 18).1 ≤ (eu p q 16).1 := h 16 (by decide)
    have a18 : 2 * (eu p q 20).1 ≤ (eu p q 18).1 := h 18 (by decide)
    have e0 : (eu p q 0).1 ≤ q := (eu_r hp hq.1 0).2.2.2
    have e20 : 0 < (eu p q 20).1 := (eu_r hp hq.1 20).2.2.1
    omega
theorem sI {a b : Int} (h : a = b) : some (Value.int (iZ a)) = some (Value.int (iZ b)) := by rw [h]
/-- the number of terms of the continued fraction -/
noncomputable def ntm (p q : Int) : Int := fnd (fun k => (eu p q k).2 ≤ 0) 20
theorem cft_at {p q k a b : Int} (h : eu p q k = (a, b)) (hb : 0 < b) : cft p q (k + 1) = a / b := by
  unfold cft
  rw [show k + 1 - 1 = k by omega, h, if_pos hb]
theorem ntm_at {p q k : Int} (hk : 0 ≤ k ∧ k < 20) (h : fnd (fun k => (eu p q k).2 ≤ 0) k = -1) (h2 : (eu p q k).2 ≤ 0) : ntm p q = k := fnd_hit hk.1 h h2 hk.2
theorem fnd_none_lt {P : Int → Prop} {N : Int} (h : fnd P N = -1) {k : Int} (hk : 0 ≤ k) (h2 : k < N) : ¬ P k := by
  intro z
  rcases (show fnd P k = -1 ∨ ¬ fnd P k = -1 by omega) with q | q
  · have := fnd_hit hk q z h2; omega
  · have := fnd_keep hk rfl q (show k ≤ N by omega); omega
/-- the answer of continuedFractionTerm -/
def cftR (p q ix : Int) : Int := if cft p q ix = -1 then -3 else cft p q ix
theorem cft_pos {p q : Int} (hp : 0 ≤ p ∧ p ≤ q) (hq : 0 < q) {k : Int} (hk : 0 ≤ k) (h : 0 < (eu p q k).2) : 1 ≤ cft p q (k + 1) ∧ cft p q (k + 1) ≤ q := by
  have r := eu_r hp hq k.toNat
  rw [Int.toNat_of_nonneg hk] at r
  rw [cft_at (k := k) (a := (eu p q k).1) (b := (eu p q k).2) rfl h]
  have e1 : 1 ≤ (eu p q k).1 / (eu p q k).2 := by rw [Int.le_ediv_iff_mul_le h]; omega
  have e2 := Int.ediv_le_self (eu p q k).2 (show 0 ≤ (eu p q k).1 by omega)
  omega
/-- the first k letters of a mechanical word laid into a row -/
def lmX (nx : Int → Int) (p q c up n k : Int) : Int → Int := fun x => if 4 ≤ x ∧ x < 4 + k then mlt p q c up (x - 4) else up1 nx 3 n x
theorem lmX_0 (nx : Int → Int) (p q c up n : Int) : lmX nx p q c up n 0 = up1 nx 3 n := by
  funext x
  exact if_neg (by omega)
theorem lmX_s {nx : Int → Int} {p q c up n k : Int} (h : 0 ≤ k) : up1 (lmX nx p q c up n k) (4 + k) (mlt p q c up k) = lmX nx p q c up n (k + 1) := by
  funext x
  unfold up1 lmX
  by_cases z : x = 4 + k
  · subst z
    rw [if_pos rfl, if_pos (by omega), show 4 + k - 4 = k by omega]
  · rw [if_neg z]
    by_cases y : 4 ≤ x ∧ x < 4 + k
    · rw [if_pos y, if_pos (by omega)]
    · rw [if_neg y, if_neg (by omega)]
theorem mlt_r {p q c up n : Int} (hp : 0 ≤ p ∧ p ≤ q) (hq : 0 < q) : 0 ≤ mlt p q c up n ∧ mlt p q c up n ≤ 1 := by
  unfold mlt
  have key : ∀ y : Int, 0 ≤ (y + p) / q - y / q ∧ (y + p) / q - y / q ≤ 1 := by
    intro y
    have h1 : y / q ≤ (y + p) / q := Int.ediv_le_ediv hq (by omega)
    have h2 : (y + p) / q ≤ (y + q) / q := Int.ediv_le_ediv hq (by omega)
    rw [Int.add_ediv_of_dvd_right (Int.dvd_refl q), Int.ediv_self (by omega)] at h2
    omega
  exact key _
theorem tkX_ge {nx nw : Int → Int} {x : Int} (h : 3 ≤ x) : tkX nx nw x = nx x := by
  unfold tkX
  rw [up1_n (by omega), up1_n (by omega), up1_n (by omega)]
theorem tkX_lo {nx nw : Int → Int} {x : Int} (h : 0 ≤ x ∧ x < 3) : tkX nx nw x = nw x := by
  unfold tkX
  rcases (show x = 0 ∨ x = 1 ∨ x = 2 by omega) with rfl | rfl | rfl
  · rw [up1_n (by decide), up1_n (by decide), up1_s]
  · rw [up1_n (by decide), up1_s]
  · rw [up1_s]
theorem tkW_at {nx nw : Int → Int} {x : Int} (h : 0 ≤ x ∧ x < 64) : tkW nx nw x = tkX nx nw x := by
  unfold tkW cpy
  rw [if_pos (by omega), show 0 + (x - 0) = x by omega]
theorem tkW_ge {nx nw : Int → Int} {x : Int} (h : 3 ≤ x ∧ x < 64) : tkW nx nw x = nx x := by rw [tkW_at (by omega), tkX_ge h.1]
theorem tkW_lo {nx nw : Int → Int} {x : Int} (h : 0 ≤ x ∧ x < 3) : tkW nx nw x = nw x := by rw [tkW_at (by omega), tkX_lo h]
/-- the letters of a row, backwards, laid into another -/
def rvX (nx nw : Int → Int) (k : Int) : Int → Int := fun x => if 4 ≤ x ∧ x < 4 + k then nw (4 + nw 3 - 1 - (x - 4)) else up1 nx 3 (nw 3) x
theorem rvX_0 (nx nw : Int → Int) : rvX nx nw 0 = up1 nx 3 (nw 3) := by
  funext x
  exact if_neg (by omega)
theorem rvX_s {nx nw : Int → Int} {k : Int} (h : 0 ≤ k) : up1 (rvX nx nw k) (4 + k) (nw (4 + nw 3 - 1 - k)) = rvX nx nw (k + 1) := by
  funext x
  unfold up1 rvX
  by_cases z : x = 4 + k
  · subst z
    rw [if_pos rfl, if_pos (by omega), show 4 + k - 4 = k by omega]
  · rw [if_neg z]
    by_cases y : 4 ≤ x ∧ x < 4 + k
    · rw [if_pos y, if_pos (by omega)]
    · rw [if_neg y, if_neg (by omega)]
/-- the points of a rotation -/
def clP (pt : Int → Int) (k : Int) : Int → Int := fun x => if 0 ≤ x ∧ x < k then 0 else pt x
theorem clP_0 (pt : Int → Int) : clP pt 0 = pt := by
  funext x
  exact if_neg (by omega)
theorem clP_s {pt : Int → Int} {k : Int} (h : 0 ≤ k) : up1 (clP pt k) k 0 = clP pt (k + 1) := by
  funext x
  unfold up1 clP
  by_cases z : x = k
  · rw [if_pos z, if_pos (by omega)]
  · rw [if_neg z]
    by_cases y : 0 ≤ x ∧ x < k
    · rw [if_pos y, if_pos (by omega)]
    · rw [if_neg y, if_neg (by omega)]
def ptP (p q k x : Int) : Prop := ∃ j : Int, 0 ≤ j ∧ j < k ∧ x = j * p % q
noncomputable def lyP (pt : Int → Int) (p q k : Int) : Int → Int := fun x => @ite _ (ptP p q k x) (Classical.propDecidable _) 1 (clP pt q x)
theorem lyP_0 (pt : Int → Int) (p q : Int) : lyP pt p q 0 = clP pt q := by
  funext x
  exact if_neg (fun ⟨j, h⟩ => by omega)
theorem lyP_s {pt : Int → Int} {p q k : Int} (h : 0 ≤ k) : up1 (lyP pt p q k) (k * p % q) 1 = lyP pt p q (k + 1) := by
  funext x
  unfold up1 lyP
  by_cases z : x = k * p % q
  · rw [if_pos z, if_pos ⟨k, h, by omega, z⟩]
  · rw [if_neg z]
    by_cases y : ptP p q k x
    · obtain ⟨j, y1, y2, y3⟩ := y
      rw [if_pos ⟨j, y1, y2, y3⟩, if_pos ⟨j, y1, by omega, y3⟩]
    · rw [if_neg y, if_neg]
      rintro ⟨j, y1, y2, y3⟩
      rcases (show j < k ∨ j = k by omega) with g | g
      · exact y ⟨j, y1, g, y3⟩
      · rw [g] at y3; exact z y3
theorem ly_step (p q k : Int) : (k * p % q + p) % q = (k + 1) * p % q := by rw [Int.emod_add_emod, Int.add_mul, Int.one_mul]
theorem lyP_b {pt : Int → Int} {p q m : Int} (h : ∀ x, 0 ≤ x → x < 1000 → pt x = 0 ∨ pt x = 1) : ∀ x, 0 ≤ x → x < 1000 → lyP pt p q m x = 0 ∨ lyP pt p q m x = 1 := by
  intro x h1 h2
  unfold lyP
  by_cases y : ptP p q m x
  · rw [if_pos y]; exact Or.inr rfl
  · rw [if_neg y]
    unfold clP
    split
    · exact Or.inl rfl
    · exact h x h1 h2
/-- how many gaps have a size; whether one has; the sizes' list -/
noncomputable def gpN (p q m s : Int) : Int := cnt (fun k => ptP p q m k ∧ fnd (fun g => 1 ≤ g ∧ ptP p q m ((k + g) % q)) (q + 1) = s) q
def gpS (p q m s : Int) : Prop := 1 ≤ s ∧ 0 < gpN p q m s
noncomputable def gpR (p q m ix : Int) : Int := if ix < 0 then cnt (gpS p q m) (q + 1) else @ite _ (fnd (fun s => gpS p q m s ∧ cnt (gpS p q m) s = ix) (q + 1) = -1) (Classical.propDecidable _) (-3) (fnd (fun s => gpS p q m s ∧ cnt (gpS p q m) s = ix) (q + 1))
theorem lyP_p {pt : Int → Int} {p q m x : Int} (h : 0 ≤ x ∧ x < q) : ¬ lyP pt p q m x = 0 ↔ ptP p q m x := by
  unfold lyP
  by_cases y : ptP p q m x
  · rw [if_pos y]; simp [y]
  · rw [if_neg y]
    unfold clP
    rw [if_pos h]
    simp [y]
theorem gpN_e {pt : Int → Int} {p q m s : Int} (hq : 0 < q) : cnt (fun k => ¬ lyP pt p q m k = 0 ∧ nxg (lyP pt p q m) q k = s) q = gpN p q m s := by
  refine cnt_c (fun k h1 h2 => ?_)
  rw [lyP_p ⟨h1, h2⟩]
  unfold nxg
  rw [fnd_c (Q := fun g => 1 ≤ g ∧ ptP p q m ((k + g) % q)) (fun g _ _ => by rw [lyP_p ⟨Int.emod_nonneg _ (by omega), Int.emod_lt_of_pos _ hq⟩])]
theorem fnd_none_hit {P : Int → Prop} {N k : Int} (h : fnd P N = k) (hk : 0 ≤ k) (hN : 0 ≤ N) : P k := by
  have key : ∀ n : Nat, 0 ≤ fnd P n → P (fnd P n) := by
    intro n
    induction n with
    | zero => intro z; rw [fnd_0 (by omega)] at z; omega
    | succ n ih =>
      intro z
      rw [show ((n + 1 : Nat) : Int) = (n : Int) + 1 by omega, fnd_s (by omega)] at z ⊢
      by_cases y : fnd P n = -1 ∧ P n
      · rw [if_pos y]; exact y.2
      · rw [if_neg y] at z ⊢; exact ih z
  have := key N.toNat
  rw [Int.toNat_of_nonneg hN, h] at this
  exact this hk
theorem cft_none {p q ix : Int} (h : 0 ≤ ntm p q) (h2 : ntm p q < ix) : cft p q ix = -1 := by
  have h3 := fnd_none_hit (P := fun k => (eu p q k).2 ≤ 0) (N := 20) (k := ntm p q) rfl h (by decide)
  have hz : ¬ 0 < (eu p q (ix - 1)).2 := fun z => by
    rw [eu_z h h3 (show ntm p q ≤ ix - 1 by omega)] at z
    have h4 : (eu p q (ntm p q)).2 ≤ 0 := h3
    omega
  unfold cft
  rw [if_neg hz]
end
section
section ZA
variable {p : Program} {l : Launch} {e : Env} {R : Room} {s : State} {m : MethodId} {args : Array Value} {below : List Frame} {meth : Method} {c : Code} {H : Heap} {locs : List Loc} {cells slots : Nat} {Q : State → Prop}
variable {cc : ByteArray} {pc : Nat} {ls : Array Slot} {rest : List Value} {D : va_G} {cl : List vw_C} {A : Nat → Prop} {a : Nat} {tys : List (ClassId × FieldType)} {ws : va_W} {H0 : Heap}
theorem z_iald (hx : p.tables.exec = Jvm.exec) (hb : c.code = cc) (hK : va_K D cl tys s) (hP : va_P D cl ws H) (q0 t0 : Nat) {cA : ClassId} {n : Nat} {f : Int → Int} (ha : ws[q0]? = some (a, .inl (cA, n, .inl (zf f)))) (ht : tys[t0]? = some (cA, .int)) {i : Int} (h : 0 ≤ i ∧ i < 2147483648 ∧ i < n) (d : decode cc pc = .ok (.iaload, 1)) (kk : W p l e R s m args below meth c H locs cells slots Q (F0 m (pc + 1) ls (.int (iZ (f i)) :: rest))) : W p l e R s m args below meth c H locs cells slots Q (F0 m pc ls (.int (iZ i) :: .ref a :: rest)) := va_iald hx hb hK hP q0 t0 ha ht (iZ_in h) d (by rw [zf_at ⟨h.1, h.2.1⟩]; exact kk)
theorem z_zald (hx : p.tables.exec = Jvm.exec) (hb : c.code = cc) (hK : va_K D cl tys s) (hP : va_P D cl ws H) (q0 t0 : Nat) {cA : ClassId} {n : Nat} {f : Int → Int} (ha : ws[q0]? = some (a, .inl (cA, n, .inl (zf f)))) (ht : tys[t0]? = some (cA, .boolean)) {i : Int} (h : 0 ≤ i ∧ i < 2147483648 ∧ i < n) (d : decode cc pc = .ok (.baload, 1)) (kk : W p l e R s m args below meth c H locs cells slots Q (F0 m (pc + 1) ls (.int (iZ (f i)) :: rest))) : W p l e R s m args below meth c H locs cells slots Q (F0 m pc ls (.int (iZ i) :: .ref a :: rest)) := va_zald hx hb hK hP q0 t0 ha ht (iZ_in h) d (by rw [zf_at ⟨h.1, h.2.1⟩]; exact kk)
theorem z_mmax (hx : p.tables.exec = Jvm.exec) (hb : c.code = cc) (hml : c.maxLocals = ls.size) {own : String} {index : Nat} (hown : s.vm.findClass own = some m.cls) (hlink : (Cond.methodLink own index Lib.Math.max.name).before args s = true) (hstat : (Cond.static Lib.Math.max.name).before args s = true) (hini : (Cond.initialized "java/lang/Math").before args s = true) (hcode : (Cond.code Lib.Math.max.name Lib.Math.max.code 2 (some .int)).before args s = true) (hframes : 1 ≤ R.frames) (hlocals : (rest.map fun v => v.category).sum + 13 ≤ R.locals) (hc : cells ≤ R.cells) (hs : slots ≤ R.slots) {a b : Int} (d : decode cc pc = .ok (.invokestatic index, 3)) (h : -2147483648 ≤ a ∧ a < 2147483648 ∧ -2147483648 ≤ b ∧ b < 2147483648)
    (kk : ∀ t : Int, (a < b ∧ t = b ∨ b ≤ a ∧ t = a) → W p l e R s m args below meth c H locs cells slots Q (F0 m (pc + 3) ls (.int (iZ t) :: rest))) : W p l e R s m args below meth c H locs cells slots Q (F0 m pc ls (.int (iZ b) :: .int (iZ a) :: rest)) := by
  refine va_mmax hx hb hml hown hlink hstat hini hcode hframes hlocals hc hs d ?_
  by_cases q : a < b
  · rw [if_pos ((iZ_lt h).mpr q)]; exact kk _ (Or.inl ⟨q, rfl⟩)
  · rw [if_neg (fun z => q ((iZ_lt h).mp z))]; exact kk _ (Or.inr ⟨by omega, rfl⟩)
theorem z_mmin (hx : p.tables.exec = Jvm.exec) (hb : c.code = cc) (hml : c.maxLocals = ls.size) {own : String} {index : Nat} (hown : s.vm.findClass own = some m.cls) (hlink : (Cond.methodLink own index Lib.Math.min.name).before args s = true) (hstat : (Cond.static Lib.Math.min.name).before args s = true) (hini : (Cond.initialized "java/lang/Math").before args s = true) (hcode : (Cond.code Lib.Math.min.name Lib.Math.min.code 2 (some .int)).before args s = true) (hframes : 1 ≤ R.frames) (hlocals : (rest.map fun v => v.category).sum + 13 ≤ R.locals) (hc : cells ≤ R.cells) (hs : slots ≤ R.slots) {a b : Int} (d : decode cc pc = .ok (.invokestatic index, 3)) (h : -2147483648 ≤ a ∧ a < 2147483648 ∧ -2147483648 ≤ b ∧ b < 2147483648)
    (kk : ∀ t : Int, (b < a ∧ t = b ∨ a ≤ b ∧ t = a) → W p l e R s m args below meth c H locs cells slots Q (F0 m (pc + 3) ls (.int (iZ t) :: rest))) : W p l e R s m args below meth c H locs cells slots Q (F0 m pc ls (.int (iZ b) :: .int (iZ a) :: rest)) := by
  refine va_mmin hx hb hml hown hlink hstat hini hcode hframes hlocals hc hs d ?_
  by_cases q : b < a
  · rw [if_pos ((iZ_lt ⟨h.2.2.1, h.2.2.2, h.1, h.2.1⟩).mpr q)]; exact kk _ (Or.inl ⟨q, rfl⟩)
  · rw [if_neg (fun z => q ((iZ_lt ⟨h.2.2.1, h.2.2.2, h.1, h.2.1⟩).mp z))]; exact kk _ (Or.inr ⟨by omega, rfl⟩)
theorem z_tabIn (hx : p.tables.exec = Jvm.exec) (hb : c.code = cc) {dflt lo hi : Int} {offs : Array Int} {len i : Nat} {a : Int} {off : Int} {tgt : Nat} (d : decode cc pc = .ok (.tableswitch dflt lo hi offs, len)) (h : -2147483648 ≤ a ∧ a < 2147483648) (h1 : a = lo + i) (h2 : a ≤ hi) (ho : offs[i]? = some off) (ht : (pc : Int) + off = (tgt : Int)) (k : W p l e R s m args below meth c H locs cells slots Q (F0 m tgt ls rest)) : W p l e R s m args below meth c H locs cells slots Q (F0 m pc ls (.int (iZ a) :: rest)) := lv_tableIn hx hb d (by rw [iZ_t h.1 h.2]; omega) (by rw [iZ_t h.1 h.2]; omega) (by rw [iZ_t h.1 h.2, show (a - lo).toNat = i by omega]; exact ho) ht k
theorem z_tabOut (hx : p.tables.exec = Jvm.exec) (hb : c.code = cc) {dflt lo hi : Int} {offs : Array Int} {len : Nat} {a : Int} {tgt : Nat} (d : decode cc pc = .ok (.tableswitch dflt lo hi offs, len)) (h : -2147483648 ≤ a ∧ a < 2147483648) (h1 : a < lo ∨ hi < a) (ht : (pc : Int) + dflt = (tgt : Int)) (k : W p l e R s m args below meth c H locs cells slots Q (F0 m tgt ls rest)) : W p l e R s m args below meth c H locs cells slots Q (F0 m pc ls (.int (iZ a) :: rest)) := lv_tableOut hx hb d (by rw [iZ_t h.1 h.2]; exact h1) ht k
end ZA
end
section
/-- the frame: what isn't A's stays, and no cell goes -/
def Fh (A : Nat → Prop) (H0 H1 : Heap) : Prop := H0.size ≤ H1.size ∧ ∀ q : Nat, q < H0.size → ¬ A q → H1[q]? = H0[q]?
theorem Fh.rf {A : Nat → Prop} {H : Heap} : Fh A H H := ⟨Nat.le_refl _, fun _ _ _ => rfl⟩
theorem Fh.S {A : Nat → Prop} {H0 H : Heap} {locs : List Loc} (h : Fh A H0 H) (hL : ∀ q ∈ locs, A q.base) : va_S A H0 H locs := ⟨h.1, h.2, hL⟩
theorem Fh.of {A : Nat → Prop} {H0 H : Heap} {locs : List Loc} (h : va_S A H0 H locs) : Fh A H0 H := ⟨h.1, h.2.1⟩
theorem Fh.tr {A B : Nat → Prop} {H0 H H1 : Heap} (h : Fh A H0 H) (h1 : Fh B H H1) (hAB : ∀ q, q < H.size → B q → A q) : Fh A H0 H1 := ⟨Nat.le_trans h.1 h1.1, fun q q1 q2 => by
  have q3 := Nat.lt_of_lt_of_le q1 h.1
  rw [h1.2 q q3 (fun z => q2 (hAB q q3 z)), h.2 q q1 q2]⟩
/-- cells that nobody writes -/
theorem im_keep {G : va_G} {cl : List vw_C} {A : Nat → Prop} {ws : va_W} {H0 H : Heap} (h : va_P G cl ws H0) (hA : ∀ (k : Nat) (q : Nat × va_E), ws[k]? = some q → ¬ A q.1) (hS : Fh A H0 H) : va_P G cl ws H := h.kept (fun k q hk => hS.2 q.1 (h k q hk).lt (hA k q hk))
section ZB
variable {p : Program} {l : Launch} {e : Env} {R : Room} {s : State} {m : MethodId} {args : Array Value} {below : List Frame} {meth : Method} {c : Code} {H : Heap} {locs : List Loc} {cells slots : Nat} {Q : State → Prop}
variable {cc : ByteArray} {pc : Nat} {ls : Array Slot} {rest : List Value} {D : va_G} {cl : List vw_C} {A : Nat → Prop} {a : Nat} {tys : List (ClassId × FieldType)} {ws : va_W} {H0 : Heap}
theorem z_iast (hx : p.tables.exec = Jvm.exec) (hb : c.code = cc) (hK : va_K D cl tys s) (hP : va_P D cl ws H) (hD : va_D A ws) (hS : va_S A H0 H locs) (q0 t0 : Nat) {cA : ClassId} {n : Nat} {f : Int → Int} (ha : ws[q0]? = some (a, .inl (cA, n, .inl (zf f)))) (ht : tys[t0]? = some (cA, .int)) {i v : Int} (h : 0 ≤ i ∧ i < 2147483648 ∧ i < n) (d : decode cc pc = .ok (.iastore, 1))
    (kk : ∀ (H1 : Heap) (locs1 : List Loc), va_P D cl (ws.set q0 (a, .inl (cA, n, .inl (zf (up1 f i v))))) H1 → va_D A (ws.set q0 (a, .inl (cA, n, .inl (zf (up1 f i v))))) → va_S A H0 H1 locs1 → W p l e R s m args below meth c H1 locs1 cells slots Q (F0 m (pc + 1) ls rest)) : W p l e R s m args below meth c H locs cells slots Q (F0 m pc ls (.int (iZ v) :: .int (iZ i) :: .ref a :: rest)) :=
  va_iast hx hb hK hP hD hS q0 t0 ha ht (iZ_in h) d (by rw [zf_up ⟨h.1, h.2.1⟩]; exact kk)
theorem z_zast (hx : p.tables.exec = Jvm.exec) (hb : c.code = cc) (hK : va_K D cl tys s) (hP : va_P D cl ws H) (hD : va_D A ws) (hS : va_S A H0 H locs) (q0 t0 : Nat) {cA : ClassId} {n : Nat} {f : Int → Int} (ha : ws[q0]? = some (a, .inl (cA, n, .inl (zf f)))) (ht : tys[t0]? = some (cA, .boolean)) {i v : Int} (h : 0 ≤ i ∧ i < 2147483648 ∧ i < n) (hv : v = 0 ∨ v = 1) (d : decode cc pc = .ok (.bastore, 1))
    (kk : ∀ (H1 : Heap) (locs1 : List Loc), va_P D cl (ws.set q0 (a, .inl (cA, n, .inl (zf (up1 f i v))))) H1 → va_D A (ws.set q0 (a, .inl (cA, n, .inl (zf (up1 f i v))))) → va_S A H0 H1 locs1 → W p l e R s m args below meth c H1 locs1 cells slots Q (F0 m (pc + 1) ls rest)) : W p l e R s m args below meth c H locs cells slots Q (F0 m pc ls (.int (iZ v) :: .int (iZ i) :: .ref a :: rest)) :=
  va_zast hx hb hK hP hD hS q0 t0 ha ht (iZ_in h) d (by
    have e : vp_nar .boolean (iZ v) = iZ v := by rcases hv with rfl | rfl <;> rfl
    rw [e, zf_up ⟨h.1, h.2.1⟩]; exact kk)
end ZB
/-- the reference's world -/
abbrev MW (cy : Nat → ClassId) (a0 a1 a2 a3 a4 a5 a6 a7 : Nat) (ed tc ol nl : Int) (nw nx ps tm od ne pt : Int → Int) : va_W := [(a0, .inr (6, [.ref a1, .ref a2, .ref a3, .int (iZ ed), .ref a4, .int (iZ tc), .ref a5, .int (iZ ol), .ref a6, .int (iZ nl), .ref a7])), (a1, .inl (cy 0, 64, .inl (zf nw))), (a2, .inl (cy 0, 64, .inl (zf nx))), (a3, .inl (cy 0, 384, .inl (zf ps))), (a4, .inl (cy 0, 20, .inl (zf tm))), (a5, .inl (cy 0, 60, .inl (zf od))), (a6, .inl (cy 0, 60, .inl (zf ne))), (a7, .inl (cy 1, 1000, .inl (zf pt)))]
end
section
/-! words as numbers: b with n letters -/
theorem dd {a b c : Int} (ha : 0 ≤ a) (hb : 0 ≤ b) (hc : 0 ≤ c) : a / b / c = a / (b * c) := by
  obtain ⟨x, rfl⟩ : ∃ x : Nat, a = x := ⟨a.toNat, by omega⟩
  obtain ⟨y, rfl⟩ : ∃ x : Nat, b = x := ⟨b.toNat, by omega⟩
  obtain ⟨z, rfl⟩ : ∃ x : Nat, c = x := ⟨c.toNat, by omega⟩
  show ((x / y / z : Nat) : Int) = ((x / (y * z) : Nat) : Int)
  rw [Nat.div_div_eq_div_mul]
theorem mm {x a b : Int} (hx : 0 ≤ x) (ha : 0 ≤ a) (hb : 0 ≤ b) : x % (a * b) = x % a + a * (x / a % b) := by
  obtain ⟨x, rfl⟩ : ∃ y : Nat, x = y := ⟨x.toNat, by omega⟩
  obtain ⟨y, rfl⟩ : ∃ x : Nat, a = x := ⟨a.toNat, by omega⟩
  obtain ⟨z, rfl⟩ : ∃ x : Nat, b = x := ⟨b.toNat, by omega⟩
  show ((x % (y * z) : Nat) : Int) = ((x % y + y * (x / y % z) : Nat) : Int)
  rw [Nat.mod_mul]
theorem ltr_e (b n j : Int) : ltr b n j = b / pw (n - j - 1) % 2 := rfl
theorem fct_0 (b n st : Int) : fct b n st 0 = 0 := by
  unfold fct
  rw [pw_0, Int.emod_one]
theorem fct_s {b n st k : Int} (hb : 0 ≤ b) (hk : 0 ≤ k) (h : st + k + 1 ≤ n) : fct b n st (k + 1) = 2 * fct b n st k + ltr b n (st + k) := by
  unfold fct
  rw [ltr_e, show n - st - k = (n - (st + k) - 1) + 1 by omega, pw_s (k := n - (st + k) - 1) (by omega), show n - st - (k + 1) = n - (st + k) - 1 by omega, pw_s hk, Int.mul_comm 2 (pw (n - (st + k) - 1)), ← dd hb (Int.le_of_lt (pw_pos _)) (by decide)]
  have hx := Int.ediv_nonneg hb (Int.le_of_lt (pw_pos (n - (st + k) - 1)))
  rw [mm hx (by decide) (Int.le_of_lt (pw_pos k))]
  omega
theorem fct_n {b n : Int} (h : 0 ≤ b ∧ b < pw n) : fct b n 0 n = b := by
  unfold fct
  rw [show n - 0 - n = 0 by omega, pw_0, Int.ediv_one, Int.emod_eq_of_lt h.1 h.2]
theorem sn_ltr {b n v j : Int} (hb : 0 ≤ b) (hv : 0 ≤ v ∧ v ≤ 1) (hj : 0 ≤ j ∧ j < n) : ltr (2 * b + v) (n + 1) j = ltr b n j := by
  rw [ltr_e, ltr_e, show n + 1 - j - 1 = (n - j - 1) + 1 by omega, pw_s (by omega), ← dd (by omega) (by decide) (Int.le_of_lt (pw_pos _)), show (2 * b + v) / 2 = b by omega]
theorem sn_last {b n v : Int} (hv : 0 ≤ v ∧ v ≤ 1) : ltr (2 * b + v) (n + 1) n = v := by
  rw [ltr_e, show n + 1 - n - 1 = 0 by omega, pw_0]
  omega
theorem sn_b {b n v : Int} (hn : 0 ≤ n) (hb : 0 ≤ b ∧ b < pw n) (hv : 0 ≤ v ∧ v ≤ 1) : 0 ≤ 2 * b + v ∧ 2 * b + v < pw (n + 1) := by
  rw [pw_s hn]
  omega
/-- a row of the reference holds a word -/
def RowIs (x : Int → Int) (b n : Int) : Prop := x 3 = n ∧ 0 ≤ n ∧ (0 ≤ b ∧ b < pw n) ∧ ∀ j : Int, 0 ≤ j → j < n → j < 60 → x (4 + j) = ltr b n j
/-- a letter appended to a row -/
def apX (x : Int → Int) (v : Int) : Int → Int := up1 (if x 3 < 60 then up1 x (4 + x 3) v else x) 3 (x 3 + 1)
theorem apX_3 (x : Int → Int) (v : Int) : apX x v 3 = x 3 + 1 := up1_s
theorem RowIs.sn {x : Int → Int} {b n v : Int} (h : RowIs x b n) (hv : 0 ≤ v ∧ v ≤ 1) : RowIs (apX x v) (2 * b + v) (n + 1) := by
  obtain ⟨h1, h2, h3, h4⟩ := h
  refine ⟨by rw [apX_3, h1], by omega, sn_b h2 h3 hv, fun j j1 j2 j3 => ?_⟩
  unfold apX
  rw [up1_n (by omega), h1]
  by_cases z : j = n
  · subst z
    rw [if_pos j3, up1_s, sn_last hv]
  · rw [sn_ltr h3.1 hv (by omega), ← h4 j j1 (by omega) j3]
    split
    · rw [up1_n (by omega)]
    · rfl
theorem RowIs.nil {x : Int → Int} : RowIs (up1 x 3 0) 0 0 := ⟨up1_s, Int.le_refl 0, ⟨Int.le_refl 0, by decide⟩, fun j h1 h2 => by omega⟩
/-- a word and the first k letters of another -/
theorem ct_s {a c m k : Int} (hc : 0 ≤ c) (hk : 0 ≤ k) (h : k + 1 ≤ m) : 2 * (a * pw k + fct c m 0 k) + ltr c m k = a * pw (k + 1) + fct c m 0 (k + 1) := by
  rw [fct_s hc hk (by omega), pw_s hk, Int.mul_left_comm, show (0 : Int) + k = k by omega]
  omega
/-- a word repeated -/
def rpB (a na t : Int) : Int := it (fun _ r => r * pw na + a) 0 t
theorem rpB_0 (a na : Int) : rpB a na 0 = 0 := it_0 (Int.le_refl 0)
theorem rpB_s {a na t : Int} (h : 0 ≤ t) : rpB a na (t + 1) = rpB a na t * pw na + a := it_s h
/-- the standard words: the newer one and the older one -/
def stT (p q k : Int) : Int := cft p q (k + 1) - (if k = 0 then 1 else 0)
def stS (p q i : Int) : (Int × Int) × (Int × Int) := it (fun k s => ((rpB s.1.1 s.1.2 (stT p q k) * pw s.2.2 + s.2.1, s.1.2 * stT p q k + s.2.2), s.1)) ((0, 1), (1, 1)) i
theorem stS_0 (p q : Int) : stS p q 0 = ((0, 1), (1, 1)) := it_0 (Int.le_refl 0)
theorem stS_s {p q i : Int} (h : 0 ≤ i) : stS p q (i + 1) = ((rpB (stS p q i).1.1 (stS p q i).1.2 (stT p q i) * pw (stS p q i).2.2 + (stS p q i).2.1, (stS p q i).1.2 * stT p q i + (stS p q i).2.2), (stS p q i).1) := it_s h
/-- the morphisms: the image of a letter, its size; the image of a word's first k letters -/
def mB (mo x : Int) : Int := if x = 0 then (if mo = 0 then 1 else if mo = 1 then 1 else if mo = 2 then 2 else 0) else (if mo = 3 then 1 else if mo = 4 then 2 else 0)
def mN (mo x : Int) : Int := if x = 0 then (if mo = 1 then 2 else if mo = 2 then 2 else 1) else (if mo = 3 then 2 else if mo = 4 then 2 else 1)
def imI (mo b n k : Int) : Int × Int := it (fun j s => (s.1 * pw (mN mo (ltr b n j)) + mB mo (ltr b n j), s.2 + mN mo (ltr b n j))) (0, 0) k
theorem imI_0 (mo b n : Int) : imI mo b n 0 = (0, 0) := it_0 (Int.le_refl 0)
theorem imI_s {mo b n k : Int} (h : 0 ≤ k) : imI mo b n (k + 1) = ((imI mo b n k).1 * pw (mN mo (ltr b n k)) + mB mo (ltr b n k), (imI mo b n k).2 + mN mo (ltr b n k)) := it_s h
theorem mN_r (mo x : Int) : 1 ≤ mN mo x ∧ mN mo x ≤ 2 := by
  unfold mN
  split
  · split
    · omega
    · split <;> omega
  · split
    · omega
    · split <;> omega
theorem mB_r (mo x : Int) : 0 ≤ mB mo x ∧ mB mo x < pw (mN mo x) := by
  have e1 : pw 1 = 2 := rfl
  have e2 : pw 2 = 4 := rfl
  unfold mB mN
  split
  · split
    · rw [if_neg (by omega), if_neg (by omega), e1]; omega
    · split
      · rw [e2]; omega
      · split
        · rw [e2]; omega
        · rw [e1]; omega
  · split
    · rw [e2]; omega
    · split
      · rw [e2]; omega
      · rw [e1]; omega
/-- the reference's spelling of an image -/
theorem img_2 {mo x : Int} (h1 : 0 ≤ mo ∧ mo ≤ 4) (h2 : 0 ≤ x ∧ x ≤ 1) : (99 < imgS mo x ↔ mN mo x = 2) ∧ (99 < imgS mo x → 2 * (imgS mo x / 10 % 10) + imgS mo x % 10 = mB mo x) ∧ (¬ 99 < imgS mo x → imgS mo x % 10 = mB mo x) ∧ 0 ≤ imgS mo x / 10 % 10 ∧ (99 < imgS mo x → imgS mo x / 10 % 10 ≤ 1) ∧ 0 ≤ imgS mo x % 10 ∧ imgS mo x % 10 ≤ 1 ∧ 20 ≤ imgS mo x ∧ imgS mo x ≤ 210 := by
  obtain ⟨x, rfl⟩ : ∃ y : Nat, x = y := ⟨x.toNat, by omega⟩
  obtain ⟨m, rfl⟩ : ∃ y : Nat, mo = y := ⟨mo.toNat, by omega⟩
  have key : ∀ m : Nat, m < 5 → ∀ x : Nat, x < 2 → (99 < imgS m x ↔ mN m x = 2) ∧ (99 < imgS m x → 2 * (imgS m x / 10 % 10) + imgS m x % 10 = mB m x) ∧ (¬ 99 < imgS m x → imgS m x % 10 = mB m x) ∧ 0 ≤ imgS m x / 10 % 10 ∧ (99 < imgS m x → imgS m x / 10 % 10 ≤ 1) ∧ 0 ≤ imgS m x % 10 ∧ imgS m x % 10 ≤ 1 ∧ 20 ≤ imgS m x ∧ imgS m x ≤ 210 := by decide +kernel
  exact key m (by omega) x (by omega)
/-- the letter behind a place of an image, and the parse of k letters: place, bits, size; place -1: none -/
def hasI (mo b n x v : Int) : Prop := x + mN mo v ≤ n ∧ fct b n x (mN mo v) = mB mo v
def lgI (mo : Int) : Int := if mN mo 0 < mN mo 1 then 1 else 0
noncomputable def lbI (mo b n x : Int) : Int := @ite _ (hasI mo b n x (lgI mo)) (Classical.propDecidable _) (lgI mo) (@ite _ (hasI mo b n x (1 - lgI mo)) (Classical.propDecidable _) (1 - lgI mo) (-1))
noncomputable def pIs (mo b n : Int) (s : Int × Int × Int) : Int × Int × Int := if s.1 < 0 ∨ n ≤ s.1 then s else if lbI mo b n s.1 = -1 then (-1, 0, 0) else (s.1 + mN mo (lbI mo b n s.1), 2 * s.2.1 + lbI mo b n s.1, s.2.2 + 1)
noncomputable def pI (mo b n k : Int) : Int × Int × Int := it (fun _ s => pIs mo b n s) (0, 0, 0) k
theorem pI_0 (mo b n : Int) : pI mo b n 0 = (0, 0, 0) := it_0 (Int.le_refl 0)
theorem pI_s {mo b n k : Int} (h : 0 ≤ k) : pI mo b n (k + 1) = pIs mo b n (pI mo b n k) := it_s h
theorem pI_go {mo b n k x ob ol : Int} (h : 0 ≤ k) (e : pI mo b n k = (x, ob, ol)) (hx : 0 ≤ x ∧ x < n) (hl : ¬ lbI mo b n x = -1) : pI mo b n (k + 1) = (x + mN mo (lbI mo b n x), 2 * ob + lbI mo b n x, ol + 1) := by
  rw [pI_s h, e]
  unfold pIs
  rw [if_neg (by show ¬ (x < 0 ∨ n ≤ x); omega), if_neg hl]
theorem pI_no {mo b n k x ob ol : Int} (h : 0 ≤ k) (e : pI mo b n k = (x, ob, ol)) (hx : 0 ≤ x ∧ x < n) (hl : lbI mo b n x = -1) : pI mo b n (k + 1) = (-1, 0, 0) := by
  rw [pI_s h, e]
  unfold pIs
  rw [if_neg (by show ¬ (x < 0 ∨ n ≤ x); omega), if_pos hl]
theorem pI_st {mo b n k : Int} (h : 0 ≤ k) (e : (pI mo b n k).1 < 0 ∨ n ≤ (pI mo b n k).1) {j : Int} (hj : k ≤ j) : pI mo b n j = pI mo b n k := by
  obtain ⟨i, rfl⟩ : ∃ i : Nat, j = k + i := ⟨(j - k).toNat, by omega⟩
  induction i with
  | zero => simp
  | succ i ih =>
    rw [show k + ((i + 1 : Nat) : Int) = k + i + 1 by omega, pI_s (by omega), ih (by omega)]
    unfold pIs
    rw [if_pos e]
end
