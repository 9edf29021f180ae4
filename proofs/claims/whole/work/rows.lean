section
-- ===== PART A: goes FIRST, ahead of the names: the tables' words, and 'selects' of the private methods out of them =====
/-- a private method of a class that the tables say can be made, by its rows of tables_1 -/
def lw_okq (q : MethodName × Nat) : Prop := (q.1.cls ≠ "java/lang/invoke/MethodHandle" ∧ q.1.cls ≠ "java/lang/invoke/VarHandle") ∧ Cond.instantiable q.1.cls q.2 ∈ tables_1 ∧ Cond.privateMethod q.1 ∈ tables_1 ∧ Cond.instanceMethod q.1 ∈ tables_1
theorem lw_p0 : lw_okq (⟨"RangePapers", "remember", "(II)I"⟩, 11) := ⟨⟨by decide +kernel, by decide +kernel⟩, List.mem_of_getElem? (i := 10) (by decide +kernel), List.mem_of_getElem? (i := 320) (by decide +kernel), List.mem_of_getElem? (i := 321) (by decide +kernel)⟩
theorem lw_p1 : lw_okq (⟨"RangePapers", "rememberRow", "(IILRangePapers$Rows;)V"⟩, 11) := ⟨⟨by decide +kernel, by decide +kernel⟩, List.mem_of_getElem? (i := 10) (by decide +kernel), List.mem_of_getElem? (i := 334) (by decide +kernel), List.mem_of_getElem? (i := 335) (by decide +kernel)⟩
theorem lw_p2 : lw_okq (⟨"RangePapers", "takeBack", "(I)V"⟩, 11) := ⟨⟨by decide +kernel, by decide +kernel⟩, List.mem_of_getElem? (i := 10) (by decide +kernel), List.mem_of_getElem? (i := 362) (by decide +kernel), List.mem_of_getElem? (i := 363) (by decide +kernel)⟩
theorem lw_p3 : lw_okq (⟨"RangePapers", "putBack", "(IILRangePapers$Rows;)V"⟩, 11) := ⟨⟨by decide +kernel, by decide +kernel⟩, List.mem_of_getElem? (i := 10) (by decide +kernel), List.mem_of_getElem? (i := 366) (by decide +kernel), List.mem_of_getElem? (i := 367) (by decide +kernel)⟩
theorem lw_p4 : lw_okq (⟨"RangePapers", "splitDoings", "(IJ)Z"⟩, 11) := ⟨⟨by decide +kernel, by decide +kernel⟩, List.mem_of_getElem? (i := 10) (by decide +kernel), List.mem_of_getElem? (i := 412) (by decide +kernel), List.mem_of_getElem? (i := 413) (by decide +kernel)⟩
theorem lw_p5 : lw_okq (⟨"RangePapers", "weightOf", "(II)I"⟩, 11) := ⟨⟨by decide +kernel, by decide +kernel⟩, List.mem_of_getElem? (i := 10) (by decide +kernel), List.mem_of_getElem? (i := 478) (by decide +kernel), List.mem_of_getElem? (i := 479) (by decide +kernel)⟩
theorem lw_p6 : lw_okq (⟨"RangePapers", "slotBooks", "(I)LRangePapers$Books;"⟩, 11) := ⟨⟨by decide +kernel, by decide +kernel⟩, List.mem_of_getElem? (i := 10) (by decide +kernel), List.mem_of_getElem? (i := 496) (by decide +kernel), List.mem_of_getElem? (i := 497) (by decide +kernel)⟩
theorem lw_p7 : lw_okq (⟨"RangePapersModel", "readText", "()I"⟩, 21) := ⟨⟨by decide +kernel, by decide +kernel⟩, List.mem_of_getElem? (i := 504) (by decide +kernel), List.mem_of_getElem? (i := 591) (by decide +kernel), List.mem_of_getElem? (i := 592) (by decide +kernel)⟩
theorem lw_p8 : lw_okq (⟨"RangePapersModel", "readPart", "()Z"⟩, 21) := ⟨⟨by decide +kernel, by decide +kernel⟩, List.mem_of_getElem? (i := 504) (by decide +kernel), List.mem_of_getElem? (i := 595) (by decide +kernel), List.mem_of_getElem? (i := 596) (by decide +kernel)⟩
theorem lw_p9 : lw_okq (⟨"RangePapersModel", "readOnePaper", "()Z"⟩, 21) := ⟨⟨by decide +kernel, by decide +kernel⟩, List.mem_of_getElem? (i := 504) (by decide +kernel), List.mem_of_getElem? (i := 599) (by decide +kernel), List.mem_of_getElem? (i := 600) (by decide +kernel)⟩
theorem lw_p10 : lw_okq (⟨"RangePapersModel", "figure", "(II)I"⟩, 21) := ⟨⟨by decide +kernel, by decide +kernel⟩, List.mem_of_getElem? (i := 504) (by decide +kernel), List.mem_of_getElem? (i := 603) (by decide +kernel), List.mem_of_getElem? (i := 604) (by decide +kernel)⟩
theorem lw_p11 : lw_okq (⟨"RangePapersModel", "readRange", "()Z"⟩, 21) := ⟨⟨by decide +kernel, by decide +kernel⟩, List.mem_of_getElem? (i := 504) (by decide +kernel), List.mem_of_getElem? (i := 607) (by decide +kernel), List.mem_of_getElem? (i := 608) (by decide +kernel)⟩
theorem lw_p12 : lw_okq (⟨"RangePapersModel", "readOneGrant", "()Z"⟩, 21) := ⟨⟨by decide +kernel, by decide +kernel⟩, List.mem_of_getElem? (i := 504) (by decide +kernel), List.mem_of_getElem? (i := 619) (by decide +kernel), List.mem_of_getElem? (i := 620) (by decide +kernel)⟩
theorem lw_p13 : lw_okq (⟨"RangePapersModel", "readOneRoute", "()Z"⟩, 21) := ⟨⟨by decide +kernel, by decide +kernel⟩, List.mem_of_getElem? (i := 504) (by decide +kernel), List.mem_of_getElem? (i := 626) (by decide +kernel), List.mem_of_getElem? (i := 627) (by decide +kernel)⟩
theorem lw_p14 : lw_okq (⟨"RangePapersModel", "standing", "()I"⟩, 21) := ⟨⟨by decide +kernel, by decide +kernel⟩, List.mem_of_getElem? (i := 504) (by decide +kernel), List.mem_of_getElem? (i := 644) (by decide +kernel), List.mem_of_getElem? (i := 645) (by decide +kernel)⟩
theorem lw_p15 : lw_okq (⟨"RangePapersModel", "stands", "([II)Z"⟩, 21) := ⟨⟨by decide +kernel, by decide +kernel⟩, List.mem_of_getElem? (i := 504) (by decide +kernel), List.mem_of_getElem? (i := 648) (by decide +kernel), List.mem_of_getElem? (i := 649) (by decide +kernel)⟩
def lw_privs_1 : List (MethodName × Nat) := [(⟨"RangePapers", "remember", "(II)I"⟩, 11), (⟨"RangePapers", "rememberRow", "(IILRangePapers$Rows;)V"⟩, 11), (⟨"RangePapers", "takeBack", "(I)V"⟩, 11), (⟨"RangePapers", "putBack", "(IILRangePapers$Rows;)V"⟩, 11), (⟨"RangePapers", "splitDoings", "(IJ)Z"⟩, 11), (⟨"RangePapers", "weightOf", "(II)I"⟩, 11), (⟨"RangePapers", "slotBooks", "(I)LRangePapers$Books;"⟩, 11), (⟨"RangePapersModel", "readText", "()I"⟩, 21), (⟨"RangePapersModel", "readPart", "()Z"⟩, 21), (⟨"RangePapersModel", "readOnePaper", "()Z"⟩, 21), (⟨"RangePapersModel", "figure", "(II)I"⟩, 21), (⟨"RangePapersModel", "readRange", "()Z"⟩, 21), (⟨"RangePapersModel", "readOneGrant", "()Z"⟩, 21), (⟨"RangePapersModel", "readOneRoute", "()Z"⟩, 21), (⟨"RangePapersModel", "standing", "()I"⟩, 21), (⟨"RangePapersModel", "stands", "([II)Z"⟩, 21)]
theorem lw_r1 : ∀ q ∈ lw_privs_1, lw_okq q := List.forall_mem_cons.mpr ⟨lw_p0, List.forall_mem_cons.mpr ⟨lw_p1, List.forall_mem_cons.mpr ⟨lw_p2, List.forall_mem_cons.mpr ⟨lw_p3, List.forall_mem_cons.mpr ⟨lw_p4, List.forall_mem_cons.mpr ⟨lw_p5, List.forall_mem_cons.mpr ⟨lw_p6, List.forall_mem_cons.mpr ⟨lw_p7, List.forall_mem_cons.mpr ⟨lw_p8, List.forall_mem_cons.mpr ⟨lw_p9, List.forall_mem_cons.mpr ⟨lw_p10, List.forall_mem_cons.mpr ⟨lw_p11, List.forall_mem_cons.mpr ⟨lw_p12, List.forall_mem_cons.mpr ⟨lw_p13, List.forall_mem_cons.mpr ⟨lw_p14, List.forall_mem_cons.mpr ⟨lw_p15, fun _ h => absurd h List.not_mem_nil⟩⟩⟩⟩⟩⟩⟩⟩⟩⟩⟩⟩⟩⟩⟩⟩
theorem lw_p16 : lw_okq (⟨"RangePapersModel", "those", "([II)I"⟩, 21) := ⟨⟨by decide +kernel, by decide +kernel⟩, List.mem_of_getElem? (i := 504) (by decide +kernel), List.mem_of_getElem? (i := 658) (by decide +kernel), List.mem_of_getElem? (i := 659) (by decide +kernel)⟩
theorem lw_p17 : lw_okq (⟨"RangePapersModel", "routeState", "([II)I"⟩, 21) := ⟨⟨by decide +kernel, by decide +kernel⟩, List.mem_of_getElem? (i := 504) (by decide +kernel), List.mem_of_getElem? (i := 662) (by decide +kernel), List.mem_of_getElem? (i := 663) (by decide +kernel)⟩
theorem lw_p18 : lw_okq (⟨"RangePapersModel", "stateOf", "([IIII)I"⟩, 21) := ⟨⟨by decide +kernel, by decide +kernel⟩, List.mem_of_getElem? (i := 504) (by decide +kernel), List.mem_of_getElem? (i := 666) (by decide +kernel), List.mem_of_getElem? (i := 667) (by decide +kernel)⟩
theorem lw_p19 : lw_okq (⟨"RangePapersModel", "stateBy", "([IIIII)I"⟩, 21) := ⟨⟨by decide +kernel, by decide +kernel⟩, List.mem_of_getElem? (i := 504) (by decide +kernel), List.mem_of_getElem? (i := 670) (by decide +kernel), List.mem_of_getElem? (i := 671) (by decide +kernel)⟩
theorem lw_p20 : lw_okq (⟨"RangePapersModel", "counts", "([II)Z"⟩, 21) := ⟨⟨by decide +kernel, by decide +kernel⟩, List.mem_of_getElem? (i := 504) (by decide +kernel), List.mem_of_getElem? (i := 674) (by decide +kernel), List.mem_of_getElem? (i := 675) (by decide +kernel)⟩
theorem lw_p21 : lw_okq (⟨"RangePapersModel", "bare", "()I"⟩, 21) := ⟨⟨by decide +kernel, by decide +kernel⟩, List.mem_of_getElem? (i := 504) (by decide +kernel), List.mem_of_getElem? (i := 678) (by decide +kernel), List.mem_of_getElem? (i := 679) (by decide +kernel)⟩
theorem lw_p22 : lw_okq (⟨"RangePapersModel", "isPaper", "(I)Z"⟩, 21) := ⟨⟨by decide +kernel, by decide +kernel⟩, List.mem_of_getElem? (i := 504) (by decide +kernel), List.mem_of_getElem? (i := 686) (by decide +kernel), List.mem_of_getElem? (i := 687) (by decide +kernel)⟩
theorem lw_p23 : lw_okq (⟨"RangePapersModel", "isGrant", "(I)Z"⟩, 21) := ⟨⟨by decide +kernel, by decide +kernel⟩, List.mem_of_getElem? (i := 504) (by decide +kernel), List.mem_of_getElem? (i := 694) (by decide +kernel), List.mem_of_getElem? (i := 695) (by decide +kernel)⟩
theorem lw_p24 : lw_okq (⟨"RangePapersModel", "isRoute", "(I)Z"⟩, 21) := ⟨⟨by decide +kernel, by decide +kernel⟩, List.mem_of_getElem? (i := 504) (by decide +kernel), List.mem_of_getElem? (i := 703) (by decide +kernel), List.mem_of_getElem? (i := 704) (by decide +kernel)⟩
theorem lw_p25 : lw_okq (⟨"RangePapersModel", "makerOf", "(I)I"⟩, 21) := ⟨⟨by decide +kernel, by decide +kernel⟩, List.mem_of_getElem? (i := 504) (by decide +kernel), List.mem_of_getElem? (i := 707) (by decide +kernel), List.mem_of_getElem? (i := 708) (by decide +kernel)⟩
theorem lw_p26 : lw_okq (⟨"RangePapersModel", "note", "()V"⟩, 21) := ⟨⟨by decide +kernel, by decide +kernel⟩, List.mem_of_getElem? (i := 504) (by decide +kernel), List.mem_of_getElem? (i := 719) (by decide +kernel), List.mem_of_getElem? (i := 720) (by decide +kernel)⟩
theorem lw_p27 : lw_okq (⟨"RangePapersModel", "goesOf", "([III)I"⟩, 21) := ⟨⟨by decide +kernel, by decide +kernel⟩, List.mem_of_getElem? (i := 504) (by decide +kernel), List.mem_of_getElem? (i := 769) (by decide +kernel), List.mem_of_getElem? (i := 770) (by decide +kernel)⟩
theorem lw_p28 : lw_okq (⟨"RangePapersModel", "isIn", "([III)Z"⟩, 21) := ⟨⟨by decide +kernel, by decide +kernel⟩, List.mem_of_getElem? (i := 504) (by decide +kernel), List.mem_of_getElem? (i := 773) (by decide +kernel), List.mem_of_getElem? (i := 774) (by decide +kernel)⟩
theorem lw_p29 : lw_okq (⟨"RangePapersModel", "judged", "(IIII)Z"⟩, 21) := ⟨⟨by decide +kernel, by decide +kernel⟩, List.mem_of_getElem? (i := 504) (by decide +kernel), List.mem_of_getElem? (i := 796) (by decide +kernel), List.mem_of_getElem? (i := 797) (by decide +kernel)⟩
theorem lw_p30 : lw_okq (⟨"RangePapersModel", "rightBy", "(I)I"⟩, 21) := ⟨⟨by decide +kernel, by decide +kernel⟩, List.mem_of_getElem? (i := 504) (by decide +kernel), List.mem_of_getElem? (i := 816) (by decide +kernel), List.mem_of_getElem? (i := 817) (by decide +kernel)⟩
def lw_privs_2 : List (MethodName × Nat) := [(⟨"RangePapersModel", "those", "([II)I"⟩, 21), (⟨"RangePapersModel", "routeState", "([II)I"⟩, 21), (⟨"RangePapersModel", "stateOf", "([IIII)I"⟩, 21), (⟨"RangePapersModel", "stateBy", "([IIIII)I"⟩, 21), (⟨"RangePapersModel", "counts", "([II)Z"⟩, 21), (⟨"RangePapersModel", "bare", "()I"⟩, 21), (⟨"RangePapersModel", "isPaper", "(I)Z"⟩, 21), (⟨"RangePapersModel", "isGrant", "(I)Z"⟩, 21), (⟨"RangePapersModel", "isRoute", "(I)Z"⟩, 21), (⟨"RangePapersModel", "makerOf", "(I)I"⟩, 21), (⟨"RangePapersModel", "note", "()V"⟩, 21), (⟨"RangePapersModel", "goesOf", "([III)I"⟩, 21), (⟨"RangePapersModel", "isIn", "([III)Z"⟩, 21), (⟨"RangePapersModel", "judged", "(IIII)Z"⟩, 21), (⟨"RangePapersModel", "rightBy", "(I)I"⟩, 21)]
theorem lw_r2 : ∀ q ∈ lw_privs_2, lw_okq q := List.forall_mem_cons.mpr ⟨lw_p16, List.forall_mem_cons.mpr ⟨lw_p17, List.forall_mem_cons.mpr ⟨lw_p18, List.forall_mem_cons.mpr ⟨lw_p19, List.forall_mem_cons.mpr ⟨lw_p20, List.forall_mem_cons.mpr ⟨lw_p21, List.forall_mem_cons.mpr ⟨lw_p22, List.forall_mem_cons.mpr ⟨lw_p23, List.forall_mem_cons.mpr ⟨lw_p24, List.forall_mem_cons.mpr ⟨lw_p25, List.forall_mem_cons.mpr ⟨lw_p26, List.forall_mem_cons.mpr ⟨lw_p27, List.forall_mem_cons.mpr ⟨lw_p28, List.forall_mem_cons.mpr ⟨lw_p29, List.forall_mem_cons.mpr ⟨lw_p30, fun _ h => absurd h List.not_mem_nil⟩⟩⟩⟩⟩⟩⟩⟩⟩⟩⟩⟩⟩⟩⟩
def lw_privs : List (MethodName × Nat) := lw_privs_1 ++ (lw_privs_2)
def lw_tbl : List Cond := k2_sels lw_privs ++ tables_1
theorem lw_privs_ok : ∀ q ∈ lw_privs, lw_okq q := by
  show ∀ q ∈ lw_privs_1 ++ (lw_privs_2), lw_okq q
  exact List.forall_mem_append.mpr ⟨lw_r1, lw_r2⟩
end
section
/-! ===== BEGIN words of one list among another's, by their places ===== -/
theorem goodIn_r {big : List Cond} (ws : List Cond) (ps : List Nat) (hp : ws = ps.filterMap (fun i => big[i]?)) (h : ws.all goodWord = true) : GoodIn big ws := by
  intro w hw
  have h1 := List.all_eq_true.mp h w hw
  rw [hp] at hw
  obtain ⟨i, -, hi⟩ := List.mem_filterMap.mp hw
  have hm : w ∈ big := by first | exact List.mem_of_getElem? hi | exact List.getElem?_mem hi
  exact ⟨hm, good_of_word h1⟩
theorem goodIn_app {big a b : List Cond} (ha : GoodIn big a) (hb : GoodIn big b) : GoodIn big (a ++ b) := fun w h => (List.mem_append.mp h).elim (ha w) (hb w)
theorem goodIn_ca {big a b : List Cond} {c : Cond} (ha : GoodIn big (c :: a)) (hb : GoodIn big b) : GoodIn big (c :: (a ++ b)) := fun w h => (List.mem_cons.mp h).elim (fun e => ha w (List.mem_cons.mpr (Or.inl e))) (fun h => (List.mem_append.mp h).elim (fun h => ha w (List.mem_cons.mpr (Or.inr h))) (hb w))
theorem goodIn_sub {big ws : List Cond} (hm : ∀ w ∈ ws, w ∈ big) (h : ws.all goodWord = true) : GoodIn big ws := fun w hw => ⟨hm w hw, good_of_word (List.all_eq_true.mp h w hw)⟩
/-! ===== END ===== -/

/-! ===== BEGIN printed: names, fields, word lists, decode rows ===== -/
def RX0 : String := "RangePapers$Books"
def TX0 : u_T := fun k => match k with
  | 0 => ("RangePapers$Books", "papers", "LRangePapers$Rows;", true)
  | 1 => ("RangePapers$Books", "grants", "LRangePapers$Rows;", true)
  | 2 => ("RangePapers$Books", "routes", "LRangePapers$Rows;", true)
  | 3 => ("RangePapers$Books", "revoked", "I", false)
  | 4 => ("RangePapers$Books", "aside", "I", false)
  | _ => ("RangePapers$Books", "day", "I", false)
def tyX0 : Nat → FieldType := fun k => match k with
  | 0 => .object "RangePapers$Rows"
  | 1 => .object "RangePapers$Rows"
  | 2 => .object "RangePapers$Rows"
  | 3 => .int
  | 4 => .int
  | _ => .int
abbrev wsX00 : List Cond := u_ws RX0 TX0 6
theorem nmX0 : ∀ a, a < 6 → ∀ b, b < 6 → a ≠ b → (TX0 a).2.1 ≠ (TX0 b).2.1 := by decide +kernel
theorem tyX0_ok : ∀ k, k < 6 → parseFieldDescriptor (TX0 k).2.2.1 = some (tyX0 k) := by decide +kernel
abbrev cX0_init : ByteArray := prog_2_method_1_code
def yX0_init : MethodName := ⟨RX0, "<init>", "(LRangePapers$Rows;)V"⟩
abbrev cX0_begin : ByteArray := prog_2_method_2_code
def yX0_begin : MethodName := ⟨RX0, "begin", "(LRangePapers$Rows;LRangePapers$Rows;)V"⟩
abbrev cX0_copyFrom : ByteArray := prog_2_method_3_code
def yX0_copyFrom : MethodName := ⟨RX0, "copyFrom", "(LRangePapers$Books;)V"⟩
abbrev cX0_standing : ByteArray := prog_2_method_4_code
def yX0_standing : MethodName := ⟨RX0, "standing", "(I)I"⟩
abbrev cX0_counting : ByteArray := prog_2_method_5_code
def yX0_counting : MethodName := ⟨RX0, "counting", "(I)I"⟩
abbrev cX0_countingNow : ByteArray := prog_2_method_6_code
def yX0_countingNow : MethodName := ⟨RX0, "countingNow", "()I"⟩
abbrev cX0_stateOf : ByteArray := prog_2_method_7_code
def yX0_stateOf : MethodName := ⟨RX0, "stateOf", "(IIII)I"⟩
abbrev cX0_routesThatAre : ByteArray := prog_2_method_8_code
def yX0_routesThatAre : MethodName := ⟨RX0, "routesThatAre", "(II)I"⟩
abbrev cX0_grantsThatMakeRight : ByteArray := prog_2_method_9_code
def yX0_grantsThatMakeRight : MethodName := ⟨RX0, "grantsThatMakeRight", "(II)I"⟩
abbrev cX0_makerOf : ByteArray := prog_2_method_10_code
def yX0_makerOf : MethodName := ⟨RX0, "makerOf", "(I)I"⟩
abbrev cX0_bare : ByteArray := prog_2_method_11_code
def yX0_bare : MethodName := ⟨RX0, "bare", "()I"⟩
abbrev cX0_letIn : ByteArray := prog_2_method_12_code
def yX0_letIn : MethodName := ⟨RX0, "letIn", "(I)I"⟩
abbrev cX0_apartFrom : ByteArray := prog_2_method_13_code
def yX0_apartFrom : MethodName := ⟨RX0, "apartFrom", "(II)I"⟩
abbrev cX0_routeTo : ByteArray := prog_2_method_14_code
def yX0_routeTo : MethodName := ⟨RX0, "routeTo", "(II)I"⟩
abbrev cX0_agreesWith : ByteArray := prog_2_method_15_code
def yX0_agreesWith : MethodName := ⟨RX0, "agreesWith", "(LRangePapers$Rows;)Z"⟩
abbrev cX0_canBe : ByteArray := prog_2_method_16_code
def yX0_canBe : MethodName := ⟨RX0, "canBe", "(I)Z"⟩
abbrev cX0_canRevoke : ByteArray := prog_2_method_17_code
def yX0_canRevoke : MethodName := ⟨RX0, "canRevoke", "(I)Z"⟩
abbrev cX0_canPassNight : ByteArray := prog_2_method_18_code
def yX0_canPassNight : MethodName := ⟨RX0, "canPassNight", "()Z"⟩
abbrev cX0_canSetAside : ByteArray := prog_2_method_19_code
def yX0_canSetAside : MethodName := ⟨RX0, "canSetAside", "(I)Z"⟩
abbrev cX0_canWithdraw : ByteArray := prog_2_method_20_code
def yX0_canWithdraw : MethodName := ⟨RX0, "canWithdraw", "(I)Z"⟩
def RX1 : String := "RangePapers$Rows"
def TX1 : u_T := fun k => match k with
  | 0 => ("RangePapers$Rows", "limit", "I", true)
  | 1 => ("RangePapers$Rows", "width", "I", true)
  | 2 => ("RangePapers$Rows", "cells", "[I", true)
  | _ => ("RangePapers$Rows", "count", "I", false)
def tyX1 : Nat → FieldType := fun k => match k with
  | 0 => .int
  | 1 => .int
  | 2 => .array .int
  | _ => .int
abbrev wsX10 : List Cond := u_ws RX1 TX1 4
theorem nmX1 : ∀ a, a < 4 → ∀ b, b < 4 → a ≠ b → (TX1 a).2.1 ≠ (TX1 b).2.1 := by decide +kernel
theorem tyX1_ok : ∀ k, k < 4 → parseFieldDescriptor (TX1 k).2.2.1 = some (tyX1 k) := by decide +kernel
abbrev cX1_init : ByteArray := prog_3_method_1_code
def yX1_init : MethodName := ⟨RX1, "<init>", "(II)V"⟩
abbrev cX1_has : ByteArray := prog_3_method_2_code
def yX1_has : MethodName := ⟨RX1, "has", "(I)Z"⟩
abbrev cX1_at : ByteArray := prog_3_method_3_code
def yX1_at : MethodName := ⟨RX1, "at", "(II)I"⟩
abbrev cX1_put : ByteArray := prog_3_method_4_code
def yX1_put : MethodName := ⟨RX1, "put", "(III)V"⟩
abbrev cX1_addRange : ByteArray := prog_3_method_5_code
def yX1_addRange : MethodName := ⟨RX1, "addRange", "(IIIII)I"⟩
abbrev cX1_openAt : ByteArray := prog_3_method_6_code
def yX1_openAt : MethodName := ⟨RX1, "openAt", "(I)V"⟩
abbrev cX1_closeAt : ByteArray := prog_3_method_7_code
def yX1_closeAt : MethodName := ⟨RX1, "closeAt", "(I)V"⟩
abbrev cX1_copyFrom : ByteArray := prog_3_method_8_code
def yX1_copyFrom : MethodName := ⟨RX1, "copyFrom", "(LRangePapers$Rows;)V"⟩
def RX2 : String := "RangePapers$Text"
def TX2 : u_T := fun k => match k with
  | 0 => ("RangePapers$Text", "letters", "[C", true)
  | 1 => ("RangePapers$Text", "length", "I", false)
  | 2 => ("RangePapers$Text", "papers", "LRangePapers$Rows;", true)
  | 3 => ("RangePapers$Text", "grants", "LRangePapers$Rows;", true)
  | 4 => ("RangePapers$Text", "routes", "LRangePapers$Rows;", true)
  | 5 => ("RangePapers$Text", "next", "I", false)
  | _ => ("RangePapers$Text", "firstFault", "I", false)
def tyX2 : Nat → FieldType := fun k => match k with
  | 0 => .array .char
  | 1 => .int
  | 2 => .object "RangePapers$Rows"
  | 3 => .object "RangePapers$Rows"
  | 4 => .object "RangePapers$Rows"
  | 5 => .int
  | _ => .int
abbrev wsX20 : List Cond := u_ws RX2 TX2 7
theorem nmX2 : ∀ a, a < 7 → ∀ b, b < 7 → a ≠ b → (TX2 a).2.1 ≠ (TX2 b).2.1 := by decide +kernel
theorem tyX2_ok : ∀ k, k < 7 → parseFieldDescriptor (TX2 k).2.2.1 = some (tyX2 k) := by decide +kernel
abbrev cX2_init : ByteArray := prog_4_method_1_code
def yX2_init : MethodName := ⟨RX2, "<init>", "()V"⟩
abbrev cX2_append : ByteArray := prog_4_method_2_code
def yX2_append : MethodName := ⟨RX2, "append", "(I)V"⟩
abbrev cX2_readAll : ByteArray := prog_4_method_3_code
def yX2_readAll : MethodName := ⟨RX2, "readAll", "()I"⟩
abbrev cX2_readPart : ByteArray := prog_4_method_4_code
def yX2_readPart : MethodName := ⟨RX2, "readPart", "()V"⟩
abbrev cX2_readPaper : ByteArray := prog_4_method_5_code
def yX2_readPaper : MethodName := ⟨RX2, "readPaper", "()V"⟩
abbrev cX2_readGrant : ByteArray := prog_4_method_6_code
def yX2_readGrant : MethodName := ⟨RX2, "readGrant", "()V"⟩
abbrev cX2_readRoute : ByteArray := prog_4_method_7_code
def yX2_readRoute : MethodName := ⟨RX2, "readRoute", "()V"⟩
abbrev cX2_readHolder : ByteArray := prog_4_method_8_code
def yX2_readHolder : MethodName := ⟨RX2, "readHolder", "()I"⟩
abbrev cX2_readStart : ByteArray := prog_4_method_9_code
def yX2_readStart : MethodName := ⟨RX2, "readStart", "()I"⟩
abbrev cX2_readLength : ByteArray := prog_4_method_10_code
def yX2_readLength : MethodName := ⟨RX2, "readLength", "(I)I"⟩
abbrev cX2_readFigure : ByteArray := prog_4_method_11_code
def yX2_readFigure : MethodName := ⟨RX2, "readFigure", "(II)I"⟩
abbrev cX2_letterAt : ByteArray := prog_4_method_12_code
def yX2_letterAt : MethodName := ⟨RX2, "letterAt", "(I)C"⟩
def RX3 : String := "RangePapers"
def TX3 : u_T := fun k => match k with
  | 0 => ("RangePapers", "papers", "LRangePapers$Rows;", true)
  | 1 => ("RangePapers", "now", "LRangePapers$Books;", true)
  | 2 => ("RangePapers", "trial", "LRangePapers$Books;", true)
  | 3 => ("RangePapers", "firstSlot", "LRangePapers$Books;", true)
  | 4 => ("RangePapers", "secondSlot", "LRangePapers$Books;", true)
  | 5 => ("RangePapers", "acts", "LRangePapers$Rows;", true)
  | 6 => ("RangePapers", "seen", "LRangePapers$Rows;", true)
  | 7 => ("RangePapers", "text", "LRangePapers$Text;", true)
  | 8 => ("RangePapers", "doings", "[I", true)
  | 9 => ("RangePapers", "keptSlots", "I", false)
  | _ => ("RangePapers", "seedNow", "J", false)
def tyX3 : Nat → FieldType := fun k => match k with
  | 0 => .object "RangePapers$Rows"
  | 1 => .object "RangePapers$Books"
  | 2 => .object "RangePapers$Books"
  | 3 => .object "RangePapers$Books"
  | 4 => .object "RangePapers$Books"
  | 5 => .object "RangePapers$Rows"
  | 6 => .object "RangePapers$Rows"
  | 7 => .object "RangePapers$Text"
  | 8 => .array .int
  | 9 => .int
  | _ => .long
abbrev wsX30 : List Cond := u_ws RX3 TX3 11
theorem nmX3 : ∀ a, a < 11 → ∀ b, b < 11 → a ≠ b → (TX3 a).2.1 ≠ (TX3 b).2.1 := by decide +kernel
theorem tyX3_ok : ∀ k, k < 11 → parseFieldDescriptor (TX3 k).2.2.1 = some (tyX3 k) := by decide +kernel
abbrev cX3_init : ByteArray := prog_1_method_1_code
def yX3_init : MethodName := ⟨RX3, "<init>", "()V"⟩
abbrev cX3_write : ByteArray := prog_1_method_2_code
def yX3_write : MethodName := ⟨RX3, "write", "(I)I"⟩
abbrev cX3_wipe : ByteArray := prog_1_method_3_code
def yX3_wipe : MethodName := ⟨RX3, "wipe", "()I"⟩
abbrev cX3_fault : ByteArray := prog_1_method_4_code
def yX3_fault : MethodName := ⟨RX3, "fault", "()I"⟩
abbrev cX3_tree : ByteArray := prog_1_method_5_code
def yX3_tree : MethodName := ⟨RX3, "tree", "()I"⟩
abbrev cX3_about : ByteArray := prog_1_method_6_code
def yX3_about : MethodName := ⟨RX3, "about", "(I)I"⟩
abbrev cX3_paper : ByteArray := prog_1_method_7_code
def yX3_paper : MethodName := ⟨RX3, "paper", "(II)I"⟩
abbrev cX3_grant : ByteArray := prog_1_method_8_code
def yX3_grant : MethodName := ⟨RX3, "grant", "(II)I"⟩
abbrev cX3_route : ByteArray := prog_1_method_9_code
def yX3_route : MethodName := ⟨RX3, "route", "(II)I"⟩
abbrev cX3_announce : ByteArray := prog_1_method_10_code
def yX3_announce : MethodName := ⟨RX3, "announce", "(III)I"⟩
abbrev cX3_withdraw : ByteArray := prog_1_method_11_code
def yX3_withdraw : MethodName := ⟨RX3, "withdraw", "(I)I"⟩
abbrev cX3_allow : ByteArray := prog_1_method_12_code
def yX3_allow : MethodName := ⟨RX3, "allow", "(IIIII)I"⟩
abbrev cX3_tear : ByteArray := prog_1_method_13_code
def yX3_tear : MethodName := ⟨RX3, "tear", "(I)I"⟩
abbrev cX3_revoke : ByteArray := prog_1_method_14_code
def yX3_revoke : MethodName := ⟨RX3, "revoke", "(I)I"⟩
abbrev cX3_night : ByteArray := prog_1_method_15_code
def yX3_night : MethodName := ⟨RX3, "night", "()I"⟩
abbrev cX3_setAside : ByteArray := prog_1_method_16_code
def yX3_setAside : MethodName := ⟨RX3, "setAside", "(I)I"⟩
abbrev cX3_undo : ByteArray := prog_1_method_17_code
def yX3_undo : MethodName := ⟨RX3, "undo", "()I"⟩
abbrev cX3_state : ByteArray := prog_1_method_18_code
def yX3_state : MethodName := ⟨RX3, "state", "(III)I"⟩
abbrev cX3_goes : ByteArray := prog_1_method_19_code
def yX3_goes : MethodName := ⟨RX3, "goes", "(II)I"⟩
abbrev cX3_theft : ByteArray := prog_1_method_20_code
def yX3_theft : MethodName := ⟨RX3, "theft", "(III)I"⟩
abbrev cX3_lost : ByteArray := prog_1_method_21_code
def yX3_lost : MethodName := ⟨RX3, "lost", "(I)I"⟩
abbrev cX3_judge : ByteArray := prog_1_method_22_code
def yX3_judge : MethodName := ⟨RX3, "judge", "(IJ)I"⟩
abbrev cX3_see : ByteArray := prog_1_method_23_code
def yX3_see : MethodName := ⟨RX3, "see", "(IIII)I"⟩
abbrev cX3_unsee : ByteArray := prog_1_method_24_code
def yX3_unsee : MethodName := ⟨RX3, "unsee", "()I"⟩
abbrev cX3_which : ByteArray := prog_1_method_25_code
def yX3_which : MethodName := ⟨RX3, "which", "(I)I"⟩
abbrev cX3_share : ByteArray := prog_1_method_26_code
def yX3_share : MethodName := ⟨RX3, "share", "(IZ)I"⟩
abbrev cX3_chance : ByteArray := prog_1_method_27_code
def yX3_chance : MethodName := ⟨RX3, "chance", "(IIZ)I"⟩
abbrev cX3_seed : ByteArray := prog_1_method_28_code
def yX3_seed : MethodName := ⟨RX3, "seed", "(J)J"⟩
abbrev cX3_drawn : ByteArray := prog_1_method_29_code
def yX3_drawn : MethodName := ⟨RX3, "drawn", "(I)I"⟩
abbrev cX3_keep : ByteArray := prog_1_method_30_code
def yX3_keep : MethodName := ⟨RX3, "keep", "(I)I"⟩
abbrev cX3_again : ByteArray := prog_1_method_31_code
def yX3_again : MethodName := ⟨RX3, "again", "(I)I"⟩
abbrev cX3_slotBooks : ByteArray := prog_1_method_32_code
def yX3_slotBooks : MethodName := ⟨RX3, "slotBooks", "(I)LRangePapers$Books;"⟩
abbrev cX3_remember : ByteArray := prog_1_method_33_code
def yX3_remember : MethodName := ⟨RX3, "remember", "(II)I"⟩
abbrev cX3_rememberRow : ByteArray := prog_1_method_34_code
def yX3_rememberRow : MethodName := ⟨RX3, "rememberRow", "(IILRangePapers$Rows;)V"⟩
abbrev cX3_takeBack : ByteArray := prog_1_method_35_code
def yX3_takeBack : MethodName := ⟨RX3, "takeBack", "(I)V"⟩
abbrev cX3_putBack : ByteArray := prog_1_method_36_code
def yX3_putBack : MethodName := ⟨RX3, "putBack", "(IILRangePapers$Rows;)V"⟩
abbrev cX3_splitDoings : ByteArray := prog_1_method_37_code
def yX3_splitDoings : MethodName := ⟨RX3, "splitDoings", "(IJ)Z"⟩
abbrev cX3_weightOf : ByteArray := prog_1_method_38_code
def yX3_weightOf : MethodName := ⟨RX3, "weightOf", "(II)I"⟩
abbrev cX3_fraction : ByteArray := prog_1_method_39_code
def yX3_fraction : MethodName := ⟨RX3, "fraction", "(IIZ)I"⟩
abbrev cX3_bit : ByteArray := prog_1_method_40_code
def yX3_bit : MethodName := ⟨RX3, "bit", "(II)I"⟩
abbrev cX3_isPlace : ByteArray := prog_1_method_41_code
def yX3_isPlace : MethodName := ⟨RX3, "isPlace", "(I)Z"⟩
abbrev cX3_isOrigin : ByteArray := prog_1_method_42_code
def yX3_isOrigin : MethodName := ⟨RX3, "isOrigin", "(I)Z"⟩
abbrev cX3_isLaw : ByteArray := prog_1_method_43_code
def yX3_isLaw : MethodName := ⟨RX3, "isLaw", "(I)Z"⟩
abbrev cX3_isRange : ByteArray := prog_1_method_44_code
def yX3_isRange : MethodName := ⟨RX3, "isRange", "(II)Z"⟩
abbrev cX3_leftBySize : ByteArray := prog_1_method_45_code
def yX3_leftBySize : MethodName := ⟨RX3, "leftBySize", "(II)I"⟩
abbrev cX3_coverOf : ByteArray := prog_1_method_46_code
def yX3_coverOf : MethodName := ⟨RX3, "coverOf", "(II)I"⟩
abbrev cX3_isWithin : ByteArray := prog_1_method_47_code
def yX3_isWithin : MethodName := ⟨RX3, "isWithin", "(II)Z"⟩
def RX4 : String := "RangePapersModel"
def TX4 : u_T := fun k => match k with
  | 0 => ("RangePapersModel", "text", "[I", true)
  | 1 => ("RangePapersModel", "length", "I", false)
  | 2 => ("RangePapersModel", "papers", "I", false)
  | 3 => ("RangePapersModel", "paper", "[I", true)
  | 4 => ("RangePapersModel", "now", "[I", true)
  | 5 => ("RangePapersModel", "trial", "[I", true)
  | 6 => ("RangePapersModel", "diary", "[I", true)
  | 7 => ("RangePapersModel", "acts", "I", false)
  | 8 => ("RangePapersModel", "next", "I", false)
  | 9 => ("RangePapersModel", "kept", "[I", true)
  | 10 => ("RangePapersModel", "isKept", "[Z", true)
  | 11 => ("RangePapersModel", "seenAt", "[I", true)
  | 12 => ("RangePapersModel", "seen", "I", false)
  | 13 => ("RangePapersModel", "seed", "J", false)
  | 14 => ("RangePapersModel", "worth", "[I", true)
  | 15 => ("RangePapersModel", "place", "I", false)
  | 16 => ("RangePapersModel", "readPapers", "I", false)
  | 17 => ("RangePapersModel", "readPaper", "[I", true)
  | 18 => ("RangePapersModel", "read", "[I", true)
  | 19 => ("RangePapersModel", "readStart", "I", false)
  | _ => ("RangePapersModel", "readLength", "I", false)
def tyX4 : Nat → FieldType := fun k => match k with
  | 0 => .array .int
  | 1 => .int
  | 2 => .int
  | 3 => .array .int
  | 4 => .array .int
  | 5 => .array .int
  | 6 => .array .int
  | 7 => .int
  | 8 => .int
  | 9 => .array .int
  | 10 => .array .boolean
  | 11 => .array .int
  | 12 => .int
  | 13 => .long
  | 14 => .array .int
  | 15 => .int
  | 16 => .int
  | 17 => .array .int
  | 18 => .array .int
  | 19 => .int
  | _ => .int
abbrev wsX40 : List Cond := u_ws RX4 TX4 21
theorem nmX4 : ∀ a, a < 21 → ∀ b, b < 21 → a ≠ b → (TX4 a).2.1 ≠ (TX4 b).2.1 := by decide +kernel
theorem tyX4_ok : ∀ k, k < 21 → parseFieldDescriptor (TX4 k).2.2.1 = some (tyX4 k) := by decide +kernel
abbrev cX4_init : ByteArray := prog_6_method_1_code
def yX4_init : MethodName := ⟨RX4, "<init>", "()V"⟩
abbrev cX4_copy : ByteArray := prog_6_method_3_code
def yX4_copy : MethodName := ⟨RX4, "copy", "([I[I)V"⟩
abbrev cX4_in : ByteArray := prog_6_method_4_code
def yX4_in : MethodName := ⟨RX4, "in", "(JJJ)Z"⟩
abbrev cX4_has : ByteArray := prog_6_method_5_code
def yX4_has : MethodName := ⟨RX4, "has", "(II)Z"⟩
abbrev cX4_ones : ByteArray := prog_6_method_6_code
def yX4_ones : MethodName := ⟨RX4, "ones", "(I)I"⟩
abbrev cX4_power : ByteArray := prog_6_method_7_code
def yX4_power : MethodName := ⟨RX4, "power", "(II)I"⟩
abbrev cX4_factorial : ByteArray := prog_6_method_8_code
def yX4_factorial : MethodName := ⟨RX4, "factorial", "(I)I"⟩
abbrev cX4_fraction : ByteArray := prog_6_method_9_code
def yX4_fraction : MethodName := ⟨RX4, "fraction", "(IIZ)I"⟩
abbrev cX4_sizeOf : ByteArray := prog_6_method_10_code
def yX4_sizeOf : MethodName := ⟨RX4, "sizeOf", "(I)I"⟩
abbrev cX4_isRange : ByteArray := prog_6_method_11_code
def yX4_isRange : MethodName := ⟨RX4, "isRange", "(II)Z"⟩
abbrev cX4_isWithin : ByteArray := prog_6_method_12_code
def yX4_isWithin : MethodName := ⟨RX4, "isWithin", "(IIII)Z"⟩
abbrev cX4_isOrigin : ByteArray := prog_6_method_13_code
def yX4_isOrigin : MethodName := ⟨RX4, "isOrigin", "(I)Z"⟩
abbrev cX4_write : ByteArray := prog_6_method_14_code
def yX4_write : MethodName := ⟨RX4, "write", "(I)I"⟩
abbrev cX4_wipe : ByteArray := prog_6_method_15_code
def yX4_wipe : MethodName := ⟨RX4, "wipe", "()I"⟩
abbrev cX4_figure : ByteArray := prog_6_method_16_code
def yX4_figure : MethodName := ⟨RX4, "figure", "(II)I"⟩
abbrev cX4_readRange : ByteArray := prog_6_method_17_code
def yX4_readRange : MethodName := ⟨RX4, "readRange", "()Z"⟩
abbrev cX4_readOnePaper : ByteArray := prog_6_method_18_code
def yX4_readOnePaper : MethodName := ⟨RX4, "readOnePaper", "()Z"⟩
abbrev cX4_readOneGrant : ByteArray := prog_6_method_19_code
def yX4_readOneGrant : MethodName := ⟨RX4, "readOneGrant", "()Z"⟩
abbrev cX4_readOneRoute : ByteArray := prog_6_method_20_code
def yX4_readOneRoute : MethodName := ⟨RX4, "readOneRoute", "()Z"⟩
abbrev cX4_readPart : ByteArray := prog_6_method_21_code
def yX4_readPart : MethodName := ⟨RX4, "readPart", "()Z"⟩
abbrev cX4_readText : ByteArray := prog_6_method_22_code
def yX4_readText : MethodName := ⟨RX4, "readText", "()I"⟩
abbrev cX4_fault : ByteArray := prog_6_method_23_code
def yX4_fault : MethodName := ⟨RX4, "fault", "()I"⟩
abbrev cX4_tree : ByteArray := prog_6_method_24_code
def yX4_tree : MethodName := ⟨RX4, "tree", "()I"⟩
abbrev cX4_addGrant : ByteArray := prog_6_method_25_code
def yX4_addGrant : MethodName := ⟨RX4, "addGrant", "([IIIIII)V"⟩
abbrev cX4_addRoute : ByteArray := prog_6_method_26_code
def yX4_addRoute : MethodName := ⟨RX4, "addRoute", "([IIII)V"⟩
abbrev cX4_takeGrant : ByteArray := prog_6_method_27_code
def yX4_takeGrant : MethodName := ⟨RX4, "takeGrant", "([II)V"⟩
abbrev cX4_takeRoute : ByteArray := prog_6_method_28_code
def yX4_takeRoute : MethodName := ⟨RX4, "takeRoute", "([II)V"⟩
abbrev cX4_stands : ByteArray := prog_6_method_29_code
def yX4_stands : MethodName := ⟨RX4, "stands", "([II)Z"⟩
abbrev cX4_counts : ByteArray := prog_6_method_30_code
def yX4_counts : MethodName := ⟨RX4, "counts", "([II)Z"⟩
abbrev cX4_stateBy : ByteArray := prog_6_method_31_code
def yX4_stateBy : MethodName := ⟨RX4, "stateBy", "([IIIII)I"⟩
abbrev cX4_stateOf : ByteArray := prog_6_method_32_code
def yX4_stateOf : MethodName := ⟨RX4, "stateOf", "([IIII)I"⟩
abbrev cX4_routeState : ByteArray := prog_6_method_33_code
def yX4_routeState : MethodName := ⟨RX4, "routeState", "([II)I"⟩
abbrev cX4_those : ByteArray := prog_6_method_34_code
def yX4_those : MethodName := ⟨RX4, "those", "([II)I"⟩
abbrev cX4_meet : ByteArray := prog_6_method_35_code
def yX4_meet : MethodName := ⟨RX4, "meet", "([III)Z"⟩
abbrev cX4_isIn : ByteArray := prog_6_method_36_code
def yX4_isIn : MethodName := ⟨RX4, "isIn", "([III)Z"⟩
abbrev cX4_goesOf : ByteArray := prog_6_method_37_code
def yX4_goesOf : MethodName := ⟨RX4, "goesOf", "([III)I"⟩
abbrev cX4_makerOf : ByteArray := prog_6_method_38_code
def yX4_makerOf : MethodName := ⟨RX4, "makerOf", "(I)I"⟩
abbrev cX4_bare : ByteArray := prog_6_method_39_code
def yX4_bare : MethodName := ⟨RX4, "bare", "()I"⟩
abbrev cX4_standing : ByteArray := prog_6_method_40_code
def yX4_standing : MethodName := ⟨RX4, "standing", "()I"⟩
abbrev cX4_about : ByteArray := prog_6_method_41_code
def yX4_about : MethodName := ⟨RX4, "about", "(I)I"⟩
abbrev cX4_isPaper : ByteArray := prog_6_method_42_code
def yX4_isPaper : MethodName := ⟨RX4, "isPaper", "(I)Z"⟩
abbrev cX4_isGrant : ByteArray := prog_6_method_43_code
def yX4_isGrant : MethodName := ⟨RX4, "isGrant", "(I)Z"⟩
abbrev cX4_isRoute : ByteArray := prog_6_method_44_code
def yX4_isRoute : MethodName := ⟨RX4, "isRoute", "(I)Z"⟩
abbrev cX4_paper : ByteArray := prog_6_method_45_code
def yX4_paper : MethodName := ⟨RX4, "paper", "(II)I"⟩
abbrev cX4_grant : ByteArray := prog_6_method_46_code
def yX4_grant : MethodName := ⟨RX4, "grant", "(II)I"⟩
abbrev cX4_route : ByteArray := prog_6_method_47_code
def yX4_route : MethodName := ⟨RX4, "route", "(II)I"⟩
abbrev cX4_note : ByteArray := prog_6_method_48_code
def yX4_note : MethodName := ⟨RX4, "note", "()V"⟩
abbrev cX4_announce : ByteArray := prog_6_method_49_code
def yX4_announce : MethodName := ⟨RX4, "announce", "(III)I"⟩
abbrev cX4_withdraw : ByteArray := prog_6_method_50_code
def yX4_withdraw : MethodName := ⟨RX4, "withdraw", "(I)I"⟩
abbrev cX4_allow : ByteArray := prog_6_method_51_code
def yX4_allow : MethodName := ⟨RX4, "allow", "(IIIII)I"⟩
abbrev cX4_tear : ByteArray := prog_6_method_52_code
def yX4_tear : MethodName := ⟨RX4, "tear", "(I)I"⟩
abbrev cX4_revoke : ByteArray := prog_6_method_53_code
def yX4_revoke : MethodName := ⟨RX4, "revoke", "(I)I"⟩
abbrev cX4_night : ByteArray := prog_6_method_54_code
def yX4_night : MethodName := ⟨RX4, "night", "()I"⟩
abbrev cX4_setAside : ByteArray := prog_6_method_55_code
def yX4_setAside : MethodName := ⟨RX4, "setAside", "(I)I"⟩
abbrev cX4_undo : ByteArray := prog_6_method_56_code
def yX4_undo : MethodName := ⟨RX4, "undo", "()I"⟩
abbrev cX4_state : ByteArray := prog_6_method_57_code
def yX4_state : MethodName := ⟨RX4, "state", "(III)I"⟩
abbrev cX4_isLaw : ByteArray := prog_6_method_58_code
def yX4_isLaw : MethodName := ⟨RX4, "isLaw", "(I)Z"⟩
abbrev cX4_goes : ByteArray := prog_6_method_59_code
def yX4_goes : MethodName := ⟨RX4, "goes", "(II)I"⟩
abbrev cX4_theft : ByteArray := prog_6_method_60_code
def yX4_theft : MethodName := ⟨RX4, "theft", "(III)I"⟩
abbrev cX4_lost : ByteArray := prog_6_method_61_code
def yX4_lost : MethodName := ⟨RX4, "lost", "(I)I"⟩
abbrev cX4_judged : ByteArray := prog_6_method_62_code
def yX4_judged : MethodName := ⟨RX4, "judged", "(IIII)Z"⟩
abbrev cX4_tenThousands : ByteArray := prog_6_method_63_code
def yX4_tenThousands : MethodName := ⟨RX4, "tenThousands", "(I)J"⟩
abbrev cX4_judge : ByteArray := prog_6_method_64_code
def yX4_judge : MethodName := ⟨RX4, "judge", "(IJ)I"⟩
abbrev cX4_see : ByteArray := prog_6_method_65_code
def yX4_see : MethodName := ⟨RX4, "see", "(IIII)I"⟩
abbrev cX4_unsee : ByteArray := prog_6_method_66_code
def yX4_unsee : MethodName := ⟨RX4, "unsee", "()I"⟩
abbrev cX4_which : ByteArray := prog_6_method_67_code
def yX4_which : MethodName := ⟨RX4, "which", "(I)I"⟩
abbrev cX4_rightBy : ByteArray := prog_6_method_68_code
def yX4_rightBy : MethodName := ⟨RX4, "rightBy", "(I)I"⟩
abbrev cX4_share : ByteArray := prog_6_method_69_code
def yX4_share : MethodName := ⟨RX4, "share", "(IZ)I"⟩
abbrev cX4_chance : ByteArray := prog_6_method_70_code
def yX4_chance : MethodName := ⟨RX4, "chance", "(IIZ)I"⟩
abbrev cX4_seed : ByteArray := prog_6_method_71_code
def yX4_seed : MethodName := ⟨RX4, "seed", "(J)J"⟩
abbrev cX4_drawn : ByteArray := prog_6_method_72_code
def yX4_drawn : MethodName := ⟨RX4, "drawn", "(I)I"⟩
abbrev cX4_keep : ByteArray := prog_6_method_73_code
def yX4_keep : MethodName := ⟨RX4, "keep", "(I)I"⟩
abbrev cX4_again : ByteArray := prog_6_method_74_code
def yX4_again : MethodName := ⟨RX4, "again", "(I)I"⟩
def RJ6 : String := "java/lang/Integer"
def TJ6 : u_T := fun k => match k with
  | _ => ("", "", "", false)
def tyJ6 : Nat → FieldType := fun k => match k with
  | _ => .int
abbrev wsJ60 : List Cond := u_ws RJ6 TJ6 0
theorem nmJ6 : ∀ a, a < 0 → ∀ b, b < 0 → a ≠ b → (TJ6 a).2.1 ≠ (TJ6 b).2.1 := by decide +kernel
theorem tyJ6_ok : ∀ k, k < 0 → parseFieldDescriptor (TJ6 k).2.2.1 = some (tyJ6 k) := by decide +kernel
abbrev cJ6_bitCount_0f7a4 : ByteArray := prog_7_method_49_code
def yJ6_bitCount_0f7a4 : MethodName := ⟨RJ6, "bitCount", "(I)I"⟩
def RJ9 : String := "java/lang/Math"
def TJ9 : u_T := fun k => match k with
  | _ => ("", "", "", false)
def tyJ9 : Nat → FieldType := fun k => match k with
  | _ => .int
abbrev wsJ90 : List Cond := u_ws RJ9 TJ9 0
theorem nmJ9 : ∀ a, a < 0 → ∀ b, b < 0 → a ≠ b → (TJ9 a).2.1 ≠ (TJ9 b).2.1 := by decide +kernel
theorem tyJ9_ok : ∀ k, k < 0 → parseFieldDescriptor (TJ9 k).2.2.1 = some (tyJ9 k) := by decide +kernel
abbrev cJ9_max_7cf53 : ByteArray := prog_8_method_65_code
def yJ9_max_7cf53 : MethodName := ⟨RJ9, "max", "(II)I"⟩
abbrev cJ9_min_7cf53 : ByteArray := prog_8_method_69_code
def yJ9_min_7cf53 : MethodName := ⟨RJ9, "min", "(II)I"⟩
def RJ10 : String := "java/lang/System"
def TJ10 : u_T := fun k => match k with
  | _ => ("", "", "", false)
def tyJ10 : Nat → FieldType := fun k => match k with
  | _ => .int
abbrev wsJ100 : List Cond := u_ws RJ10 TJ10 0
theorem nmJ10 : ∀ a, a < 0 → ∀ b, b < 0 → a ≠ b → (TJ10 a).2.1 ≠ (TJ10 b).2.1 := by decide +kernel
theorem tyJ10_ok : ∀ k, k < 0 → parseFieldDescriptor (TJ10 k).2.2.1 = some (tyJ10 k) := by decide +kernel
def RL : String := "RangePapersLaw"
abbrev cL_law : ByteArray := code
def yL_law : MethodName := ⟨RL, "law", "([I)Z"⟩
def wsL_law_r1 : List Cond := [Cond.classLink RL 7 RX3, Cond.instantiable RX3 11, Cond.initialized RX3, Cond.classLink RL 10 RX4, Cond.instantiable RX4 21, Cond.initialized RX4, Cond.constantLong RL 98 (4294967295), Cond.methodLink RL 9 yX3_init, Cond.instanceMethod yX3_init, Cond.code yX3_init cX3_init 1 none, Cond.methodLink RX3 3 objectInit, Cond.instanceMethod objectInit, Cond.code objectInit ⟨#[0xb1]⟩ 1 none, Cond.classLink RX3 9 RX1, Cond.instantiable RX1 4, Cond.initialized RX1, Cond.fieldLink RX3 14 "RangePapers" "papers" "LRangePapers$Rows;", Cond.classLink RX3 18 RX0, Cond.instantiable RX0 6, Cond.initialized RX0, Cond.fieldLink RX3 23 "RangePapers" "now" "LRangePapers$Books;", Cond.fieldLink RX3 27 "RangePapers" "trial" "LRangePapers$Books;", Cond.fieldLink RX3 30 "RangePapers" "firstSlot" "LRangePapers$Books;", Cond.fieldLink RX3 33 "RangePapers" "secondSlot" "LRangePapers$Books;"]
def wsL_law_r2 : List Cond := [Cond.fieldLink RX3 36 "RangePapers" "acts" "LRangePapers$Rows;", Cond.fieldLink RX3 39 "RangePapers" "seen" "LRangePapers$Rows;", Cond.classLink RX3 42 RX2, Cond.instantiable RX2 7, Cond.initialized RX2, Cond.fieldLink RX3 45 "RangePapers" "text" "LRangePapers$Text;", Cond.arrayClass .int, Cond.fieldLink RX3 49 "RangePapers" "doings" "[I", Cond.methodLink RX3 11 yX1_init, Cond.instanceMethod yX1_init, Cond.code yX1_init cX1_init 3 none, Cond.methodLink RX1 3 objectInit, Cond.methodLink RX1 9 Lib.Math.max.name, Cond.static Lib.Math.max.name, Cond.initialized "java/lang/Math", Cond.code Lib.Math.max.name Lib.Math.max.code 2 (some .int), Cond.fieldLink RX1 15 "RangePapers$Rows" "limit" "I", Cond.fieldLink RX1 21 "RangePapers$Rows" "width" "I", Cond.fieldLink RX1 24 "RangePapers$Rows" "cells" "[I", Cond.methodLink RX3 20 yX0_init, Cond.instanceMethod yX0_init, Cond.code yX0_init cX0_init 2 none, Cond.methodLink RX0 3 objectInit, Cond.classLink RX0 9 RX1]
def wsL_law_r3 : List Cond := [Cond.fieldLink RX0 14 "RangePapers$Books" "grants" "LRangePapers$Rows;", Cond.fieldLink RX0 20 "RangePapers$Books" "routes" "LRangePapers$Rows;", Cond.fieldLink RX0 23 "RangePapers$Books" "papers" "LRangePapers$Rows;", Cond.methodLink RX0 11 yX1_init, Cond.instanceMethod yX2_init, Cond.code yX2_init cX2_init 1 none, Cond.methodLink RX2 3 objectInit, Cond.arrayClass .char, Cond.fieldLink RX2 9 "RangePapers$Text" "letters" "[C", Cond.classLink RX2 15 RX1, Cond.fieldLink RX2 20 "RangePapers$Text" "papers" "LRangePapers$Rows;", Cond.fieldLink RX2 24 "RangePapers$Text" "grants" "LRangePapers$Rows;", Cond.fieldLink RX2 27 "RangePapers$Text" "routes" "LRangePapers$Rows;", Cond.methodLink RX2 17 yX1_init, Cond.methodLink RX3 53 yX1_addRange, Cond.instanceMethod yX1_addRange, Cond.selects RX1 yX1_addRange yX1_addRange, Cond.code yX1_addRange cX1_addRange 7 (some .int), Cond.fieldLink RX1 28 "RangePapers$Rows" "count" "I", Cond.methodLink RX1 31 yX1_openAt, Cond.instanceMethod yX1_openAt, Cond.selects RX1 yX1_openAt yX1_openAt, Cond.code yX1_openAt cX1_openAt 2 none, Cond.methodLink RX1 42 arraycopyName]
def wsL_law_r4 : List Cond := [Cond.native arraycopyName, Cond.static arraycopyName, Cond.initialized "java/lang/System", Cond.methodLink RX1 35 yX1_put, Cond.instanceMethod yX1_put, Cond.selects RX1 yX1_put yX1_put, Cond.code yX1_put cX1_put 4 none, Cond.static yX3_coverOf, Cond.code yX3_coverOf cX3_coverOf 2 (some .int), Cond.methodLink RL 12 yX4_init, Cond.instanceMethod yX4_init, Cond.code yX4_init cX4_init 1 none, Cond.methodLink RX4 1 objectInit, Cond.fieldLink RX4 7 "RangePapersModel" "text" "[I", Cond.fieldLink RX4 13 "RangePapersModel" "paper" "[I", Cond.fieldLink RX4 16 "RangePapersModel" "now" "[I", Cond.fieldLink RX4 19 "RangePapersModel" "trial" "[I", Cond.fieldLink RX4 22 "RangePapersModel" "diary" "[I", Cond.fieldLink RX4 25 "RangePapersModel" "kept" "[I", Cond.arrayClass .boolean, Cond.fieldLink RX4 28 "RangePapersModel" "isKept" "[Z", Cond.fieldLink RX4 32 "RangePapersModel" "seenAt" "[I", Cond.fieldLink RX4 35 "RangePapersModel" "worth" "[I", Cond.fieldLink RX4 38 "RangePapersModel" "readPaper" "[I"]
def wsL_law_r5 : List Cond := [Cond.fieldLink RX4 41 "RangePapersModel" "read" "[I", Cond.fieldLink RX4 44 "RangePapersModel" "papers" "I", Cond.methodLink RL 13 yX3_write, Cond.instanceMethod yX3_write, Cond.selects RX3 yX3_write yX3_write, Cond.code yX3_write cX3_write 2 (some .int), Cond.fieldLink RX3 57 "RangePapers$Text" "length" "I", Cond.methodLink RX3 61 yX2_append, Cond.instanceMethod yX2_append, Cond.selects RX2 yX2_append yX2_append, Cond.code yX2_append cX2_append 2 none, Cond.fieldLink RX2 30 "RangePapers$Text" "length" "I", Cond.methodLink RL 17 yX4_write, Cond.instanceMethod yX4_write, Cond.selects RX4 yX4_write yX4_write, Cond.code yX4_write cX4_write 2 (some .int), Cond.constantLong RX4 60 (255), Cond.fieldLink RX4 62 "RangePapersModel" "length" "I", Cond.methodLink RX4 50 yX4_in, Cond.static yX4_in, Cond.code yX4_in cX4_in 6 (some .boolean), Cond.methodLink RL 18 yX3_wipe, Cond.instanceMethod yX3_wipe, Cond.selects RX3 yX3_wipe yX3_wipe]
def wsL_law_r6 : List Cond := [Cond.code yX3_wipe cX3_wipe 2 (some .int), Cond.methodLink RL 22 yX4_wipe, Cond.instanceMethod yX4_wipe, Cond.selects RX4 yX4_wipe yX4_wipe, Cond.code yX4_wipe cX4_wipe 2 (some .int), Cond.methodLink RL 23 yX3_fault, Cond.instanceMethod yX3_fault, Cond.selects RX3 yX3_fault yX3_fault, Cond.code yX3_fault cX3_fault 1 (some .int), Cond.methodLink RX3 65 yX2_readAll, Cond.instanceMethod yX2_readAll, Cond.selects RX2 yX2_readAll yX2_readAll, Cond.code yX2_readAll cX2_readAll 2 (some .int), Cond.fieldLink RX2 34 "RangePapers$Rows" "count" "I", Cond.fieldLink RX2 41 "RangePapers$Text" "firstFault" "I", Cond.fieldLink RX2 48 "RangePapers$Text" "next" "I", Cond.methodLink RX2 37 yX1_addRange, Cond.methodLink RX2 44 yX2_letterAt, Cond.instanceMethod yX2_letterAt, Cond.selects RX2 yX2_letterAt yX2_letterAt, Cond.code yX2_letterAt cX2_letterAt 2 (some .char), Cond.methodLink RX2 51 yX2_readPart, Cond.instanceMethod yX2_readPart, Cond.selects RX2 yX2_readPart yX2_readPart]
def wsL_law_r7 : List Cond := [Cond.code yX2_readPart cX2_readPart 2 none, Cond.methodLink RX2 54 yX2_readPaper, Cond.instanceMethod yX2_readPaper, Cond.selects RX2 yX2_readPaper yX2_readPaper, Cond.code yX2_readPaper cX2_readPaper 5 none, Cond.methodLink RX2 63 yX2_readFigure, Cond.instanceMethod yX2_readFigure, Cond.selects RX2 yX2_readFigure yX2_readFigure, Cond.code yX2_readFigure cX2_readFigure 4 (some .int), Cond.methodLink RX2 67 yX2_readStart, Cond.instanceMethod yX2_readStart, Cond.selects RX2 yX2_readStart yX2_readStart, Cond.code yX2_readStart cX2_readStart 2 (some .int), Cond.methodLink RX2 71 yX2_readLength, Cond.instanceMethod yX2_readLength, Cond.selects RX2 yX2_readLength yX2_readLength, Cond.code yX2_readLength cX2_readLength 3 (some .int), Cond.static yX3_leftBySize, Cond.code yX3_leftBySize cX3_leftBySize 2 (some .int), Cond.methodLink RX2 57 yX2_readGrant, Cond.instanceMethod yX2_readGrant, Cond.selects RX2 yX2_readGrant yX2_readGrant, Cond.code yX2_readGrant cX2_readGrant 6 none, Cond.methodLink RX2 75 yX2_readHolder]
def wsL_law_r8 : List Cond := [Cond.instanceMethod yX2_readHolder, Cond.selects RX2 yX2_readHolder yX2_readHolder, Cond.code yX2_readHolder cX2_readHolder 2 (some .int), Cond.methodLink RX2 60 yX2_readRoute, Cond.instanceMethod yX2_readRoute, Cond.selects RX2 yX2_readRoute yX2_readRoute, Cond.code yX2_readRoute cX2_readRoute 4 none, Cond.methodLink RL 26 yX4_fault, Cond.instanceMethod yX4_fault, Cond.selects RX4 yX4_fault yX4_fault, Cond.code yX4_fault cX4_fault 1 (some .int), Cond.methodLink RX4 109 yX4_readText, Cond.instanceMethod yX4_readText, Cond.selects RX4 yX4_readText yX4_readText, Cond.code yX4_readText cX4_readText 2 (some .int), Cond.fieldLink RX4 82 "RangePapersModel" "readPapers" "I", Cond.fieldLink RX4 65 "RangePapersModel" "place" "I", Cond.methodLink RX4 106 yX4_readPart, Cond.instanceMethod yX4_readPart, Cond.selects RX4 yX4_readPart yX4_readPart, Cond.code yX4_readPart cX4_readPart 3 (some .boolean), Cond.methodLink RX4 97 yX4_readOnePaper, Cond.instanceMethod yX4_readOnePaper, Cond.selects RX4 yX4_readOnePaper yX4_readOnePaper]
def wsL_law_r9 : List Cond := [Cond.code yX4_readOnePaper cX4_readOnePaper 4 (some .boolean), Cond.fieldLink RX4 72 "RangePapersModel" "readStart" "I", Cond.fieldLink RX4 79 "RangePapersModel" "readLength" "I", Cond.methodLink RX4 68 yX4_figure, Cond.instanceMethod yX4_figure, Cond.selects RX4 yX4_figure yX4_figure, Cond.code yX4_figure cX4_figure 4 (some .int), Cond.methodLink RX4 85 yX4_readRange, Cond.instanceMethod yX4_readRange, Cond.selects RX4 yX4_readRange yX4_readRange, Cond.code yX4_readRange cX4_readRange 4 (some .boolean), Cond.methodLink RX4 75 yX4_isRange, Cond.static yX4_isRange, Cond.code yX4_isRange cX4_isRange 2 (some .boolean), Cond.constantLong RX4 48 (5), Cond.constantLong RX4 54 (31), Cond.methodLink RX4 56 yX4_sizeOf, Cond.static yX4_sizeOf, Cond.code yX4_sizeOf cX4_sizeOf 1 (some .int), Cond.methodLink RX4 100 yX4_readOneGrant, Cond.instanceMethod yX4_readOneGrant, Cond.selects RX4 yX4_readOneGrant yX4_readOneGrant, Cond.code yX4_readOneGrant cX4_readOneGrant 4 (some .boolean), Cond.methodLink RX4 89 yX4_addGrant]
def wsL_law_r10 : List Cond := [Cond.static yX4_addGrant, Cond.code yX4_addGrant cX4_addGrant 7 none, Cond.methodLink RX4 103 yX4_readOneRoute, Cond.instanceMethod yX4_readOneRoute, Cond.selects RX4 yX4_readOneRoute yX4_readOneRoute, Cond.code yX4_readOneRoute cX4_readOneRoute 2 (some .boolean), Cond.methodLink RX4 93 yX4_addRoute, Cond.static yX4_addRoute, Cond.code yX4_addRoute cX4_addRoute 5 none, Cond.methodLink RL 27 yX3_tree, Cond.instanceMethod yX3_tree, Cond.selects RX3 yX3_tree yX3_tree, Cond.code yX3_tree cX3_tree 1 (some .int), Cond.fieldLink RX3 69 "RangePapers$Text" "papers" "LRangePapers$Rows;", Cond.fieldLink RX3 73 "RangePapers$Text" "grants" "LRangePapers$Rows;", Cond.fieldLink RX3 76 "RangePapers$Text" "routes" "LRangePapers$Rows;", Cond.fieldLink RX3 83 "RangePapers$Rows" "count" "I", Cond.fieldLink RX3 86 "RangePapers" "keptSlots" "I", Cond.methodLink RX3 70 yX1_copyFrom, Cond.instanceMethod yX1_copyFrom, Cond.selects RX1 yX1_copyFrom yX1_copyFrom, Cond.code yX1_copyFrom cX1_copyFrom 2 none, Cond.methodLink RX3 79 yX0_begin, Cond.instanceMethod yX0_begin]
def wsL_law_r11 : List Cond := [Cond.selects RX0 yX0_begin yX0_begin, Cond.code yX0_begin cX0_begin 3 none, Cond.fieldLink RX0 30 "RangePapers$Books" "revoked" "I", Cond.fieldLink RX0 34 "RangePapers$Books" "aside" "I", Cond.fieldLink RX0 37 "RangePapers$Books" "day" "I", Cond.methodLink RX0 26 yX1_copyFrom, Cond.methodLink RL 30 yX4_tree, Cond.instanceMethod yX4_tree, Cond.selects RX4 yX4_tree yX4_tree, Cond.code yX4_tree cX4_tree 2 (some .int), Cond.fieldLink RX4 117 "RangePapersModel" "acts" "I", Cond.methodLink RX4 113 yX4_copy, Cond.static yX4_copy, Cond.code yX4_copy cX4_copy 3 none, Cond.methodLink RL 31 yX3_about, Cond.instanceMethod yX3_about, Cond.selects RX3 yX3_about yX3_about, Cond.code yX3_about cX3_about 2 (some .int), Cond.fieldLink RX3 89 "RangePapers$Books" "grants" "LRangePapers$Rows;", Cond.fieldLink RX3 90 "RangePapers$Books" "routes" "LRangePapers$Rows;", Cond.fieldLink RX3 91 "RangePapers$Books" "day" "I", Cond.fieldLink RX3 94 "RangePapers$Books" "revoked" "I", Cond.fieldLink RX3 101 "RangePapers$Books" "aside" "I", Cond.methodLink RX3 97 yX0_standing]
def wsL_law_r12 : List Cond := [Cond.instanceMethod yX0_standing, Cond.selects RX0 yX0_standing yX0_standing, Cond.code yX0_standing cX0_standing 5 (some .int), Cond.fieldLink RX0 40 "RangePapers$Rows" "count" "I", Cond.methodLink RX0 43 yX1_at, Cond.instanceMethod yX1_at, Cond.selects RX1 yX1_at yX1_at, Cond.code yX1_at cX1_at 3 (some .int), Cond.static yX3_bit, Cond.code yX3_bit cX3_bit 2 (some .int), Cond.static yX3_isWithin, Cond.code yX3_isWithin cX3_isWithin 2 (some .boolean), Cond.methodLink RX3 104 yX0_countingNow, Cond.instanceMethod yX0_countingNow, Cond.selects RX0 yX0_countingNow yX0_countingNow, Cond.code yX0_countingNow cX0_countingNow 1 (some .int), Cond.methodLink RX0 54 yX0_standing, Cond.methodLink RX0 58 yX0_counting, Cond.instanceMethod yX0_counting, Cond.selects RX0 yX0_counting yX0_counting, Cond.code yX0_counting cX0_counting 5 (some .int), Cond.methodLink RX3 107 yX0_routesThatAre, Cond.instanceMethod yX0_routesThatAre, Cond.selects RX0 yX0_routesThatAre yX0_routesThatAre]
def wsL_law_r13 : List Cond := [Cond.code yX0_routesThatAre cX0_routesThatAre 6 (some .int), Cond.methodLink RX0 61 yX0_stateOf, Cond.instanceMethod yX0_stateOf, Cond.selects RX0 yX0_stateOf yX0_stateOf, Cond.code yX0_stateOf cX0_stateOf 7 (some .int), Cond.methodLink RX3 111 yX0_bare, Cond.instanceMethod yX0_bare, Cond.selects RX0 yX0_bare yX0_bare, Cond.code yX0_bare cX0_bare 4 (some .int), Cond.methodLink RX0 68 yX0_countingNow, Cond.methodLink RX0 72 yJ6_bitCount_0f7a4, Cond.static yJ6_bitCount_0f7a4, Cond.initialized RJ6, Cond.code yJ6_bitCount_0f7a4 cJ6_bitCount_0f7a4 1 (some .int), Cond.constant RJ6 265 (1431655765), Cond.constant RJ6 266 (858993459), Cond.constant RJ6 267 (252645135), Cond.methodLink RL 34 yX4_about, Cond.instanceMethod yX4_about, Cond.selects RX4 yX4_about yX4_about, Cond.code yX4_about cX4_about 2 (some .int), Cond.fieldLink RX4 162 "RangePapersModel" "seen" "I", Cond.methodLink RX4 153 yX4_standing, Cond.instanceMethod yX4_standing]
def wsL_law_r14 : List Cond := [Cond.selects RX4 yX4_standing yX4_standing, Cond.code yX4_standing cX4_standing 3 (some .int), Cond.methodLink RX4 127 yX4_stands, Cond.instanceMethod yX4_stands, Cond.selects RX4 yX4_stands yX4_stands, Cond.code yX4_stands cX4_stands 7 (some .boolean), Cond.methodLink RX4 120 yX4_has, Cond.static yX4_has, Cond.code yX4_has cX4_has 2 (some .boolean), Cond.methodLink RX4 123 yX4_isWithin, Cond.static yX4_isWithin, Cond.code yX4_isWithin cX4_isWithin 4 (some .boolean), Cond.methodLink RX4 156 yX4_those, Cond.instanceMethod yX4_those, Cond.selects RX4 yX4_those yX4_those, Cond.code yX4_those cX4_those 5 (some .int), Cond.methodLink RX4 142 yX4_routeState, Cond.instanceMethod yX4_routeState, Cond.selects RX4 yX4_routeState yX4_routeState, Cond.code yX4_routeState cX4_routeState 4 (some .int), Cond.methodLink RX4 138 yX4_stateOf, Cond.instanceMethod yX4_stateOf, Cond.selects RX4 yX4_stateOf yX4_stateOf, Cond.code yX4_stateOf cX4_stateOf 5 (some .int)]
def wsL_law_r15 : List Cond := [Cond.methodLink RX4 134 yX4_stateBy, Cond.instanceMethod yX4_stateBy, Cond.selects RX4 yX4_stateBy yX4_stateBy, Cond.code yX4_stateBy cX4_stateBy 9 (some .int), Cond.methodLink RX4 131 yX4_counts, Cond.instanceMethod yX4_counts, Cond.selects RX4 yX4_counts yX4_counts, Cond.code yX4_counts cX4_counts 5 (some .boolean), Cond.methodLink RX4 159 yX4_bare, Cond.instanceMethod yX4_bare, Cond.selects RX4 yX4_bare yX4_bare, Cond.code yX4_bare cX4_bare 6 (some .int), Cond.methodLink RL 35 yX3_paper, Cond.instanceMethod yX3_paper, Cond.selects RX3 yX3_paper yX3_paper, Cond.code yX3_paper cX3_paper 3 (some .int), Cond.methodLink RX3 114 yX1_has, Cond.instanceMethod yX1_has, Cond.selects RX1 yX1_has yX1_has, Cond.code yX1_has cX1_has 2 (some .boolean), Cond.methodLink RX3 118 yX1_at, Cond.methodLink RX3 121 yX3_bit, Cond.methodLink RL 39 yX4_paper, Cond.instanceMethod yX4_paper]
def wsL_law_r16 : List Cond := [Cond.selects RX4 yX4_paper yX4_paper, Cond.code yX4_paper cX4_paper 3 (some .int), Cond.methodLink RX4 165 yX4_isPaper, Cond.instanceMethod yX4_isPaper, Cond.selects RX4 yX4_isPaper yX4_isPaper, Cond.code yX4_isPaper cX4_isPaper 2 (some .boolean), Cond.methodLink RL 40 yX3_grant, Cond.instanceMethod yX3_grant, Cond.selects RX3 yX3_grant yX3_grant, Cond.code yX3_grant cX3_grant 3 (some .int), Cond.methodLink RL 43 yX4_grant, Cond.instanceMethod yX4_grant, Cond.selects RX4 yX4_grant yX4_grant, Cond.code yX4_grant cX4_grant 3 (some .int), Cond.constantLong RX4 172 (4), Cond.methodLink RX4 169 yX4_isGrant, Cond.instanceMethod yX4_isGrant, Cond.selects RX4 yX4_isGrant yX4_isGrant, Cond.code yX4_isGrant cX4_isGrant 2 (some .boolean), Cond.methodLink RL 44 yX3_route, Cond.instanceMethod yX3_route, Cond.selects RX3 yX3_route yX3_route, Cond.code yX3_route cX3_route 3 (some .int), Cond.methodLink RX3 124 yX0_stateOf]
def wsL_law_r17 : List Cond := [Cond.methodLink RX3 128 yX0_makerOf, Cond.instanceMethod yX0_makerOf, Cond.selects RX0 yX0_makerOf yX0_makerOf, Cond.code yX0_makerOf cX0_makerOf 5 (some .int), Cond.methodLink RL 47 yX4_route, Cond.instanceMethod yX4_route, Cond.selects RX4 yX4_route yX4_route, Cond.code yX4_route cX4_route 3 (some .int), Cond.constantLong RX4 180 (2), Cond.methodLink RX4 174 yX4_isRoute, Cond.instanceMethod yX4_isRoute, Cond.selects RX4 yX4_isRoute yX4_isRoute, Cond.code yX4_isRoute cX4_isRoute 2 (some .boolean), Cond.methodLink RX4 177 yX4_makerOf, Cond.instanceMethod yX4_makerOf, Cond.selects RX4 yX4_makerOf yX4_makerOf, Cond.code yX4_makerOf cX4_makerOf 6 (some .int), Cond.methodLink RL 48 yX3_announce, Cond.instanceMethod yX3_announce, Cond.selects RX3 yX3_announce yX3_announce, Cond.code yX3_announce cX3_announce 5 (some .int), Cond.methodLink RX3 131 yX3_isRange, Cond.static yX3_isRange, Cond.code yX3_isRange cX3_isRange 2 (some .boolean)]
def wsL_law_r18 : List Cond := [Cond.methodLink RX3 154 yX3_isPlace, Cond.static yX3_isPlace, Cond.code yX3_isPlace cX3_isPlace 1 (some .boolean), Cond.methodLink RX3 166 yX3_leftBySize, Cond.methodLink RX3 135 yX3_isOrigin, Cond.static yX3_isOrigin, Cond.code yX3_isOrigin cX3_isOrigin 1 (some .boolean), Cond.methodLink RX3 138 yX3_remember, Cond.instanceMethod yX3_remember, Cond.selects RX3 yX3_remember yX3_remember, Cond.code yX3_remember cX3_remember 4 (some .int), Cond.methodLink RX3 145 yX1_closeAt, Cond.instanceMethod yX1_closeAt, Cond.selects RX1 yX1_closeAt yX1_closeAt, Cond.code yX1_closeAt cX1_closeAt 2 none, Cond.methodLink RX3 214 yX1_openAt, Cond.methodLink RX3 179 yX1_put, Cond.methodLink RL 52 yX4_announce, Cond.instanceMethod yX4_announce, Cond.selects RX4 yX4_announce yX4_announce, Cond.code yX4_announce cX4_announce 4 (some .int), Cond.methodLink RX4 185 yX4_isOrigin, Cond.static yX4_isOrigin, Cond.code yX4_isOrigin cX4_isOrigin 1 (some .boolean)]
def wsL_law_r19 : List Cond := [Cond.methodLink RX4 188 yX4_note, Cond.instanceMethod yX4_note, Cond.selects RX4 yX4_note yX4_note, Cond.code yX4_note cX4_note 2 none, Cond.fieldLink RX4 182 "RangePapersModel" "next" "I", Cond.methodLink RL 53 yX3_withdraw, Cond.instanceMethod yX3_withdraw, Cond.selects RX3 yX3_withdraw yX3_withdraw, Cond.code yX3_withdraw cX3_withdraw 2 (some .int), Cond.methodLink RX3 141 yX3_rememberRow, Cond.instanceMethod yX3_rememberRow, Cond.selects RX3 yX3_rememberRow yX3_rememberRow, Cond.code yX3_rememberRow cX3_rememberRow 6 none, Cond.fieldLink RX3 217 "RangePapers$Rows" "width" "I", Cond.methodLink RL 56 yX4_withdraw, Cond.instanceMethod yX4_withdraw, Cond.selects RX4 yX4_withdraw yX4_withdraw, Cond.code yX4_withdraw cX4_withdraw 2 (some .int), Cond.methodLink RX4 191 yX4_takeRoute, Cond.static yX4_takeRoute, Cond.code yX4_takeRoute cX4_takeRoute 3 none, Cond.methodLink RL 57 yX3_allow, Cond.instanceMethod yX3_allow, Cond.selects RX3 yX3_allow yX3_allow]
def wsL_law_r20 : List Cond := [Cond.code yX3_allow cX3_allow 7 (some .int), Cond.methodLink RL 61 yX4_allow, Cond.instanceMethod yX4_allow, Cond.selects RX4 yX4_allow yX4_allow, Cond.code yX4_allow cX4_allow 6 (some .int), Cond.methodLink RL 62 yX3_tear, Cond.instanceMethod yX3_tear, Cond.selects RX3 yX3_tear yX3_tear, Cond.code yX3_tear cX3_tear 2 (some .int), Cond.methodLink RL 65 yX4_tear, Cond.instanceMethod yX4_tear, Cond.selects RX4 yX4_tear yX4_tear, Cond.code yX4_tear cX4_tear 2 (some .int), Cond.methodLink RX4 195 yX4_takeGrant, Cond.static yX4_takeGrant, Cond.code yX4_takeGrant cX4_takeGrant 3 none, Cond.methodLink RL 66 yX3_revoke, Cond.instanceMethod yX3_revoke, Cond.selects RX3 yX3_revoke yX3_revoke, Cond.code yX3_revoke cX3_revoke 2 (some .int), Cond.methodLink RL 69 yX4_revoke, Cond.instanceMethod yX4_revoke, Cond.selects RX4 yX4_revoke yX4_revoke, Cond.code yX4_revoke cX4_revoke 2 (some .int)]
def wsL_law_r21 : List Cond := [Cond.methodLink RL 70 yX3_night, Cond.instanceMethod yX3_night, Cond.selects RX3 yX3_night yX3_night, Cond.code yX3_night cX3_night 1 (some .int), Cond.methodLink RL 73 yX4_night, Cond.instanceMethod yX4_night, Cond.selects RX4 yX4_night yX4_night, Cond.code yX4_night cX4_night 1 (some .int), Cond.methodLink RL 74 yX3_setAside, Cond.instanceMethod yX3_setAside, Cond.selects RX3 yX3_setAside yX3_setAside, Cond.code yX3_setAside cX3_setAside 2 (some .int), Cond.methodLink RL 77 yX4_setAside, Cond.instanceMethod yX4_setAside, Cond.selects RX4 yX4_setAside yX4_setAside, Cond.code yX4_setAside cX4_setAside 2 (some .int), Cond.methodLink RL 78 yX3_undo, Cond.instanceMethod yX3_undo, Cond.selects RX3 yX3_undo yX3_undo, Cond.code yX3_undo cX3_undo 2 (some .int), Cond.methodLink RX3 148 yX3_takeBack, Cond.instanceMethod yX3_takeBack, Cond.selects RX3 yX3_takeBack yX3_takeBack, Cond.code yX3_takeBack cX3_takeBack 3 none]
def wsL_law_r22 : List Cond := [Cond.methodLink RX3 220 yX3_putBack, Cond.instanceMethod yX3_putBack, Cond.selects RX3 yX3_putBack yX3_putBack, Cond.code yX3_putBack cX3_putBack 5 none, Cond.methodLink RL 81 yX4_undo, Cond.instanceMethod yX4_undo, Cond.selects RX4 yX4_undo yX4_undo, Cond.code yX4_undo cX4_undo 2 (some .int), Cond.methodLink RL 82 yX3_state, Cond.instanceMethod yX3_state, Cond.selects RX3 yX3_state yX3_state, Cond.code yX3_state cX3_state 4 (some .int), Cond.methodLink RX3 151 yX3_coverOf, Cond.methodLink RL 85 yX4_state, Cond.instanceMethod yX4_state, Cond.selects RX4 yX4_state yX4_state, Cond.code yX4_state cX4_state 4 (some .int), Cond.methodLink RL 86 yX3_goes, Cond.instanceMethod yX3_goes, Cond.selects RX3 yX3_goes yX3_goes, Cond.code yX3_goes cX3_goes 3 (some .int), Cond.methodLink RX3 157 yX3_isLaw, Cond.static yX3_isLaw, Cond.code yX3_isLaw cX3_isLaw 1 (some .boolean)]
def wsL_law_r23 : List Cond := [Cond.methodLink RX3 160 yX0_routeTo, Cond.instanceMethod yX0_routeTo, Cond.selects RX0 yX0_routeTo yX0_routeTo, Cond.code yX0_routeTo cX0_routeTo 6 (some .int), Cond.methodLink RX0 80 yX0_letIn, Cond.instanceMethod yX0_letIn, Cond.selects RX0 yX0_letIn yX0_letIn, Cond.code yX0_letIn cX0_letIn 6 (some .int), Cond.methodLink RX0 65 yX0_routesThatAre, Cond.methodLink RX0 77 yX0_apartFrom, Cond.instanceMethod yX0_apartFrom, Cond.selects RX0 yX0_apartFrom yX0_apartFrom, Cond.code yX0_apartFrom cX0_apartFrom 6 (some .int), Cond.methodLink RL 89 yX4_goes, Cond.instanceMethod yX4_goes, Cond.selects RX4 yX4_goes yX4_goes, Cond.code yX4_goes cX4_goes 3 (some .int), Cond.methodLink RX4 200 yX4_isLaw, Cond.static yX4_isLaw, Cond.code yX4_isLaw cX4_isLaw 1 (some .boolean), Cond.constantLong RX4 198 (3), Cond.methodLink RX4 203 yX4_goesOf, Cond.instanceMethod yX4_goesOf, Cond.selects RX4 yX4_goesOf yX4_goesOf]
def wsL_law_r24 : List Cond := [Cond.code yX4_goesOf cX4_goesOf 8 (some .int), Cond.methodLink RX4 150 yX4_isIn, Cond.instanceMethod yX4_isIn, Cond.selects RX4 yX4_isIn yX4_isIn, Cond.code yX4_isIn cX4_isIn 7 (some .boolean), Cond.methodLink RX4 146 yX4_meet, Cond.static yX4_meet, Cond.code yX4_meet cX4_meet 5 (some .boolean), Cond.methodLink RL 90 yX3_theft, Cond.instanceMethod yX3_theft, Cond.selects RX3 yX3_theft yX3_theft, Cond.code yX3_theft cX3_theft 7 (some .int), Cond.methodLink RX3 163 yX0_copyFrom, Cond.instanceMethod yX0_copyFrom, Cond.selects RX0 yX0_copyFrom yX0_copyFrom, Cond.code yX0_copyFrom cX0_copyFrom 2 none, Cond.methodLink RL 93 yX4_theft, Cond.instanceMethod yX4_theft, Cond.selects RX4 yX4_theft yX4_theft, Cond.code yX4_theft cX4_theft 5 (some .int), Cond.methodLink RL 94 yX3_lost, Cond.instanceMethod yX3_lost, Cond.selects RX3 yX3_lost yX3_lost, Cond.code yX3_lost cX3_lost 3 (some .int)]
def wsL_law_r25 : List Cond := [Cond.methodLink RX3 169 yX0_counting, Cond.methodLink RL 97 yX4_lost, Cond.instanceMethod yX4_lost, Cond.selects RX4 yX4_lost yX4_lost, Cond.code yX4_lost cX4_lost 2 (some .int), Cond.methodLink RL 100 yX3_judge, Cond.instanceMethod yX3_judge, Cond.selects RX3 yX3_judge yX3_judge, Cond.code yX3_judge cX3_judge 5 (some .int), Cond.methodLink RX3 172 yX3_splitDoings, Cond.instanceMethod yX3_splitDoings, Cond.selects RX3 yX3_splitDoings yX3_splitDoings, Cond.code yX3_splitDoings cX3_splitDoings 7 (some .boolean), Cond.methodLink RX3 223 Lib.Math.min.name, Cond.static Lib.Math.min.name, Cond.code Lib.Math.min.name Lib.Math.min.code 2 (some .int), Cond.constantLong RX3 228 (10000), Cond.methodLink RX3 176 yX0_canBe, Cond.instanceMethod yX0_canBe, Cond.selects RX0 yX0_canBe yX0_canBe, Cond.code yX0_canBe cX0_canBe 5 (some .boolean), Cond.methodLink RX0 83 yX0_canRevoke, Cond.instanceMethod yX0_canRevoke, Cond.selects RX0 yX0_canRevoke yX0_canRevoke]
def wsL_law_r26 : List Cond := [Cond.code yX0_canRevoke cX0_canRevoke 2 (some .boolean), Cond.methodLink RX0 94 yX1_has, Cond.methodLink RX0 87 yX0_canPassNight, Cond.instanceMethod yX0_canPassNight, Cond.selects RX0 yX0_canPassNight yX0_canPassNight, Cond.code yX0_canPassNight cX0_canPassNight 1 (some .boolean), Cond.methodLink RX0 91 yX0_canSetAside, Cond.instanceMethod yX0_canSetAside, Cond.selects RX0 yX0_canSetAside yX0_canSetAside, Cond.code yX0_canSetAside cX0_canSetAside 2 (some .boolean), Cond.methodLink RX0 103 yX0_routeTo, Cond.methodLink RX0 106 yX0_canWithdraw, Cond.instanceMethod yX0_canWithdraw, Cond.selects RX0 yX0_canWithdraw yX0_canWithdraw, Cond.code yX0_canWithdraw cX0_canWithdraw 2 (some .boolean), Cond.methodLink RX0 112 yX1_closeAt, Cond.methodLink RL 104 yX4_judge, Cond.instanceMethod yX4_judge, Cond.selects RX4 yX4_judge yX4_judge, Cond.code yX4_judge cX4_judge 6 (some .int), Cond.constantLong RX4 207 (10000), Cond.methodLink RX4 209 yX4_tenThousands, Cond.static yX4_tenThousands, Cond.code yX4_tenThousands cX4_tenThousands 4 (some .long)]
def wsL_law_r27 : List Cond := [Cond.methodLink RX4 213 yX4_judged, Cond.instanceMethod yX4_judged, Cond.selects RX4 yX4_judged yX4_judged, Cond.code yX4_judged cX4_judged 6 (some .boolean), Cond.methodLink RL 105 yX3_see, Cond.instanceMethod yX3_see, Cond.selects RX3 yX3_see yX3_see, Cond.code yX3_see cX3_see 5 (some .int), Cond.methodLink RL 109 yX4_see, Cond.instanceMethod yX4_see, Cond.selects RX4 yX4_see yX4_see, Cond.code yX4_see cX4_see 5 (some .int), Cond.methodLink RL 110 yX3_unsee, Cond.instanceMethod yX3_unsee, Cond.selects RX3 yX3_unsee yX3_unsee, Cond.code yX3_unsee cX3_unsee 2 (some .int), Cond.methodLink RL 113 yX4_unsee, Cond.instanceMethod yX4_unsee, Cond.selects RX4 yX4_unsee yX4_unsee, Cond.code yX4_unsee cX4_unsee 2 (some .int), Cond.methodLink RL 114 yX3_which, Cond.instanceMethod yX3_which, Cond.selects RX3 yX3_which yX3_which, Cond.code yX3_which cX3_which 4 (some .int)]
def wsL_law_r28 : List Cond := [Cond.methodLink RX3 183 yX0_agreesWith, Cond.instanceMethod yX0_agreesWith, Cond.selects RX0 yX0_agreesWith yX0_agreesWith, Cond.code yX0_agreesWith cX0_agreesWith 5 (some .boolean), Cond.methodLink RL 117 yX4_which, Cond.instanceMethod yX4_which, Cond.selects RX4 yX4_which yX4_which, Cond.code yX4_which cX4_which 6 (some .int), Cond.methodLink RL 118 yX3_share, Cond.instanceMethod yX3_share, Cond.selects RX3 yX3_share yX3_share, Cond.code yX3_share cX3_share 8 (some .int), Cond.methodLink RX3 187 yX0_grantsThatMakeRight, Cond.instanceMethod yX0_grantsThatMakeRight, Cond.selects RX0 yX0_grantsThatMakeRight yX0_grantsThatMakeRight, Cond.code yX0_grantsThatMakeRight cX0_grantsThatMakeRight 6 (some .int), Cond.methodLink RX3 190 yJ6_bitCount_0f7a4, Cond.methodLink RX3 195 yX3_fraction, Cond.static yX3_fraction, Cond.code yX3_fraction cX3_fraction 7 (some .int), Cond.methodLink RL 122 yX4_share, Cond.instanceMethod yX4_share, Cond.selects RX4 yX4_share yX4_share, Cond.code yX4_share cX4_share 7 (some .int)]
def wsL_law_r29 : List Cond := [Cond.methodLink RX4 216 yX4_rightBy, Cond.instanceMethod yX4_rightBy, Cond.selects RX4 yX4_rightBy yX4_rightBy, Cond.code yX4_rightBy cX4_rightBy 5 (some .int), Cond.methodLink RX4 219 yX4_ones, Cond.static yX4_ones, Cond.code yX4_ones cX4_ones 3 (some .int), Cond.methodLink RX4 222 yX4_factorial, Cond.static yX4_factorial, Cond.code yX4_factorial cX4_factorial 3 (some .int), Cond.methodLink RX4 225 yX4_fraction, Cond.static yX4_fraction, Cond.code yX4_fraction cX4_fraction 6 (some .int), Cond.methodLink RL 123 yX3_chance, Cond.instanceMethod yX3_chance, Cond.selects RX3 yX3_chance yX3_chance, Cond.code yX3_chance cX3_chance 10 (some .int), Cond.methodLink RX3 199 yX3_weightOf, Cond.instanceMethod yX3_weightOf, Cond.selects RX3 yX3_weightOf yX3_weightOf, Cond.code yX3_weightOf cX3_weightOf 5 (some .int), Cond.methodLink RL 127 yX4_chance, Cond.instanceMethod yX4_chance, Cond.selects RX4 yX4_chance yX4_chance]
def wsL_law_r30 : List Cond := [Cond.code yX4_chance cX4_chance 8 (some .int), Cond.constantLong RX4 229 (6), Cond.constantLong RX4 231 (10), Cond.methodLink RX4 233 yX4_power, Cond.static yX4_power, Cond.code yX4_power cX4_power 4 (some .int), Cond.methodLink RL 128 yX3_seed, Cond.instanceMethod yX3_seed, Cond.selects RX3 yX3_seed yX3_seed, Cond.code yX3_seed cX3_seed 5 (some .long), Cond.fieldLink RX3 202 "RangePapers" "seedNow" "J", Cond.methodLink RL 132 yX4_seed, Cond.instanceMethod yX4_seed, Cond.selects RX4 yX4_seed yX4_seed, Cond.code yX4_seed cX4_seed 5 (some .long), Cond.fieldLink RX4 236 "RangePapersModel" "seed" "J", Cond.methodLink RL 133 yX3_drawn, Cond.instanceMethod yX3_drawn, Cond.selects RX3 yX3_drawn yX3_drawn, Cond.code yX3_drawn cX3_drawn 9 (some .int), Cond.constantLong RX3 206 (6364136223846793005), Cond.constantLong RX3 208 (1442695040888963407), Cond.methodLink RL 136 yX4_drawn, Cond.instanceMethod yX4_drawn]
def wsL_law_r31 : List Cond := [Cond.selects RX4 yX4_drawn yX4_drawn, Cond.code yX4_drawn cX4_drawn 7 (some .int), Cond.constantLong RX4 240 (40), Cond.constantLong RX4 242 (6364136223846793005), Cond.constantLong RX4 244 (1442695040888963407), Cond.methodLink RL 137 yX3_keep, Cond.instanceMethod yX3_keep, Cond.selects RX3 yX3_keep yX3_keep, Cond.code yX3_keep cX3_keep 2 (some .int), Cond.methodLink RX3 210 yX3_slotBooks, Cond.instanceMethod yX3_slotBooks, Cond.selects RX3 yX3_slotBooks yX3_slotBooks, Cond.code yX3_slotBooks cX3_slotBooks 2 (some (.object "RangePapers$Books")), Cond.methodLink RL 140 yX4_keep, Cond.instanceMethod yX4_keep, Cond.selects RX4 yX4_keep yX4_keep, Cond.code yX4_keep cX4_keep 3 (some .int), Cond.methodLink RL 141 yX3_again, Cond.instanceMethod yX3_again, Cond.selects RX3 yX3_again yX3_again, Cond.code yX3_again cX3_again 2 (some .int), Cond.methodLink RL 144 yX4_again, Cond.instanceMethod yX4_again, Cond.selects RX4 yX4_again yX4_again]
def wsL_law_r32 : List Cond := [Cond.code yX4_again cX4_again 3 (some .int)]
def wsL_law : List Cond := (wsL_law_r1 ++ (wsL_law_r2 ++ (wsL_law_r3 ++ (wsL_law_r4 ++ (wsL_law_r5 ++ (wsL_law_r6 ++ (wsL_law_r7 ++ (wsL_law_r8 ++ (wsL_law_r9 ++ (wsL_law_r10 ++ (wsL_law_r11 ++ (wsL_law_r12 ++ (wsL_law_r13 ++ (wsL_law_r14 ++ (wsL_law_r15 ++ (wsL_law_r16 ++ (wsL_law_r17 ++ (wsL_law_r18 ++ (wsL_law_r19 ++ (wsL_law_r20 ++ (wsL_law_r21 ++ (wsL_law_r22 ++ (wsL_law_r23 ++ (wsL_law_r24 ++ (wsL_law_r25 ++ (wsL_law_r26 ++ (wsL_law_r27 ++ (wsL_law_r28 ++ (wsL_law_r29 ++ (wsL_law_r30 ++ (wsL_law_r31 ++ wsL_law_r32))))))))))))))))))))))))))))))) ++ wsX30 ++ wsX40 ++ wsX10 ++ wsX00 ++ wsX20 ++ ([] : List Cond)
abbrev vwCl : List vw_C := [(RX0, TX0, 6), (RX1, TX1, 4), (RX2, TX2, 7), (RX3, TX3, 11), (RX4, TX4, 21)]
end
section
theorem dX0_init_0 : decode cX0_init 0 = .ok (.aload_n 0, 1) := by decide +kernel
theorem dX0_init_1 : decode cX0_init 1 = .ok (.invokespecial 3, 3) := by decide +kernel
theorem dX0_init_4 : decode cX0_init 4 = .ok (.aload_n 0, 1) := by decide +kernel
theorem dX0_init_5 : decode cX0_init 5 = .ok (.new 9, 3) := by decide +kernel
theorem dX0_init_8 : decode cX0_init 8 = .ok (.dup, 1) := by decide +kernel
theorem dX0_init_9 : decode cX0_init 9 = .ok (.bipush 8, 2) := by decide +kernel
theorem dX0_init_11 : decode cX0_init 11 = .ok (.bipush 6, 2) := by decide +kernel
theorem dX0_init_13 : decode cX0_init 13 = .ok (.invokespecial 11, 3) := by decide +kernel
theorem dX0_init_16 : decode cX0_init 16 = .ok (.putfield 14, 3) := by decide +kernel
theorem dX0_init_19 : decode cX0_init 19 = .ok (.aload_n 0, 1) := by decide +kernel
theorem dX0_init_20 : decode cX0_init 20 = .ok (.new 9, 3) := by decide +kernel
theorem dX0_init_23 : decode cX0_init 23 = .ok (.dup, 1) := by decide +kernel
theorem dX0_init_24 : decode cX0_init 24 = .ok (.bipush 7, 2) := by decide +kernel
theorem dX0_init_26 : decode cX0_init 26 = .ok (.iconst 4, 1) := by decide +kernel
theorem dX0_init_27 : decode cX0_init 27 = .ok (.invokespecial 11, 3) := by decide +kernel
theorem dX0_init_30 : decode cX0_init 30 = .ok (.putfield 20, 3) := by decide +kernel
theorem dX0_init_33 : decode cX0_init 33 = .ok (.aload_n 0, 1) := by decide +kernel
theorem dX0_init_34 : decode cX0_init 34 = .ok (.aload_n 1, 1) := by decide +kernel
theorem dX0_init_35 : decode cX0_init 35 = .ok (.putfield 23, 3) := by decide +kernel
theorem dX0_init_38 : decode cX0_init 38 = .ok (.return_, 1) := by decide +kernel
theorem dX0_begin_0 : decode cX0_begin 0 = .ok (.aload_n 0, 1) := by decide +kernel
theorem dX0_begin_1 : decode cX0_begin 1 = .ok (.getfield 14, 3) := by decide +kernel
theorem dX0_begin_4 : decode cX0_begin 4 = .ok (.aload_n 1, 1) := by decide +kernel
theorem dX0_begin_5 : decode cX0_begin 5 = .ok (.invokevirtual 26, 3) := by decide +kernel
theorem dX0_begin_8 : decode cX0_begin 8 = .ok (.aload_n 0, 1) := by decide +kernel
theorem dX0_begin_9 : decode cX0_begin 9 = .ok (.getfield 20, 3) := by decide +kernel
theorem dX0_begin_12 : decode cX0_begin 12 = .ok (.aload_n 2, 1) := by decide +kernel
theorem dX0_begin_13 : decode cX0_begin 13 = .ok (.invokevirtual 26, 3) := by decide +kernel
theorem dX0_begin_16 : decode cX0_begin 16 = .ok (.aload_n 0, 1) := by decide +kernel
theorem dX0_begin_17 : decode cX0_begin 17 = .ok (.iconst 0, 1) := by decide +kernel
theorem dX0_begin_18 : decode cX0_begin 18 = .ok (.putfield 30, 3) := by decide +kernel
theorem dX0_begin_21 : decode cX0_begin 21 = .ok (.aload_n 0, 1) := by decide +kernel
theorem dX0_begin_22 : decode cX0_begin 22 = .ok (.iconst 0, 1) := by decide +kernel
theorem dX0_begin_23 : decode cX0_begin 23 = .ok (.putfield 34, 3) := by decide +kernel
theorem dX0_begin_26 : decode cX0_begin 26 = .ok (.aload_n 0, 1) := by decide +kernel
theorem dX0_begin_27 : decode cX0_begin 27 = .ok (.iconst 0, 1) := by decide +kernel
theorem dX0_begin_28 : decode cX0_begin 28 = .ok (.putfield 37, 3) := by decide +kernel
theorem dX0_begin_31 : decode cX0_begin 31 = .ok (.return_, 1) := by decide +kernel
theorem dX0_copyFrom_0 : decode cX0_copyFrom 0 = .ok (.aload_n 0, 1) := by decide +kernel
theorem dX0_copyFrom_1 : decode cX0_copyFrom 1 = .ok (.getfield 14, 3) := by decide +kernel
theorem dX0_copyFrom_4 : decode cX0_copyFrom 4 = .ok (.aload_n 1, 1) := by decide +kernel
theorem dX0_copyFrom_5 : decode cX0_copyFrom 5 = .ok (.getfield 14, 3) := by decide +kernel
theorem dX0_copyFrom_8 : decode cX0_copyFrom 8 = .ok (.invokevirtual 26, 3) := by decide +kernel
theorem dX0_copyFrom_11 : decode cX0_copyFrom 11 = .ok (.aload_n 0, 1) := by decide +kernel
theorem dX0_copyFrom_12 : decode cX0_copyFrom 12 = .ok (.getfield 20, 3) := by decide +kernel
theorem dX0_copyFrom_15 : decode cX0_copyFrom 15 = .ok (.aload_n 1, 1) := by decide +kernel
theorem dX0_copyFrom_16 : decode cX0_copyFrom 16 = .ok (.getfield 20, 3) := by decide +kernel
theorem dX0_copyFrom_19 : decode cX0_copyFrom 19 = .ok (.invokevirtual 26, 3) := by decide +kernel
theorem dX0_copyFrom_22 : decode cX0_copyFrom 22 = .ok (.aload_n 0, 1) := by decide +kernel
theorem dX0_copyFrom_23 : decode cX0_copyFrom 23 = .ok (.aload_n 1, 1) := by decide +kernel
theorem dX0_copyFrom_24 : decode cX0_copyFrom 24 = .ok (.getfield 30, 3) := by decide +kernel
theorem dX0_copyFrom_27 : decode cX0_copyFrom 27 = .ok (.putfield 30, 3) := by decide +kernel
theorem dX0_copyFrom_30 : decode cX0_copyFrom 30 = .ok (.aload_n 0, 1) := by decide +kernel
theorem dX0_copyFrom_31 : decode cX0_copyFrom 31 = .ok (.aload_n 1, 1) := by decide +kernel
theorem dX0_copyFrom_32 : decode cX0_copyFrom 32 = .ok (.getfield 34, 3) := by decide +kernel
theorem dX0_copyFrom_35 : decode cX0_copyFrom 35 = .ok (.putfield 34, 3) := by decide +kernel
theorem dX0_copyFrom_38 : decode cX0_copyFrom 38 = .ok (.aload_n 0, 1) := by decide +kernel
theorem dX0_copyFrom_39 : decode cX0_copyFrom 39 = .ok (.aload_n 1, 1) := by decide +kernel
theorem dX0_copyFrom_40 : decode cX0_copyFrom 40 = .ok (.getfield 37, 3) := by decide +kernel
theorem dX0_copyFrom_43 : decode cX0_copyFrom 43 = .ok (.putfield 37, 3) := by decide +kernel
theorem dX0_copyFrom_46 : decode cX0_copyFrom 46 = .ok (.return_, 1) := by decide +kernel
theorem dX0_standing_0 : decode cX0_standing 0 = .ok (.iconst 1, 1) := by decide +kernel
theorem dX0_standing_1 : decode cX0_standing 1 = .ok (.istore_n 2, 1) := by decide +kernel
theorem dX0_standing_2 : decode cX0_standing 2 = .ok (.iconst 1, 1) := by decide +kernel
theorem dX0_standing_3 : decode cX0_standing 3 = .ok (.istore_n 3, 1) := by decide +kernel
theorem dX0_standing_4 : decode cX0_standing 4 = .ok (.iload_n 3, 1) := by decide +kernel
theorem dX0_standing_5 : decode cX0_standing 5 = .ok (.aload_n 0, 1) := by decide +kernel
theorem dX0_standing_6 : decode cX0_standing 6 = .ok (.getfield 23, 3) := by decide +kernel
theorem dX0_standing_9 : decode cX0_standing 9 = .ok (.getfield 40, 3) := by decide +kernel
theorem dX0_standing_12 : decode cX0_standing 12 = .ok (.if_icmp .ge 85, 3) := by decide +kernel
theorem dX0_standing_15 : decode cX0_standing 15 = .ok (.aload_n 0, 1) := by decide +kernel
theorem dX0_standing_16 : decode cX0_standing 16 = .ok (.getfield 23, 3) := by decide +kernel
theorem dX0_standing_19 : decode cX0_standing 19 = .ok (.iload_n 3, 1) := by decide +kernel
theorem dX0_standing_20 : decode cX0_standing 20 = .ok (.iconst 3, 1) := by decide +kernel
theorem dX0_standing_21 : decode cX0_standing 21 = .ok (.invokevirtual 43, 3) := by decide +kernel
theorem dX0_standing_24 : decode cX0_standing 24 = .ok (.istore 4, 2) := by decide +kernel
theorem dX0_standing_26 : decode cX0_standing 26 = .ok (.iload_n 1, 1) := by decide +kernel
theorem dX0_standing_27 : decode cX0_standing 27 = .ok (.iload_n 3, 1) := by decide +kernel
theorem dX0_standing_28 : decode cX0_standing 28 = .ok (.invokestatic 47, 3) := by decide +kernel
theorem dX0_standing_31 : decode cX0_standing 31 = .ok (.ifCond .ne 60, 3) := by decide +kernel
theorem dX0_standing_34 : decode cX0_standing 34 = .ok (.aload_n 0, 1) := by decide +kernel
theorem dX0_standing_35 : decode cX0_standing 35 = .ok (.getfield 37, 3) := by decide +kernel
theorem dX0_standing_38 : decode cX0_standing 38 = .ok (.aload_n 0, 1) := by decide +kernel
theorem dX0_standing_39 : decode cX0_standing 39 = .ok (.getfield 23, 3) := by decide +kernel
theorem dX0_standing_42 : decode cX0_standing 42 = .ok (.iload_n 3, 1) := by decide +kernel
theorem dX0_standing_43 : decode cX0_standing 43 = .ok (.iconst 4, 1) := by decide +kernel
theorem dX0_standing_44 : decode cX0_standing 44 = .ok (.invokevirtual 43, 3) := by decide +kernel
theorem dX0_standing_47 : decode cX0_standing 47 = .ok (.if_icmp .gt 44, 3) := by decide +kernel
theorem dX0_standing_50 : decode cX0_standing 50 = .ok (.iload_n 2, 1) := by decide +kernel
theorem dX0_standing_51 : decode cX0_standing 51 = .ok (.iload 4, 2) := by decide +kernel
theorem dX0_standing_53 : decode cX0_standing 53 = .ok (.invokestatic 47, 3) := by decide +kernel
theorem dX0_standing_56 : decode cX0_standing 56 = .ok (.iconst 1, 1) := by decide +kernel
theorem dX0_standing_57 : decode cX0_standing 57 = .ok (.if_icmp .ne 34, 3) := by decide +kernel
theorem dX0_standing_60 : decode cX0_standing 60 = .ok (.aload_n 0, 1) := by decide +kernel
theorem dX0_standing_61 : decode cX0_standing 61 = .ok (.getfield 23, 3) := by decide +kernel
theorem dX0_standing_64 : decode cX0_standing 64 = .ok (.iload_n 3, 1) := by decide +kernel
theorem dX0_standing_65 : decode cX0_standing 65 = .ok (.iconst 2, 1) := by decide +kernel
theorem dX0_standing_66 : decode cX0_standing 66 = .ok (.invokevirtual 43, 3) := by decide +kernel
theorem dX0_standing_69 : decode cX0_standing 69 = .ok (.aload_n 0, 1) := by decide +kernel
theorem dX0_standing_70 : decode cX0_standing 70 = .ok (.getfield 23, 3) := by decide +kernel
theorem dX0_standing_73 : decode cX0_standing 73 = .ok (.iload 4, 2) := by decide +kernel
theorem dX0_standing_75 : decode cX0_standing 75 = .ok (.iconst 2, 1) := by decide +kernel
theorem dX0_standing_76 : decode cX0_standing 76 = .ok (.invokevirtual 43, 3) := by decide +kernel
theorem dX0_standing_79 : decode cX0_standing 79 = .ok (.invokestatic 50, 3) := by decide +kernel
theorem dX0_standing_82 : decode cX0_standing 82 = .ok (.ifCond .eq 9, 3) := by decide +kernel
theorem dX0_standing_85 : decode cX0_standing 85 = .ok (.iload_n 2, 1) := by decide +kernel
theorem dX0_standing_86 : decode cX0_standing 86 = .ok (.iconst 1, 1) := by decide +kernel
theorem dX0_standing_87 : decode cX0_standing 87 = .ok (.iload_n 3, 1) := by decide +kernel
theorem dX0_standing_88 : decode cX0_standing 88 = .ok (.ishl, 1) := by decide +kernel
theorem dX0_standing_89 : decode cX0_standing 89 = .ok (.ior, 1) := by decide +kernel
theorem dX0_standing_90 : decode cX0_standing 90 = .ok (.istore_n 2, 1) := by decide +kernel
theorem dX0_standing_91 : decode cX0_standing 91 = .ok (.iinc 3 1, 3) := by decide +kernel
theorem dX0_standing_94 : decode cX0_standing 94 = .ok (.goto (-90), 3) := by decide +kernel
theorem dX0_standing_97 : decode cX0_standing 97 = .ok (.iload_n 2, 1) := by decide +kernel
theorem dX0_standing_98 : decode cX0_standing 98 = .ok (.ireturn, 1) := by decide +kernel
theorem dX0_counting_0 : decode cX0_counting 0 = .ok (.iconst 0, 1) := by decide +kernel
theorem dX0_counting_1 : decode cX0_counting 1 = .ok (.istore_n 2, 1) := by decide +kernel
theorem dX0_counting_2 : decode cX0_counting 2 = .ok (.iconst 0, 1) := by decide +kernel
theorem dX0_counting_3 : decode cX0_counting 3 = .ok (.istore_n 3, 1) := by decide +kernel
theorem dX0_counting_4 : decode cX0_counting 4 = .ok (.iload_n 3, 1) := by decide +kernel
theorem dX0_counting_5 : decode cX0_counting 5 = .ok (.aload_n 0, 1) := by decide +kernel
theorem dX0_counting_6 : decode cX0_counting 6 = .ok (.getfield 14, 3) := by decide +kernel
theorem dX0_counting_9 : decode cX0_counting 9 = .ok (.getfield 40, 3) := by decide +kernel
theorem dX0_counting_12 : decode cX0_counting 12 = .ok (.if_icmp .ge 87, 3) := by decide +kernel
theorem dX0_counting_15 : decode cX0_counting 15 = .ok (.aload_n 0, 1) := by decide +kernel
theorem dX0_counting_16 : decode cX0_counting 16 = .ok (.getfield 14, 3) := by decide +kernel
theorem dX0_counting_19 : decode cX0_counting 19 = .ok (.iload_n 3, 1) := by decide +kernel
theorem dX0_counting_20 : decode cX0_counting 20 = .ok (.iconst 4, 1) := by decide +kernel
theorem dX0_counting_21 : decode cX0_counting 21 = .ok (.invokevirtual 43, 3) := by decide +kernel
theorem dX0_counting_24 : decode cX0_counting 24 = .ok (.istore 4, 2) := by decide +kernel
theorem dX0_counting_26 : decode cX0_counting 26 = .ok (.iload 4, 2) := by decide +kernel
theorem dX0_counting_28 : decode cX0_counting 28 = .ok (.bipush 9, 2) := by decide +kernel
theorem dX0_counting_30 : decode cX0_counting 30 = .ok (.if_icmp .eq 57, 3) := by decide +kernel
theorem dX0_counting_33 : decode cX0_counting 33 = .ok (.iload_n 1, 1) := by decide +kernel
theorem dX0_counting_34 : decode cX0_counting 34 = .ok (.iload 4, 2) := by decide +kernel
theorem dX0_counting_36 : decode cX0_counting 36 = .ok (.invokestatic 47, 3) := by decide +kernel
theorem dX0_counting_39 : decode cX0_counting 39 = .ok (.iconst 1, 1) := by decide +kernel
theorem dX0_counting_40 : decode cX0_counting 40 = .ok (.if_icmp .ne 53, 3) := by decide +kernel
theorem dX0_counting_43 : decode cX0_counting 43 = .ok (.aload_n 0, 1) := by decide +kernel
theorem dX0_counting_44 : decode cX0_counting 44 = .ok (.getfield 14, 3) := by decide +kernel
theorem dX0_counting_47 : decode cX0_counting 47 = .ok (.iload_n 3, 1) := by decide +kernel
theorem dX0_counting_48 : decode cX0_counting 48 = .ok (.iconst 2, 1) := by decide +kernel
theorem dX0_counting_49 : decode cX0_counting 49 = .ok (.invokevirtual 43, 3) := by decide +kernel
theorem dX0_counting_52 : decode cX0_counting 52 = .ok (.aload_n 0, 1) := by decide +kernel
theorem dX0_counting_53 : decode cX0_counting 53 = .ok (.getfield 23, 3) := by decide +kernel
theorem dX0_counting_56 : decode cX0_counting 56 = .ok (.iload 4, 2) := by decide +kernel
theorem dX0_counting_58 : decode cX0_counting 58 = .ok (.iconst 2, 1) := by decide +kernel
theorem dX0_counting_59 : decode cX0_counting 59 = .ok (.invokevirtual 43, 3) := by decide +kernel
theorem dX0_counting_62 : decode cX0_counting 62 = .ok (.invokestatic 50, 3) := by decide +kernel
theorem dX0_counting_65 : decode cX0_counting 65 = .ok (.ifCond .eq 28, 3) := by decide +kernel
theorem dX0_counting_68 : decode cX0_counting 68 = .ok (.aload_n 0, 1) := by decide +kernel
theorem dX0_counting_69 : decode cX0_counting 69 = .ok (.getfield 34, 3) := by decide +kernel
theorem dX0_counting_72 : decode cX0_counting 72 = .ok (.aload_n 0, 1) := by decide +kernel
theorem dX0_counting_73 : decode cX0_counting 73 = .ok (.getfield 14, 3) := by decide +kernel
theorem dX0_counting_76 : decode cX0_counting 76 = .ok (.iload_n 3, 1) := by decide +kernel
theorem dX0_counting_77 : decode cX0_counting 77 = .ok (.iconst 3, 1) := by decide +kernel
theorem dX0_counting_78 : decode cX0_counting 78 = .ok (.invokevirtual 43, 3) := by decide +kernel
theorem dX0_counting_81 : decode cX0_counting 81 = .ok (.invokestatic 47, 3) := by decide +kernel
theorem dX0_counting_84 : decode cX0_counting 84 = .ok (.ifCond .ne 9, 3) := by decide +kernel
theorem dX0_counting_87 : decode cX0_counting 87 = .ok (.iload_n 2, 1) := by decide +kernel
theorem dX0_counting_88 : decode cX0_counting 88 = .ok (.iconst 1, 1) := by decide +kernel
theorem dX0_counting_89 : decode cX0_counting 89 = .ok (.iload_n 3, 1) := by decide +kernel
theorem dX0_counting_90 : decode cX0_counting 90 = .ok (.ishl, 1) := by decide +kernel
theorem dX0_counting_91 : decode cX0_counting 91 = .ok (.ior, 1) := by decide +kernel
theorem dX0_counting_92 : decode cX0_counting 92 = .ok (.istore_n 2, 1) := by decide +kernel
theorem dX0_counting_93 : decode cX0_counting 93 = .ok (.iinc 3 1, 3) := by decide +kernel
theorem dX0_counting_96 : decode cX0_counting 96 = .ok (.goto (-92), 3) := by decide +kernel
theorem dX0_counting_99 : decode cX0_counting 99 = .ok (.iload_n 2, 1) := by decide +kernel
theorem dX0_counting_100 : decode cX0_counting 100 = .ok (.ireturn, 1) := by decide +kernel
theorem dX0_countingNow_0 : decode cX0_countingNow 0 = .ok (.aload_n 0, 1) := by decide +kernel
theorem dX0_countingNow_1 : decode cX0_countingNow 1 = .ok (.aload_n 0, 1) := by decide +kernel
theorem dX0_countingNow_2 : decode cX0_countingNow 2 = .ok (.aload_n 0, 1) := by decide +kernel
theorem dX0_countingNow_3 : decode cX0_countingNow 3 = .ok (.getfield 30, 3) := by decide +kernel
theorem dX0_countingNow_6 : decode cX0_countingNow 6 = .ok (.invokevirtual 54, 3) := by decide +kernel
theorem dX0_countingNow_9 : decode cX0_countingNow 9 = .ok (.invokevirtual 58, 3) := by decide +kernel
theorem dX0_countingNow_12 : decode cX0_countingNow 12 = .ok (.ireturn, 1) := by decide +kernel
theorem dX0_stateOf_0 : decode cX0_stateOf 0 = .ok (.iconst 1, 1) := by decide +kernel
theorem dX0_stateOf_1 : decode cX0_stateOf 1 = .ok (.istore 5, 2) := by decide +kernel
theorem dX0_stateOf_3 : decode cX0_stateOf 3 = .ok (.iconst 0, 1) := by decide +kernel
theorem dX0_stateOf_4 : decode cX0_stateOf 4 = .ok (.istore 6, 2) := by decide +kernel
theorem dX0_stateOf_6 : decode cX0_stateOf 6 = .ok (.iload 6, 2) := by decide +kernel
theorem dX0_stateOf_8 : decode cX0_stateOf 8 = .ok (.aload_n 0, 1) := by decide +kernel
theorem dX0_stateOf_9 : decode cX0_stateOf 9 = .ok (.getfield 14, 3) := by decide +kernel
theorem dX0_stateOf_12 : decode cX0_stateOf 12 = .ok (.getfield 40, 3) := by decide +kernel
theorem dX0_stateOf_15 : decode cX0_stateOf 15 = .ok (.if_icmp .ge 70, 3) := by decide +kernel
theorem dX0_stateOf_18 : decode cX0_stateOf 18 = .ok (.iload 4, 2) := by decide +kernel
theorem dX0_stateOf_20 : decode cX0_stateOf 20 = .ok (.iload 6, 2) := by decide +kernel
theorem dX0_stateOf_22 : decode cX0_stateOf 22 = .ok (.invokestatic 47, 3) := by decide +kernel
theorem dX0_stateOf_25 : decode cX0_stateOf 25 = .ok (.iconst 1, 1) := by decide +kernel
theorem dX0_stateOf_26 : decode cX0_stateOf 26 = .ok (.if_icmp .ne 53, 3) := by decide +kernel
theorem dX0_stateOf_29 : decode cX0_stateOf 29 = .ok (.iload_n 1, 1) := by decide +kernel
theorem dX0_stateOf_30 : decode cX0_stateOf 30 = .ok (.aload_n 0, 1) := by decide +kernel
theorem dX0_stateOf_31 : decode cX0_stateOf 31 = .ok (.getfield 14, 3) := by decide +kernel
theorem dX0_stateOf_34 : decode cX0_stateOf 34 = .ok (.iload 6, 2) := by decide +kernel
theorem dX0_stateOf_36 : decode cX0_stateOf 36 = .ok (.iconst 2, 1) := by decide +kernel
theorem dX0_stateOf_37 : decode cX0_stateOf 37 = .ok (.invokevirtual 43, 3) := by decide +kernel
theorem dX0_stateOf_40 : decode cX0_stateOf 40 = .ok (.invokestatic 50, 3) := by decide +kernel
theorem dX0_stateOf_43 : decode cX0_stateOf 43 = .ok (.ifCond .eq 36, 3) := by decide +kernel
theorem dX0_stateOf_46 : decode cX0_stateOf 46 = .ok (.aload_n 0, 1) := by decide +kernel
theorem dX0_stateOf_47 : decode cX0_stateOf 47 = .ok (.getfield 14, 3) := by decide +kernel
theorem dX0_stateOf_50 : decode cX0_stateOf 50 = .ok (.iload 6, 2) := by decide +kernel
theorem dX0_stateOf_52 : decode cX0_stateOf 52 = .ok (.iconst 3, 1) := by decide +kernel
theorem dX0_stateOf_53 : decode cX0_stateOf 53 = .ok (.invokevirtual 43, 3) := by decide +kernel
theorem dX0_stateOf_56 : decode cX0_stateOf 56 = .ok (.iload_n 3, 1) := by decide +kernel
theorem dX0_stateOf_57 : decode cX0_stateOf 57 = .ok (.if_icmp .ne 19, 3) := by decide +kernel
theorem dX0_stateOf_60 : decode cX0_stateOf 60 = .ok (.aload_n 0, 1) := by decide +kernel
theorem dX0_stateOf_61 : decode cX0_stateOf 61 = .ok (.getfield 14, 3) := by decide +kernel
theorem dX0_stateOf_64 : decode cX0_stateOf 64 = .ok (.iload 6, 2) := by decide +kernel
theorem dX0_stateOf_66 : decode cX0_stateOf 66 = .ok (.iconst 5, 1) := by decide +kernel
theorem dX0_stateOf_67 : decode cX0_stateOf 67 = .ok (.invokevirtual 43, 3) := by decide +kernel
theorem dX0_stateOf_70 : decode cX0_stateOf 70 = .ok (.iload_n 2, 1) := by decide +kernel
theorem dX0_stateOf_71 : decode cX0_stateOf 71 = .ok (.if_icmp .lt 5, 3) := by decide +kernel
theorem dX0_stateOf_74 : decode cX0_stateOf 74 = .ok (.iconst 2, 1) := by decide +kernel
theorem dX0_stateOf_75 : decode cX0_stateOf 75 = .ok (.ireturn, 1) := by decide +kernel
theorem dX0_stateOf_76 : decode cX0_stateOf 76 = .ok (.iconst 0, 1) := by decide +kernel
theorem dX0_stateOf_77 : decode cX0_stateOf 77 = .ok (.istore 5, 2) := by decide +kernel
theorem dX0_stateOf_79 : decode cX0_stateOf 79 = .ok (.iinc 6 1, 3) := by decide +kernel
theorem dX0_stateOf_82 : decode cX0_stateOf 82 = .ok (.goto (-76), 3) := by decide +kernel
theorem dX0_stateOf_85 : decode cX0_stateOf 85 = .ok (.iload 5, 2) := by decide +kernel
theorem dX0_stateOf_87 : decode cX0_stateOf 87 = .ok (.ireturn, 1) := by decide +kernel
theorem dX0_routesThatAre_0 : decode cX0_routesThatAre 0 = .ok (.iconst 0, 1) := by decide +kernel
theorem dX0_routesThatAre_1 : decode cX0_routesThatAre 1 = .ok (.istore_n 3, 1) := by decide +kernel
theorem dX0_routesThatAre_2 : decode cX0_routesThatAre 2 = .ok (.iconst 0, 1) := by decide +kernel
theorem dX0_routesThatAre_3 : decode cX0_routesThatAre 3 = .ok (.istore 4, 2) := by decide +kernel
theorem dX0_routesThatAre_5 : decode cX0_routesThatAre 5 = .ok (.iload 4, 2) := by decide +kernel
theorem dX0_routesThatAre_7 : decode cX0_routesThatAre 7 = .ok (.aload_n 0, 1) := by decide +kernel
theorem dX0_routesThatAre_8 : decode cX0_routesThatAre 8 = .ok (.getfield 20, 3) := by decide +kernel
theorem dX0_routesThatAre_11 : decode cX0_routesThatAre 11 = .ok (.getfield 40, 3) := by decide +kernel
theorem dX0_routesThatAre_14 : decode cX0_routesThatAre 14 = .ok (.if_icmp .ge 59, 3) := by decide +kernel
theorem dX0_routesThatAre_17 : decode cX0_routesThatAre 17 = .ok (.aload_n 0, 1) := by decide +kernel
theorem dX0_routesThatAre_18 : decode cX0_routesThatAre 18 = .ok (.getfield 20, 3) := by decide +kernel
theorem dX0_routesThatAre_21 : decode cX0_routesThatAre 21 = .ok (.iload 4, 2) := by decide +kernel
theorem dX0_routesThatAre_23 : decode cX0_routesThatAre 23 = .ok (.iconst 2, 1) := by decide +kernel
theorem dX0_routesThatAre_24 : decode cX0_routesThatAre 24 = .ok (.invokevirtual 43, 3) := by decide +kernel
theorem dX0_routesThatAre_27 : decode cX0_routesThatAre 27 = .ok (.istore 5, 2) := by decide +kernel
theorem dX0_routesThatAre_29 : decode cX0_routesThatAre 29 = .ok (.aload_n 0, 1) := by decide +kernel
theorem dX0_routesThatAre_30 : decode cX0_routesThatAre 30 = .ok (.iload 5, 2) := by decide +kernel
theorem dX0_routesThatAre_32 : decode cX0_routesThatAre 32 = .ok (.aload_n 0, 1) := by decide +kernel
theorem dX0_routesThatAre_33 : decode cX0_routesThatAre 33 = .ok (.getfield 20, 3) := by decide +kernel
theorem dX0_routesThatAre_36 : decode cX0_routesThatAre 36 = .ok (.iload 4, 2) := by decide +kernel
theorem dX0_routesThatAre_38 : decode cX0_routesThatAre 38 = .ok (.iconst 1, 1) := by decide +kernel
theorem dX0_routesThatAre_39 : decode cX0_routesThatAre 39 = .ok (.invokevirtual 43, 3) := by decide +kernel
theorem dX0_routesThatAre_42 : decode cX0_routesThatAre 42 = .ok (.aload_n 0, 1) := by decide +kernel
theorem dX0_routesThatAre_43 : decode cX0_routesThatAre 43 = .ok (.getfield 20, 3) := by decide +kernel
theorem dX0_routesThatAre_46 : decode cX0_routesThatAre 46 = .ok (.iload 4, 2) := by decide +kernel
theorem dX0_routesThatAre_48 : decode cX0_routesThatAre 48 = .ok (.iconst 3, 1) := by decide +kernel
theorem dX0_routesThatAre_49 : decode cX0_routesThatAre 49 = .ok (.invokevirtual 43, 3) := by decide +kernel
theorem dX0_routesThatAre_52 : decode cX0_routesThatAre 52 = .ok (.iload_n 2, 1) := by decide +kernel
theorem dX0_routesThatAre_53 : decode cX0_routesThatAre 53 = .ok (.invokevirtual 61, 3) := by decide +kernel
theorem dX0_routesThatAre_56 : decode cX0_routesThatAre 56 = .ok (.iload_n 1, 1) := by decide +kernel
theorem dX0_routesThatAre_57 : decode cX0_routesThatAre 57 = .ok (.if_icmp .ne 10, 3) := by decide +kernel
theorem dX0_routesThatAre_60 : decode cX0_routesThatAre 60 = .ok (.iload_n 3, 1) := by decide +kernel
theorem dX0_routesThatAre_61 : decode cX0_routesThatAre 61 = .ok (.iconst 1, 1) := by decide +kernel
theorem dX0_routesThatAre_62 : decode cX0_routesThatAre 62 = .ok (.iload 4, 2) := by decide +kernel
theorem dX0_routesThatAre_64 : decode cX0_routesThatAre 64 = .ok (.ishl, 1) := by decide +kernel
theorem dX0_routesThatAre_65 : decode cX0_routesThatAre 65 = .ok (.ior, 1) := by decide +kernel
theorem dX0_routesThatAre_66 : decode cX0_routesThatAre 66 = .ok (.istore_n 3, 1) := by decide +kernel
theorem dX0_routesThatAre_67 : decode cX0_routesThatAre 67 = .ok (.iinc 4 1, 3) := by decide +kernel
theorem dX0_routesThatAre_70 : decode cX0_routesThatAre 70 = .ok (.goto (-65), 3) := by decide +kernel
theorem dX0_routesThatAre_73 : decode cX0_routesThatAre 73 = .ok (.iload_n 3, 1) := by decide +kernel
theorem dX0_routesThatAre_74 : decode cX0_routesThatAre 74 = .ok (.ireturn, 1) := by decide +kernel
theorem dX0_grantsThatMakeRight_0 : decode cX0_grantsThatMakeRight 0 = .ok (.iconst 0, 1) := by decide +kernel
theorem dX0_grantsThatMakeRight_1 : decode cX0_grantsThatMakeRight 1 = .ok (.istore_n 3, 1) := by decide +kernel
theorem dX0_grantsThatMakeRight_2 : decode cX0_grantsThatMakeRight 2 = .ok (.iconst 0, 1) := by decide +kernel
theorem dX0_grantsThatMakeRight_3 : decode cX0_grantsThatMakeRight 3 = .ok (.istore 4, 2) := by decide +kernel
theorem dX0_grantsThatMakeRight_5 : decode cX0_grantsThatMakeRight 5 = .ok (.iload 4, 2) := by decide +kernel
theorem dX0_grantsThatMakeRight_7 : decode cX0_grantsThatMakeRight 7 = .ok (.aload_n 0, 1) := by decide +kernel
theorem dX0_grantsThatMakeRight_8 : decode cX0_grantsThatMakeRight 8 = .ok (.getfield 14, 3) := by decide +kernel
theorem dX0_grantsThatMakeRight_11 : decode cX0_grantsThatMakeRight 11 = .ok (.getfield 40, 3) := by decide +kernel
theorem dX0_grantsThatMakeRight_14 : decode cX0_grantsThatMakeRight 14 = .ok (.if_icmp .ge 37, 3) := by decide +kernel
theorem dX0_grantsThatMakeRight_17 : decode cX0_grantsThatMakeRight 17 = .ok (.iload_n 2, 1) := by decide +kernel
theorem dX0_grantsThatMakeRight_18 : decode cX0_grantsThatMakeRight 18 = .ok (.iconst 1, 1) := by decide +kernel
theorem dX0_grantsThatMakeRight_19 : decode cX0_grantsThatMakeRight 19 = .ok (.iload 4, 2) := by decide +kernel
theorem dX0_grantsThatMakeRight_21 : decode cX0_grantsThatMakeRight 21 = .ok (.ishl, 1) := by decide +kernel
theorem dX0_grantsThatMakeRight_22 : decode cX0_grantsThatMakeRight 22 = .ok (.iand, 1) := by decide +kernel
theorem dX0_grantsThatMakeRight_23 : decode cX0_grantsThatMakeRight 23 = .ok (.istore 5, 2) := by decide +kernel
theorem dX0_grantsThatMakeRight_25 : decode cX0_grantsThatMakeRight 25 = .ok (.aload_n 0, 1) := by decide +kernel
theorem dX0_grantsThatMakeRight_26 : decode cX0_grantsThatMakeRight 26 = .ok (.iconst 2, 1) := by decide +kernel
theorem dX0_grantsThatMakeRight_27 : decode cX0_grantsThatMakeRight 27 = .ok (.iload 5, 2) := by decide +kernel
theorem dX0_grantsThatMakeRight_29 : decode cX0_grantsThatMakeRight 29 = .ok (.invokevirtual 65, 3) := by decide +kernel
theorem dX0_grantsThatMakeRight_32 : decode cX0_grantsThatMakeRight 32 = .ok (.iload_n 1, 1) := by decide +kernel
theorem dX0_grantsThatMakeRight_33 : decode cX0_grantsThatMakeRight 33 = .ok (.invokestatic 47, 3) := by decide +kernel
theorem dX0_grantsThatMakeRight_36 : decode cX0_grantsThatMakeRight 36 = .ok (.iconst 1, 1) := by decide +kernel
theorem dX0_grantsThatMakeRight_37 : decode cX0_grantsThatMakeRight 37 = .ok (.if_icmp .ne 8, 3) := by decide +kernel
theorem dX0_grantsThatMakeRight_40 : decode cX0_grantsThatMakeRight 40 = .ok (.iload_n 3, 1) := by decide +kernel
theorem dX0_grantsThatMakeRight_41 : decode cX0_grantsThatMakeRight 41 = .ok (.iload 5, 2) := by decide +kernel
theorem dX0_grantsThatMakeRight_43 : decode cX0_grantsThatMakeRight 43 = .ok (.ior, 1) := by decide +kernel
theorem dX0_grantsThatMakeRight_44 : decode cX0_grantsThatMakeRight 44 = .ok (.istore_n 3, 1) := by decide +kernel
theorem dX0_grantsThatMakeRight_45 : decode cX0_grantsThatMakeRight 45 = .ok (.iinc 4 1, 3) := by decide +kernel
theorem dX0_grantsThatMakeRight_48 : decode cX0_grantsThatMakeRight 48 = .ok (.goto (-43), 3) := by decide +kernel
theorem dX0_grantsThatMakeRight_51 : decode cX0_grantsThatMakeRight 51 = .ok (.iload_n 3, 1) := by decide +kernel
theorem dX0_grantsThatMakeRight_52 : decode cX0_grantsThatMakeRight 52 = .ok (.ireturn, 1) := by decide +kernel
theorem dX0_makerOf_0 : decode cX0_makerOf 0 = .ok (.aload_n 0, 1) := by decide +kernel
theorem dX0_makerOf_1 : decode cX0_makerOf 1 = .ok (.aload_n 0, 1) := by decide +kernel
theorem dX0_makerOf_2 : decode cX0_makerOf 2 = .ok (.getfield 30, 3) := by decide +kernel
theorem dX0_makerOf_5 : decode cX0_makerOf 5 = .ok (.invokevirtual 54, 3) := by decide +kernel
theorem dX0_makerOf_8 : decode cX0_makerOf 8 = .ok (.istore_n 2, 1) := by decide +kernel
theorem dX0_makerOf_9 : decode cX0_makerOf 9 = .ok (.iconst 0, 1) := by decide +kernel
theorem dX0_makerOf_10 : decode cX0_makerOf 10 = .ok (.istore_n 3, 1) := by decide +kernel
theorem dX0_makerOf_11 : decode cX0_makerOf 11 = .ok (.iconst 1, 1) := by decide +kernel
theorem dX0_makerOf_12 : decode cX0_makerOf 12 = .ok (.istore 4, 2) := by decide +kernel
theorem dX0_makerOf_14 : decode cX0_makerOf 14 = .ok (.iload 4, 2) := by decide +kernel
theorem dX0_makerOf_16 : decode cX0_makerOf 16 = .ok (.aload_n 0, 1) := by decide +kernel
theorem dX0_makerOf_17 : decode cX0_makerOf 17 = .ok (.getfield 23, 3) := by decide +kernel
theorem dX0_makerOf_20 : decode cX0_makerOf 20 = .ok (.getfield 40, 3) := by decide +kernel
theorem dX0_makerOf_23 : decode cX0_makerOf 23 = .ok (.if_icmp .ge 69, 3) := by decide +kernel
theorem dX0_makerOf_26 : decode cX0_makerOf 26 = .ok (.iload_n 2, 1) := by decide +kernel
theorem dX0_makerOf_27 : decode cX0_makerOf 27 = .ok (.iload 4, 2) := by decide +kernel
theorem dX0_makerOf_29 : decode cX0_makerOf 29 = .ok (.invokestatic 47, 3) := by decide +kernel
theorem dX0_makerOf_32 : decode cX0_makerOf 32 = .ok (.iconst 1, 1) := by decide +kernel
theorem dX0_makerOf_33 : decode cX0_makerOf 33 = .ok (.if_icmp .ne 53, 3) := by decide +kernel
theorem dX0_makerOf_36 : decode cX0_makerOf 36 = .ok (.aload_n 0, 1) := by decide +kernel
theorem dX0_makerOf_37 : decode cX0_makerOf 37 = .ok (.getfield 20, 3) := by decide +kernel
theorem dX0_makerOf_40 : decode cX0_makerOf 40 = .ok (.iload_n 1, 1) := by decide +kernel
theorem dX0_makerOf_41 : decode cX0_makerOf 41 = .ok (.iconst 2, 1) := by decide +kernel
theorem dX0_makerOf_42 : decode cX0_makerOf 42 = .ok (.invokevirtual 43, 3) := by decide +kernel
theorem dX0_makerOf_45 : decode cX0_makerOf 45 = .ok (.aload_n 0, 1) := by decide +kernel
theorem dX0_makerOf_46 : decode cX0_makerOf 46 = .ok (.getfield 23, 3) := by decide +kernel
theorem dX0_makerOf_49 : decode cX0_makerOf 49 = .ok (.iload 4, 2) := by decide +kernel
theorem dX0_makerOf_51 : decode cX0_makerOf 51 = .ok (.iconst 2, 1) := by decide +kernel
theorem dX0_makerOf_52 : decode cX0_makerOf 52 = .ok (.invokevirtual 43, 3) := by decide +kernel
theorem dX0_makerOf_55 : decode cX0_makerOf 55 = .ok (.invokestatic 50, 3) := by decide +kernel
theorem dX0_makerOf_58 : decode cX0_makerOf 58 = .ok (.ifCond .eq 28, 3) := by decide +kernel
theorem dX0_makerOf_61 : decode cX0_makerOf 61 = .ok (.aload_n 0, 1) := by decide +kernel
theorem dX0_makerOf_62 : decode cX0_makerOf 62 = .ok (.getfield 23, 3) := by decide +kernel
theorem dX0_makerOf_65 : decode cX0_makerOf 65 = .ok (.iload 4, 2) := by decide +kernel
theorem dX0_makerOf_67 : decode cX0_makerOf 67 = .ok (.iconst 1, 1) := by decide +kernel
theorem dX0_makerOf_68 : decode cX0_makerOf 68 = .ok (.invokevirtual 43, 3) := by decide +kernel
theorem dX0_makerOf_71 : decode cX0_makerOf 71 = .ok (.aload_n 0, 1) := by decide +kernel
theorem dX0_makerOf_72 : decode cX0_makerOf 72 = .ok (.getfield 23, 3) := by decide +kernel
theorem dX0_makerOf_75 : decode cX0_makerOf 75 = .ok (.iload_n 3, 1) := by decide +kernel
theorem dX0_makerOf_76 : decode cX0_makerOf 76 = .ok (.iconst 1, 1) := by decide +kernel
theorem dX0_makerOf_77 : decode cX0_makerOf 77 = .ok (.invokevirtual 43, 3) := by decide +kernel
theorem dX0_makerOf_80 : decode cX0_makerOf 80 = .ok (.if_icmp .le 6, 3) := by decide +kernel
theorem dX0_makerOf_83 : decode cX0_makerOf 83 = .ok (.iload 4, 2) := by decide +kernel
theorem dX0_makerOf_85 : decode cX0_makerOf 85 = .ok (.istore_n 3, 1) := by decide +kernel
theorem dX0_makerOf_86 : decode cX0_makerOf 86 = .ok (.iinc 4 1, 3) := by decide +kernel
theorem dX0_makerOf_89 : decode cX0_makerOf 89 = .ok (.goto (-75), 3) := by decide +kernel
theorem dX0_makerOf_92 : decode cX0_makerOf 92 = .ok (.iload_n 3, 1) := by decide +kernel
theorem dX0_makerOf_93 : decode cX0_makerOf 93 = .ok (.ireturn, 1) := by decide +kernel
theorem dX0_bare_0 : decode cX0_bare 0 = .ok (.aload_n 0, 1) := by decide +kernel
theorem dX0_bare_1 : decode cX0_bare 1 = .ok (.invokevirtual 68, 3) := by decide +kernel
theorem dX0_bare_4 : decode cX0_bare 4 = .ok (.istore_n 1, 1) := by decide +kernel
theorem dX0_bare_5 : decode cX0_bare 5 = .ok (.iconst 0, 1) := by decide +kernel
theorem dX0_bare_6 : decode cX0_bare 6 = .ok (.istore_n 2, 1) := by decide +kernel
theorem dX0_bare_7 : decode cX0_bare 7 = .ok (.iconst 0, 1) := by decide +kernel
theorem dX0_bare_8 : decode cX0_bare 8 = .ok (.istore_n 3, 1) := by decide +kernel
theorem dX0_bare_9 : decode cX0_bare 9 = .ok (.iload_n 3, 1) := by decide +kernel
theorem dX0_bare_10 : decode cX0_bare 10 = .ok (.aload_n 0, 1) := by decide +kernel
theorem dX0_bare_11 : decode cX0_bare 11 = .ok (.getfield 14, 3) := by decide +kernel
theorem dX0_bare_14 : decode cX0_bare 14 = .ok (.getfield 40, 3) := by decide +kernel
theorem dX0_bare_17 : decode cX0_bare 17 = .ok (.if_icmp .ge 30, 3) := by decide +kernel
theorem dX0_bare_20 : decode cX0_bare 20 = .ok (.iload_n 1, 1) := by decide +kernel
theorem dX0_bare_21 : decode cX0_bare 21 = .ok (.iload_n 3, 1) := by decide +kernel
theorem dX0_bare_22 : decode cX0_bare 22 = .ok (.invokestatic 47, 3) := by decide +kernel
theorem dX0_bare_25 : decode cX0_bare 25 = .ok (.iconst 1, 1) := by decide +kernel
theorem dX0_bare_26 : decode cX0_bare 26 = .ok (.if_icmp .ne 15, 3) := by decide +kernel
theorem dX0_bare_29 : decode cX0_bare 29 = .ok (.iload_n 2, 1) := by decide +kernel
theorem dX0_bare_30 : decode cX0_bare 30 = .ok (.aload_n 0, 1) := by decide +kernel
theorem dX0_bare_31 : decode cX0_bare 31 = .ok (.getfield 14, 3) := by decide +kernel
theorem dX0_bare_34 : decode cX0_bare 34 = .ok (.iload_n 3, 1) := by decide +kernel
theorem dX0_bare_35 : decode cX0_bare 35 = .ok (.iconst 2, 1) := by decide +kernel
theorem dX0_bare_36 : decode cX0_bare 36 = .ok (.invokevirtual 43, 3) := by decide +kernel
theorem dX0_bare_39 : decode cX0_bare 39 = .ok (.ior, 1) := by decide +kernel
theorem dX0_bare_40 : decode cX0_bare 40 = .ok (.istore_n 2, 1) := by decide +kernel
theorem dX0_bare_41 : decode cX0_bare 41 = .ok (.iinc 3 1, 3) := by decide +kernel
theorem dX0_bare_44 : decode cX0_bare 44 = .ok (.goto (-35), 3) := by decide +kernel
theorem dX0_bare_47 : decode cX0_bare 47 = .ok (.iload_n 2, 1) := by decide +kernel
theorem dX0_bare_48 : decode cX0_bare 48 = .ok (.iconst (-1), 1) := by decide +kernel
theorem dX0_bare_49 : decode cX0_bare 49 = .ok (.ixor, 1) := by decide +kernel
theorem dX0_bare_50 : decode cX0_bare 50 = .ok (.invokestatic 72, 3) := by decide +kernel
theorem dX0_bare_53 : decode cX0_bare 53 = .ok (.ireturn, 1) := by decide +kernel
theorem dX0_letIn_0 : decode cX0_letIn 0 = .ok (.aload_n 0, 1) := by decide +kernel
theorem dX0_letIn_1 : decode cX0_letIn 1 = .ok (.invokevirtual 68, 3) := by decide +kernel
theorem dX0_letIn_4 : decode cX0_letIn 4 = .ok (.istore_n 2, 1) := by decide +kernel
theorem dX0_letIn_5 : decode cX0_letIn 5 = .ok (.iconst 1, 1) := by decide +kernel
theorem dX0_letIn_6 : decode cX0_letIn 6 = .ok (.aload_n 0, 1) := by decide +kernel
theorem dX0_letIn_7 : decode cX0_letIn 7 = .ok (.getfield 20, 3) := by decide +kernel
theorem dX0_letIn_10 : decode cX0_letIn 10 = .ok (.getfield 40, 3) := by decide +kernel
theorem dX0_letIn_13 : decode cX0_letIn 13 = .ok (.ishl, 1) := by decide +kernel
theorem dX0_letIn_14 : decode cX0_letIn 14 = .ok (.iconst 1, 1) := by decide +kernel
theorem dX0_letIn_15 : decode cX0_letIn 15 = .ok (.isub, 1) := by decide +kernel
theorem dX0_letIn_16 : decode cX0_letIn 16 = .ok (.istore_n 3, 1) := by decide +kernel
theorem dX0_letIn_17 : decode cX0_letIn 17 = .ok (.aload_n 0, 1) := by decide +kernel
theorem dX0_letIn_18 : decode cX0_letIn 18 = .ok (.iconst 2, 1) := by decide +kernel
theorem dX0_letIn_19 : decode cX0_letIn 19 = .ok (.iload_n 2, 1) := by decide +kernel
theorem dX0_letIn_20 : decode cX0_letIn 20 = .ok (.invokevirtual 65, 3) := by decide +kernel
theorem dX0_letIn_23 : decode cX0_letIn 23 = .ok (.istore 4, 2) := by decide +kernel
theorem dX0_letIn_25 : decode cX0_letIn 25 = .ok (.aload_n 0, 1) := by decide +kernel
theorem dX0_letIn_26 : decode cX0_letIn 26 = .ok (.iconst 0, 1) := by decide +kernel
theorem dX0_letIn_27 : decode cX0_letIn 27 = .ok (.iload_n 2, 1) := by decide +kernel
theorem dX0_letIn_28 : decode cX0_letIn 28 = .ok (.invokevirtual 65, 3) := by decide +kernel
theorem dX0_letIn_31 : decode cX0_letIn 31 = .ok (.istore 5, 2) := by decide +kernel
theorem dX0_letIn_33 : decode cX0_letIn 33 = .ok (.iload_n 1, 1) := by decide +kernel
theorem dX0_letIn_34 : decode cX0_letIn 34 = .ok (.tableswitch 38 0 2 #[26, 28, 35], 26) := by decide +kernel
theorem dX0_letIn_60 : decode cX0_letIn 60 = .ok (.iload_n 3, 1) := by decide +kernel
theorem dX0_letIn_61 : decode cX0_letIn 61 = .ok (.ireturn, 1) := by decide +kernel
theorem dX0_letIn_62 : decode cX0_letIn 62 = .ok (.iload_n 3, 1) := by decide +kernel
theorem dX0_letIn_63 : decode cX0_letIn 63 = .ok (.iload 5, 2) := by decide +kernel
theorem dX0_letIn_65 : decode cX0_letIn 65 = .ok (.iconst (-1), 1) := by decide +kernel
theorem dX0_letIn_66 : decode cX0_letIn 66 = .ok (.ixor, 1) := by decide +kernel
theorem dX0_letIn_67 : decode cX0_letIn 67 = .ok (.iand, 1) := by decide +kernel
theorem dX0_letIn_68 : decode cX0_letIn 68 = .ok (.ireturn, 1) := by decide +kernel
theorem dX0_letIn_69 : decode cX0_letIn 69 = .ok (.iload 4, 2) := by decide +kernel
theorem dX0_letIn_71 : decode cX0_letIn 71 = .ok (.ireturn, 1) := by decide +kernel
theorem dX0_letIn_72 : decode cX0_letIn 72 = .ok (.iload 4, 2) := by decide +kernel
theorem dX0_letIn_74 : decode cX0_letIn 74 = .ok (.aload_n 0, 1) := by decide +kernel
theorem dX0_letIn_75 : decode cX0_letIn 75 = .ok (.iload 4, 2) := by decide +kernel
theorem dX0_letIn_77 : decode cX0_letIn 77 = .ok (.iload_n 3, 1) := by decide +kernel
theorem dX0_letIn_78 : decode cX0_letIn 78 = .ok (.iload 4, 2) := by decide +kernel
theorem dX0_letIn_80 : decode cX0_letIn 80 = .ok (.iconst (-1), 1) := by decide +kernel
theorem dX0_letIn_81 : decode cX0_letIn 81 = .ok (.ixor, 1) := by decide +kernel
theorem dX0_letIn_82 : decode cX0_letIn 82 = .ok (.iand, 1) := by decide +kernel
theorem dX0_letIn_83 : decode cX0_letIn 83 = .ok (.iload 5, 2) := by decide +kernel
theorem dX0_letIn_85 : decode cX0_letIn 85 = .ok (.iconst (-1), 1) := by decide +kernel
theorem dX0_letIn_86 : decode cX0_letIn 86 = .ok (.ixor, 1) := by decide +kernel
theorem dX0_letIn_87 : decode cX0_letIn 87 = .ok (.iand, 1) := by decide +kernel
theorem dX0_letIn_88 : decode cX0_letIn 88 = .ok (.invokevirtual 77, 3) := by decide +kernel
theorem dX0_letIn_91 : decode cX0_letIn 91 = .ok (.ior, 1) := by decide +kernel
theorem dX0_letIn_92 : decode cX0_letIn 92 = .ok (.ireturn, 1) := by decide +kernel
theorem dX0_apartFrom_0 : decode cX0_apartFrom 0 = .ok (.iconst 0, 1) := by decide +kernel
theorem dX0_apartFrom_1 : decode cX0_apartFrom 1 = .ok (.istore_n 3, 1) := by decide +kernel
theorem dX0_apartFrom_2 : decode cX0_apartFrom 2 = .ok (.iconst 0, 1) := by decide +kernel
theorem dX0_apartFrom_3 : decode cX0_apartFrom 3 = .ok (.istore 4, 2) := by decide +kernel
theorem dX0_apartFrom_5 : decode cX0_apartFrom 5 = .ok (.iload 4, 2) := by decide +kernel
theorem dX0_apartFrom_7 : decode cX0_apartFrom 7 = .ok (.aload_n 0, 1) := by decide +kernel
theorem dX0_apartFrom_8 : decode cX0_apartFrom 8 = .ok (.getfield 20, 3) := by decide +kernel
theorem dX0_apartFrom_11 : decode cX0_apartFrom 11 = .ok (.getfield 40, 3) := by decide +kernel
theorem dX0_apartFrom_14 : decode cX0_apartFrom 14 = .ok (.if_icmp .ge 32, 3) := by decide +kernel
theorem dX0_apartFrom_17 : decode cX0_apartFrom 17 = .ok (.iload_n 1, 1) := by decide +kernel
theorem dX0_apartFrom_18 : decode cX0_apartFrom 18 = .ok (.iload 4, 2) := by decide +kernel
theorem dX0_apartFrom_20 : decode cX0_apartFrom 20 = .ok (.invokestatic 47, 3) := by decide +kernel
theorem dX0_apartFrom_23 : decode cX0_apartFrom 23 = .ok (.iconst 1, 1) := by decide +kernel
theorem dX0_apartFrom_24 : decode cX0_apartFrom 24 = .ok (.if_icmp .ne 16, 3) := by decide +kernel
theorem dX0_apartFrom_27 : decode cX0_apartFrom 27 = .ok (.iload_n 3, 1) := by decide +kernel
theorem dX0_apartFrom_28 : decode cX0_apartFrom 28 = .ok (.aload_n 0, 1) := by decide +kernel
theorem dX0_apartFrom_29 : decode cX0_apartFrom 29 = .ok (.getfield 20, 3) := by decide +kernel
theorem dX0_apartFrom_32 : decode cX0_apartFrom 32 = .ok (.iload 4, 2) := by decide +kernel
theorem dX0_apartFrom_34 : decode cX0_apartFrom 34 = .ok (.iconst 2, 1) := by decide +kernel
theorem dX0_apartFrom_35 : decode cX0_apartFrom 35 = .ok (.invokevirtual 43, 3) := by decide +kernel
theorem dX0_apartFrom_38 : decode cX0_apartFrom 38 = .ok (.ior, 1) := by decide +kernel
theorem dX0_apartFrom_39 : decode cX0_apartFrom 39 = .ok (.istore_n 3, 1) := by decide +kernel
theorem dX0_apartFrom_40 : decode cX0_apartFrom 40 = .ok (.iinc 4 1, 3) := by decide +kernel
theorem dX0_apartFrom_43 : decode cX0_apartFrom 43 = .ok (.goto (-38), 3) := by decide +kernel
theorem dX0_apartFrom_46 : decode cX0_apartFrom 46 = .ok (.iconst 0, 1) := by decide +kernel
theorem dX0_apartFrom_47 : decode cX0_apartFrom 47 = .ok (.istore 4, 2) := by decide +kernel
theorem dX0_apartFrom_49 : decode cX0_apartFrom 49 = .ok (.iconst 0, 1) := by decide +kernel
theorem dX0_apartFrom_50 : decode cX0_apartFrom 50 = .ok (.istore 5, 2) := by decide +kernel
theorem dX0_apartFrom_52 : decode cX0_apartFrom 52 = .ok (.iload 5, 2) := by decide +kernel
theorem dX0_apartFrom_54 : decode cX0_apartFrom 54 = .ok (.aload_n 0, 1) := by decide +kernel
theorem dX0_apartFrom_55 : decode cX0_apartFrom 55 = .ok (.getfield 20, 3) := by decide +kernel
theorem dX0_apartFrom_58 : decode cX0_apartFrom 58 = .ok (.getfield 40, 3) := by decide +kernel
theorem dX0_apartFrom_61 : decode cX0_apartFrom 61 = .ok (.if_icmp .ge 43, 3) := by decide +kernel
theorem dX0_apartFrom_64 : decode cX0_apartFrom 64 = .ok (.iload_n 2, 1) := by decide +kernel
theorem dX0_apartFrom_65 : decode cX0_apartFrom 65 = .ok (.iload 5, 2) := by decide +kernel
theorem dX0_apartFrom_67 : decode cX0_apartFrom 67 = .ok (.invokestatic 47, 3) := by decide +kernel
theorem dX0_apartFrom_70 : decode cX0_apartFrom 70 = .ok (.iconst 1, 1) := by decide +kernel
theorem dX0_apartFrom_71 : decode cX0_apartFrom 71 = .ok (.if_icmp .ne 27, 3) := by decide +kernel
theorem dX0_apartFrom_74 : decode cX0_apartFrom 74 = .ok (.aload_n 0, 1) := by decide +kernel
theorem dX0_apartFrom_75 : decode cX0_apartFrom 75 = .ok (.getfield 20, 3) := by decide +kernel
theorem dX0_apartFrom_78 : decode cX0_apartFrom 78 = .ok (.iload 5, 2) := by decide +kernel
theorem dX0_apartFrom_80 : decode cX0_apartFrom 80 = .ok (.iconst 2, 1) := by decide +kernel
theorem dX0_apartFrom_81 : decode cX0_apartFrom 81 = .ok (.invokevirtual 43, 3) := by decide +kernel
theorem dX0_apartFrom_84 : decode cX0_apartFrom 84 = .ok (.iload_n 3, 1) := by decide +kernel
theorem dX0_apartFrom_85 : decode cX0_apartFrom 85 = .ok (.iand, 1) := by decide +kernel
theorem dX0_apartFrom_86 : decode cX0_apartFrom 86 = .ok (.ifCond .ne 12, 3) := by decide +kernel
theorem dX0_apartFrom_89 : decode cX0_apartFrom 89 = .ok (.iload 4, 2) := by decide +kernel
theorem dX0_apartFrom_91 : decode cX0_apartFrom 91 = .ok (.iconst 1, 1) := by decide +kernel
theorem dX0_apartFrom_92 : decode cX0_apartFrom 92 = .ok (.iload 5, 2) := by decide +kernel
theorem dX0_apartFrom_94 : decode cX0_apartFrom 94 = .ok (.ishl, 1) := by decide +kernel
theorem dX0_apartFrom_95 : decode cX0_apartFrom 95 = .ok (.ior, 1) := by decide +kernel
theorem dX0_apartFrom_96 : decode cX0_apartFrom 96 = .ok (.istore 4, 2) := by decide +kernel
theorem dX0_apartFrom_98 : decode cX0_apartFrom 98 = .ok (.iinc 5 1, 3) := by decide +kernel
theorem dX0_apartFrom_101 : decode cX0_apartFrom 101 = .ok (.goto (-49), 3) := by decide +kernel
theorem dX0_apartFrom_104 : decode cX0_apartFrom 104 = .ok (.iload 4, 2) := by decide +kernel
theorem dX0_apartFrom_106 : decode cX0_apartFrom 106 = .ok (.ireturn, 1) := by decide +kernel
theorem dX0_routeTo_0 : decode cX0_routeTo 0 = .ok (.aload_n 0, 1) := by decide +kernel
theorem dX0_routeTo_1 : decode cX0_routeTo 1 = .ok (.iload_n 2, 1) := by decide +kernel
theorem dX0_routeTo_2 : decode cX0_routeTo 2 = .ok (.invokevirtual 80, 3) := by decide +kernel
theorem dX0_routeTo_5 : decode cX0_routeTo 5 = .ok (.istore_n 3, 1) := by decide +kernel
theorem dX0_routeTo_6 : decode cX0_routeTo 6 = .ok (.bipush (-9), 2) := by decide +kernel
theorem dX0_routeTo_8 : decode cX0_routeTo 8 = .ok (.istore 4, 2) := by decide +kernel
theorem dX0_routeTo_10 : decode cX0_routeTo 10 = .ok (.iconst 0, 1) := by decide +kernel
theorem dX0_routeTo_11 : decode cX0_routeTo 11 = .ok (.istore 5, 2) := by decide +kernel
theorem dX0_routeTo_13 : decode cX0_routeTo 13 = .ok (.iload 5, 2) := by decide +kernel
theorem dX0_routeTo_15 : decode cX0_routeTo 15 = .ok (.aload_n 0, 1) := by decide +kernel
theorem dX0_routeTo_16 : decode cX0_routeTo 16 = .ok (.getfield 20, 3) := by decide +kernel
theorem dX0_routeTo_19 : decode cX0_routeTo 19 = .ok (.getfield 40, 3) := by decide +kernel
theorem dX0_routeTo_22 : decode cX0_routeTo 22 = .ok (.if_icmp .ge 71, 3) := by decide +kernel
theorem dX0_routeTo_25 : decode cX0_routeTo 25 = .ok (.iload_n 3, 1) := by decide +kernel
theorem dX0_routeTo_26 : decode cX0_routeTo 26 = .ok (.iload 5, 2) := by decide +kernel
theorem dX0_routeTo_28 : decode cX0_routeTo 28 = .ok (.invokestatic 47, 3) := by decide +kernel
theorem dX0_routeTo_31 : decode cX0_routeTo 31 = .ok (.iconst 1, 1) := by decide +kernel
theorem dX0_routeTo_32 : decode cX0_routeTo 32 = .ok (.if_icmp .ne 55, 3) := by decide +kernel
theorem dX0_routeTo_35 : decode cX0_routeTo 35 = .ok (.aload_n 0, 1) := by decide +kernel
theorem dX0_routeTo_36 : decode cX0_routeTo 36 = .ok (.getfield 20, 3) := by decide +kernel
theorem dX0_routeTo_39 : decode cX0_routeTo 39 = .ok (.iload 5, 2) := by decide +kernel
theorem dX0_routeTo_41 : decode cX0_routeTo 41 = .ok (.iconst 2, 1) := by decide +kernel
theorem dX0_routeTo_42 : decode cX0_routeTo 42 = .ok (.invokevirtual 43, 3) := by decide +kernel
theorem dX0_routeTo_45 : decode cX0_routeTo 45 = .ok (.iload_n 1, 1) := by decide +kernel
theorem dX0_routeTo_46 : decode cX0_routeTo 46 = .ok (.invokestatic 47, 3) := by decide +kernel
theorem dX0_routeTo_49 : decode cX0_routeTo 49 = .ok (.iconst 1, 1) := by decide +kernel
theorem dX0_routeTo_50 : decode cX0_routeTo 50 = .ok (.if_icmp .ne 37, 3) := by decide +kernel
theorem dX0_routeTo_53 : decode cX0_routeTo 53 = .ok (.iload 4, 2) := by decide +kernel
theorem dX0_routeTo_55 : decode cX0_routeTo 55 = .ok (.bipush (-9), 2) := by decide +kernel
theorem dX0_routeTo_57 : decode cX0_routeTo 57 = .ok (.if_icmp .eq 26, 3) := by decide +kernel
theorem dX0_routeTo_60 : decode cX0_routeTo 60 = .ok (.aload_n 0, 1) := by decide +kernel
theorem dX0_routeTo_61 : decode cX0_routeTo 61 = .ok (.getfield 20, 3) := by decide +kernel
theorem dX0_routeTo_64 : decode cX0_routeTo 64 = .ok (.iload 5, 2) := by decide +kernel
theorem dX0_routeTo_66 : decode cX0_routeTo 66 = .ok (.iconst 1, 1) := by decide +kernel
theorem dX0_routeTo_67 : decode cX0_routeTo 67 = .ok (.invokevirtual 43, 3) := by decide +kernel
theorem dX0_routeTo_70 : decode cX0_routeTo 70 = .ok (.aload_n 0, 1) := by decide +kernel
theorem dX0_routeTo_71 : decode cX0_routeTo 71 = .ok (.getfield 20, 3) := by decide +kernel
theorem dX0_routeTo_74 : decode cX0_routeTo 74 = .ok (.iload 4, 2) := by decide +kernel
theorem dX0_routeTo_76 : decode cX0_routeTo 76 = .ok (.iconst 1, 1) := by decide +kernel
theorem dX0_routeTo_77 : decode cX0_routeTo 77 = .ok (.invokevirtual 43, 3) := by decide +kernel
theorem dX0_routeTo_80 : decode cX0_routeTo 80 = .ok (.if_icmp .le 7, 3) := by decide +kernel
theorem dX0_routeTo_83 : decode cX0_routeTo 83 = .ok (.iload 5, 2) := by decide +kernel
theorem dX0_routeTo_85 : decode cX0_routeTo 85 = .ok (.istore 4, 2) := by decide +kernel
theorem dX0_routeTo_87 : decode cX0_routeTo 87 = .ok (.iinc 5 1, 3) := by decide +kernel
theorem dX0_routeTo_90 : decode cX0_routeTo 90 = .ok (.goto (-77), 3) := by decide +kernel
theorem dX0_routeTo_93 : decode cX0_routeTo 93 = .ok (.iload 4, 2) := by decide +kernel
theorem dX0_routeTo_95 : decode cX0_routeTo 95 = .ok (.ireturn, 1) := by decide +kernel
theorem dX0_agreesWith_0 : decode cX0_agreesWith 0 = .ok (.aload_n 0, 1) := by decide +kernel
theorem dX0_agreesWith_1 : decode cX0_agreesWith 1 = .ok (.invokevirtual 68, 3) := by decide +kernel
theorem dX0_agreesWith_4 : decode cX0_agreesWith 4 = .ok (.istore_n 2, 1) := by decide +kernel
theorem dX0_agreesWith_5 : decode cX0_agreesWith 5 = .ok (.iconst 0, 1) := by decide +kernel
theorem dX0_agreesWith_6 : decode cX0_agreesWith 6 = .ok (.istore_n 3, 1) := by decide +kernel
theorem dX0_agreesWith_7 : decode cX0_agreesWith 7 = .ok (.iload_n 3, 1) := by decide +kernel
theorem dX0_agreesWith_8 : decode cX0_agreesWith 8 = .ok (.aload_n 1, 1) := by decide +kernel
theorem dX0_agreesWith_9 : decode cX0_agreesWith 9 = .ok (.getfield 40, 3) := by decide +kernel
theorem dX0_agreesWith_12 : decode cX0_agreesWith 12 = .ok (.if_icmp .ge 47, 3) := by decide +kernel
theorem dX0_agreesWith_15 : decode cX0_agreesWith 15 = .ok (.aload_n 0, 1) := by decide +kernel
theorem dX0_agreesWith_16 : decode cX0_agreesWith 16 = .ok (.aload_n 1, 1) := by decide +kernel
theorem dX0_agreesWith_17 : decode cX0_agreesWith 17 = .ok (.iload_n 3, 1) := by decide +kernel
theorem dX0_agreesWith_18 : decode cX0_agreesWith 18 = .ok (.iconst 2, 1) := by decide +kernel
theorem dX0_agreesWith_19 : decode cX0_agreesWith 19 = .ok (.invokevirtual 43, 3) := by decide +kernel
theorem dX0_agreesWith_22 : decode cX0_agreesWith 22 = .ok (.aload_n 1, 1) := by decide +kernel
theorem dX0_agreesWith_23 : decode cX0_agreesWith 23 = .ok (.iload_n 3, 1) := by decide +kernel
theorem dX0_agreesWith_24 : decode cX0_agreesWith 24 = .ok (.iconst 1, 1) := by decide +kernel
theorem dX0_agreesWith_25 : decode cX0_agreesWith 25 = .ok (.invokevirtual 43, 3) := by decide +kernel
theorem dX0_agreesWith_28 : decode cX0_agreesWith 28 = .ok (.aload_n 1, 1) := by decide +kernel
theorem dX0_agreesWith_29 : decode cX0_agreesWith 29 = .ok (.iload_n 3, 1) := by decide +kernel
theorem dX0_agreesWith_30 : decode cX0_agreesWith 30 = .ok (.iconst 3, 1) := by decide +kernel
theorem dX0_agreesWith_31 : decode cX0_agreesWith 31 = .ok (.invokevirtual 43, 3) := by decide +kernel
theorem dX0_agreesWith_34 : decode cX0_agreesWith 34 = .ok (.iload_n 2, 1) := by decide +kernel
theorem dX0_agreesWith_35 : decode cX0_agreesWith 35 = .ok (.invokevirtual 61, 3) := by decide +kernel
theorem dX0_agreesWith_38 : decode cX0_agreesWith 38 = .ok (.istore 4, 2) := by decide +kernel
theorem dX0_agreesWith_40 : decode cX0_agreesWith 40 = .ok (.iload 4, 2) := by decide +kernel
theorem dX0_agreesWith_42 : decode cX0_agreesWith 42 = .ok (.aload_n 1, 1) := by decide +kernel
theorem dX0_agreesWith_43 : decode cX0_agreesWith 43 = .ok (.iload_n 3, 1) := by decide +kernel
theorem dX0_agreesWith_44 : decode cX0_agreesWith 44 = .ok (.iconst 4, 1) := by decide +kernel
theorem dX0_agreesWith_45 : decode cX0_agreesWith 45 = .ok (.invokevirtual 43, 3) := by decide +kernel
theorem dX0_agreesWith_48 : decode cX0_agreesWith 48 = .ok (.if_icmp .eq 5, 3) := by decide +kernel
theorem dX0_agreesWith_51 : decode cX0_agreesWith 51 = .ok (.iconst 0, 1) := by decide +kernel
theorem dX0_agreesWith_52 : decode cX0_agreesWith 52 = .ok (.ireturn, 1) := by decide +kernel
theorem dX0_agreesWith_53 : decode cX0_agreesWith 53 = .ok (.iinc 3 1, 3) := by decide +kernel
theorem dX0_agreesWith_56 : decode cX0_agreesWith 56 = .ok (.goto (-49), 3) := by decide +kernel
theorem dX0_agreesWith_59 : decode cX0_agreesWith 59 = .ok (.iconst 1, 1) := by decide +kernel
theorem dX0_agreesWith_60 : decode cX0_agreesWith 60 = .ok (.ireturn, 1) := by decide +kernel
theorem dX0_canBe_0 : decode cX0_canBe 0 = .ok (.iload_n 1, 1) := by decide +kernel
theorem dX0_canBe_1 : decode cX0_canBe 1 = .ok (.bipush 100, 2) := by decide +kernel
theorem dX0_canBe_3 : decode cX0_canBe 3 = .ok (.idiv, 1) := by decide +kernel
theorem dX0_canBe_4 : decode cX0_canBe 4 = .ok (.bipush 10, 2) := by decide +kernel
theorem dX0_canBe_6 : decode cX0_canBe 6 = .ok (.irem, 1) := by decide +kernel
theorem dX0_canBe_7 : decode cX0_canBe 7 = .ok (.istore_n 2, 1) := by decide +kernel
theorem dX0_canBe_8 : decode cX0_canBe 8 = .ok (.iload_n 1, 1) := by decide +kernel
theorem dX0_canBe_9 : decode cX0_canBe 9 = .ok (.bipush 10, 2) := by decide +kernel
theorem dX0_canBe_11 : decode cX0_canBe 11 = .ok (.irem, 1) := by decide +kernel
theorem dX0_canBe_12 : decode cX0_canBe 12 = .ok (.istore_n 3, 1) := by decide +kernel
theorem dX0_canBe_13 : decode cX0_canBe 13 = .ok (.iload_n 1, 1) := by decide +kernel
theorem dX0_canBe_14 : decode cX0_canBe 14 = .ok (.bipush 10, 2) := by decide +kernel
theorem dX0_canBe_16 : decode cX0_canBe 16 = .ok (.idiv, 1) := by decide +kernel
theorem dX0_canBe_17 : decode cX0_canBe 17 = .ok (.bipush 10, 2) := by decide +kernel
theorem dX0_canBe_19 : decode cX0_canBe 19 = .ok (.irem, 1) := by decide +kernel
theorem dX0_canBe_20 : decode cX0_canBe 20 = .ok (.ifCond .ne 7, 3) := by decide +kernel
theorem dX0_canBe_23 : decode cX0_canBe 23 = .ok (.iconst 1, 1) := by decide +kernel
theorem dX0_canBe_24 : decode cX0_canBe 24 = .ok (.goto 4, 3) := by decide +kernel
theorem dX0_canBe_27 : decode cX0_canBe 27 = .ok (.iconst 0, 1) := by decide +kernel
theorem dX0_canBe_28 : decode cX0_canBe 28 = .ok (.istore 4, 2) := by decide +kernel
theorem dX0_canBe_30 : decode cX0_canBe 30 = .ok (.iload_n 1, 1) := by decide +kernel
theorem dX0_canBe_31 : decode cX0_canBe 31 = .ok (.sipush 1000, 3) := by decide +kernel
theorem dX0_canBe_34 : decode cX0_canBe 34 = .ok (.idiv, 1) := by decide +kernel
theorem dX0_canBe_35 : decode cX0_canBe 35 = .ok (.tableswitch 288 1 8 #[45, 68, 94, 117, 156, 193, 231, 265], 45) := by decide +kernel
theorem dX0_canBe_80 : decode cX0_canBe 80 = .ok (.iload 4, 2) := by decide +kernel
theorem dX0_canBe_82 : decode cX0_canBe 82 = .ok (.ifCond .eq 19, 3) := by decide +kernel
theorem dX0_canBe_85 : decode cX0_canBe 85 = .ok (.iload_n 3, 1) := by decide +kernel
theorem dX0_canBe_86 : decode cX0_canBe 86 = .ok (.ifCond .ne 15, 3) := by decide +kernel
theorem dX0_canBe_89 : decode cX0_canBe 89 = .ok (.aload_n 0, 1) := by decide +kernel
theorem dX0_canBe_90 : decode cX0_canBe 90 = .ok (.iload_n 2, 1) := by decide +kernel
theorem dX0_canBe_91 : decode cX0_canBe 91 = .ok (.invokevirtual 83, 3) := by decide +kernel
theorem dX0_canBe_94 : decode cX0_canBe 94 = .ok (.ifCond .eq 7, 3) := by decide +kernel
theorem dX0_canBe_97 : decode cX0_canBe 97 = .ok (.iconst 1, 1) := by decide +kernel
theorem dX0_canBe_98 : decode cX0_canBe 98 = .ok (.goto 4, 3) := by decide +kernel
theorem dX0_canBe_101 : decode cX0_canBe 101 = .ok (.iconst 0, 1) := by decide +kernel
theorem dX0_canBe_102 : decode cX0_canBe 102 = .ok (.ireturn, 1) := by decide +kernel
theorem dX0_canBe_103 : decode cX0_canBe 103 = .ok (.iload 4, 2) := by decide +kernel
theorem dX0_canBe_105 : decode cX0_canBe 105 = .ok (.ifCond .eq 22, 3) := by decide +kernel
theorem dX0_canBe_108 : decode cX0_canBe 108 = .ok (.iload_n 3, 1) := by decide +kernel
theorem dX0_canBe_109 : decode cX0_canBe 109 = .ok (.ifCond .ne 18, 3) := by decide +kernel
theorem dX0_canBe_112 : decode cX0_canBe 112 = .ok (.iload_n 2, 1) := by decide +kernel
theorem dX0_canBe_113 : decode cX0_canBe 113 = .ok (.ifCond .ne 14, 3) := by decide +kernel
theorem dX0_canBe_116 : decode cX0_canBe 116 = .ok (.aload_n 0, 1) := by decide +kernel
theorem dX0_canBe_117 : decode cX0_canBe 117 = .ok (.invokevirtual 87, 3) := by decide +kernel
theorem dX0_canBe_120 : decode cX0_canBe 120 = .ok (.ifCond .eq 7, 3) := by decide +kernel
theorem dX0_canBe_123 : decode cX0_canBe 123 = .ok (.iconst 1, 1) := by decide +kernel
theorem dX0_canBe_124 : decode cX0_canBe 124 = .ok (.goto 4, 3) := by decide +kernel
theorem dX0_canBe_127 : decode cX0_canBe 127 = .ok (.iconst 0, 1) := by decide +kernel
theorem dX0_canBe_128 : decode cX0_canBe 128 = .ok (.ireturn, 1) := by decide +kernel
theorem dX0_canBe_129 : decode cX0_canBe 129 = .ok (.iload 4, 2) := by decide +kernel
theorem dX0_canBe_131 : decode cX0_canBe 131 = .ok (.ifCond .eq 19, 3) := by decide +kernel
theorem dX0_canBe_134 : decode cX0_canBe 134 = .ok (.iload_n 3, 1) := by decide +kernel
theorem dX0_canBe_135 : decode cX0_canBe 135 = .ok (.ifCond .ne 15, 3) := by decide +kernel
theorem dX0_canBe_138 : decode cX0_canBe 138 = .ok (.aload_n 0, 1) := by decide +kernel
theorem dX0_canBe_139 : decode cX0_canBe 139 = .ok (.iload_n 2, 1) := by decide +kernel
theorem dX0_canBe_140 : decode cX0_canBe 140 = .ok (.invokevirtual 91, 3) := by decide +kernel
theorem dX0_canBe_143 : decode cX0_canBe 143 = .ok (.ifCond .eq 7, 3) := by decide +kernel
theorem dX0_canBe_146 : decode cX0_canBe 146 = .ok (.iconst 1, 1) := by decide +kernel
theorem dX0_canBe_147 : decode cX0_canBe 147 = .ok (.goto 4, 3) := by decide +kernel
theorem dX0_canBe_150 : decode cX0_canBe 150 = .ok (.iconst 0, 1) := by decide +kernel
theorem dX0_canBe_151 : decode cX0_canBe 151 = .ok (.ireturn, 1) := by decide +kernel
theorem dX0_canBe_152 : decode cX0_canBe 152 = .ok (.iload 4, 2) := by decide +kernel
theorem dX0_canBe_154 : decode cX0_canBe 154 = .ok (.ifCond .eq 35, 3) := by decide +kernel
theorem dX0_canBe_157 : decode cX0_canBe 157 = .ok (.aload_n 0, 1) := by decide +kernel
theorem dX0_canBe_158 : decode cX0_canBe 158 = .ok (.getfield 20, 3) := by decide +kernel
theorem dX0_canBe_161 : decode cX0_canBe 161 = .ok (.iload_n 2, 1) := by decide +kernel
theorem dX0_canBe_162 : decode cX0_canBe 162 = .ok (.invokevirtual 94, 3) := by decide +kernel
theorem dX0_canBe_165 : decode cX0_canBe 165 = .ok (.ifCond .eq 24, 3) := by decide +kernel
theorem dX0_canBe_168 : decode cX0_canBe 168 = .ok (.aload_n 0, 1) := by decide +kernel
theorem dX0_canBe_169 : decode cX0_canBe 169 = .ok (.iload_n 3, 1) := by decide +kernel
theorem dX0_canBe_170 : decode cX0_canBe 170 = .ok (.aload_n 0, 1) := by decide +kernel
theorem dX0_canBe_171 : decode cX0_canBe 171 = .ok (.invokevirtual 68, 3) := by decide +kernel
theorem dX0_canBe_174 : decode cX0_canBe 174 = .ok (.invokevirtual 65, 3) := by decide +kernel
theorem dX0_canBe_177 : decode cX0_canBe 177 = .ok (.iload_n 2, 1) := by decide +kernel
theorem dX0_canBe_178 : decode cX0_canBe 178 = .ok (.invokestatic 47, 3) := by decide +kernel
theorem dX0_canBe_181 : decode cX0_canBe 181 = .ok (.iconst 1, 1) := by decide +kernel
theorem dX0_canBe_182 : decode cX0_canBe 182 = .ok (.if_icmp .ne 7, 3) := by decide +kernel
theorem dX0_canBe_185 : decode cX0_canBe 185 = .ok (.iconst 1, 1) := by decide +kernel
theorem dX0_canBe_186 : decode cX0_canBe 186 = .ok (.goto 4, 3) := by decide +kernel
theorem dX0_canBe_189 : decode cX0_canBe 189 = .ok (.iconst 0, 1) := by decide +kernel
theorem dX0_canBe_190 : decode cX0_canBe 190 = .ok (.ireturn, 1) := by decide +kernel
theorem dX0_canBe_191 : decode cX0_canBe 191 = .ok (.iload_n 2, 1) := by decide +kernel
theorem dX0_canBe_192 : decode cX0_canBe 192 = .ok (.invokestatic 97, 3) := by decide +kernel
theorem dX0_canBe_195 : decode cX0_canBe 195 = .ok (.ifCond .eq 31, 3) := by decide +kernel
theorem dX0_canBe_198 : decode cX0_canBe 198 = .ok (.iload_n 1, 1) := by decide +kernel
theorem dX0_canBe_199 : decode cX0_canBe 199 = .ok (.bipush 100, 2) := by decide +kernel
theorem dX0_canBe_201 : decode cX0_canBe 201 = .ok (.irem, 1) := by decide +kernel
theorem dX0_canBe_202 : decode cX0_canBe 202 = .ok (.invokestatic 100, 3) := by decide +kernel
theorem dX0_canBe_205 : decode cX0_canBe 205 = .ok (.ifCond .eq 21, 3) := by decide +kernel
theorem dX0_canBe_208 : decode cX0_canBe 208 = .ok (.aload_n 0, 1) := by decide +kernel
theorem dX0_canBe_209 : decode cX0_canBe 209 = .ok (.iload_n 1, 1) := by decide +kernel
theorem dX0_canBe_210 : decode cX0_canBe 210 = .ok (.bipush 100, 2) := by decide +kernel
theorem dX0_canBe_212 : decode cX0_canBe 212 = .ok (.irem, 1) := by decide +kernel
theorem dX0_canBe_213 : decode cX0_canBe 213 = .ok (.iload_n 2, 1) := by decide +kernel
theorem dX0_canBe_214 : decode cX0_canBe 214 = .ok (.invokevirtual 103, 3) := by decide +kernel
theorem dX0_canBe_217 : decode cX0_canBe 217 = .ok (.bipush (-9), 2) := by decide +kernel
theorem dX0_canBe_219 : decode cX0_canBe 219 = .ok (.if_icmp .ne 7, 3) := by decide +kernel
theorem dX0_canBe_222 : decode cX0_canBe 222 = .ok (.iconst 1, 1) := by decide +kernel
theorem dX0_canBe_223 : decode cX0_canBe 223 = .ok (.goto 4, 3) := by decide +kernel
theorem dX0_canBe_226 : decode cX0_canBe 226 = .ok (.iconst 0, 1) := by decide +kernel
theorem dX0_canBe_227 : decode cX0_canBe 227 = .ok (.ireturn, 1) := by decide +kernel
theorem dX0_canBe_228 : decode cX0_canBe 228 = .ok (.iload 4, 2) := by decide +kernel
theorem dX0_canBe_230 : decode cX0_canBe 230 = .ok (.ifCond .eq 34, 3) := by decide +kernel
theorem dX0_canBe_233 : decode cX0_canBe 233 = .ok (.aload_n 0, 1) := by decide +kernel
theorem dX0_canBe_234 : decode cX0_canBe 234 = .ok (.getfield 23, 3) := by decide +kernel
theorem dX0_canBe_237 : decode cX0_canBe 237 = .ok (.iload_n 2, 1) := by decide +kernel
theorem dX0_canBe_238 : decode cX0_canBe 238 = .ok (.invokevirtual 94, 3) := by decide +kernel
theorem dX0_canBe_241 : decode cX0_canBe 241 = .ok (.ifCond .eq 23, 3) := by decide +kernel
theorem dX0_canBe_244 : decode cX0_canBe 244 = .ok (.aload_n 0, 1) := by decide +kernel
theorem dX0_canBe_245 : decode cX0_canBe 245 = .ok (.aload_n 0, 1) := by decide +kernel
theorem dX0_canBe_246 : decode cX0_canBe 246 = .ok (.getfield 30, 3) := by decide +kernel
theorem dX0_canBe_249 : decode cX0_canBe 249 = .ok (.invokevirtual 54, 3) := by decide +kernel
theorem dX0_canBe_252 : decode cX0_canBe 252 = .ok (.iload_n 2, 1) := by decide +kernel
theorem dX0_canBe_253 : decode cX0_canBe 253 = .ok (.invokestatic 47, 3) := by decide +kernel
theorem dX0_canBe_256 : decode cX0_canBe 256 = .ok (.iload_n 3, 1) := by decide +kernel
theorem dX0_canBe_257 : decode cX0_canBe 257 = .ok (.if_icmp .ne 7, 3) := by decide +kernel
theorem dX0_canBe_260 : decode cX0_canBe 260 = .ok (.iconst 1, 1) := by decide +kernel
theorem dX0_canBe_261 : decode cX0_canBe 261 = .ok (.goto 4, 3) := by decide +kernel
theorem dX0_canBe_264 : decode cX0_canBe 264 = .ok (.iconst 0, 1) := by decide +kernel
theorem dX0_canBe_265 : decode cX0_canBe 265 = .ok (.ireturn, 1) := by decide +kernel
theorem dX0_canBe_266 : decode cX0_canBe 266 = .ok (.iload 4, 2) := by decide +kernel
theorem dX0_canBe_268 : decode cX0_canBe 268 = .ok (.ifCond .eq 30, 3) := by decide +kernel
theorem dX0_canBe_271 : decode cX0_canBe 271 = .ok (.aload_n 0, 1) := by decide +kernel
theorem dX0_canBe_272 : decode cX0_canBe 272 = .ok (.getfield 14, 3) := by decide +kernel
theorem dX0_canBe_275 : decode cX0_canBe 275 = .ok (.iload_n 2, 1) := by decide +kernel
theorem dX0_canBe_276 : decode cX0_canBe 276 = .ok (.invokevirtual 94, 3) := by decide +kernel
theorem dX0_canBe_279 : decode cX0_canBe 279 = .ok (.ifCond .eq 19, 3) := by decide +kernel
theorem dX0_canBe_282 : decode cX0_canBe 282 = .ok (.aload_n 0, 1) := by decide +kernel
theorem dX0_canBe_283 : decode cX0_canBe 283 = .ok (.invokevirtual 68, 3) := by decide +kernel
theorem dX0_canBe_286 : decode cX0_canBe 286 = .ok (.iload_n 2, 1) := by decide +kernel
theorem dX0_canBe_287 : decode cX0_canBe 287 = .ok (.invokestatic 47, 3) := by decide +kernel
theorem dX0_canBe_290 : decode cX0_canBe 290 = .ok (.iload_n 3, 1) := by decide +kernel
theorem dX0_canBe_291 : decode cX0_canBe 291 = .ok (.if_icmp .ne 7, 3) := by decide +kernel
theorem dX0_canBe_294 : decode cX0_canBe 294 = .ok (.iconst 1, 1) := by decide +kernel
theorem dX0_canBe_295 : decode cX0_canBe 295 = .ok (.goto 4, 3) := by decide +kernel
theorem dX0_canBe_298 : decode cX0_canBe 298 = .ok (.iconst 0, 1) := by decide +kernel
theorem dX0_canBe_299 : decode cX0_canBe 299 = .ok (.ireturn, 1) := by decide +kernel
theorem dX0_canBe_300 : decode cX0_canBe 300 = .ok (.iload 4, 2) := by decide +kernel
theorem dX0_canBe_302 : decode cX0_canBe 302 = .ok (.ifCond .eq 19, 3) := by decide +kernel
theorem dX0_canBe_305 : decode cX0_canBe 305 = .ok (.iload_n 3, 1) := by decide +kernel
theorem dX0_canBe_306 : decode cX0_canBe 306 = .ok (.ifCond .ne 15, 3) := by decide +kernel
theorem dX0_canBe_309 : decode cX0_canBe 309 = .ok (.aload_n 0, 1) := by decide +kernel
theorem dX0_canBe_310 : decode cX0_canBe 310 = .ok (.iload_n 2, 1) := by decide +kernel
theorem dX0_canBe_311 : decode cX0_canBe 311 = .ok (.invokevirtual 106, 3) := by decide +kernel
theorem dX0_canBe_314 : decode cX0_canBe 314 = .ok (.ifCond .eq 7, 3) := by decide +kernel
theorem dX0_canBe_317 : decode cX0_canBe 317 = .ok (.iconst 1, 1) := by decide +kernel
theorem dX0_canBe_318 : decode cX0_canBe 318 = .ok (.goto 4, 3) := by decide +kernel
theorem dX0_canBe_321 : decode cX0_canBe 321 = .ok (.iconst 0, 1) := by decide +kernel
theorem dX0_canBe_322 : decode cX0_canBe 322 = .ok (.ireturn, 1) := by decide +kernel
theorem dX0_canBe_323 : decode cX0_canBe 323 = .ok (.iconst 0, 1) := by decide +kernel
theorem dX0_canBe_324 : decode cX0_canBe 324 = .ok (.ireturn, 1) := by decide +kernel
theorem dX0_canRevoke_0 : decode cX0_canRevoke 0 = .ok (.iload_n 1, 1) := by decide +kernel
theorem dX0_canRevoke_1 : decode cX0_canRevoke 1 = .ok (.ifCond .eq 14, 3) := by decide +kernel
theorem dX0_canRevoke_4 : decode cX0_canRevoke 4 = .ok (.aload_n 0, 1) := by decide +kernel
theorem dX0_canRevoke_5 : decode cX0_canRevoke 5 = .ok (.getfield 23, 3) := by decide +kernel
theorem dX0_canRevoke_8 : decode cX0_canRevoke 8 = .ok (.iload_n 1, 1) := by decide +kernel
theorem dX0_canRevoke_9 : decode cX0_canRevoke 9 = .ok (.invokevirtual 94, 3) := by decide +kernel
theorem dX0_canRevoke_12 : decode cX0_canRevoke 12 = .ok (.ifCond .ne 5, 3) := by decide +kernel
theorem dX0_canRevoke_15 : decode cX0_canRevoke 15 = .ok (.iconst 0, 1) := by decide +kernel
theorem dX0_canRevoke_16 : decode cX0_canRevoke 16 = .ok (.ireturn, 1) := by decide +kernel
theorem dX0_canRevoke_17 : decode cX0_canRevoke 17 = .ok (.aload_n 0, 1) := by decide +kernel
theorem dX0_canRevoke_18 : decode cX0_canRevoke 18 = .ok (.dup, 1) := by decide +kernel
theorem dX0_canRevoke_19 : decode cX0_canRevoke 19 = .ok (.getfield 30, 3) := by decide +kernel
theorem dX0_canRevoke_22 : decode cX0_canRevoke 22 = .ok (.iconst 1, 1) := by decide +kernel
theorem dX0_canRevoke_23 : decode cX0_canRevoke 23 = .ok (.iload_n 1, 1) := by decide +kernel
theorem dX0_canRevoke_24 : decode cX0_canRevoke 24 = .ok (.ishl, 1) := by decide +kernel
theorem dX0_canRevoke_25 : decode cX0_canRevoke 25 = .ok (.ixor, 1) := by decide +kernel
theorem dX0_canRevoke_26 : decode cX0_canRevoke 26 = .ok (.putfield 30, 3) := by decide +kernel
theorem dX0_canRevoke_29 : decode cX0_canRevoke 29 = .ok (.iconst 1, 1) := by decide +kernel
theorem dX0_canRevoke_30 : decode cX0_canRevoke 30 = .ok (.ireturn, 1) := by decide +kernel
theorem dX0_canPassNight_0 : decode cX0_canPassNight 0 = .ok (.aload_n 0, 1) := by decide +kernel
theorem dX0_canPassNight_1 : decode cX0_canPassNight 1 = .ok (.getfield 37, 3) := by decide +kernel
theorem dX0_canPassNight_4 : decode cX0_canPassNight 4 = .ok (.bipush 9, 2) := by decide +kernel
theorem dX0_canPassNight_6 : decode cX0_canPassNight 6 = .ok (.if_icmp .lt 5, 3) := by decide +kernel
theorem dX0_canPassNight_9 : decode cX0_canPassNight 9 = .ok (.iconst 0, 1) := by decide +kernel
theorem dX0_canPassNight_10 : decode cX0_canPassNight 10 = .ok (.ireturn, 1) := by decide +kernel
theorem dX0_canPassNight_11 : decode cX0_canPassNight 11 = .ok (.aload_n 0, 1) := by decide +kernel
theorem dX0_canPassNight_12 : decode cX0_canPassNight 12 = .ok (.dup, 1) := by decide +kernel
theorem dX0_canPassNight_13 : decode cX0_canPassNight 13 = .ok (.getfield 37, 3) := by decide +kernel
theorem dX0_canPassNight_16 : decode cX0_canPassNight 16 = .ok (.iconst 1, 1) := by decide +kernel
theorem dX0_canPassNight_17 : decode cX0_canPassNight 17 = .ok (.iadd, 1) := by decide +kernel
theorem dX0_canPassNight_18 : decode cX0_canPassNight 18 = .ok (.putfield 37, 3) := by decide +kernel
theorem dX0_canPassNight_21 : decode cX0_canPassNight 21 = .ok (.iconst 1, 1) := by decide +kernel
theorem dX0_canPassNight_22 : decode cX0_canPassNight 22 = .ok (.ireturn, 1) := by decide +kernel
theorem dX0_canSetAside_0 : decode cX0_canSetAside 0 = .ok (.iload_n 1, 1) := by decide +kernel
theorem dX0_canSetAside_1 : decode cX0_canSetAside 1 = .ok (.invokestatic 109, 3) := by decide +kernel
theorem dX0_canSetAside_4 : decode cX0_canSetAside 4 = .ok (.ifCond .ne 5, 3) := by decide +kernel
theorem dX0_canSetAside_7 : decode cX0_canSetAside 7 = .ok (.iconst 0, 1) := by decide +kernel
theorem dX0_canSetAside_8 : decode cX0_canSetAside 8 = .ok (.ireturn, 1) := by decide +kernel
theorem dX0_canSetAside_9 : decode cX0_canSetAside 9 = .ok (.aload_n 0, 1) := by decide +kernel
theorem dX0_canSetAside_10 : decode cX0_canSetAside 10 = .ok (.dup, 1) := by decide +kernel
theorem dX0_canSetAside_11 : decode cX0_canSetAside 11 = .ok (.getfield 34, 3) := by decide +kernel
theorem dX0_canSetAside_14 : decode cX0_canSetAside 14 = .ok (.iconst 1, 1) := by decide +kernel
theorem dX0_canSetAside_15 : decode cX0_canSetAside 15 = .ok (.iload_n 1, 1) := by decide +kernel
theorem dX0_canSetAside_16 : decode cX0_canSetAside 16 = .ok (.ishl, 1) := by decide +kernel
theorem dX0_canSetAside_17 : decode cX0_canSetAside 17 = .ok (.ixor, 1) := by decide +kernel
theorem dX0_canSetAside_18 : decode cX0_canSetAside 18 = .ok (.putfield 34, 3) := by decide +kernel
theorem dX0_canSetAside_21 : decode cX0_canSetAside 21 = .ok (.iconst 1, 1) := by decide +kernel
theorem dX0_canSetAside_22 : decode cX0_canSetAside 22 = .ok (.ireturn, 1) := by decide +kernel
theorem dX0_canWithdraw_0 : decode cX0_canWithdraw 0 = .ok (.aload_n 0, 1) := by decide +kernel
theorem dX0_canWithdraw_1 : decode cX0_canWithdraw 1 = .ok (.getfield 20, 3) := by decide +kernel
theorem dX0_canWithdraw_4 : decode cX0_canWithdraw 4 = .ok (.iload_n 1, 1) := by decide +kernel
theorem dX0_canWithdraw_5 : decode cX0_canWithdraw 5 = .ok (.invokevirtual 94, 3) := by decide +kernel
theorem dX0_canWithdraw_8 : decode cX0_canWithdraw 8 = .ok (.ifCond .ne 5, 3) := by decide +kernel
theorem dX0_canWithdraw_11 : decode cX0_canWithdraw 11 = .ok (.iconst 0, 1) := by decide +kernel
theorem dX0_canWithdraw_12 : decode cX0_canWithdraw 12 = .ok (.ireturn, 1) := by decide +kernel
theorem dX0_canWithdraw_13 : decode cX0_canWithdraw 13 = .ok (.aload_n 0, 1) := by decide +kernel
theorem dX0_canWithdraw_14 : decode cX0_canWithdraw 14 = .ok (.getfield 20, 3) := by decide +kernel
theorem dX0_canWithdraw_17 : decode cX0_canWithdraw 17 = .ok (.iload_n 1, 1) := by decide +kernel
theorem dX0_canWithdraw_18 : decode cX0_canWithdraw 18 = .ok (.invokevirtual 112, 3) := by decide +kernel
theorem dX0_canWithdraw_21 : decode cX0_canWithdraw 21 = .ok (.iconst 1, 1) := by decide +kernel
theorem dX0_canWithdraw_22 : decode cX0_canWithdraw 22 = .ok (.ireturn, 1) := by decide +kernel
theorem dX1_init_0 : decode cX1_init 0 = .ok (.aload_n 0, 1) := by decide +kernel
theorem dX1_init_1 : decode cX1_init 1 = .ok (.invokespecial 3, 3) := by decide +kernel
theorem dX1_init_4 : decode cX1_init 4 = .ok (.aload_n 0, 1) := by decide +kernel
theorem dX1_init_5 : decode cX1_init 5 = .ok (.iload_n 1, 1) := by decide +kernel
theorem dX1_init_6 : decode cX1_init 6 = .ok (.iconst 0, 1) := by decide +kernel
theorem dX1_init_7 : decode cX1_init 7 = .ok (.invokestatic 9, 3) := by decide +kernel
theorem dX1_init_10 : decode cX1_init 10 = .ok (.putfield 15, 3) := by decide +kernel
theorem dX1_init_13 : decode cX1_init 13 = .ok (.aload_n 0, 1) := by decide +kernel
theorem dX1_init_14 : decode cX1_init 14 = .ok (.iload_n 2, 1) := by decide +kernel
theorem dX1_init_15 : decode cX1_init 15 = .ok (.iconst 0, 1) := by decide +kernel
theorem dX1_init_16 : decode cX1_init 16 = .ok (.invokestatic 9, 3) := by decide +kernel
theorem dX1_init_19 : decode cX1_init 19 = .ok (.putfield 21, 3) := by decide +kernel
theorem dX1_init_22 : decode cX1_init 22 = .ok (.aload_n 0, 1) := by decide +kernel
theorem dX1_init_23 : decode cX1_init 23 = .ok (.aload_n 0, 1) := by decide +kernel
theorem dX1_init_24 : decode cX1_init 24 = .ok (.getfield 15, 3) := by decide +kernel
theorem dX1_init_27 : decode cX1_init 27 = .ok (.aload_n 0, 1) := by decide +kernel
theorem dX1_init_28 : decode cX1_init 28 = .ok (.getfield 21, 3) := by decide +kernel
theorem dX1_init_31 : decode cX1_init 31 = .ok (.imul, 1) := by decide +kernel
theorem dX1_init_32 : decode cX1_init 32 = .ok (.newarray .int, 2) := by decide +kernel
theorem dX1_init_34 : decode cX1_init 34 = .ok (.putfield 24, 3) := by decide +kernel
theorem dX1_init_37 : decode cX1_init 37 = .ok (.return_, 1) := by decide +kernel
theorem dX1_has_0 : decode cX1_has 0 = .ok (.iload_n 1, 1) := by decide +kernel
theorem dX1_has_1 : decode cX1_has 1 = .ok (.ifCond .lt 15, 3) := by decide +kernel
theorem dX1_has_4 : decode cX1_has 4 = .ok (.iload_n 1, 1) := by decide +kernel
theorem dX1_has_5 : decode cX1_has 5 = .ok (.aload_n 0, 1) := by decide +kernel
theorem dX1_has_6 : decode cX1_has 6 = .ok (.getfield 28, 3) := by decide +kernel
theorem dX1_has_9 : decode cX1_has 9 = .ok (.if_icmp .ge 7, 3) := by decide +kernel
theorem dX1_has_12 : decode cX1_has 12 = .ok (.iconst 1, 1) := by decide +kernel
theorem dX1_has_13 : decode cX1_has 13 = .ok (.goto 4, 3) := by decide +kernel
theorem dX1_has_16 : decode cX1_has 16 = .ok (.iconst 0, 1) := by decide +kernel
theorem dX1_has_17 : decode cX1_has 17 = .ok (.ireturn, 1) := by decide +kernel
theorem dX1_at_0 : decode cX1_at 0 = .ok (.iload_n 1, 1) := by decide +kernel
theorem dX1_at_1 : decode cX1_at 1 = .ok (.ifCond .lt 23, 3) := by decide +kernel
theorem dX1_at_4 : decode cX1_at 4 = .ok (.iload_n 1, 1) := by decide +kernel
theorem dX1_at_5 : decode cX1_at 5 = .ok (.aload_n 0, 1) := by decide +kernel
theorem dX1_at_6 : decode cX1_at 6 = .ok (.getfield 28, 3) := by decide +kernel
theorem dX1_at_9 : decode cX1_at 9 = .ok (.if_icmp .ge 15, 3) := by decide +kernel
theorem dX1_at_12 : decode cX1_at 12 = .ok (.iload_n 2, 1) := by decide +kernel
theorem dX1_at_13 : decode cX1_at 13 = .ok (.ifCond .lt 11, 3) := by decide +kernel
theorem dX1_at_16 : decode cX1_at 16 = .ok (.iload_n 2, 1) := by decide +kernel
theorem dX1_at_17 : decode cX1_at 17 = .ok (.aload_n 0, 1) := by decide +kernel
theorem dX1_at_18 : decode cX1_at 18 = .ok (.getfield 21, 3) := by decide +kernel
theorem dX1_at_21 : decode cX1_at 21 = .ok (.if_icmp .lt 5, 3) := by decide +kernel
theorem dX1_at_24 : decode cX1_at 24 = .ok (.iconst 0, 1) := by decide +kernel
theorem dX1_at_25 : decode cX1_at 25 = .ok (.ireturn, 1) := by decide +kernel
theorem dX1_at_26 : decode cX1_at 26 = .ok (.aload_n 0, 1) := by decide +kernel
theorem dX1_at_27 : decode cX1_at 27 = .ok (.getfield 24, 3) := by decide +kernel
theorem dX1_at_30 : decode cX1_at 30 = .ok (.iload_n 1, 1) := by decide +kernel
theorem dX1_at_31 : decode cX1_at 31 = .ok (.aload_n 0, 1) := by decide +kernel
theorem dX1_at_32 : decode cX1_at 32 = .ok (.getfield 21, 3) := by decide +kernel
theorem dX1_at_35 : decode cX1_at 35 = .ok (.imul, 1) := by decide +kernel
theorem dX1_at_36 : decode cX1_at 36 = .ok (.iload_n 2, 1) := by decide +kernel
theorem dX1_at_37 : decode cX1_at 37 = .ok (.iadd, 1) := by decide +kernel
theorem dX1_at_38 : decode cX1_at 38 = .ok (.iaload, 1) := by decide +kernel
theorem dX1_at_39 : decode cX1_at 39 = .ok (.ireturn, 1) := by decide +kernel
theorem dX1_put_0 : decode cX1_put 0 = .ok (.iload_n 1, 1) := by decide +kernel
theorem dX1_put_1 : decode cX1_put 1 = .ok (.ifCond .lt 37, 3) := by decide +kernel
theorem dX1_put_4 : decode cX1_put 4 = .ok (.iload_n 1, 1) := by decide +kernel
theorem dX1_put_5 : decode cX1_put 5 = .ok (.aload_n 0, 1) := by decide +kernel
theorem dX1_put_6 : decode cX1_put 6 = .ok (.getfield 28, 3) := by decide +kernel
theorem dX1_put_9 : decode cX1_put 9 = .ok (.if_icmp .ge 29, 3) := by decide +kernel
theorem dX1_put_12 : decode cX1_put 12 = .ok (.iload_n 2, 1) := by decide +kernel
theorem dX1_put_13 : decode cX1_put 13 = .ok (.ifCond .lt 25, 3) := by decide +kernel
theorem dX1_put_16 : decode cX1_put 16 = .ok (.iload_n 2, 1) := by decide +kernel
theorem dX1_put_17 : decode cX1_put 17 = .ok (.aload_n 0, 1) := by decide +kernel
theorem dX1_put_18 : decode cX1_put 18 = .ok (.getfield 21, 3) := by decide +kernel
theorem dX1_put_21 : decode cX1_put 21 = .ok (.if_icmp .ge 17, 3) := by decide +kernel
theorem dX1_put_24 : decode cX1_put 24 = .ok (.aload_n 0, 1) := by decide +kernel
theorem dX1_put_25 : decode cX1_put 25 = .ok (.getfield 24, 3) := by decide +kernel
theorem dX1_put_28 : decode cX1_put 28 = .ok (.iload_n 1, 1) := by decide +kernel
theorem dX1_put_29 : decode cX1_put 29 = .ok (.aload_n 0, 1) := by decide +kernel
theorem dX1_put_30 : decode cX1_put 30 = .ok (.getfield 21, 3) := by decide +kernel
theorem dX1_put_33 : decode cX1_put 33 = .ok (.imul, 1) := by decide +kernel
theorem dX1_put_34 : decode cX1_put 34 = .ok (.iload_n 2, 1) := by decide +kernel
theorem dX1_put_35 : decode cX1_put 35 = .ok (.iadd, 1) := by decide +kernel
theorem dX1_put_36 : decode cX1_put 36 = .ok (.iload_n 3, 1) := by decide +kernel
theorem dX1_put_37 : decode cX1_put 37 = .ok (.iastore, 1) := by decide +kernel
theorem dX1_put_38 : decode cX1_put 38 = .ok (.return_, 1) := by decide +kernel
theorem dX1_addRange_0 : decode cX1_addRange 0 = .ok (.aload_n 0, 1) := by decide +kernel
theorem dX1_addRange_1 : decode cX1_addRange 1 = .ok (.getfield 28, 3) := by decide +kernel
theorem dX1_addRange_4 : decode cX1_addRange 4 = .ok (.istore 6, 2) := by decide +kernel
theorem dX1_addRange_6 : decode cX1_addRange 6 = .ok (.aload_n 0, 1) := by decide +kernel
theorem dX1_addRange_7 : decode cX1_addRange 7 = .ok (.iload 6, 2) := by decide +kernel
theorem dX1_addRange_9 : decode cX1_addRange 9 = .ok (.invokevirtual 31, 3) := by decide +kernel
theorem dX1_addRange_12 : decode cX1_addRange 12 = .ok (.aload_n 0, 1) := by decide +kernel
theorem dX1_addRange_13 : decode cX1_addRange 13 = .ok (.iload 6, 2) := by decide +kernel
theorem dX1_addRange_15 : decode cX1_addRange 15 = .ok (.iconst 0, 1) := by decide +kernel
theorem dX1_addRange_16 : decode cX1_addRange 16 = .ok (.iload_n 1, 1) := by decide +kernel
theorem dX1_addRange_17 : decode cX1_addRange 17 = .ok (.invokevirtual 35, 3) := by decide +kernel
theorem dX1_addRange_20 : decode cX1_addRange 20 = .ok (.aload_n 0, 1) := by decide +kernel
theorem dX1_addRange_21 : decode cX1_addRange 21 = .ok (.iload 6, 2) := by decide +kernel
theorem dX1_addRange_23 : decode cX1_addRange 23 = .ok (.iconst 1, 1) := by decide +kernel
theorem dX1_addRange_24 : decode cX1_addRange 24 = .ok (.iload_n 2, 1) := by decide +kernel
theorem dX1_addRange_25 : decode cX1_addRange 25 = .ok (.invokevirtual 35, 3) := by decide +kernel
theorem dX1_addRange_28 : decode cX1_addRange 28 = .ok (.aload_n 0, 1) := by decide +kernel
theorem dX1_addRange_29 : decode cX1_addRange 29 = .ok (.iload 6, 2) := by decide +kernel
theorem dX1_addRange_31 : decode cX1_addRange 31 = .ok (.iconst 2, 1) := by decide +kernel
theorem dX1_addRange_32 : decode cX1_addRange 32 = .ok (.iload_n 1, 1) := by decide +kernel
theorem dX1_addRange_33 : decode cX1_addRange 33 = .ok (.iload_n 2, 1) := by decide +kernel
theorem dX1_addRange_34 : decode cX1_addRange 34 = .ok (.invokestatic 39, 3) := by decide +kernel
theorem dX1_addRange_37 : decode cX1_addRange 37 = .ok (.invokevirtual 35, 3) := by decide +kernel
theorem dX1_addRange_40 : decode cX1_addRange 40 = .ok (.aload_n 0, 1) := by decide +kernel
theorem dX1_addRange_41 : decode cX1_addRange 41 = .ok (.iload 6, 2) := by decide +kernel
theorem dX1_addRange_43 : decode cX1_addRange 43 = .ok (.iconst 3, 1) := by decide +kernel
theorem dX1_addRange_44 : decode cX1_addRange 44 = .ok (.iload_n 3, 1) := by decide +kernel
theorem dX1_addRange_45 : decode cX1_addRange 45 = .ok (.invokevirtual 35, 3) := by decide +kernel
theorem dX1_addRange_48 : decode cX1_addRange 48 = .ok (.aload_n 0, 1) := by decide +kernel
theorem dX1_addRange_49 : decode cX1_addRange 49 = .ok (.iload 6, 2) := by decide +kernel
theorem dX1_addRange_51 : decode cX1_addRange 51 = .ok (.iconst 4, 1) := by decide +kernel
theorem dX1_addRange_52 : decode cX1_addRange 52 = .ok (.iload 4, 2) := by decide +kernel
theorem dX1_addRange_54 : decode cX1_addRange 54 = .ok (.invokevirtual 35, 3) := by decide +kernel
theorem dX1_addRange_57 : decode cX1_addRange 57 = .ok (.aload_n 0, 1) := by decide +kernel
theorem dX1_addRange_58 : decode cX1_addRange 58 = .ok (.iload 6, 2) := by decide +kernel
theorem dX1_addRange_60 : decode cX1_addRange 60 = .ok (.iconst 5, 1) := by decide +kernel
theorem dX1_addRange_61 : decode cX1_addRange 61 = .ok (.iload 5, 2) := by decide +kernel
theorem dX1_addRange_63 : decode cX1_addRange 63 = .ok (.invokevirtual 35, 3) := by decide +kernel
theorem dX1_addRange_66 : decode cX1_addRange 66 = .ok (.iload 6, 2) := by decide +kernel
theorem dX1_addRange_68 : decode cX1_addRange 68 = .ok (.ireturn, 1) := by decide +kernel
theorem dX1_openAt_0 : decode cX1_openAt 0 = .ok (.iload_n 1, 1) := by decide +kernel
theorem dX1_openAt_1 : decode cX1_openAt 1 = .ok (.ifCond .lt 22, 3) := by decide +kernel
theorem dX1_openAt_4 : decode cX1_openAt 4 = .ok (.iload_n 1, 1) := by decide +kernel
theorem dX1_openAt_5 : decode cX1_openAt 5 = .ok (.aload_n 0, 1) := by decide +kernel
theorem dX1_openAt_6 : decode cX1_openAt 6 = .ok (.getfield 28, 3) := by decide +kernel
theorem dX1_openAt_9 : decode cX1_openAt 9 = .ok (.if_icmp .gt 14, 3) := by decide +kernel
theorem dX1_openAt_12 : decode cX1_openAt 12 = .ok (.aload_n 0, 1) := by decide +kernel
theorem dX1_openAt_13 : decode cX1_openAt 13 = .ok (.getfield 28, 3) := by decide +kernel
theorem dX1_openAt_16 : decode cX1_openAt 16 = .ok (.aload_n 0, 1) := by decide +kernel
theorem dX1_openAt_17 : decode cX1_openAt 17 = .ok (.getfield 15, 3) := by decide +kernel
theorem dX1_openAt_20 : decode cX1_openAt 20 = .ok (.if_icmp .lt 4, 3) := by decide +kernel
theorem dX1_openAt_23 : decode cX1_openAt 23 = .ok (.return_, 1) := by decide +kernel
theorem dX1_openAt_24 : decode cX1_openAt 24 = .ok (.aload_n 0, 1) := by decide +kernel
theorem dX1_openAt_25 : decode cX1_openAt 25 = .ok (.getfield 24, 3) := by decide +kernel
theorem dX1_openAt_28 : decode cX1_openAt 28 = .ok (.iload_n 1, 1) := by decide +kernel
theorem dX1_openAt_29 : decode cX1_openAt 29 = .ok (.aload_n 0, 1) := by decide +kernel
theorem dX1_openAt_30 : decode cX1_openAt 30 = .ok (.getfield 21, 3) := by decide +kernel
theorem dX1_openAt_33 : decode cX1_openAt 33 = .ok (.imul, 1) := by decide +kernel
theorem dX1_openAt_34 : decode cX1_openAt 34 = .ok (.aload_n 0, 1) := by decide +kernel
theorem dX1_openAt_35 : decode cX1_openAt 35 = .ok (.getfield 24, 3) := by decide +kernel
theorem dX1_openAt_38 : decode cX1_openAt 38 = .ok (.iload_n 1, 1) := by decide +kernel
theorem dX1_openAt_39 : decode cX1_openAt 39 = .ok (.iconst 1, 1) := by decide +kernel
theorem dX1_openAt_40 : decode cX1_openAt 40 = .ok (.iadd, 1) := by decide +kernel
theorem dX1_openAt_41 : decode cX1_openAt 41 = .ok (.aload_n 0, 1) := by decide +kernel
theorem dX1_openAt_42 : decode cX1_openAt 42 = .ok (.getfield 21, 3) := by decide +kernel
theorem dX1_openAt_45 : decode cX1_openAt 45 = .ok (.imul, 1) := by decide +kernel
theorem dX1_openAt_46 : decode cX1_openAt 46 = .ok (.aload_n 0, 1) := by decide +kernel
theorem dX1_openAt_47 : decode cX1_openAt 47 = .ok (.getfield 28, 3) := by decide +kernel
theorem dX1_openAt_50 : decode cX1_openAt 50 = .ok (.iload_n 1, 1) := by decide +kernel
theorem dX1_openAt_51 : decode cX1_openAt 51 = .ok (.isub, 1) := by decide +kernel
theorem dX1_openAt_52 : decode cX1_openAt 52 = .ok (.aload_n 0, 1) := by decide +kernel
theorem dX1_openAt_53 : decode cX1_openAt 53 = .ok (.getfield 21, 3) := by decide +kernel
theorem dX1_openAt_56 : decode cX1_openAt 56 = .ok (.imul, 1) := by decide +kernel
theorem dX1_openAt_57 : decode cX1_openAt 57 = .ok (.invokestatic 42, 3) := by decide +kernel
theorem dX1_openAt_60 : decode cX1_openAt 60 = .ok (.aload_n 0, 1) := by decide +kernel
theorem dX1_openAt_61 : decode cX1_openAt 61 = .ok (.dup, 1) := by decide +kernel
theorem dX1_openAt_62 : decode cX1_openAt 62 = .ok (.getfield 28, 3) := by decide +kernel
theorem dX1_openAt_65 : decode cX1_openAt 65 = .ok (.iconst 1, 1) := by decide +kernel
theorem dX1_openAt_66 : decode cX1_openAt 66 = .ok (.iadd, 1) := by decide +kernel
theorem dX1_openAt_67 : decode cX1_openAt 67 = .ok (.putfield 28, 3) := by decide +kernel
theorem dX1_openAt_70 : decode cX1_openAt 70 = .ok (.return_, 1) := by decide +kernel
theorem dX1_closeAt_0 : decode cX1_closeAt 0 = .ok (.iload_n 1, 1) := by decide +kernel
theorem dX1_closeAt_1 : decode cX1_closeAt 1 = .ok (.ifCond .lt 11, 3) := by decide +kernel
theorem dX1_closeAt_4 : decode cX1_closeAt 4 = .ok (.iload_n 1, 1) := by decide +kernel
theorem dX1_closeAt_5 : decode cX1_closeAt 5 = .ok (.aload_n 0, 1) := by decide +kernel
theorem dX1_closeAt_6 : decode cX1_closeAt 6 = .ok (.getfield 28, 3) := by decide +kernel
theorem dX1_closeAt_9 : decode cX1_closeAt 9 = .ok (.if_icmp .lt 4, 3) := by decide +kernel
theorem dX1_closeAt_12 : decode cX1_closeAt 12 = .ok (.return_, 1) := by decide +kernel
theorem dX1_closeAt_13 : decode cX1_closeAt 13 = .ok (.aload_n 0, 1) := by decide +kernel
theorem dX1_closeAt_14 : decode cX1_closeAt 14 = .ok (.dup, 1) := by decide +kernel
theorem dX1_closeAt_15 : decode cX1_closeAt 15 = .ok (.getfield 28, 3) := by decide +kernel
theorem dX1_closeAt_18 : decode cX1_closeAt 18 = .ok (.iconst 1, 1) := by decide +kernel
theorem dX1_closeAt_19 : decode cX1_closeAt 19 = .ok (.isub, 1) := by decide +kernel
theorem dX1_closeAt_20 : decode cX1_closeAt 20 = .ok (.putfield 28, 3) := by decide +kernel
theorem dX1_closeAt_23 : decode cX1_closeAt 23 = .ok (.aload_n 0, 1) := by decide +kernel
theorem dX1_closeAt_24 : decode cX1_closeAt 24 = .ok (.getfield 24, 3) := by decide +kernel
theorem dX1_closeAt_27 : decode cX1_closeAt 27 = .ok (.iload_n 1, 1) := by decide +kernel
theorem dX1_closeAt_28 : decode cX1_closeAt 28 = .ok (.iconst 1, 1) := by decide +kernel
theorem dX1_closeAt_29 : decode cX1_closeAt 29 = .ok (.iadd, 1) := by decide +kernel
theorem dX1_closeAt_30 : decode cX1_closeAt 30 = .ok (.aload_n 0, 1) := by decide +kernel
theorem dX1_closeAt_31 : decode cX1_closeAt 31 = .ok (.getfield 21, 3) := by decide +kernel
theorem dX1_closeAt_34 : decode cX1_closeAt 34 = .ok (.imul, 1) := by decide +kernel
theorem dX1_closeAt_35 : decode cX1_closeAt 35 = .ok (.aload_n 0, 1) := by decide +kernel
theorem dX1_closeAt_36 : decode cX1_closeAt 36 = .ok (.getfield 24, 3) := by decide +kernel
theorem dX1_closeAt_39 : decode cX1_closeAt 39 = .ok (.iload_n 1, 1) := by decide +kernel
theorem dX1_closeAt_40 : decode cX1_closeAt 40 = .ok (.aload_n 0, 1) := by decide +kernel
theorem dX1_closeAt_41 : decode cX1_closeAt 41 = .ok (.getfield 21, 3) := by decide +kernel
theorem dX1_closeAt_44 : decode cX1_closeAt 44 = .ok (.imul, 1) := by decide +kernel
theorem dX1_closeAt_45 : decode cX1_closeAt 45 = .ok (.aload_n 0, 1) := by decide +kernel
theorem dX1_closeAt_46 : decode cX1_closeAt 46 = .ok (.getfield 28, 3) := by decide +kernel
theorem dX1_closeAt_49 : decode cX1_closeAt 49 = .ok (.iload_n 1, 1) := by decide +kernel
theorem dX1_closeAt_50 : decode cX1_closeAt 50 = .ok (.isub, 1) := by decide +kernel
theorem dX1_closeAt_51 : decode cX1_closeAt 51 = .ok (.aload_n 0, 1) := by decide +kernel
theorem dX1_closeAt_52 : decode cX1_closeAt 52 = .ok (.getfield 21, 3) := by decide +kernel
theorem dX1_closeAt_55 : decode cX1_closeAt 55 = .ok (.imul, 1) := by decide +kernel
theorem dX1_closeAt_56 : decode cX1_closeAt 56 = .ok (.invokestatic 42, 3) := by decide +kernel
theorem dX1_closeAt_59 : decode cX1_closeAt 59 = .ok (.return_, 1) := by decide +kernel
theorem dX1_copyFrom_0 : decode cX1_copyFrom 0 = .ok (.aload_n 1, 1) := by decide +kernel
theorem dX1_copyFrom_1 : decode cX1_copyFrom 1 = .ok (.getfield 21, 3) := by decide +kernel
theorem dX1_copyFrom_4 : decode cX1_copyFrom 4 = .ok (.aload_n 0, 1) := by decide +kernel
theorem dX1_copyFrom_5 : decode cX1_copyFrom 5 = .ok (.getfield 21, 3) := by decide +kernel
theorem dX1_copyFrom_8 : decode cX1_copyFrom 8 = .ok (.if_icmp .ne 14, 3) := by decide +kernel
theorem dX1_copyFrom_11 : decode cX1_copyFrom 11 = .ok (.aload_n 1, 1) := by decide +kernel
theorem dX1_copyFrom_12 : decode cX1_copyFrom 12 = .ok (.getfield 28, 3) := by decide +kernel
theorem dX1_copyFrom_15 : decode cX1_copyFrom 15 = .ok (.aload_n 0, 1) := by decide +kernel
theorem dX1_copyFrom_16 : decode cX1_copyFrom 16 = .ok (.getfield 15, 3) := by decide +kernel
theorem dX1_copyFrom_19 : decode cX1_copyFrom 19 = .ok (.if_icmp .le 4, 3) := by decide +kernel
theorem dX1_copyFrom_22 : decode cX1_copyFrom 22 = .ok (.return_, 1) := by decide +kernel
theorem dX1_copyFrom_23 : decode cX1_copyFrom 23 = .ok (.aload_n 1, 1) := by decide +kernel
theorem dX1_copyFrom_24 : decode cX1_copyFrom 24 = .ok (.getfield 24, 3) := by decide +kernel
theorem dX1_copyFrom_27 : decode cX1_copyFrom 27 = .ok (.iconst 0, 1) := by decide +kernel
theorem dX1_copyFrom_28 : decode cX1_copyFrom 28 = .ok (.aload_n 0, 1) := by decide +kernel
theorem dX1_copyFrom_29 : decode cX1_copyFrom 29 = .ok (.getfield 24, 3) := by decide +kernel
theorem dX1_copyFrom_32 : decode cX1_copyFrom 32 = .ok (.iconst 0, 1) := by decide +kernel
theorem dX1_copyFrom_33 : decode cX1_copyFrom 33 = .ok (.aload_n 1, 1) := by decide +kernel
theorem dX1_copyFrom_34 : decode cX1_copyFrom 34 = .ok (.getfield 28, 3) := by decide +kernel
theorem dX1_copyFrom_37 : decode cX1_copyFrom 37 = .ok (.aload_n 0, 1) := by decide +kernel
theorem dX1_copyFrom_38 : decode cX1_copyFrom 38 = .ok (.getfield 21, 3) := by decide +kernel
theorem dX1_copyFrom_41 : decode cX1_copyFrom 41 = .ok (.imul, 1) := by decide +kernel
theorem dX1_copyFrom_42 : decode cX1_copyFrom 42 = .ok (.invokestatic 42, 3) := by decide +kernel
theorem dX1_copyFrom_45 : decode cX1_copyFrom 45 = .ok (.aload_n 0, 1) := by decide +kernel
theorem dX1_copyFrom_46 : decode cX1_copyFrom 46 = .ok (.aload_n 1, 1) := by decide +kernel
theorem dX1_copyFrom_47 : decode cX1_copyFrom 47 = .ok (.getfield 28, 3) := by decide +kernel
theorem dX1_copyFrom_50 : decode cX1_copyFrom 50 = .ok (.putfield 28, 3) := by decide +kernel
theorem dX1_copyFrom_53 : decode cX1_copyFrom 53 = .ok (.return_, 1) := by decide +kernel
theorem dX2_init_0 : decode cX2_init 0 = .ok (.aload_n 0, 1) := by decide +kernel
theorem dX2_init_1 : decode cX2_init 1 = .ok (.invokespecial 3, 3) := by decide +kernel
theorem dX2_init_4 : decode cX2_init 4 = .ok (.aload_n 0, 1) := by decide +kernel
theorem dX2_init_5 : decode cX2_init 5 = .ok (.bipush 99, 2) := by decide +kernel
theorem dX2_init_7 : decode cX2_init 7 = .ok (.newarray .char, 2) := by decide +kernel
theorem dX2_init_9 : decode cX2_init 9 = .ok (.putfield 9, 3) := by decide +kernel
theorem dX2_init_12 : decode cX2_init 12 = .ok (.aload_n 0, 1) := by decide +kernel
theorem dX2_init_13 : decode cX2_init 13 = .ok (.new 15, 3) := by decide +kernel
theorem dX2_init_16 : decode cX2_init 16 = .ok (.dup, 1) := by decide +kernel
theorem dX2_init_17 : decode cX2_init 17 = .ok (.bipush 6, 2) := by decide +kernel
theorem dX2_init_19 : decode cX2_init 19 = .ok (.iconst 5, 1) := by decide +kernel
theorem dX2_init_20 : decode cX2_init 20 = .ok (.invokespecial 17, 3) := by decide +kernel
theorem dX2_init_23 : decode cX2_init 23 = .ok (.putfield 20, 3) := by decide +kernel
theorem dX2_init_26 : decode cX2_init 26 = .ok (.aload_n 0, 1) := by decide +kernel
theorem dX2_init_27 : decode cX2_init 27 = .ok (.new 15, 3) := by decide +kernel
theorem dX2_init_30 : decode cX2_init 30 = .ok (.dup, 1) := by decide +kernel
theorem dX2_init_31 : decode cX2_init 31 = .ok (.bipush 8, 2) := by decide +kernel
theorem dX2_init_33 : decode cX2_init 33 = .ok (.bipush 6, 2) := by decide +kernel
theorem dX2_init_35 : decode cX2_init 35 = .ok (.invokespecial 17, 3) := by decide +kernel
theorem dX2_init_38 : decode cX2_init 38 = .ok (.putfield 24, 3) := by decide +kernel
theorem dX2_init_41 : decode cX2_init 41 = .ok (.aload_n 0, 1) := by decide +kernel
theorem dX2_init_42 : decode cX2_init 42 = .ok (.new 15, 3) := by decide +kernel
theorem dX2_init_45 : decode cX2_init 45 = .ok (.dup, 1) := by decide +kernel
theorem dX2_init_46 : decode cX2_init 46 = .ok (.bipush 6, 2) := by decide +kernel
theorem dX2_init_48 : decode cX2_init 48 = .ok (.iconst 4, 1) := by decide +kernel
theorem dX2_init_49 : decode cX2_init 49 = .ok (.invokespecial 17, 3) := by decide +kernel
theorem dX2_init_52 : decode cX2_init 52 = .ok (.putfield 27, 3) := by decide +kernel
theorem dX2_init_55 : decode cX2_init 55 = .ok (.return_, 1) := by decide +kernel
theorem dX2_append_0 : decode cX2_append 0 = .ok (.aload_n 0, 1) := by decide +kernel
theorem dX2_append_1 : decode cX2_append 1 = .ok (.getfield 30, 3) := by decide +kernel
theorem dX2_append_4 : decode cX2_append 4 = .ok (.bipush 99, 2) := by decide +kernel
theorem dX2_append_6 : decode cX2_append 6 = .ok (.if_icmp .ge 24, 3) := by decide +kernel
theorem dX2_append_9 : decode cX2_append 9 = .ok (.aload_n 0, 1) := by decide +kernel
theorem dX2_append_10 : decode cX2_append 10 = .ok (.getfield 9, 3) := by decide +kernel
theorem dX2_append_13 : decode cX2_append 13 = .ok (.aload_n 0, 1) := by decide +kernel
theorem dX2_append_14 : decode cX2_append 14 = .ok (.getfield 30, 3) := by decide +kernel
theorem dX2_append_17 : decode cX2_append 17 = .ok (.iload_n 1, 1) := by decide +kernel
theorem dX2_append_18 : decode cX2_append 18 = .ok (.i2c, 1) := by decide +kernel
theorem dX2_append_19 : decode cX2_append 19 = .ok (.castore, 1) := by decide +kernel
theorem dX2_append_20 : decode cX2_append 20 = .ok (.aload_n 0, 1) := by decide +kernel
theorem dX2_append_21 : decode cX2_append 21 = .ok (.dup, 1) := by decide +kernel
theorem dX2_append_22 : decode cX2_append 22 = .ok (.getfield 30, 3) := by decide +kernel
theorem dX2_append_25 : decode cX2_append 25 = .ok (.iconst 1, 1) := by decide +kernel
theorem dX2_append_26 : decode cX2_append 26 = .ok (.iadd, 1) := by decide +kernel
theorem dX2_append_27 : decode cX2_append 27 = .ok (.putfield 30, 3) := by decide +kernel
theorem dX2_append_30 : decode cX2_append 30 = .ok (.return_, 1) := by decide +kernel
theorem dX2_readAll_0 : decode cX2_readAll 0 = .ok (.aload_n 0, 1) := by decide +kernel
theorem dX2_readAll_1 : decode cX2_readAll 1 = .ok (.getfield 20, 3) := by decide +kernel
theorem dX2_readAll_4 : decode cX2_readAll 4 = .ok (.iconst 0, 1) := by decide +kernel
theorem dX2_readAll_5 : decode cX2_readAll 5 = .ok (.putfield 34, 3) := by decide +kernel
theorem dX2_readAll_8 : decode cX2_readAll 8 = .ok (.aload_n 0, 1) := by decide +kernel
theorem dX2_readAll_9 : decode cX2_readAll 9 = .ok (.getfield 20, 3) := by decide +kernel
theorem dX2_readAll_12 : decode cX2_readAll 12 = .ok (.iconst 0, 1) := by decide +kernel
theorem dX2_readAll_13 : decode cX2_readAll 13 = .ok (.iconst 0, 1) := by decide +kernel
theorem dX2_readAll_14 : decode cX2_readAll 14 = .ok (.bipush (-9), 2) := by decide +kernel
theorem dX2_readAll_16 : decode cX2_readAll 16 = .ok (.bipush (-9), 2) := by decide +kernel
theorem dX2_readAll_18 : decode cX2_readAll 18 = .ok (.iconst 0, 1) := by decide +kernel
theorem dX2_readAll_19 : decode cX2_readAll 19 = .ok (.invokevirtual 37, 3) := by decide +kernel
theorem dX2_readAll_22 : decode cX2_readAll 22 = .ok (.pop, 1) := by decide +kernel
theorem dX2_readAll_23 : decode cX2_readAll 23 = .ok (.aload_n 0, 1) := by decide +kernel
theorem dX2_readAll_24 : decode cX2_readAll 24 = .ok (.getfield 24, 3) := by decide +kernel
theorem dX2_readAll_27 : decode cX2_readAll 27 = .ok (.iconst 0, 1) := by decide +kernel
theorem dX2_readAll_28 : decode cX2_readAll 28 = .ok (.putfield 34, 3) := by decide +kernel
theorem dX2_readAll_31 : decode cX2_readAll 31 = .ok (.aload_n 0, 1) := by decide +kernel
theorem dX2_readAll_32 : decode cX2_readAll 32 = .ok (.getfield 27, 3) := by decide +kernel
theorem dX2_readAll_35 : decode cX2_readAll 35 = .ok (.iconst 0, 1) := by decide +kernel
theorem dX2_readAll_36 : decode cX2_readAll 36 = .ok (.putfield 34, 3) := by decide +kernel
theorem dX2_readAll_39 : decode cX2_readAll 39 = .ok (.aload_n 0, 1) := by decide +kernel
theorem dX2_readAll_40 : decode cX2_readAll 40 = .ok (.bipush (-9), 2) := by decide +kernel
theorem dX2_readAll_42 : decode cX2_readAll 42 = .ok (.putfield 41, 3) := by decide +kernel
theorem dX2_readAll_45 : decode cX2_readAll 45 = .ok (.aload_n 0, 1) := by decide +kernel
theorem dX2_readAll_46 : decode cX2_readAll 46 = .ok (.iconst 0, 1) := by decide +kernel
theorem dX2_readAll_47 : decode cX2_readAll 47 = .ok (.invokevirtual 44, 3) := by decide +kernel
theorem dX2_readAll_50 : decode cX2_readAll 50 = .ok (.bipush 80, 2) := by decide +kernel
theorem dX2_readAll_52 : decode cX2_readAll 52 = .ok (.if_icmp .eq 5, 3) := by decide +kernel
theorem dX2_readAll_55 : decode cX2_readAll 55 = .ok (.iconst 0, 1) := by decide +kernel
theorem dX2_readAll_56 : decode cX2_readAll 56 = .ok (.ireturn, 1) := by decide +kernel
theorem dX2_readAll_57 : decode cX2_readAll 57 = .ok (.aload_n 0, 1) := by decide +kernel
theorem dX2_readAll_58 : decode cX2_readAll 58 = .ok (.iconst 1, 1) := by decide +kernel
theorem dX2_readAll_59 : decode cX2_readAll 59 = .ok (.putfield 48, 3) := by decide +kernel
theorem dX2_readAll_62 : decode cX2_readAll 62 = .ok (.iconst 0, 1) := by decide +kernel
theorem dX2_readAll_63 : decode cX2_readAll 63 = .ok (.istore_n 1, 1) := by decide +kernel
theorem dX2_readAll_64 : decode cX2_readAll 64 = .ok (.iload_n 1, 1) := by decide +kernel
theorem dX2_readAll_65 : decode cX2_readAll 65 = .ok (.bipush 99, 2) := by decide +kernel
theorem dX2_readAll_67 : decode cX2_readAll 67 = .ok (.if_icmp .ge 33, 3) := by decide +kernel
theorem dX2_readAll_70 : decode cX2_readAll 70 = .ok (.aload_n 0, 1) := by decide +kernel
theorem dX2_readAll_71 : decode cX2_readAll 71 = .ok (.getfield 48, 3) := by decide +kernel
theorem dX2_readAll_74 : decode cX2_readAll 74 = .ok (.aload_n 0, 1) := by decide +kernel
theorem dX2_readAll_75 : decode cX2_readAll 75 = .ok (.getfield 30, 3) := by decide +kernel
theorem dX2_readAll_78 : decode cX2_readAll 78 = .ok (.if_icmp .ge 22, 3) := by decide +kernel
theorem dX2_readAll_81 : decode cX2_readAll 81 = .ok (.aload_n 0, 1) := by decide +kernel
theorem dX2_readAll_82 : decode cX2_readAll 82 = .ok (.getfield 41, 3) := by decide +kernel
theorem dX2_readAll_85 : decode cX2_readAll 85 = .ok (.bipush (-9), 2) := by decide +kernel
theorem dX2_readAll_87 : decode cX2_readAll 87 = .ok (.if_icmp .ne 13, 3) := by decide +kernel
theorem dX2_readAll_90 : decode cX2_readAll 90 = .ok (.aload_n 0, 1) := by decide +kernel
theorem dX2_readAll_91 : decode cX2_readAll 91 = .ok (.invokevirtual 51, 3) := by decide +kernel
theorem dX2_readAll_94 : decode cX2_readAll 94 = .ok (.iinc 1 1, 3) := by decide +kernel
theorem dX2_readAll_97 : decode cX2_readAll 97 = .ok (.goto (-33), 3) := by decide +kernel
theorem dX2_readAll_100 : decode cX2_readAll 100 = .ok (.aload_n 0, 1) := by decide +kernel
theorem dX2_readAll_101 : decode cX2_readAll 101 = .ok (.getfield 41, 3) := by decide +kernel
theorem dX2_readAll_104 : decode cX2_readAll 104 = .ok (.ireturn, 1) := by decide +kernel
theorem dX2_readPart_0 : decode cX2_readPart 0 = .ok (.aload_n 0, 1) := by decide +kernel
theorem dX2_readPart_1 : decode cX2_readPart 1 = .ok (.aload_n 0, 1) := by decide +kernel
theorem dX2_readPart_2 : decode cX2_readPart 2 = .ok (.getfield 48, 3) := by decide +kernel
theorem dX2_readPart_5 : decode cX2_readPart 5 = .ok (.invokevirtual 44, 3) := by decide +kernel
theorem dX2_readPart_8 : decode cX2_readPart 8 = .ok (.istore_n 1, 1) := by decide +kernel
theorem dX2_readPart_9 : decode cX2_readPart 9 = .ok (.iload_n 1, 1) := by decide +kernel
theorem dX2_readPart_10 : decode cX2_readPart 10 = .ok (.bipush 112, 2) := by decide +kernel
theorem dX2_readPart_12 : decode cX2_readPart 12 = .ok (.if_icmp .ne 32, 3) := by decide +kernel
theorem dX2_readPart_15 : decode cX2_readPart 15 = .ok (.aload_n 0, 1) := by decide +kernel
theorem dX2_readPart_16 : decode cX2_readPart 16 = .ok (.getfield 20, 3) := by decide +kernel
theorem dX2_readPart_19 : decode cX2_readPart 19 = .ok (.getfield 34, 3) := by decide +kernel
theorem dX2_readPart_22 : decode cX2_readPart 22 = .ok (.bipush 6, 2) := by decide +kernel
theorem dX2_readPart_24 : decode cX2_readPart 24 = .ok (.if_icmp .ge 20, 3) := by decide +kernel
theorem dX2_readPart_27 : decode cX2_readPart 27 = .ok (.aload_n 0, 1) := by decide +kernel
theorem dX2_readPart_28 : decode cX2_readPart 28 = .ok (.dup, 1) := by decide +kernel
theorem dX2_readPart_29 : decode cX2_readPart 29 = .ok (.getfield 48, 3) := by decide +kernel
theorem dX2_readPart_32 : decode cX2_readPart 32 = .ok (.iconst 1, 1) := by decide +kernel
theorem dX2_readPart_33 : decode cX2_readPart 33 = .ok (.iadd, 1) := by decide +kernel
theorem dX2_readPart_34 : decode cX2_readPart 34 = .ok (.putfield 48, 3) := by decide +kernel
theorem dX2_readPart_37 : decode cX2_readPart 37 = .ok (.aload_n 0, 1) := by decide +kernel
theorem dX2_readPart_38 : decode cX2_readPart 38 = .ok (.invokevirtual 54, 3) := by decide +kernel
theorem dX2_readPart_41 : decode cX2_readPart 41 = .ok (.goto 81, 3) := by decide +kernel
theorem dX2_readPart_44 : decode cX2_readPart 44 = .ok (.iload_n 1, 1) := by decide +kernel
theorem dX2_readPart_45 : decode cX2_readPart 45 = .ok (.bipush 103, 2) := by decide +kernel
theorem dX2_readPart_47 : decode cX2_readPart 47 = .ok (.if_icmp .ne 32, 3) := by decide +kernel
theorem dX2_readPart_50 : decode cX2_readPart 50 = .ok (.aload_n 0, 1) := by decide +kernel
theorem dX2_readPart_51 : decode cX2_readPart 51 = .ok (.getfield 24, 3) := by decide +kernel
theorem dX2_readPart_54 : decode cX2_readPart 54 = .ok (.getfield 34, 3) := by decide +kernel
theorem dX2_readPart_57 : decode cX2_readPart 57 = .ok (.bipush 8, 2) := by decide +kernel
theorem dX2_readPart_59 : decode cX2_readPart 59 = .ok (.if_icmp .ge 20, 3) := by decide +kernel
theorem dX2_readPart_62 : decode cX2_readPart 62 = .ok (.aload_n 0, 1) := by decide +kernel
theorem dX2_readPart_63 : decode cX2_readPart 63 = .ok (.dup, 1) := by decide +kernel
theorem dX2_readPart_64 : decode cX2_readPart 64 = .ok (.getfield 48, 3) := by decide +kernel
theorem dX2_readPart_67 : decode cX2_readPart 67 = .ok (.iconst 1, 1) := by decide +kernel
theorem dX2_readPart_68 : decode cX2_readPart 68 = .ok (.iadd, 1) := by decide +kernel
theorem dX2_readPart_69 : decode cX2_readPart 69 = .ok (.putfield 48, 3) := by decide +kernel
theorem dX2_readPart_72 : decode cX2_readPart 72 = .ok (.aload_n 0, 1) := by decide +kernel
theorem dX2_readPart_73 : decode cX2_readPart 73 = .ok (.invokevirtual 57, 3) := by decide +kernel
theorem dX2_readPart_76 : decode cX2_readPart 76 = .ok (.goto 46, 3) := by decide +kernel
theorem dX2_readPart_79 : decode cX2_readPart 79 = .ok (.iload_n 1, 1) := by decide +kernel
theorem dX2_readPart_80 : decode cX2_readPart 80 = .ok (.bipush 114, 2) := by decide +kernel
theorem dX2_readPart_82 : decode cX2_readPart 82 = .ok (.if_icmp .ne 32, 3) := by decide +kernel
theorem dX2_readPart_85 : decode cX2_readPart 85 = .ok (.aload_n 0, 1) := by decide +kernel
theorem dX2_readPart_86 : decode cX2_readPart 86 = .ok (.getfield 27, 3) := by decide +kernel
theorem dX2_readPart_89 : decode cX2_readPart 89 = .ok (.getfield 34, 3) := by decide +kernel
theorem dX2_readPart_92 : decode cX2_readPart 92 = .ok (.bipush 6, 2) := by decide +kernel
theorem dX2_readPart_94 : decode cX2_readPart 94 = .ok (.if_icmp .ge 20, 3) := by decide +kernel
theorem dX2_readPart_97 : decode cX2_readPart 97 = .ok (.aload_n 0, 1) := by decide +kernel
theorem dX2_readPart_98 : decode cX2_readPart 98 = .ok (.dup, 1) := by decide +kernel
theorem dX2_readPart_99 : decode cX2_readPart 99 = .ok (.getfield 48, 3) := by decide +kernel
theorem dX2_readPart_102 : decode cX2_readPart 102 = .ok (.iconst 1, 1) := by decide +kernel
theorem dX2_readPart_103 : decode cX2_readPart 103 = .ok (.iadd, 1) := by decide +kernel
theorem dX2_readPart_104 : decode cX2_readPart 104 = .ok (.putfield 48, 3) := by decide +kernel
theorem dX2_readPart_107 : decode cX2_readPart 107 = .ok (.aload_n 0, 1) := by decide +kernel
theorem dX2_readPart_108 : decode cX2_readPart 108 = .ok (.invokevirtual 60, 3) := by decide +kernel
theorem dX2_readPart_111 : decode cX2_readPart 111 = .ok (.goto 11, 3) := by decide +kernel
theorem dX2_readPart_114 : decode cX2_readPart 114 = .ok (.aload_n 0, 1) := by decide +kernel
theorem dX2_readPart_115 : decode cX2_readPart 115 = .ok (.aload_n 0, 1) := by decide +kernel
theorem dX2_readPart_116 : decode cX2_readPart 116 = .ok (.getfield 48, 3) := by decide +kernel
theorem dX2_readPart_119 : decode cX2_readPart 119 = .ok (.putfield 41, 3) := by decide +kernel
theorem dX2_readPart_122 : decode cX2_readPart 122 = .ok (.return_, 1) := by decide +kernel
theorem dX2_readPaper_0 : decode cX2_readPaper 0 = .ok (.aload_n 0, 1) := by decide +kernel
theorem dX2_readPaper_1 : decode cX2_readPaper 1 = .ok (.iconst 0, 1) := by decide +kernel
theorem dX2_readPaper_2 : decode cX2_readPaper 2 = .ok (.aload_n 0, 1) := by decide +kernel
theorem dX2_readPaper_3 : decode cX2_readPaper 3 = .ok (.getfield 20, 3) := by decide +kernel
theorem dX2_readPaper_6 : decode cX2_readPaper 6 = .ok (.getfield 34, 3) := by decide +kernel
theorem dX2_readPaper_9 : decode cX2_readPaper 9 = .ok (.iconst 1, 1) := by decide +kernel
theorem dX2_readPaper_10 : decode cX2_readPaper 10 = .ok (.isub, 1) := by decide +kernel
theorem dX2_readPaper_11 : decode cX2_readPaper 11 = .ok (.invokevirtual 63, 3) := by decide +kernel
theorem dX2_readPaper_14 : decode cX2_readPaper 14 = .ok (.istore_n 1, 1) := by decide +kernel
theorem dX2_readPaper_15 : decode cX2_readPaper 15 = .ok (.aload_n 0, 1) := by decide +kernel
theorem dX2_readPaper_16 : decode cX2_readPaper 16 = .ok (.invokevirtual 67, 3) := by decide +kernel
theorem dX2_readPaper_19 : decode cX2_readPaper 19 = .ok (.istore_n 2, 1) := by decide +kernel
theorem dX2_readPaper_20 : decode cX2_readPaper 20 = .ok (.aload_n 0, 1) := by decide +kernel
theorem dX2_readPaper_21 : decode cX2_readPaper 21 = .ok (.iload_n 2, 1) := by decide +kernel
theorem dX2_readPaper_22 : decode cX2_readPaper 22 = .ok (.invokevirtual 71, 3) := by decide +kernel
theorem dX2_readPaper_25 : decode cX2_readPaper 25 = .ok (.istore_n 3, 1) := by decide +kernel
theorem dX2_readPaper_26 : decode cX2_readPaper 26 = .ok (.aload_n 0, 1) := by decide +kernel
theorem dX2_readPaper_27 : decode cX2_readPaper 27 = .ok (.iconst 0, 1) := by decide +kernel
theorem dX2_readPaper_28 : decode cX2_readPaper 28 = .ok (.bipush 9, 2) := by decide +kernel
theorem dX2_readPaper_30 : decode cX2_readPaper 30 = .ok (.invokevirtual 63, 3) := by decide +kernel
theorem dX2_readPaper_33 : decode cX2_readPaper 33 = .ok (.istore 4, 2) := by decide +kernel
theorem dX2_readPaper_35 : decode cX2_readPaper 35 = .ok (.aload_n 0, 1) := by decide +kernel
theorem dX2_readPaper_36 : decode cX2_readPaper 36 = .ok (.getfield 41, 3) := by decide +kernel
theorem dX2_readPaper_39 : decode cX2_readPaper 39 = .ok (.bipush (-9), 2) := by decide +kernel
theorem dX2_readPaper_41 : decode cX2_readPaper 41 = .ok (.if_icmp .ne 17, 3) := by decide +kernel
theorem dX2_readPaper_44 : decode cX2_readPaper 44 = .ok (.aload_n 0, 1) := by decide +kernel
theorem dX2_readPaper_45 : decode cX2_readPaper 45 = .ok (.getfield 20, 3) := by decide +kernel
theorem dX2_readPaper_48 : decode cX2_readPaper 48 = .ok (.iload_n 2, 1) := by decide +kernel
theorem dX2_readPaper_49 : decode cX2_readPaper 49 = .ok (.iload_n 3, 1) := by decide +kernel
theorem dX2_readPaper_50 : decode cX2_readPaper 50 = .ok (.iload_n 1, 1) := by decide +kernel
theorem dX2_readPaper_51 : decode cX2_readPaper 51 = .ok (.iload 4, 2) := by decide +kernel
theorem dX2_readPaper_53 : decode cX2_readPaper 53 = .ok (.iconst 0, 1) := by decide +kernel
theorem dX2_readPaper_54 : decode cX2_readPaper 54 = .ok (.invokevirtual 37, 3) := by decide +kernel
theorem dX2_readPaper_57 : decode cX2_readPaper 57 = .ok (.pop, 1) := by decide +kernel
theorem dX2_readPaper_58 : decode cX2_readPaper 58 = .ok (.return_, 1) := by decide +kernel
theorem dX2_readGrant_0 : decode cX2_readGrant 0 = .ok (.aload_n 0, 1) := by decide +kernel
theorem dX2_readGrant_1 : decode cX2_readGrant 1 = .ok (.invokevirtual 75, 3) := by decide +kernel
theorem dX2_readGrant_4 : decode cX2_readGrant 4 = .ok (.istore_n 1, 1) := by decide +kernel
theorem dX2_readGrant_5 : decode cX2_readGrant 5 = .ok (.aload_n 0, 1) := by decide +kernel
theorem dX2_readGrant_6 : decode cX2_readGrant 6 = .ok (.iconst 0, 1) := by decide +kernel
theorem dX2_readGrant_7 : decode cX2_readGrant 7 = .ok (.iconst 5, 1) := by decide +kernel
theorem dX2_readGrant_8 : decode cX2_readGrant 8 = .ok (.invokevirtual 63, 3) := by decide +kernel
theorem dX2_readGrant_11 : decode cX2_readGrant 11 = .ok (.istore_n 2, 1) := by decide +kernel
theorem dX2_readGrant_12 : decode cX2_readGrant 12 = .ok (.aload_n 0, 1) := by decide +kernel
theorem dX2_readGrant_13 : decode cX2_readGrant 13 = .ok (.invokevirtual 67, 3) := by decide +kernel
theorem dX2_readGrant_16 : decode cX2_readGrant 16 = .ok (.istore_n 3, 1) := by decide +kernel
theorem dX2_readGrant_17 : decode cX2_readGrant 17 = .ok (.aload_n 0, 1) := by decide +kernel
theorem dX2_readGrant_18 : decode cX2_readGrant 18 = .ok (.iload_n 3, 1) := by decide +kernel
theorem dX2_readGrant_19 : decode cX2_readGrant 19 = .ok (.invokevirtual 71, 3) := by decide +kernel
theorem dX2_readGrant_22 : decode cX2_readGrant 22 = .ok (.istore 4, 2) := by decide +kernel
theorem dX2_readGrant_24 : decode cX2_readGrant 24 = .ok (.aload_n 0, 1) := by decide +kernel
theorem dX2_readGrant_25 : decode cX2_readGrant 25 = .ok (.iload 4, 2) := by decide +kernel
theorem dX2_readGrant_27 : decode cX2_readGrant 27 = .ok (.iconst 5, 1) := by decide +kernel
theorem dX2_readGrant_28 : decode cX2_readGrant 28 = .ok (.invokevirtual 63, 3) := by decide +kernel
theorem dX2_readGrant_31 : decode cX2_readGrant 31 = .ok (.istore 5, 2) := by decide +kernel
theorem dX2_readGrant_33 : decode cX2_readGrant 33 = .ok (.aload_n 0, 1) := by decide +kernel
theorem dX2_readGrant_34 : decode cX2_readGrant 34 = .ok (.getfield 41, 3) := by decide +kernel
theorem dX2_readGrant_37 : decode cX2_readGrant 37 = .ok (.bipush (-9), 2) := by decide +kernel
theorem dX2_readGrant_39 : decode cX2_readGrant 39 = .ok (.if_icmp .ne 18, 3) := by decide +kernel
theorem dX2_readGrant_42 : decode cX2_readGrant 42 = .ok (.aload_n 0, 1) := by decide +kernel
theorem dX2_readGrant_43 : decode cX2_readGrant 43 = .ok (.getfield 24, 3) := by decide +kernel
theorem dX2_readGrant_46 : decode cX2_readGrant 46 = .ok (.iload_n 3, 1) := by decide +kernel
theorem dX2_readGrant_47 : decode cX2_readGrant 47 = .ok (.iload 4, 2) := by decide +kernel
theorem dX2_readGrant_49 : decode cX2_readGrant 49 = .ok (.iload_n 2, 1) := by decide +kernel
theorem dX2_readGrant_50 : decode cX2_readGrant 50 = .ok (.iload_n 1, 1) := by decide +kernel
theorem dX2_readGrant_51 : decode cX2_readGrant 51 = .ok (.iload 5, 2) := by decide +kernel
theorem dX2_readGrant_53 : decode cX2_readGrant 53 = .ok (.invokevirtual 37, 3) := by decide +kernel
theorem dX2_readGrant_56 : decode cX2_readGrant 56 = .ok (.pop, 1) := by decide +kernel
theorem dX2_readGrant_57 : decode cX2_readGrant 57 = .ok (.return_, 1) := by decide +kernel
theorem dX2_readRoute_0 : decode cX2_readRoute 0 = .ok (.aload_n 0, 1) := by decide +kernel
theorem dX2_readRoute_1 : decode cX2_readRoute 1 = .ok (.invokevirtual 67, 3) := by decide +kernel
theorem dX2_readRoute_4 : decode cX2_readRoute 4 = .ok (.istore_n 1, 1) := by decide +kernel
theorem dX2_readRoute_5 : decode cX2_readRoute 5 = .ok (.aload_n 0, 1) := by decide +kernel
theorem dX2_readRoute_6 : decode cX2_readRoute 6 = .ok (.iload_n 1, 1) := by decide +kernel
theorem dX2_readRoute_7 : decode cX2_readRoute 7 = .ok (.invokevirtual 71, 3) := by decide +kernel
theorem dX2_readRoute_10 : decode cX2_readRoute 10 = .ok (.istore_n 2, 1) := by decide +kernel
theorem dX2_readRoute_11 : decode cX2_readRoute 11 = .ok (.aload_n 0, 1) := by decide +kernel
theorem dX2_readRoute_12 : decode cX2_readRoute 12 = .ok (.iconst 0, 1) := by decide +kernel
theorem dX2_readRoute_13 : decode cX2_readRoute 13 = .ok (.iconst 5, 1) := by decide +kernel
theorem dX2_readRoute_14 : decode cX2_readRoute 14 = .ok (.invokevirtual 63, 3) := by decide +kernel
theorem dX2_readRoute_17 : decode cX2_readRoute 17 = .ok (.istore_n 3, 1) := by decide +kernel
theorem dX2_readRoute_18 : decode cX2_readRoute 18 = .ok (.aload_n 0, 1) := by decide +kernel
theorem dX2_readRoute_19 : decode cX2_readRoute 19 = .ok (.getfield 41, 3) := by decide +kernel
theorem dX2_readRoute_22 : decode cX2_readRoute 22 = .ok (.bipush (-9), 2) := by decide +kernel
theorem dX2_readRoute_24 : decode cX2_readRoute 24 = .ok (.if_icmp .ne 16, 3) := by decide +kernel
theorem dX2_readRoute_27 : decode cX2_readRoute 27 = .ok (.aload_n 0, 1) := by decide +kernel
theorem dX2_readRoute_28 : decode cX2_readRoute 28 = .ok (.getfield 27, 3) := by decide +kernel
theorem dX2_readRoute_31 : decode cX2_readRoute 31 = .ok (.iload_n 1, 1) := by decide +kernel
theorem dX2_readRoute_32 : decode cX2_readRoute 32 = .ok (.iload_n 2, 1) := by decide +kernel
theorem dX2_readRoute_33 : decode cX2_readRoute 33 = .ok (.iload_n 3, 1) := by decide +kernel
theorem dX2_readRoute_34 : decode cX2_readRoute 34 = .ok (.iconst 0, 1) := by decide +kernel
theorem dX2_readRoute_35 : decode cX2_readRoute 35 = .ok (.iconst 0, 1) := by decide +kernel
theorem dX2_readRoute_36 : decode cX2_readRoute 36 = .ok (.invokevirtual 37, 3) := by decide +kernel
theorem dX2_readRoute_39 : decode cX2_readRoute 39 = .ok (.pop, 1) := by decide +kernel
theorem dX2_readRoute_40 : decode cX2_readRoute 40 = .ok (.return_, 1) := by decide +kernel
theorem dX2_readHolder_0 : decode cX2_readHolder 0 = .ok (.aload_n 0, 1) := by decide +kernel
theorem dX2_readHolder_1 : decode cX2_readHolder 1 = .ok (.aload_n 0, 1) := by decide +kernel
theorem dX2_readHolder_2 : decode cX2_readHolder 2 = .ok (.getfield 48, 3) := by decide +kernel
theorem dX2_readHolder_5 : decode cX2_readHolder 5 = .ok (.invokevirtual 44, 3) := by decide +kernel
theorem dX2_readHolder_8 : decode cX2_readHolder 8 = .ok (.bipush 57, 2) := by decide +kernel
theorem dX2_readHolder_10 : decode cX2_readHolder 10 = .ok (.if_icmp .ne 7, 3) := by decide +kernel
theorem dX2_readHolder_13 : decode cX2_readHolder 13 = .ok (.iconst 1, 1) := by decide +kernel
theorem dX2_readHolder_14 : decode cX2_readHolder 14 = .ok (.goto 4, 3) := by decide +kernel
theorem dX2_readHolder_17 : decode cX2_readHolder 17 = .ok (.iconst 0, 1) := by decide +kernel
theorem dX2_readHolder_18 : decode cX2_readHolder 18 = .ok (.istore_n 1, 1) := by decide +kernel
theorem dX2_readHolder_19 : decode cX2_readHolder 19 = .ok (.iload_n 1, 1) := by decide +kernel
theorem dX2_readHolder_20 : decode cX2_readHolder 20 = .ok (.ifCond .eq 14, 3) := by decide +kernel
theorem dX2_readHolder_23 : decode cX2_readHolder 23 = .ok (.aload_n 0, 1) := by decide +kernel
theorem dX2_readHolder_24 : decode cX2_readHolder 24 = .ok (.bipush 9, 2) := by decide +kernel
theorem dX2_readHolder_26 : decode cX2_readHolder 26 = .ok (.bipush 9, 2) := by decide +kernel
theorem dX2_readHolder_28 : decode cX2_readHolder 28 = .ok (.invokevirtual 63, 3) := by decide +kernel
theorem dX2_readHolder_31 : decode cX2_readHolder 31 = .ok (.goto 17, 3) := by decide +kernel
theorem dX2_readHolder_34 : decode cX2_readHolder 34 = .ok (.aload_n 0, 1) := by decide +kernel
theorem dX2_readHolder_35 : decode cX2_readHolder 35 = .ok (.iconst 0, 1) := by decide +kernel
theorem dX2_readHolder_36 : decode cX2_readHolder 36 = .ok (.aload_n 0, 1) := by decide +kernel
theorem dX2_readHolder_37 : decode cX2_readHolder 37 = .ok (.getfield 20, 3) := by decide +kernel
theorem dX2_readHolder_40 : decode cX2_readHolder 40 = .ok (.getfield 34, 3) := by decide +kernel
theorem dX2_readHolder_43 : decode cX2_readHolder 43 = .ok (.iconst 1, 1) := by decide +kernel
theorem dX2_readHolder_44 : decode cX2_readHolder 44 = .ok (.isub, 1) := by decide +kernel
theorem dX2_readHolder_45 : decode cX2_readHolder 45 = .ok (.invokevirtual 63, 3) := by decide +kernel
theorem dX2_readHolder_48 : decode cX2_readHolder 48 = .ok (.ireturn, 1) := by decide +kernel
theorem dX2_readStart_0 : decode cX2_readStart 0 = .ok (.aload_n 0, 1) := by decide +kernel
theorem dX2_readStart_1 : decode cX2_readStart 1 = .ok (.iconst 0, 1) := by decide +kernel
theorem dX2_readStart_2 : decode cX2_readStart 2 = .ok (.iconst 3, 1) := by decide +kernel
theorem dX2_readStart_3 : decode cX2_readStart 3 = .ok (.invokevirtual 63, 3) := by decide +kernel
theorem dX2_readStart_6 : decode cX2_readStart 6 = .ok (.istore_n 1, 1) := by decide +kernel
theorem dX2_readStart_7 : decode cX2_readStart 7 = .ok (.iload_n 1, 1) := by decide +kernel
theorem dX2_readStart_8 : decode cX2_readStart 8 = .ok (.bipush 10, 2) := by decide +kernel
theorem dX2_readStart_10 : decode cX2_readStart 10 = .ok (.imul, 1) := by decide +kernel
theorem dX2_readStart_11 : decode cX2_readStart 11 = .ok (.aload_n 0, 1) := by decide +kernel
theorem dX2_readStart_12 : decode cX2_readStart 12 = .ok (.iconst 0, 1) := by decide +kernel
theorem dX2_readStart_13 : decode cX2_readStart 13 = .ok (.iload_n 1, 1) := by decide +kernel
theorem dX2_readStart_14 : decode cX2_readStart 14 = .ok (.iconst 3, 1) := by decide +kernel
theorem dX2_readStart_15 : decode cX2_readStart 15 = .ok (.if_icmp .ne 7, 3) := by decide +kernel
theorem dX2_readStart_18 : decode cX2_readStart 18 = .ok (.iconst 1, 1) := by decide +kernel
theorem dX2_readStart_19 : decode cX2_readStart 19 = .ok (.goto 5, 3) := by decide +kernel
theorem dX2_readStart_22 : decode cX2_readStart 22 = .ok (.bipush 9, 2) := by decide +kernel
theorem dX2_readStart_24 : decode cX2_readStart 24 = .ok (.invokevirtual 63, 3) := by decide +kernel
theorem dX2_readStart_27 : decode cX2_readStart 27 = .ok (.iadd, 1) := by decide +kernel
theorem dX2_readStart_28 : decode cX2_readStart 28 = .ok (.ireturn, 1) := by decide +kernel
theorem dX2_readLength_0 : decode cX2_readLength 0 = .ok (.iconst 0, 1) := by decide +kernel
theorem dX2_readLength_1 : decode cX2_readLength 1 = .ok (.istore_n 2, 1) := by decide +kernel
theorem dX2_readLength_2 : decode cX2_readLength 2 = .ok (.iload_n 2, 1) := by decide +kernel
theorem dX2_readLength_3 : decode cX2_readLength 3 = .ok (.iconst 5, 1) := by decide +kernel
theorem dX2_readLength_4 : decode cX2_readLength 4 = .ok (.if_icmp .ge 17, 3) := by decide +kernel
theorem dX2_readLength_7 : decode cX2_readLength 7 = .ok (.iload_n 1, 1) := by decide +kernel
theorem dX2_readLength_8 : decode cX2_readLength 8 = .ok (.iload_n 2, 1) := by decide +kernel
theorem dX2_readLength_9 : decode cX2_readLength 9 = .ok (.invokestatic 78, 3) := by decide +kernel
theorem dX2_readLength_12 : decode cX2_readLength 12 = .ok (.ifCond .eq 9, 3) := by decide +kernel
theorem dX2_readLength_15 : decode cX2_readLength 15 = .ok (.iinc 2 1, 3) := by decide +kernel
theorem dX2_readLength_18 : decode cX2_readLength 18 = .ok (.goto (-16), 3) := by decide +kernel
theorem dX2_readLength_21 : decode cX2_readLength 21 = .ok (.aload_n 0, 1) := by decide +kernel
theorem dX2_readLength_22 : decode cX2_readLength 22 = .ok (.iload_n 2, 1) := by decide +kernel
theorem dX2_readLength_23 : decode cX2_readLength 23 = .ok (.iconst 5, 1) := by decide +kernel
theorem dX2_readLength_24 : decode cX2_readLength 24 = .ok (.invokevirtual 63, 3) := by decide +kernel
theorem dX2_readLength_27 : decode cX2_readLength 27 = .ok (.ireturn, 1) := by decide +kernel
theorem dX2_readFigure_0 : decode cX2_readFigure 0 = .ok (.aload_n 0, 1) := by decide +kernel
theorem dX2_readFigure_1 : decode cX2_readFigure 1 = .ok (.getfield 41, 3) := by decide +kernel
theorem dX2_readFigure_4 : decode cX2_readFigure 4 = .ok (.bipush (-9), 2) := by decide +kernel
theorem dX2_readFigure_6 : decode cX2_readFigure 6 = .ok (.if_icmp .eq 5, 3) := by decide +kernel
theorem dX2_readFigure_9 : decode cX2_readFigure 9 = .ok (.iload_n 1, 1) := by decide +kernel
theorem dX2_readFigure_10 : decode cX2_readFigure 10 = .ok (.ireturn, 1) := by decide +kernel
theorem dX2_readFigure_11 : decode cX2_readFigure 11 = .ok (.aload_n 0, 1) := by decide +kernel
theorem dX2_readFigure_12 : decode cX2_readFigure 12 = .ok (.aload_n 0, 1) := by decide +kernel
theorem dX2_readFigure_13 : decode cX2_readFigure 13 = .ok (.getfield 48, 3) := by decide +kernel
theorem dX2_readFigure_16 : decode cX2_readFigure 16 = .ok (.invokevirtual 44, 3) := by decide +kernel
theorem dX2_readFigure_19 : decode cX2_readFigure 19 = .ok (.bipush 48, 2) := by decide +kernel
theorem dX2_readFigure_21 : decode cX2_readFigure 21 = .ok (.isub, 1) := by decide +kernel
theorem dX2_readFigure_22 : decode cX2_readFigure 22 = .ok (.istore_n 3, 1) := by decide +kernel
theorem dX2_readFigure_23 : decode cX2_readFigure 23 = .ok (.aload_n 0, 1) := by decide +kernel
theorem dX2_readFigure_24 : decode cX2_readFigure 24 = .ok (.getfield 48, 3) := by decide +kernel
theorem dX2_readFigure_27 : decode cX2_readFigure 27 = .ok (.aload_n 0, 1) := by decide +kernel
theorem dX2_readFigure_28 : decode cX2_readFigure 28 = .ok (.getfield 30, 3) := by decide +kernel
theorem dX2_readFigure_31 : decode cX2_readFigure 31 = .ok (.if_icmp .ge 13, 3) := by decide +kernel
theorem dX2_readFigure_34 : decode cX2_readFigure 34 = .ok (.iload_n 3, 1) := by decide +kernel
theorem dX2_readFigure_35 : decode cX2_readFigure 35 = .ok (.iload_n 1, 1) := by decide +kernel
theorem dX2_readFigure_36 : decode cX2_readFigure 36 = .ok (.if_icmp .lt 8, 3) := by decide +kernel
theorem dX2_readFigure_39 : decode cX2_readFigure 39 = .ok (.iload_n 3, 1) := by decide +kernel
theorem dX2_readFigure_40 : decode cX2_readFigure 40 = .ok (.iload_n 2, 1) := by decide +kernel
theorem dX2_readFigure_41 : decode cX2_readFigure 41 = .ok (.if_icmp .le 13, 3) := by decide +kernel
theorem dX2_readFigure_44 : decode cX2_readFigure 44 = .ok (.aload_n 0, 1) := by decide +kernel
theorem dX2_readFigure_45 : decode cX2_readFigure 45 = .ok (.aload_n 0, 1) := by decide +kernel
theorem dX2_readFigure_46 : decode cX2_readFigure 46 = .ok (.getfield 48, 3) := by decide +kernel
theorem dX2_readFigure_49 : decode cX2_readFigure 49 = .ok (.putfield 41, 3) := by decide +kernel
theorem dX2_readFigure_52 : decode cX2_readFigure 52 = .ok (.iload_n 1, 1) := by decide +kernel
theorem dX2_readFigure_53 : decode cX2_readFigure 53 = .ok (.ireturn, 1) := by decide +kernel
theorem dX2_readFigure_54 : decode cX2_readFigure 54 = .ok (.aload_n 0, 1) := by decide +kernel
theorem dX2_readFigure_55 : decode cX2_readFigure 55 = .ok (.dup, 1) := by decide +kernel
theorem dX2_readFigure_56 : decode cX2_readFigure 56 = .ok (.getfield 48, 3) := by decide +kernel
theorem dX2_readFigure_59 : decode cX2_readFigure 59 = .ok (.iconst 1, 1) := by decide +kernel
theorem dX2_readFigure_60 : decode cX2_readFigure 60 = .ok (.iadd, 1) := by decide +kernel
theorem dX2_readFigure_61 : decode cX2_readFigure 61 = .ok (.putfield 48, 3) := by decide +kernel
theorem dX2_readFigure_64 : decode cX2_readFigure 64 = .ok (.iload_n 3, 1) := by decide +kernel
theorem dX2_readFigure_65 : decode cX2_readFigure 65 = .ok (.ireturn, 1) := by decide +kernel
theorem dX2_letterAt_0 : decode cX2_letterAt 0 = .ok (.iload_n 1, 1) := by decide +kernel
theorem dX2_letterAt_1 : decode cX2_letterAt 1 = .ok (.ifCond .lt 26, 3) := by decide +kernel
theorem dX2_letterAt_4 : decode cX2_letterAt 4 = .ok (.iload_n 1, 1) := by decide +kernel
theorem dX2_letterAt_5 : decode cX2_letterAt 5 = .ok (.aload_n 0, 1) := by decide +kernel
theorem dX2_letterAt_6 : decode cX2_letterAt 6 = .ok (.getfield 30, 3) := by decide +kernel
theorem dX2_letterAt_9 : decode cX2_letterAt 9 = .ok (.if_icmp .ge 18, 3) := by decide +kernel
theorem dX2_letterAt_12 : decode cX2_letterAt 12 = .ok (.iload_n 1, 1) := by decide +kernel
theorem dX2_letterAt_13 : decode cX2_letterAt 13 = .ok (.bipush 99, 2) := by decide +kernel
theorem dX2_letterAt_15 : decode cX2_letterAt 15 = .ok (.if_icmp .ge 12, 3) := by decide +kernel
theorem dX2_letterAt_18 : decode cX2_letterAt 18 = .ok (.aload_n 0, 1) := by decide +kernel
theorem dX2_letterAt_19 : decode cX2_letterAt 19 = .ok (.getfield 9, 3) := by decide +kernel
theorem dX2_letterAt_22 : decode cX2_letterAt 22 = .ok (.iload_n 1, 1) := by decide +kernel
theorem dX2_letterAt_23 : decode cX2_letterAt 23 = .ok (.caload, 1) := by decide +kernel
theorem dX2_letterAt_24 : decode cX2_letterAt 24 = .ok (.goto 4, 3) := by decide +kernel
theorem dX2_letterAt_27 : decode cX2_letterAt 27 = .ok (.iconst 0, 1) := by decide +kernel
theorem dX2_letterAt_28 : decode cX2_letterAt 28 = .ok (.ireturn, 1) := by decide +kernel
theorem dX3_init_0 : decode cX3_init 0 = .ok (.aload_n 0, 1) := by decide +kernel
theorem dX3_init_1 : decode cX3_init 1 = .ok (.invokespecial 3, 3) := by decide +kernel
theorem dX3_init_4 : decode cX3_init 4 = .ok (.aload_n 0, 1) := by decide +kernel
theorem dX3_init_5 : decode cX3_init 5 = .ok (.new 9, 3) := by decide +kernel
theorem dX3_init_8 : decode cX3_init 8 = .ok (.dup, 1) := by decide +kernel
theorem dX3_init_9 : decode cX3_init 9 = .ok (.bipush 6, 2) := by decide +kernel
theorem dX3_init_11 : decode cX3_init 11 = .ok (.iconst 5, 1) := by decide +kernel
theorem dX3_init_12 : decode cX3_init 12 = .ok (.invokespecial 11, 3) := by decide +kernel
theorem dX3_init_15 : decode cX3_init 15 = .ok (.putfield 14, 3) := by decide +kernel
theorem dX3_init_18 : decode cX3_init 18 = .ok (.aload_n 0, 1) := by decide +kernel
theorem dX3_init_19 : decode cX3_init 19 = .ok (.new 18, 3) := by decide +kernel
theorem dX3_init_22 : decode cX3_init 22 = .ok (.dup, 1) := by decide +kernel
theorem dX3_init_23 : decode cX3_init 23 = .ok (.aload_n 0, 1) := by decide +kernel
theorem dX3_init_24 : decode cX3_init 24 = .ok (.getfield 14, 3) := by decide +kernel
theorem dX3_init_27 : decode cX3_init 27 = .ok (.invokespecial 20, 3) := by decide +kernel
theorem dX3_init_30 : decode cX3_init 30 = .ok (.putfield 23, 3) := by decide +kernel
theorem dX3_init_33 : decode cX3_init 33 = .ok (.aload_n 0, 1) := by decide +kernel
theorem dX3_init_34 : decode cX3_init 34 = .ok (.new 18, 3) := by decide +kernel
theorem dX3_init_37 : decode cX3_init 37 = .ok (.dup, 1) := by decide +kernel
theorem dX3_init_38 : decode cX3_init 38 = .ok (.aload_n 0, 1) := by decide +kernel
theorem dX3_init_39 : decode cX3_init 39 = .ok (.getfield 14, 3) := by decide +kernel
theorem dX3_init_42 : decode cX3_init 42 = .ok (.invokespecial 20, 3) := by decide +kernel
theorem dX3_init_45 : decode cX3_init 45 = .ok (.putfield 27, 3) := by decide +kernel
theorem dX3_init_48 : decode cX3_init 48 = .ok (.aload_n 0, 1) := by decide +kernel
theorem dX3_init_49 : decode cX3_init 49 = .ok (.new 18, 3) := by decide +kernel
theorem dX3_init_52 : decode cX3_init 52 = .ok (.dup, 1) := by decide +kernel
theorem dX3_init_53 : decode cX3_init 53 = .ok (.aload_n 0, 1) := by decide +kernel
theorem dX3_init_54 : decode cX3_init 54 = .ok (.getfield 14, 3) := by decide +kernel
theorem dX3_init_57 : decode cX3_init 57 = .ok (.invokespecial 20, 3) := by decide +kernel
theorem dX3_init_60 : decode cX3_init 60 = .ok (.putfield 30, 3) := by decide +kernel
theorem dX3_init_63 : decode cX3_init 63 = .ok (.aload_n 0, 1) := by decide +kernel
theorem dX3_init_64 : decode cX3_init 64 = .ok (.new 18, 3) := by decide +kernel
theorem dX3_init_67 : decode cX3_init 67 = .ok (.dup, 1) := by decide +kernel
theorem dX3_init_68 : decode cX3_init 68 = .ok (.aload_n 0, 1) := by decide +kernel
theorem dX3_init_69 : decode cX3_init 69 = .ok (.getfield 14, 3) := by decide +kernel
theorem dX3_init_72 : decode cX3_init 72 = .ok (.invokespecial 20, 3) := by decide +kernel
theorem dX3_init_75 : decode cX3_init 75 = .ok (.putfield 33, 3) := by decide +kernel
theorem dX3_init_78 : decode cX3_init 78 = .ok (.aload_n 0, 1) := by decide +kernel
theorem dX3_init_79 : decode cX3_init 79 = .ok (.new 9, 3) := by decide +kernel
theorem dX3_init_82 : decode cX3_init 82 = .ok (.dup, 1) := by decide +kernel
theorem dX3_init_83 : decode cX3_init 83 = .ok (.bipush 14, 2) := by decide +kernel
theorem dX3_init_85 : decode cX3_init 85 = .ok (.bipush 8, 2) := by decide +kernel
theorem dX3_init_87 : decode cX3_init 87 = .ok (.invokespecial 11, 3) := by decide +kernel
theorem dX3_init_90 : decode cX3_init 90 = .ok (.putfield 36, 3) := by decide +kernel
theorem dX3_init_93 : decode cX3_init 93 = .ok (.aload_n 0, 1) := by decide +kernel
theorem dX3_init_94 : decode cX3_init 94 = .ok (.new 9, 3) := by decide +kernel
theorem dX3_init_97 : decode cX3_init 97 = .ok (.dup, 1) := by decide +kernel
theorem dX3_init_98 : decode cX3_init 98 = .ok (.bipush 6, 2) := by decide +kernel
theorem dX3_init_100 : decode cX3_init 100 = .ok (.iconst 5, 1) := by decide +kernel
theorem dX3_init_101 : decode cX3_init 101 = .ok (.invokespecial 11, 3) := by decide +kernel
theorem dX3_init_104 : decode cX3_init 104 = .ok (.putfield 39, 3) := by decide +kernel
theorem dX3_init_107 : decode cX3_init 107 = .ok (.aload_n 0, 1) := by decide +kernel
theorem dX3_init_108 : decode cX3_init 108 = .ok (.new 42, 3) := by decide +kernel
theorem dX3_init_111 : decode cX3_init 111 = .ok (.dup, 1) := by decide +kernel
theorem dX3_init_112 : decode cX3_init 112 = .ok (.invokespecial 44, 3) := by decide +kernel
theorem dX3_init_115 : decode cX3_init 115 = .ok (.putfield 45, 3) := by decide +kernel
theorem dX3_init_118 : decode cX3_init 118 = .ok (.aload_n 0, 1) := by decide +kernel
theorem dX3_init_119 : decode cX3_init 119 = .ok (.iconst 4, 1) := by decide +kernel
theorem dX3_init_120 : decode cX3_init 120 = .ok (.newarray .int, 2) := by decide +kernel
theorem dX3_init_122 : decode cX3_init 122 = .ok (.putfield 49, 3) := by decide +kernel
theorem dX3_init_125 : decode cX3_init 125 = .ok (.aload_n 0, 1) := by decide +kernel
theorem dX3_init_126 : decode cX3_init 126 = .ok (.getfield 14, 3) := by decide +kernel
theorem dX3_init_129 : decode cX3_init 129 = .ok (.iconst 0, 1) := by decide +kernel
theorem dX3_init_130 : decode cX3_init 130 = .ok (.iconst 0, 1) := by decide +kernel
theorem dX3_init_131 : decode cX3_init 131 = .ok (.bipush (-9), 2) := by decide +kernel
theorem dX3_init_133 : decode cX3_init 133 = .ok (.bipush (-9), 2) := by decide +kernel
theorem dX3_init_135 : decode cX3_init 135 = .ok (.iconst 0, 1) := by decide +kernel
theorem dX3_init_136 : decode cX3_init 136 = .ok (.invokevirtual 53, 3) := by decide +kernel
theorem dX3_init_139 : decode cX3_init 139 = .ok (.pop, 1) := by decide +kernel
theorem dX3_init_140 : decode cX3_init 140 = .ok (.return_, 1) := by decide +kernel
theorem dX3_write_0 : decode cX3_write 0 = .ok (.iload_n 1, 1) := by decide +kernel
theorem dX3_write_1 : decode cX3_write 1 = .ok (.ifCond .lt 10, 3) := by decide +kernel
theorem dX3_write_4 : decode cX3_write 4 = .ok (.iload_n 1, 1) := by decide +kernel
theorem dX3_write_5 : decode cX3_write 5 = .ok (.sipush 255, 3) := by decide +kernel
theorem dX3_write_8 : decode cX3_write 8 = .ok (.if_icmp .le 6, 3) := by decide +kernel
theorem dX3_write_11 : decode cX3_write 11 = .ok (.bipush (-2), 2) := by decide +kernel
theorem dX3_write_13 : decode cX3_write 13 = .ok (.ireturn, 1) := by decide +kernel
theorem dX3_write_14 : decode cX3_write 14 = .ok (.aload_n 0, 1) := by decide +kernel
theorem dX3_write_15 : decode cX3_write 15 = .ok (.getfield 45, 3) := by decide +kernel
theorem dX3_write_18 : decode cX3_write 18 = .ok (.getfield 57, 3) := by decide +kernel
theorem dX3_write_21 : decode cX3_write 21 = .ok (.bipush 99, 2) := by decide +kernel
theorem dX3_write_23 : decode cX3_write 23 = .ok (.if_icmp .lt 6, 3) := by decide +kernel
theorem dX3_write_26 : decode cX3_write 26 = .ok (.bipush (-4), 2) := by decide +kernel
theorem dX3_write_28 : decode cX3_write 28 = .ok (.ireturn, 1) := by decide +kernel
theorem dX3_write_29 : decode cX3_write 29 = .ok (.aload_n 0, 1) := by decide +kernel
theorem dX3_write_30 : decode cX3_write 30 = .ok (.getfield 45, 3) := by decide +kernel
theorem dX3_write_33 : decode cX3_write 33 = .ok (.iload_n 1, 1) := by decide +kernel
theorem dX3_write_34 : decode cX3_write 34 = .ok (.invokevirtual 61, 3) := by decide +kernel
theorem dX3_write_37 : decode cX3_write 37 = .ok (.aload_n 0, 1) := by decide +kernel
theorem dX3_write_38 : decode cX3_write 38 = .ok (.getfield 45, 3) := by decide +kernel
theorem dX3_write_41 : decode cX3_write 41 = .ok (.getfield 57, 3) := by decide +kernel
theorem dX3_write_44 : decode cX3_write 44 = .ok (.ireturn, 1) := by decide +kernel
theorem dX3_wipe_0 : decode cX3_wipe 0 = .ok (.aload_n 0, 1) := by decide +kernel
theorem dX3_wipe_1 : decode cX3_wipe 1 = .ok (.getfield 45, 3) := by decide +kernel
theorem dX3_wipe_4 : decode cX3_wipe 4 = .ok (.getfield 57, 3) := by decide +kernel
theorem dX3_wipe_7 : decode cX3_wipe 7 = .ok (.istore_n 1, 1) := by decide +kernel
theorem dX3_wipe_8 : decode cX3_wipe 8 = .ok (.aload_n 0, 1) := by decide +kernel
theorem dX3_wipe_9 : decode cX3_wipe 9 = .ok (.getfield 45, 3) := by decide +kernel
theorem dX3_wipe_12 : decode cX3_wipe 12 = .ok (.iconst 0, 1) := by decide +kernel
theorem dX3_wipe_13 : decode cX3_wipe 13 = .ok (.putfield 57, 3) := by decide +kernel
theorem dX3_wipe_16 : decode cX3_wipe 16 = .ok (.iload_n 1, 1) := by decide +kernel
theorem dX3_wipe_17 : decode cX3_wipe 17 = .ok (.ireturn, 1) := by decide +kernel
theorem dX3_fault_0 : decode cX3_fault 0 = .ok (.aload_n 0, 1) := by decide +kernel
theorem dX3_fault_1 : decode cX3_fault 1 = .ok (.getfield 45, 3) := by decide +kernel
theorem dX3_fault_4 : decode cX3_fault 4 = .ok (.invokevirtual 65, 3) := by decide +kernel
theorem dX3_fault_7 : decode cX3_fault 7 = .ok (.ireturn, 1) := by decide +kernel
theorem dX3_tree_0 : decode cX3_tree 0 = .ok (.aload_n 0, 1) := by decide +kernel
theorem dX3_tree_1 : decode cX3_tree 1 = .ok (.getfield 45, 3) := by decide +kernel
theorem dX3_tree_4 : decode cX3_tree 4 = .ok (.invokevirtual 65, 3) := by decide +kernel
theorem dX3_tree_7 : decode cX3_tree 7 = .ok (.bipush (-9), 2) := by decide +kernel
theorem dX3_tree_9 : decode cX3_tree 9 = .ok (.if_icmp .eq 6, 3) := by decide +kernel
theorem dX3_tree_12 : decode cX3_tree 12 = .ok (.bipush (-3), 2) := by decide +kernel
theorem dX3_tree_14 : decode cX3_tree 14 = .ok (.ireturn, 1) := by decide +kernel
theorem dX3_tree_15 : decode cX3_tree 15 = .ok (.aload_n 0, 1) := by decide +kernel
theorem dX3_tree_16 : decode cX3_tree 16 = .ok (.getfield 14, 3) := by decide +kernel
theorem dX3_tree_19 : decode cX3_tree 19 = .ok (.aload_n 0, 1) := by decide +kernel
theorem dX3_tree_20 : decode cX3_tree 20 = .ok (.getfield 45, 3) := by decide +kernel
theorem dX3_tree_23 : decode cX3_tree 23 = .ok (.getfield 69, 3) := by decide +kernel
theorem dX3_tree_26 : decode cX3_tree 26 = .ok (.invokevirtual 70, 3) := by decide +kernel
theorem dX3_tree_29 : decode cX3_tree 29 = .ok (.aload_n 0, 1) := by decide +kernel
theorem dX3_tree_30 : decode cX3_tree 30 = .ok (.getfield 23, 3) := by decide +kernel
theorem dX3_tree_33 : decode cX3_tree 33 = .ok (.aload_n 0, 1) := by decide +kernel
theorem dX3_tree_34 : decode cX3_tree 34 = .ok (.getfield 45, 3) := by decide +kernel
theorem dX3_tree_37 : decode cX3_tree 37 = .ok (.getfield 73, 3) := by decide +kernel
theorem dX3_tree_40 : decode cX3_tree 40 = .ok (.aload_n 0, 1) := by decide +kernel
theorem dX3_tree_41 : decode cX3_tree 41 = .ok (.getfield 45, 3) := by decide +kernel
theorem dX3_tree_44 : decode cX3_tree 44 = .ok (.getfield 76, 3) := by decide +kernel
theorem dX3_tree_47 : decode cX3_tree 47 = .ok (.invokevirtual 79, 3) := by decide +kernel
theorem dX3_tree_50 : decode cX3_tree 50 = .ok (.aload_n 0, 1) := by decide +kernel
theorem dX3_tree_51 : decode cX3_tree 51 = .ok (.getfield 36, 3) := by decide +kernel
theorem dX3_tree_54 : decode cX3_tree 54 = .ok (.iconst 0, 1) := by decide +kernel
theorem dX3_tree_55 : decode cX3_tree 55 = .ok (.putfield 83, 3) := by decide +kernel
theorem dX3_tree_58 : decode cX3_tree 58 = .ok (.aload_n 0, 1) := by decide +kernel
theorem dX3_tree_59 : decode cX3_tree 59 = .ok (.iconst 0, 1) := by decide +kernel
theorem dX3_tree_60 : decode cX3_tree 60 = .ok (.putfield 86, 3) := by decide +kernel
theorem dX3_tree_63 : decode cX3_tree 63 = .ok (.aload_n 0, 1) := by decide +kernel
theorem dX3_tree_64 : decode cX3_tree 64 = .ok (.getfield 14, 3) := by decide +kernel
theorem dX3_tree_67 : decode cX3_tree 67 = .ok (.getfield 83, 3) := by decide +kernel
theorem dX3_tree_70 : decode cX3_tree 70 = .ok (.ireturn, 1) := by decide +kernel
theorem dX3_about_0 : decode cX3_about 0 = .ok (.iload_n 1, 1) := by decide +kernel
theorem dX3_about_1 : decode cX3_about 1 = .ok (.tableswitch 200 0 12 #[67, 75, 86, 97, 105, 113, 128, 136, 152, 168, 176, 184, 192], 67) := by decide +kernel
theorem dX3_about_68 : decode cX3_about 68 = .ok (.aload_n 0, 1) := by decide +kernel
theorem dX3_about_69 : decode cX3_about 69 = .ok (.getfield 14, 3) := by decide +kernel
theorem dX3_about_72 : decode cX3_about 72 = .ok (.getfield 83, 3) := by decide +kernel
theorem dX3_about_75 : decode cX3_about 75 = .ok (.ireturn, 1) := by decide +kernel
theorem dX3_about_76 : decode cX3_about 76 = .ok (.aload_n 0, 1) := by decide +kernel
theorem dX3_about_77 : decode cX3_about 77 = .ok (.getfield 23, 3) := by decide +kernel
theorem dX3_about_80 : decode cX3_about 80 = .ok (.getfield 89, 3) := by decide +kernel
theorem dX3_about_83 : decode cX3_about 83 = .ok (.getfield 83, 3) := by decide +kernel
theorem dX3_about_86 : decode cX3_about 86 = .ok (.ireturn, 1) := by decide +kernel
theorem dX3_about_87 : decode cX3_about 87 = .ok (.aload_n 0, 1) := by decide +kernel
theorem dX3_about_88 : decode cX3_about 88 = .ok (.getfield 23, 3) := by decide +kernel
theorem dX3_about_91 : decode cX3_about 91 = .ok (.getfield 90, 3) := by decide +kernel
theorem dX3_about_94 : decode cX3_about 94 = .ok (.getfield 83, 3) := by decide +kernel
theorem dX3_about_97 : decode cX3_about 97 = .ok (.ireturn, 1) := by decide +kernel
theorem dX3_about_98 : decode cX3_about 98 = .ok (.aload_n 0, 1) := by decide +kernel
theorem dX3_about_99 : decode cX3_about 99 = .ok (.getfield 23, 3) := by decide +kernel
theorem dX3_about_102 : decode cX3_about 102 = .ok (.getfield 91, 3) := by decide +kernel
theorem dX3_about_105 : decode cX3_about 105 = .ok (.ireturn, 1) := by decide +kernel
theorem dX3_about_106 : decode cX3_about 106 = .ok (.aload_n 0, 1) := by decide +kernel
theorem dX3_about_107 : decode cX3_about 107 = .ok (.getfield 23, 3) := by decide +kernel
theorem dX3_about_110 : decode cX3_about 110 = .ok (.getfield 94, 3) := by decide +kernel
theorem dX3_about_113 : decode cX3_about 113 = .ok (.ireturn, 1) := by decide +kernel
theorem dX3_about_114 : decode cX3_about 114 = .ok (.aload_n 0, 1) := by decide +kernel
theorem dX3_about_115 : decode cX3_about 115 = .ok (.getfield 23, 3) := by decide +kernel
theorem dX3_about_118 : decode cX3_about 118 = .ok (.aload_n 0, 1) := by decide +kernel
theorem dX3_about_119 : decode cX3_about 119 = .ok (.getfield 23, 3) := by decide +kernel
theorem dX3_about_122 : decode cX3_about 122 = .ok (.getfield 94, 3) := by decide +kernel
theorem dX3_about_125 : decode cX3_about 125 = .ok (.invokevirtual 97, 3) := by decide +kernel
theorem dX3_about_128 : decode cX3_about 128 = .ok (.ireturn, 1) := by decide +kernel
theorem dX3_about_129 : decode cX3_about 129 = .ok (.aload_n 0, 1) := by decide +kernel
theorem dX3_about_130 : decode cX3_about 130 = .ok (.getfield 23, 3) := by decide +kernel
theorem dX3_about_133 : decode cX3_about 133 = .ok (.getfield 101, 3) := by decide +kernel
theorem dX3_about_136 : decode cX3_about 136 = .ok (.ireturn, 1) := by decide +kernel
theorem dX3_about_137 : decode cX3_about 137 = .ok (.aload_n 0, 1) := by decide +kernel
theorem dX3_about_138 : decode cX3_about 138 = .ok (.getfield 23, 3) := by decide +kernel
theorem dX3_about_141 : decode cX3_about 141 = .ok (.iconst 2, 1) := by decide +kernel
theorem dX3_about_142 : decode cX3_about 142 = .ok (.aload_n 0, 1) := by decide +kernel
theorem dX3_about_143 : decode cX3_about 143 = .ok (.getfield 23, 3) := by decide +kernel
theorem dX3_about_146 : decode cX3_about 146 = .ok (.invokevirtual 104, 3) := by decide +kernel
theorem dX3_about_149 : decode cX3_about 149 = .ok (.invokevirtual 107, 3) := by decide +kernel
theorem dX3_about_152 : decode cX3_about 152 = .ok (.ireturn, 1) := by decide +kernel
theorem dX3_about_153 : decode cX3_about 153 = .ok (.aload_n 0, 1) := by decide +kernel
theorem dX3_about_154 : decode cX3_about 154 = .ok (.getfield 23, 3) := by decide +kernel
theorem dX3_about_157 : decode cX3_about 157 = .ok (.iconst 0, 1) := by decide +kernel
theorem dX3_about_158 : decode cX3_about 158 = .ok (.aload_n 0, 1) := by decide +kernel
theorem dX3_about_159 : decode cX3_about 159 = .ok (.getfield 23, 3) := by decide +kernel
theorem dX3_about_162 : decode cX3_about 162 = .ok (.invokevirtual 104, 3) := by decide +kernel
theorem dX3_about_165 : decode cX3_about 165 = .ok (.invokevirtual 107, 3) := by decide +kernel
theorem dX3_about_168 : decode cX3_about 168 = .ok (.ireturn, 1) := by decide +kernel
theorem dX3_about_169 : decode cX3_about 169 = .ok (.aload_n 0, 1) := by decide +kernel
theorem dX3_about_170 : decode cX3_about 170 = .ok (.getfield 23, 3) := by decide +kernel
theorem dX3_about_173 : decode cX3_about 173 = .ok (.invokevirtual 111, 3) := by decide +kernel
theorem dX3_about_176 : decode cX3_about 176 = .ok (.ireturn, 1) := by decide +kernel
theorem dX3_about_177 : decode cX3_about 177 = .ok (.aload_n 0, 1) := by decide +kernel
theorem dX3_about_178 : decode cX3_about 178 = .ok (.getfield 36, 3) := by decide +kernel
theorem dX3_about_181 : decode cX3_about 181 = .ok (.getfield 83, 3) := by decide +kernel
theorem dX3_about_184 : decode cX3_about 184 = .ok (.ireturn, 1) := by decide +kernel
theorem dX3_about_185 : decode cX3_about 185 = .ok (.aload_n 0, 1) := by decide +kernel
theorem dX3_about_186 : decode cX3_about 186 = .ok (.getfield 39, 3) := by decide +kernel
theorem dX3_about_189 : decode cX3_about 189 = .ok (.getfield 83, 3) := by decide +kernel
theorem dX3_about_192 : decode cX3_about 192 = .ok (.ireturn, 1) := by decide +kernel
theorem dX3_about_193 : decode cX3_about 193 = .ok (.aload_n 0, 1) := by decide +kernel
theorem dX3_about_194 : decode cX3_about 194 = .ok (.getfield 45, 3) := by decide +kernel
theorem dX3_about_197 : decode cX3_about 197 = .ok (.getfield 57, 3) := by decide +kernel
theorem dX3_about_200 : decode cX3_about 200 = .ok (.ireturn, 1) := by decide +kernel
theorem dX3_about_201 : decode cX3_about 201 = .ok (.bipush (-2), 2) := by decide +kernel
theorem dX3_about_203 : decode cX3_about 203 = .ok (.ireturn, 1) := by decide +kernel
theorem dX3_paper_0 : decode cX3_paper 0 = .ok (.aload_n 0, 1) := by decide +kernel
theorem dX3_paper_1 : decode cX3_paper 1 = .ok (.getfield 14, 3) := by decide +kernel
theorem dX3_paper_4 : decode cX3_paper 4 = .ok (.iload_n 1, 1) := by decide +kernel
theorem dX3_paper_5 : decode cX3_paper 5 = .ok (.invokevirtual 114, 3) := by decide +kernel
theorem dX3_paper_8 : decode cX3_paper 8 = .ok (.ifCond .ne 5, 3) := by decide +kernel
theorem dX3_paper_11 : decode cX3_paper 11 = .ok (.iconst (-1), 1) := by decide +kernel
theorem dX3_paper_12 : decode cX3_paper 12 = .ok (.ireturn, 1) := by decide +kernel
theorem dX3_paper_13 : decode cX3_paper 13 = .ok (.iload_n 2, 1) := by decide +kernel
theorem dX3_paper_14 : decode cX3_paper 14 = .ok (.tableswitch 93 0 4 #[34, 44, 54, 64, 74], 34) := by decide +kernel
theorem dX3_paper_48 : decode cX3_paper 48 = .ok (.aload_n 0, 1) := by decide +kernel
theorem dX3_paper_49 : decode cX3_paper 49 = .ok (.getfield 14, 3) := by decide +kernel
theorem dX3_paper_52 : decode cX3_paper 52 = .ok (.iload_n 1, 1) := by decide +kernel
theorem dX3_paper_53 : decode cX3_paper 53 = .ok (.iconst 3, 1) := by decide +kernel
theorem dX3_paper_54 : decode cX3_paper 54 = .ok (.invokevirtual 118, 3) := by decide +kernel
theorem dX3_paper_57 : decode cX3_paper 57 = .ok (.ireturn, 1) := by decide +kernel
theorem dX3_paper_58 : decode cX3_paper 58 = .ok (.aload_n 0, 1) := by decide +kernel
theorem dX3_paper_59 : decode cX3_paper 59 = .ok (.getfield 14, 3) := by decide +kernel
theorem dX3_paper_62 : decode cX3_paper 62 = .ok (.iload_n 1, 1) := by decide +kernel
theorem dX3_paper_63 : decode cX3_paper 63 = .ok (.iconst 0, 1) := by decide +kernel
theorem dX3_paper_64 : decode cX3_paper 64 = .ok (.invokevirtual 118, 3) := by decide +kernel
theorem dX3_paper_67 : decode cX3_paper 67 = .ok (.ireturn, 1) := by decide +kernel
theorem dX3_paper_68 : decode cX3_paper 68 = .ok (.aload_n 0, 1) := by decide +kernel
theorem dX3_paper_69 : decode cX3_paper 69 = .ok (.getfield 14, 3) := by decide +kernel
theorem dX3_paper_72 : decode cX3_paper 72 = .ok (.iload_n 1, 1) := by decide +kernel
theorem dX3_paper_73 : decode cX3_paper 73 = .ok (.iconst 1, 1) := by decide +kernel
theorem dX3_paper_74 : decode cX3_paper 74 = .ok (.invokevirtual 118, 3) := by decide +kernel
theorem dX3_paper_77 : decode cX3_paper 77 = .ok (.ireturn, 1) := by decide +kernel
theorem dX3_paper_78 : decode cX3_paper 78 = .ok (.aload_n 0, 1) := by decide +kernel
theorem dX3_paper_79 : decode cX3_paper 79 = .ok (.getfield 14, 3) := by decide +kernel
theorem dX3_paper_82 : decode cX3_paper 82 = .ok (.iload_n 1, 1) := by decide +kernel
theorem dX3_paper_83 : decode cX3_paper 83 = .ok (.iconst 4, 1) := by decide +kernel
theorem dX3_paper_84 : decode cX3_paper 84 = .ok (.invokevirtual 118, 3) := by decide +kernel
theorem dX3_paper_87 : decode cX3_paper 87 = .ok (.ireturn, 1) := by decide +kernel
theorem dX3_paper_88 : decode cX3_paper 88 = .ok (.aload_n 0, 1) := by decide +kernel
theorem dX3_paper_89 : decode cX3_paper 89 = .ok (.getfield 23, 3) := by decide +kernel
theorem dX3_paper_92 : decode cX3_paper 92 = .ok (.aload_n 0, 1) := by decide +kernel
theorem dX3_paper_93 : decode cX3_paper 93 = .ok (.getfield 23, 3) := by decide +kernel
theorem dX3_paper_96 : decode cX3_paper 96 = .ok (.getfield 94, 3) := by decide +kernel
theorem dX3_paper_99 : decode cX3_paper 99 = .ok (.invokevirtual 97, 3) := by decide +kernel
theorem dX3_paper_102 : decode cX3_paper 102 = .ok (.iload_n 1, 1) := by decide +kernel
theorem dX3_paper_103 : decode cX3_paper 103 = .ok (.invokestatic 121, 3) := by decide +kernel
theorem dX3_paper_106 : decode cX3_paper 106 = .ok (.ireturn, 1) := by decide +kernel
theorem dX3_paper_107 : decode cX3_paper 107 = .ok (.bipush (-2), 2) := by decide +kernel
end
section
theorem dX3_paper_109 : decode cX3_paper 109 = .ok (.ireturn, 1) := by decide +kernel
theorem dX3_grant_0 : decode cX3_grant 0 = .ok (.aload_n 0, 1) := by decide +kernel
theorem dX3_grant_1 : decode cX3_grant 1 = .ok (.getfield 23, 3) := by decide +kernel
theorem dX3_grant_4 : decode cX3_grant 4 = .ok (.getfield 89, 3) := by decide +kernel
theorem dX3_grant_7 : decode cX3_grant 7 = .ok (.iload_n 1, 1) := by decide +kernel
theorem dX3_grant_8 : decode cX3_grant 8 = .ok (.invokevirtual 114, 3) := by decide +kernel
theorem dX3_grant_11 : decode cX3_grant 11 = .ok (.ifCond .ne 5, 3) := by decide +kernel
theorem dX3_grant_14 : decode cX3_grant 14 = .ok (.iconst (-1), 1) := by decide +kernel
theorem dX3_grant_15 : decode cX3_grant 15 = .ok (.ireturn, 1) := by decide +kernel
theorem dX3_grant_16 : decode cX3_grant 16 = .ok (.iload_n 2, 1) := by decide +kernel
theorem dX3_grant_17 : decode cX3_grant 17 = .ok (.tableswitch 116 0 5 #[39, 52, 65, 78, 91, 104], 39) := by decide +kernel
theorem dX3_grant_56 : decode cX3_grant 56 = .ok (.aload_n 0, 1) := by decide +kernel
theorem dX3_grant_57 : decode cX3_grant 57 = .ok (.getfield 23, 3) := by decide +kernel
theorem dX3_grant_60 : decode cX3_grant 60 = .ok (.getfield 89, 3) := by decide +kernel
theorem dX3_grant_63 : decode cX3_grant 63 = .ok (.iload_n 1, 1) := by decide +kernel
theorem dX3_grant_64 : decode cX3_grant 64 = .ok (.iconst 4, 1) := by decide +kernel
theorem dX3_grant_65 : decode cX3_grant 65 = .ok (.invokevirtual 118, 3) := by decide +kernel
theorem dX3_grant_68 : decode cX3_grant 68 = .ok (.ireturn, 1) := by decide +kernel
theorem dX3_grant_69 : decode cX3_grant 69 = .ok (.aload_n 0, 1) := by decide +kernel
theorem dX3_grant_70 : decode cX3_grant 70 = .ok (.getfield 23, 3) := by decide +kernel
theorem dX3_grant_73 : decode cX3_grant 73 = .ok (.getfield 89, 3) := by decide +kernel
theorem dX3_grant_76 : decode cX3_grant 76 = .ok (.iload_n 1, 1) := by decide +kernel
theorem dX3_grant_77 : decode cX3_grant 77 = .ok (.iconst 3, 1) := by decide +kernel
theorem dX3_grant_78 : decode cX3_grant 78 = .ok (.invokevirtual 118, 3) := by decide +kernel
theorem dX3_grant_81 : decode cX3_grant 81 = .ok (.ireturn, 1) := by decide +kernel
theorem dX3_grant_82 : decode cX3_grant 82 = .ok (.aload_n 0, 1) := by decide +kernel
theorem dX3_grant_83 : decode cX3_grant 83 = .ok (.getfield 23, 3) := by decide +kernel
theorem dX3_grant_86 : decode cX3_grant 86 = .ok (.getfield 89, 3) := by decide +kernel
theorem dX3_grant_89 : decode cX3_grant 89 = .ok (.iload_n 1, 1) := by decide +kernel
theorem dX3_grant_90 : decode cX3_grant 90 = .ok (.iconst 0, 1) := by decide +kernel
theorem dX3_grant_91 : decode cX3_grant 91 = .ok (.invokevirtual 118, 3) := by decide +kernel
theorem dX3_grant_94 : decode cX3_grant 94 = .ok (.ireturn, 1) := by decide +kernel
theorem dX3_grant_95 : decode cX3_grant 95 = .ok (.aload_n 0, 1) := by decide +kernel
theorem dX3_grant_96 : decode cX3_grant 96 = .ok (.getfield 23, 3) := by decide +kernel
theorem dX3_grant_99 : decode cX3_grant 99 = .ok (.getfield 89, 3) := by decide +kernel
theorem dX3_grant_102 : decode cX3_grant 102 = .ok (.iload_n 1, 1) := by decide +kernel
theorem dX3_grant_103 : decode cX3_grant 103 = .ok (.iconst 1, 1) := by decide +kernel
theorem dX3_grant_104 : decode cX3_grant 104 = .ok (.invokevirtual 118, 3) := by decide +kernel
theorem dX3_grant_107 : decode cX3_grant 107 = .ok (.ireturn, 1) := by decide +kernel
theorem dX3_grant_108 : decode cX3_grant 108 = .ok (.aload_n 0, 1) := by decide +kernel
theorem dX3_grant_109 : decode cX3_grant 109 = .ok (.getfield 23, 3) := by decide +kernel
theorem dX3_grant_112 : decode cX3_grant 112 = .ok (.getfield 89, 3) := by decide +kernel
theorem dX3_grant_115 : decode cX3_grant 115 = .ok (.iload_n 1, 1) := by decide +kernel
theorem dX3_grant_116 : decode cX3_grant 116 = .ok (.iconst 5, 1) := by decide +kernel
theorem dX3_grant_117 : decode cX3_grant 117 = .ok (.invokevirtual 118, 3) := by decide +kernel
theorem dX3_grant_120 : decode cX3_grant 120 = .ok (.ireturn, 1) := by decide +kernel
theorem dX3_grant_121 : decode cX3_grant 121 = .ok (.aload_n 0, 1) := by decide +kernel
theorem dX3_grant_122 : decode cX3_grant 122 = .ok (.getfield 23, 3) := by decide +kernel
theorem dX3_grant_125 : decode cX3_grant 125 = .ok (.invokevirtual 104, 3) := by decide +kernel
theorem dX3_grant_128 : decode cX3_grant 128 = .ok (.iload_n 1, 1) := by decide +kernel
theorem dX3_grant_129 : decode cX3_grant 129 = .ok (.invokestatic 121, 3) := by decide +kernel
theorem dX3_grant_132 : decode cX3_grant 132 = .ok (.ireturn, 1) := by decide +kernel
theorem dX3_grant_133 : decode cX3_grant 133 = .ok (.bipush (-2), 2) := by decide +kernel
theorem dX3_grant_135 : decode cX3_grant 135 = .ok (.ireturn, 1) := by decide +kernel
theorem dX3_route_0 : decode cX3_route 0 = .ok (.aload_n 0, 1) := by decide +kernel
theorem dX3_route_1 : decode cX3_route 1 = .ok (.getfield 23, 3) := by decide +kernel
theorem dX3_route_4 : decode cX3_route 4 = .ok (.getfield 90, 3) := by decide +kernel
theorem dX3_route_7 : decode cX3_route 7 = .ok (.iload_n 1, 1) := by decide +kernel
theorem dX3_route_8 : decode cX3_route 8 = .ok (.invokevirtual 114, 3) := by decide +kernel
theorem dX3_route_11 : decode cX3_route 11 = .ok (.ifCond .ne 5, 3) := by decide +kernel
theorem dX3_route_14 : decode cX3_route 14 = .ok (.iconst (-1), 1) := by decide +kernel
theorem dX3_route_15 : decode cX3_route 15 = .ok (.ireturn, 1) := by decide +kernel
theorem dX3_route_16 : decode cX3_route 16 = .ok (.iload_n 2, 1) := by decide +kernel
theorem dX3_route_17 : decode cX3_route 17 = .ok (.tableswitch 134 0 4 #[35, 48, 61, 74, 125], 35) := by decide +kernel
theorem dX3_route_52 : decode cX3_route 52 = .ok (.aload_n 0, 1) := by decide +kernel
theorem dX3_route_53 : decode cX3_route 53 = .ok (.getfield 23, 3) := by decide +kernel
theorem dX3_route_56 : decode cX3_route 56 = .ok (.getfield 90, 3) := by decide +kernel
theorem dX3_route_59 : decode cX3_route 59 = .ok (.iload_n 1, 1) := by decide +kernel
theorem dX3_route_60 : decode cX3_route 60 = .ok (.iconst 0, 1) := by decide +kernel
theorem dX3_route_61 : decode cX3_route 61 = .ok (.invokevirtual 118, 3) := by decide +kernel
theorem dX3_route_64 : decode cX3_route 64 = .ok (.ireturn, 1) := by decide +kernel
theorem dX3_route_65 : decode cX3_route 65 = .ok (.aload_n 0, 1) := by decide +kernel
theorem dX3_route_66 : decode cX3_route 66 = .ok (.getfield 23, 3) := by decide +kernel
theorem dX3_route_69 : decode cX3_route 69 = .ok (.getfield 90, 3) := by decide +kernel
theorem dX3_route_72 : decode cX3_route 72 = .ok (.iload_n 1, 1) := by decide +kernel
theorem dX3_route_73 : decode cX3_route 73 = .ok (.iconst 1, 1) := by decide +kernel
theorem dX3_route_74 : decode cX3_route 74 = .ok (.invokevirtual 118, 3) := by decide +kernel
theorem dX3_route_77 : decode cX3_route 77 = .ok (.ireturn, 1) := by decide +kernel
theorem dX3_route_78 : decode cX3_route 78 = .ok (.aload_n 0, 1) := by decide +kernel
theorem dX3_route_79 : decode cX3_route 79 = .ok (.getfield 23, 3) := by decide +kernel
theorem dX3_route_82 : decode cX3_route 82 = .ok (.getfield 90, 3) := by decide +kernel
theorem dX3_route_85 : decode cX3_route 85 = .ok (.iload_n 1, 1) := by decide +kernel
theorem dX3_route_86 : decode cX3_route 86 = .ok (.iconst 3, 1) := by decide +kernel
theorem dX3_route_87 : decode cX3_route 87 = .ok (.invokevirtual 118, 3) := by decide +kernel
theorem dX3_route_90 : decode cX3_route 90 = .ok (.ireturn, 1) := by decide +kernel
theorem dX3_route_91 : decode cX3_route 91 = .ok (.aload_n 0, 1) := by decide +kernel
theorem dX3_route_92 : decode cX3_route 92 = .ok (.getfield 23, 3) := by decide +kernel
theorem dX3_route_95 : decode cX3_route 95 = .ok (.aload_n 0, 1) := by decide +kernel
theorem dX3_route_96 : decode cX3_route 96 = .ok (.getfield 23, 3) := by decide +kernel
theorem dX3_route_99 : decode cX3_route 99 = .ok (.getfield 90, 3) := by decide +kernel
theorem dX3_route_102 : decode cX3_route 102 = .ok (.iload_n 1, 1) := by decide +kernel
theorem dX3_route_103 : decode cX3_route 103 = .ok (.iconst 2, 1) := by decide +kernel
theorem dX3_route_104 : decode cX3_route 104 = .ok (.invokevirtual 118, 3) := by decide +kernel
theorem dX3_route_107 : decode cX3_route 107 = .ok (.aload_n 0, 1) := by decide +kernel
theorem dX3_route_108 : decode cX3_route 108 = .ok (.getfield 23, 3) := by decide +kernel
theorem dX3_route_111 : decode cX3_route 111 = .ok (.getfield 90, 3) := by decide +kernel
theorem dX3_route_114 : decode cX3_route 114 = .ok (.iload_n 1, 1) := by decide +kernel
theorem dX3_route_115 : decode cX3_route 115 = .ok (.iconst 1, 1) := by decide +kernel
theorem dX3_route_116 : decode cX3_route 116 = .ok (.invokevirtual 118, 3) := by decide +kernel
theorem dX3_route_119 : decode cX3_route 119 = .ok (.aload_n 0, 1) := by decide +kernel
theorem dX3_route_120 : decode cX3_route 120 = .ok (.getfield 23, 3) := by decide +kernel
theorem dX3_route_123 : decode cX3_route 123 = .ok (.getfield 90, 3) := by decide +kernel
theorem dX3_route_126 : decode cX3_route 126 = .ok (.iload_n 1, 1) := by decide +kernel
theorem dX3_route_127 : decode cX3_route 127 = .ok (.iconst 3, 1) := by decide +kernel
theorem dX3_route_128 : decode cX3_route 128 = .ok (.invokevirtual 118, 3) := by decide +kernel
theorem dX3_route_131 : decode cX3_route 131 = .ok (.aload_n 0, 1) := by decide +kernel
theorem dX3_route_132 : decode cX3_route 132 = .ok (.getfield 23, 3) := by decide +kernel
theorem dX3_route_135 : decode cX3_route 135 = .ok (.invokevirtual 104, 3) := by decide +kernel
theorem dX3_route_138 : decode cX3_route 138 = .ok (.invokevirtual 124, 3) := by decide +kernel
theorem dX3_route_141 : decode cX3_route 141 = .ok (.ireturn, 1) := by decide +kernel
theorem dX3_route_142 : decode cX3_route 142 = .ok (.aload_n 0, 1) := by decide +kernel
theorem dX3_route_143 : decode cX3_route 143 = .ok (.getfield 23, 3) := by decide +kernel
theorem dX3_route_146 : decode cX3_route 146 = .ok (.iload_n 1, 1) := by decide +kernel
theorem dX3_route_147 : decode cX3_route 147 = .ok (.invokevirtual 128, 3) := by decide +kernel
theorem dX3_route_150 : decode cX3_route 150 = .ok (.ireturn, 1) := by decide +kernel
theorem dX3_route_151 : decode cX3_route 151 = .ok (.bipush (-2), 2) := by decide +kernel
theorem dX3_route_153 : decode cX3_route 153 = .ok (.ireturn, 1) := by decide +kernel
theorem dX3_announce_0 : decode cX3_announce 0 = .ok (.iload_n 1, 1) := by decide +kernel
theorem dX3_announce_1 : decode cX3_announce 1 = .ok (.iload_n 2, 1) := by decide +kernel
theorem dX3_announce_2 : decode cX3_announce 2 = .ok (.invokestatic 131, 3) := by decide +kernel
theorem dX3_announce_5 : decode cX3_announce 5 = .ok (.ifCond .ne 6, 3) := by decide +kernel
theorem dX3_announce_8 : decode cX3_announce 8 = .ok (.bipush (-2), 2) := by decide +kernel
theorem dX3_announce_10 : decode cX3_announce 10 = .ok (.ireturn, 1) := by decide +kernel
theorem dX3_announce_11 : decode cX3_announce 11 = .ok (.iload_n 3, 1) := by decide +kernel
theorem dX3_announce_12 : decode cX3_announce 12 = .ok (.invokestatic 135, 3) := by decide +kernel
theorem dX3_announce_15 : decode cX3_announce 15 = .ok (.ifCond .ne 5, 3) := by decide +kernel
theorem dX3_announce_18 : decode cX3_announce 18 = .ok (.iconst (-1), 1) := by decide +kernel
theorem dX3_announce_19 : decode cX3_announce 19 = .ok (.ireturn, 1) := by decide +kernel
theorem dX3_announce_20 : decode cX3_announce 20 = .ok (.aload_n 0, 1) := by decide +kernel
theorem dX3_announce_21 : decode cX3_announce 21 = .ok (.getfield 23, 3) := by decide +kernel
theorem dX3_announce_24 : decode cX3_announce 24 = .ok (.getfield 90, 3) := by decide +kernel
theorem dX3_announce_27 : decode cX3_announce 27 = .ok (.getfield 83, 3) := by decide +kernel
theorem dX3_announce_30 : decode cX3_announce 30 = .ok (.bipush 6, 2) := by decide +kernel
theorem dX3_announce_32 : decode cX3_announce 32 = .ok (.if_icmp .lt 6, 3) := by decide +kernel
theorem dX3_announce_35 : decode cX3_announce 35 = .ok (.bipush (-4), 2) := by decide +kernel
theorem dX3_announce_37 : decode cX3_announce 37 = .ok (.ireturn, 1) := by decide +kernel
theorem dX3_announce_38 : decode cX3_announce 38 = .ok (.aload_n 0, 1) := by decide +kernel
theorem dX3_announce_39 : decode cX3_announce 39 = .ok (.getfield 23, 3) := by decide +kernel
theorem dX3_announce_42 : decode cX3_announce 42 = .ok (.getfield 90, 3) := by decide +kernel
theorem dX3_announce_45 : decode cX3_announce 45 = .ok (.iload_n 1, 1) := by decide +kernel
theorem dX3_announce_46 : decode cX3_announce 46 = .ok (.iload_n 2, 1) := by decide +kernel
theorem dX3_announce_47 : decode cX3_announce 47 = .ok (.iload_n 3, 1) := by decide +kernel
theorem dX3_announce_48 : decode cX3_announce 48 = .ok (.iconst 0, 1) := by decide +kernel
theorem dX3_announce_49 : decode cX3_announce 49 = .ok (.iconst 0, 1) := by decide +kernel
theorem dX3_announce_50 : decode cX3_announce 50 = .ok (.invokevirtual 53, 3) := by decide +kernel
theorem dX3_announce_53 : decode cX3_announce 53 = .ok (.istore 4, 2) := by decide +kernel
theorem dX3_announce_55 : decode cX3_announce 55 = .ok (.aload_n 0, 1) := by decide +kernel
theorem dX3_announce_56 : decode cX3_announce 56 = .ok (.iconst 1, 1) := by decide +kernel
theorem dX3_announce_57 : decode cX3_announce 57 = .ok (.iload 4, 2) := by decide +kernel
theorem dX3_announce_59 : decode cX3_announce 59 = .ok (.invokevirtual 138, 3) := by decide +kernel
theorem dX3_announce_62 : decode cX3_announce 62 = .ok (.pop, 1) := by decide +kernel
theorem dX3_announce_63 : decode cX3_announce 63 = .ok (.iload 4, 2) := by decide +kernel
theorem dX3_announce_65 : decode cX3_announce 65 = .ok (.ireturn, 1) := by decide +kernel
theorem dX3_withdraw_0 : decode cX3_withdraw 0 = .ok (.aload_n 0, 1) := by decide +kernel
theorem dX3_withdraw_1 : decode cX3_withdraw 1 = .ok (.getfield 23, 3) := by decide +kernel
theorem dX3_withdraw_4 : decode cX3_withdraw 4 = .ok (.getfield 90, 3) := by decide +kernel
theorem dX3_withdraw_7 : decode cX3_withdraw 7 = .ok (.iload_n 1, 1) := by decide +kernel
theorem dX3_withdraw_8 : decode cX3_withdraw 8 = .ok (.invokevirtual 114, 3) := by decide +kernel
theorem dX3_withdraw_11 : decode cX3_withdraw 11 = .ok (.ifCond .ne 5, 3) := by decide +kernel
theorem dX3_withdraw_14 : decode cX3_withdraw 14 = .ok (.iconst (-1), 1) := by decide +kernel
theorem dX3_withdraw_15 : decode cX3_withdraw 15 = .ok (.ireturn, 1) := by decide +kernel
theorem dX3_withdraw_16 : decode cX3_withdraw 16 = .ok (.aload_n 0, 1) := by decide +kernel
theorem dX3_withdraw_17 : decode cX3_withdraw 17 = .ok (.iconst 2, 1) := by decide +kernel
theorem dX3_withdraw_18 : decode cX3_withdraw 18 = .ok (.iload_n 1, 1) := by decide +kernel
theorem dX3_withdraw_19 : decode cX3_withdraw 19 = .ok (.aload_n 0, 1) := by decide +kernel
theorem dX3_withdraw_20 : decode cX3_withdraw 20 = .ok (.getfield 23, 3) := by decide +kernel
theorem dX3_withdraw_23 : decode cX3_withdraw 23 = .ok (.getfield 90, 3) := by decide +kernel
theorem dX3_withdraw_26 : decode cX3_withdraw 26 = .ok (.invokevirtual 141, 3) := by decide +kernel
theorem dX3_withdraw_29 : decode cX3_withdraw 29 = .ok (.aload_n 0, 1) := by decide +kernel
theorem dX3_withdraw_30 : decode cX3_withdraw 30 = .ok (.getfield 23, 3) := by decide +kernel
theorem dX3_withdraw_33 : decode cX3_withdraw 33 = .ok (.getfield 90, 3) := by decide +kernel
theorem dX3_withdraw_36 : decode cX3_withdraw 36 = .ok (.iload_n 1, 1) := by decide +kernel
theorem dX3_withdraw_37 : decode cX3_withdraw 37 = .ok (.invokevirtual 145, 3) := by decide +kernel
theorem dX3_withdraw_40 : decode cX3_withdraw 40 = .ok (.aload_n 0, 1) := by decide +kernel
theorem dX3_withdraw_41 : decode cX3_withdraw 41 = .ok (.getfield 23, 3) := by decide +kernel
theorem dX3_withdraw_44 : decode cX3_withdraw 44 = .ok (.getfield 90, 3) := by decide +kernel
theorem dX3_withdraw_47 : decode cX3_withdraw 47 = .ok (.getfield 83, 3) := by decide +kernel
theorem dX3_withdraw_50 : decode cX3_withdraw 50 = .ok (.ireturn, 1) := by decide +kernel
theorem dX3_allow_0 : decode cX3_allow 0 = .ok (.aload_n 0, 1) := by decide +kernel
theorem dX3_allow_1 : decode cX3_allow 1 = .ok (.getfield 14, 3) := by decide +kernel
theorem dX3_allow_4 : decode cX3_allow 4 = .ok (.iload_n 1, 1) := by decide +kernel
theorem dX3_allow_5 : decode cX3_allow 5 = .ok (.invokevirtual 114, 3) := by decide +kernel
theorem dX3_allow_8 : decode cX3_allow 8 = .ok (.ifCond .ne 9, 3) := by decide +kernel
theorem dX3_allow_11 : decode cX3_allow 11 = .ok (.iload_n 1, 1) := by decide +kernel
theorem dX3_allow_12 : decode cX3_allow 12 = .ok (.bipush 9, 2) := by decide +kernel
theorem dX3_allow_14 : decode cX3_allow 14 = .ok (.if_icmp .ne 10, 3) := by decide +kernel
theorem dX3_allow_17 : decode cX3_allow 17 = .ok (.iload_n 2, 1) := by decide +kernel
theorem dX3_allow_18 : decode cX3_allow 18 = .ok (.invokestatic 135, 3) := by decide +kernel
theorem dX3_allow_21 : decode cX3_allow 21 = .ok (.ifCond .ne 5, 3) := by decide +kernel
theorem dX3_allow_24 : decode cX3_allow 24 = .ok (.iconst (-1), 1) := by decide +kernel
theorem dX3_allow_25 : decode cX3_allow 25 = .ok (.ireturn, 1) := by decide +kernel
theorem dX3_allow_26 : decode cX3_allow 26 = .ok (.iload_n 3, 1) := by decide +kernel
theorem dX3_allow_27 : decode cX3_allow 27 = .ok (.iload 4, 2) := by decide +kernel
theorem dX3_allow_29 : decode cX3_allow 29 = .ok (.invokestatic 131, 3) := by decide +kernel
theorem dX3_allow_32 : decode cX3_allow 32 = .ok (.ifCond .eq 16, 3) := by decide +kernel
theorem dX3_allow_35 : decode cX3_allow 35 = .ok (.iload 5, 2) := by decide +kernel
theorem dX3_allow_37 : decode cX3_allow 37 = .ok (.iload 4, 2) := by decide +kernel
theorem dX3_allow_39 : decode cX3_allow 39 = .ok (.if_icmp .lt 9, 3) := by decide +kernel
theorem dX3_allow_42 : decode cX3_allow 42 = .ok (.iload 5, 2) := by decide +kernel
theorem dX3_allow_44 : decode cX3_allow 44 = .ok (.iconst 5, 1) := by decide +kernel
theorem dX3_allow_45 : decode cX3_allow 45 = .ok (.if_icmp .le 6, 3) := by decide +kernel
theorem dX3_allow_48 : decode cX3_allow 48 = .ok (.bipush (-2), 2) := by decide +kernel
theorem dX3_allow_50 : decode cX3_allow 50 = .ok (.ireturn, 1) := by decide +kernel
theorem dX3_allow_51 : decode cX3_allow 51 = .ok (.aload_n 0, 1) := by decide +kernel
theorem dX3_allow_52 : decode cX3_allow 52 = .ok (.getfield 23, 3) := by decide +kernel
theorem dX3_allow_55 : decode cX3_allow 55 = .ok (.getfield 89, 3) := by decide +kernel
theorem dX3_allow_58 : decode cX3_allow 58 = .ok (.getfield 83, 3) := by decide +kernel
theorem dX3_allow_61 : decode cX3_allow 61 = .ok (.bipush 8, 2) := by decide +kernel
theorem dX3_allow_63 : decode cX3_allow 63 = .ok (.if_icmp .lt 6, 3) := by decide +kernel
theorem dX3_allow_66 : decode cX3_allow 66 = .ok (.bipush (-4), 2) := by decide +kernel
theorem dX3_allow_68 : decode cX3_allow 68 = .ok (.ireturn, 1) := by decide +kernel
theorem dX3_allow_69 : decode cX3_allow 69 = .ok (.aload_n 0, 1) := by decide +kernel
theorem dX3_allow_70 : decode cX3_allow 70 = .ok (.getfield 23, 3) := by decide +kernel
theorem dX3_allow_73 : decode cX3_allow 73 = .ok (.getfield 89, 3) := by decide +kernel
theorem dX3_allow_76 : decode cX3_allow 76 = .ok (.iload_n 3, 1) := by decide +kernel
theorem dX3_allow_77 : decode cX3_allow 77 = .ok (.iload 4, 2) := by decide +kernel
theorem dX3_allow_79 : decode cX3_allow 79 = .ok (.iload_n 2, 1) := by decide +kernel
theorem dX3_allow_80 : decode cX3_allow 80 = .ok (.iload_n 1, 1) := by decide +kernel
theorem dX3_allow_81 : decode cX3_allow 81 = .ok (.iload 5, 2) := by decide +kernel
theorem dX3_allow_83 : decode cX3_allow 83 = .ok (.invokevirtual 53, 3) := by decide +kernel
theorem dX3_allow_86 : decode cX3_allow 86 = .ok (.istore 6, 2) := by decide +kernel
theorem dX3_allow_88 : decode cX3_allow 88 = .ok (.aload_n 0, 1) := by decide +kernel
theorem dX3_allow_89 : decode cX3_allow 89 = .ok (.iconst 3, 1) := by decide +kernel
theorem dX3_allow_90 : decode cX3_allow 90 = .ok (.iload 6, 2) := by decide +kernel
theorem dX3_allow_92 : decode cX3_allow 92 = .ok (.invokevirtual 138, 3) := by decide +kernel
theorem dX3_allow_95 : decode cX3_allow 95 = .ok (.pop, 1) := by decide +kernel
theorem dX3_allow_96 : decode cX3_allow 96 = .ok (.iload 6, 2) := by decide +kernel
theorem dX3_allow_98 : decode cX3_allow 98 = .ok (.ireturn, 1) := by decide +kernel
theorem dX3_tear_0 : decode cX3_tear 0 = .ok (.aload_n 0, 1) := by decide +kernel
theorem dX3_tear_1 : decode cX3_tear 1 = .ok (.getfield 23, 3) := by decide +kernel
theorem dX3_tear_4 : decode cX3_tear 4 = .ok (.getfield 89, 3) := by decide +kernel
theorem dX3_tear_7 : decode cX3_tear 7 = .ok (.iload_n 1, 1) := by decide +kernel
theorem dX3_tear_8 : decode cX3_tear 8 = .ok (.invokevirtual 114, 3) := by decide +kernel
theorem dX3_tear_11 : decode cX3_tear 11 = .ok (.ifCond .ne 5, 3) := by decide +kernel
theorem dX3_tear_14 : decode cX3_tear 14 = .ok (.iconst (-1), 1) := by decide +kernel
theorem dX3_tear_15 : decode cX3_tear 15 = .ok (.ireturn, 1) := by decide +kernel
theorem dX3_tear_16 : decode cX3_tear 16 = .ok (.aload_n 0, 1) := by decide +kernel
theorem dX3_tear_17 : decode cX3_tear 17 = .ok (.iconst 4, 1) := by decide +kernel
theorem dX3_tear_18 : decode cX3_tear 18 = .ok (.iload_n 1, 1) := by decide +kernel
theorem dX3_tear_19 : decode cX3_tear 19 = .ok (.aload_n 0, 1) := by decide +kernel
theorem dX3_tear_20 : decode cX3_tear 20 = .ok (.getfield 23, 3) := by decide +kernel
theorem dX3_tear_23 : decode cX3_tear 23 = .ok (.getfield 89, 3) := by decide +kernel
theorem dX3_tear_26 : decode cX3_tear 26 = .ok (.invokevirtual 141, 3) := by decide +kernel
theorem dX3_tear_29 : decode cX3_tear 29 = .ok (.aload_n 0, 1) := by decide +kernel
theorem dX3_tear_30 : decode cX3_tear 30 = .ok (.getfield 23, 3) := by decide +kernel
theorem dX3_tear_33 : decode cX3_tear 33 = .ok (.getfield 89, 3) := by decide +kernel
theorem dX3_tear_36 : decode cX3_tear 36 = .ok (.iload_n 1, 1) := by decide +kernel
theorem dX3_tear_37 : decode cX3_tear 37 = .ok (.invokevirtual 145, 3) := by decide +kernel
theorem dX3_tear_40 : decode cX3_tear 40 = .ok (.aload_n 0, 1) := by decide +kernel
theorem dX3_tear_41 : decode cX3_tear 41 = .ok (.getfield 23, 3) := by decide +kernel
theorem dX3_tear_44 : decode cX3_tear 44 = .ok (.getfield 89, 3) := by decide +kernel
theorem dX3_tear_47 : decode cX3_tear 47 = .ok (.getfield 83, 3) := by decide +kernel
theorem dX3_tear_50 : decode cX3_tear 50 = .ok (.ireturn, 1) := by decide +kernel
theorem dX3_revoke_0 : decode cX3_revoke 0 = .ok (.iload_n 1, 1) := by decide +kernel
theorem dX3_revoke_1 : decode cX3_revoke 1 = .ok (.ifCond .eq 14, 3) := by decide +kernel
theorem dX3_revoke_4 : decode cX3_revoke 4 = .ok (.aload_n 0, 1) := by decide +kernel
theorem dX3_revoke_5 : decode cX3_revoke 5 = .ok (.getfield 14, 3) := by decide +kernel
theorem dX3_revoke_8 : decode cX3_revoke 8 = .ok (.iload_n 1, 1) := by decide +kernel
theorem dX3_revoke_9 : decode cX3_revoke 9 = .ok (.invokevirtual 114, 3) := by decide +kernel
theorem dX3_revoke_12 : decode cX3_revoke 12 = .ok (.ifCond .ne 5, 3) := by decide +kernel
theorem dX3_revoke_15 : decode cX3_revoke 15 = .ok (.iconst (-1), 1) := by decide +kernel
theorem dX3_revoke_16 : decode cX3_revoke 16 = .ok (.ireturn, 1) := by decide +kernel
theorem dX3_revoke_17 : decode cX3_revoke 17 = .ok (.aload_n 0, 1) := by decide +kernel
theorem dX3_revoke_18 : decode cX3_revoke 18 = .ok (.getfield 23, 3) := by decide +kernel
theorem dX3_revoke_21 : decode cX3_revoke 21 = .ok (.dup, 1) := by decide +kernel
theorem dX3_revoke_22 : decode cX3_revoke 22 = .ok (.getfield 94, 3) := by decide +kernel
theorem dX3_revoke_25 : decode cX3_revoke 25 = .ok (.iconst 1, 1) := by decide +kernel
theorem dX3_revoke_26 : decode cX3_revoke 26 = .ok (.iload_n 1, 1) := by decide +kernel
theorem dX3_revoke_27 : decode cX3_revoke 27 = .ok (.ishl, 1) := by decide +kernel
theorem dX3_revoke_28 : decode cX3_revoke 28 = .ok (.ixor, 1) := by decide +kernel
theorem dX3_revoke_29 : decode cX3_revoke 29 = .ok (.putfield 94, 3) := by decide +kernel
theorem dX3_revoke_32 : decode cX3_revoke 32 = .ok (.aload_n 0, 1) := by decide +kernel
theorem dX3_revoke_33 : decode cX3_revoke 33 = .ok (.iconst 5, 1) := by decide +kernel
theorem dX3_revoke_34 : decode cX3_revoke 34 = .ok (.iload_n 1, 1) := by decide +kernel
theorem dX3_revoke_35 : decode cX3_revoke 35 = .ok (.invokevirtual 138, 3) := by decide +kernel
theorem dX3_revoke_38 : decode cX3_revoke 38 = .ok (.pop, 1) := by decide +kernel
theorem dX3_revoke_39 : decode cX3_revoke 39 = .ok (.aload_n 0, 1) := by decide +kernel
theorem dX3_revoke_40 : decode cX3_revoke 40 = .ok (.getfield 23, 3) := by decide +kernel
theorem dX3_revoke_43 : decode cX3_revoke 43 = .ok (.getfield 94, 3) := by decide +kernel
theorem dX3_revoke_46 : decode cX3_revoke 46 = .ok (.iload_n 1, 1) := by decide +kernel
theorem dX3_revoke_47 : decode cX3_revoke 47 = .ok (.invokestatic 121, 3) := by decide +kernel
theorem dX3_revoke_50 : decode cX3_revoke 50 = .ok (.ireturn, 1) := by decide +kernel
theorem dX3_night_0 : decode cX3_night 0 = .ok (.aload_n 0, 1) := by decide +kernel
theorem dX3_night_1 : decode cX3_night 1 = .ok (.getfield 23, 3) := by decide +kernel
theorem dX3_night_4 : decode cX3_night 4 = .ok (.getfield 91, 3) := by decide +kernel
theorem dX3_night_7 : decode cX3_night 7 = .ok (.bipush 9, 2) := by decide +kernel
theorem dX3_night_9 : decode cX3_night 9 = .ok (.if_icmp .lt 6, 3) := by decide +kernel
theorem dX3_night_12 : decode cX3_night 12 = .ok (.bipush (-3), 2) := by decide +kernel
theorem dX3_night_14 : decode cX3_night 14 = .ok (.ireturn, 1) := by decide +kernel
theorem dX3_night_15 : decode cX3_night 15 = .ok (.aload_n 0, 1) := by decide +kernel
theorem dX3_night_16 : decode cX3_night 16 = .ok (.getfield 23, 3) := by decide +kernel
theorem dX3_night_19 : decode cX3_night 19 = .ok (.dup, 1) := by decide +kernel
theorem dX3_night_20 : decode cX3_night 20 = .ok (.getfield 91, 3) := by decide +kernel
theorem dX3_night_23 : decode cX3_night 23 = .ok (.iconst 1, 1) := by decide +kernel
theorem dX3_night_24 : decode cX3_night 24 = .ok (.iadd, 1) := by decide +kernel
theorem dX3_night_25 : decode cX3_night 25 = .ok (.putfield 91, 3) := by decide +kernel
theorem dX3_night_28 : decode cX3_night 28 = .ok (.aload_n 0, 1) := by decide +kernel
theorem dX3_night_29 : decode cX3_night 29 = .ok (.bipush 6, 2) := by decide +kernel
theorem dX3_night_31 : decode cX3_night 31 = .ok (.iconst 0, 1) := by decide +kernel
theorem dX3_night_32 : decode cX3_night 32 = .ok (.invokevirtual 138, 3) := by decide +kernel
theorem dX3_night_35 : decode cX3_night 35 = .ok (.pop, 1) := by decide +kernel
theorem dX3_night_36 : decode cX3_night 36 = .ok (.aload_n 0, 1) := by decide +kernel
theorem dX3_night_37 : decode cX3_night 37 = .ok (.getfield 23, 3) := by decide +kernel
theorem dX3_night_40 : decode cX3_night 40 = .ok (.getfield 91, 3) := by decide +kernel
theorem dX3_night_43 : decode cX3_night 43 = .ok (.ireturn, 1) := by decide +kernel
theorem dX3_setAside_0 : decode cX3_setAside 0 = .ok (.iload_n 1, 1) := by decide +kernel
theorem dX3_setAside_1 : decode cX3_setAside 1 = .ok (.invokestatic 135, 3) := by decide +kernel
theorem dX3_setAside_4 : decode cX3_setAside 4 = .ok (.ifCond .ne 5, 3) := by decide +kernel
theorem dX3_setAside_7 : decode cX3_setAside 7 = .ok (.iconst (-1), 1) := by decide +kernel
theorem dX3_setAside_8 : decode cX3_setAside 8 = .ok (.ireturn, 1) := by decide +kernel
theorem dX3_setAside_9 : decode cX3_setAside 9 = .ok (.aload_n 0, 1) := by decide +kernel
theorem dX3_setAside_10 : decode cX3_setAside 10 = .ok (.getfield 23, 3) := by decide +kernel
theorem dX3_setAside_13 : decode cX3_setAside 13 = .ok (.dup, 1) := by decide +kernel
theorem dX3_setAside_14 : decode cX3_setAside 14 = .ok (.getfield 101, 3) := by decide +kernel
theorem dX3_setAside_17 : decode cX3_setAside 17 = .ok (.iconst 1, 1) := by decide +kernel
theorem dX3_setAside_18 : decode cX3_setAside 18 = .ok (.iload_n 1, 1) := by decide +kernel
theorem dX3_setAside_19 : decode cX3_setAside 19 = .ok (.ishl, 1) := by decide +kernel
theorem dX3_setAside_20 : decode cX3_setAside 20 = .ok (.ixor, 1) := by decide +kernel
theorem dX3_setAside_21 : decode cX3_setAside 21 = .ok (.putfield 101, 3) := by decide +kernel
theorem dX3_setAside_24 : decode cX3_setAside 24 = .ok (.aload_n 0, 1) := by decide +kernel
theorem dX3_setAside_25 : decode cX3_setAside 25 = .ok (.bipush 7, 2) := by decide +kernel
theorem dX3_setAside_27 : decode cX3_setAside 27 = .ok (.iload_n 1, 1) := by decide +kernel
theorem dX3_setAside_28 : decode cX3_setAside 28 = .ok (.invokevirtual 138, 3) := by decide +kernel
theorem dX3_setAside_31 : decode cX3_setAside 31 = .ok (.pop, 1) := by decide +kernel
theorem dX3_setAside_32 : decode cX3_setAside 32 = .ok (.aload_n 0, 1) := by decide +kernel
theorem dX3_setAside_33 : decode cX3_setAside 33 = .ok (.getfield 23, 3) := by decide +kernel
theorem dX3_setAside_36 : decode cX3_setAside 36 = .ok (.getfield 101, 3) := by decide +kernel
theorem dX3_setAside_39 : decode cX3_setAside 39 = .ok (.iload_n 1, 1) := by decide +kernel
theorem dX3_setAside_40 : decode cX3_setAside 40 = .ok (.invokestatic 121, 3) := by decide +kernel
theorem dX3_setAside_43 : decode cX3_setAside 43 = .ok (.ireturn, 1) := by decide +kernel
theorem dX3_undo_0 : decode cX3_undo 0 = .ok (.aload_n 0, 1) := by decide +kernel
theorem dX3_undo_1 : decode cX3_undo 1 = .ok (.getfield 36, 3) := by decide +kernel
theorem dX3_undo_4 : decode cX3_undo 4 = .ok (.getfield 83, 3) := by decide +kernel
theorem dX3_undo_7 : decode cX3_undo 7 = .ok (.iconst 1, 1) := by decide +kernel
theorem dX3_undo_8 : decode cX3_undo 8 = .ok (.isub, 1) := by decide +kernel
theorem dX3_undo_9 : decode cX3_undo 9 = .ok (.istore_n 1, 1) := by decide +kernel
theorem dX3_undo_10 : decode cX3_undo 10 = .ok (.iload_n 1, 1) := by decide +kernel
theorem dX3_undo_11 : decode cX3_undo 11 = .ok (.ifCond .ge 6, 3) := by decide +kernel
theorem dX3_undo_14 : decode cX3_undo 14 = .ok (.bipush (-3), 2) := by decide +kernel
theorem dX3_undo_16 : decode cX3_undo 16 = .ok (.ireturn, 1) := by decide +kernel
theorem dX3_undo_17 : decode cX3_undo 17 = .ok (.aload_n 0, 1) := by decide +kernel
theorem dX3_undo_18 : decode cX3_undo 18 = .ok (.iload_n 1, 1) := by decide +kernel
theorem dX3_undo_19 : decode cX3_undo 19 = .ok (.invokevirtual 148, 3) := by decide +kernel
theorem dX3_undo_22 : decode cX3_undo 22 = .ok (.aload_n 0, 1) := by decide +kernel
theorem dX3_undo_23 : decode cX3_undo 23 = .ok (.getfield 36, 3) := by decide +kernel
theorem dX3_undo_26 : decode cX3_undo 26 = .ok (.iload_n 1, 1) := by decide +kernel
theorem dX3_undo_27 : decode cX3_undo 27 = .ok (.invokevirtual 145, 3) := by decide +kernel
theorem dX3_undo_30 : decode cX3_undo 30 = .ok (.aload_n 0, 1) := by decide +kernel
theorem dX3_undo_31 : decode cX3_undo 31 = .ok (.getfield 36, 3) := by decide +kernel
theorem dX3_undo_34 : decode cX3_undo 34 = .ok (.getfield 83, 3) := by decide +kernel
theorem dX3_undo_37 : decode cX3_undo 37 = .ok (.ireturn, 1) := by decide +kernel
theorem dX3_state_0 : decode cX3_state 0 = .ok (.iload_n 1, 1) := by decide +kernel
theorem dX3_state_1 : decode cX3_state 1 = .ok (.iload_n 2, 1) := by decide +kernel
theorem dX3_state_2 : decode cX3_state 2 = .ok (.invokestatic 131, 3) := by decide +kernel
theorem dX3_state_5 : decode cX3_state 5 = .ok (.ifCond .ne 6, 3) := by decide +kernel
theorem dX3_state_8 : decode cX3_state 8 = .ok (.bipush (-2), 2) := by decide +kernel
theorem dX3_state_10 : decode cX3_state 10 = .ok (.ireturn, 1) := by decide +kernel
theorem dX3_state_11 : decode cX3_state 11 = .ok (.iload_n 3, 1) := by decide +kernel
theorem dX3_state_12 : decode cX3_state 12 = .ok (.invokestatic 135, 3) := by decide +kernel
theorem dX3_state_15 : decode cX3_state 15 = .ok (.ifCond .ne 5, 3) := by decide +kernel
theorem dX3_state_18 : decode cX3_state 18 = .ok (.iconst (-1), 1) := by decide +kernel
theorem dX3_state_19 : decode cX3_state 19 = .ok (.ireturn, 1) := by decide +kernel
theorem dX3_state_20 : decode cX3_state 20 = .ok (.aload_n 0, 1) := by decide +kernel
theorem dX3_state_21 : decode cX3_state 21 = .ok (.getfield 23, 3) := by decide +kernel
theorem dX3_state_24 : decode cX3_state 24 = .ok (.iload_n 1, 1) := by decide +kernel
theorem dX3_state_25 : decode cX3_state 25 = .ok (.iload_n 2, 1) := by decide +kernel
theorem dX3_state_26 : decode cX3_state 26 = .ok (.invokestatic 151, 3) := by decide +kernel
theorem dX3_state_29 : decode cX3_state 29 = .ok (.iload_n 2, 1) := by decide +kernel
theorem dX3_state_30 : decode cX3_state 30 = .ok (.iload_n 3, 1) := by decide +kernel
theorem dX3_state_31 : decode cX3_state 31 = .ok (.aload_n 0, 1) := by decide +kernel
theorem dX3_state_32 : decode cX3_state 32 = .ok (.getfield 23, 3) := by decide +kernel
theorem dX3_state_35 : decode cX3_state 35 = .ok (.invokevirtual 104, 3) := by decide +kernel
theorem dX3_state_38 : decode cX3_state 38 = .ok (.invokevirtual 124, 3) := by decide +kernel
theorem dX3_state_41 : decode cX3_state 41 = .ok (.ireturn, 1) := by decide +kernel
theorem dX3_goes_0 : decode cX3_goes 0 = .ok (.iload_n 1, 1) := by decide +kernel
theorem dX3_goes_1 : decode cX3_goes 1 = .ok (.invokestatic 154, 3) := by decide +kernel
theorem dX3_goes_4 : decode cX3_goes 4 = .ok (.ifCond .ne 5, 3) := by decide +kernel
theorem dX3_goes_7 : decode cX3_goes 7 = .ok (.iconst (-1), 1) := by decide +kernel
theorem dX3_goes_8 : decode cX3_goes 8 = .ok (.ireturn, 1) := by decide +kernel
theorem dX3_goes_9 : decode cX3_goes 9 = .ok (.iload_n 2, 1) := by decide +kernel
theorem dX3_goes_10 : decode cX3_goes 10 = .ok (.invokestatic 157, 3) := by decide +kernel
theorem dX3_goes_13 : decode cX3_goes 13 = .ok (.ifCond .ne 6, 3) := by decide +kernel
theorem dX3_goes_16 : decode cX3_goes 16 = .ok (.bipush (-2), 2) := by decide +kernel
theorem dX3_goes_18 : decode cX3_goes 18 = .ok (.ireturn, 1) := by decide +kernel
theorem dX3_goes_19 : decode cX3_goes 19 = .ok (.aload_n 0, 1) := by decide +kernel
theorem dX3_goes_20 : decode cX3_goes 20 = .ok (.getfield 23, 3) := by decide +kernel
theorem dX3_goes_23 : decode cX3_goes 23 = .ok (.iload_n 1, 1) := by decide +kernel
theorem dX3_goes_24 : decode cX3_goes 24 = .ok (.iload_n 2, 1) := by decide +kernel
theorem dX3_goes_25 : decode cX3_goes 25 = .ok (.invokevirtual 160, 3) := by decide +kernel
theorem dX3_goes_28 : decode cX3_goes 28 = .ok (.ireturn, 1) := by decide +kernel
theorem dX3_theft_0 : decode cX3_theft 0 = .ok (.iload_n 1, 1) := by decide +kernel
theorem dX3_theft_1 : decode cX3_theft 1 = .ok (.invokestatic 154, 3) := by decide +kernel
theorem dX3_theft_4 : decode cX3_theft 4 = .ok (.ifCond .eq 10, 3) := by decide +kernel
theorem dX3_theft_7 : decode cX3_theft 7 = .ok (.iload_n 2, 1) := by decide +kernel
theorem dX3_theft_8 : decode cX3_theft 8 = .ok (.invokestatic 135, 3) := by decide +kernel
theorem dX3_theft_11 : decode cX3_theft 11 = .ok (.ifCond .ne 5, 3) := by decide +kernel
theorem dX3_theft_14 : decode cX3_theft 14 = .ok (.iconst (-1), 1) := by decide +kernel
theorem dX3_theft_15 : decode cX3_theft 15 = .ok (.ireturn, 1) := by decide +kernel
theorem dX3_theft_16 : decode cX3_theft 16 = .ok (.iload_n 3, 1) := by decide +kernel
theorem dX3_theft_17 : decode cX3_theft 17 = .ok (.invokestatic 157, 3) := by decide +kernel
theorem dX3_theft_20 : decode cX3_theft 20 = .ok (.ifCond .ne 6, 3) := by decide +kernel
theorem dX3_theft_23 : decode cX3_theft 23 = .ok (.bipush (-2), 2) := by decide +kernel
theorem dX3_theft_25 : decode cX3_theft 25 = .ok (.ireturn, 1) := by decide +kernel
theorem dX3_theft_26 : decode cX3_theft 26 = .ok (.iconst 0, 1) := by decide +kernel
theorem dX3_theft_27 : decode cX3_theft 27 = .ok (.istore 4, 2) := by decide +kernel
theorem dX3_theft_29 : decode cX3_theft 29 = .ok (.iload 4, 2) := by decide +kernel
theorem dX3_theft_31 : decode cX3_theft 31 = .ok (.iconst 5, 1) := by decide +kernel
theorem dX3_theft_32 : decode cX3_theft 32 = .ok (.if_icmp .gt 66, 3) := by decide +kernel
theorem dX3_theft_35 : decode cX3_theft 35 = .ok (.aload_n 0, 1) := by decide +kernel
theorem dX3_theft_36 : decode cX3_theft 36 = .ok (.getfield 27, 3) := by decide +kernel
theorem dX3_theft_39 : decode cX3_theft 39 = .ok (.aload_n 0, 1) := by decide +kernel
theorem dX3_theft_40 : decode cX3_theft 40 = .ok (.getfield 23, 3) := by decide +kernel
theorem dX3_theft_43 : decode cX3_theft 43 = .ok (.invokevirtual 163, 3) := by decide +kernel
theorem dX3_theft_46 : decode cX3_theft 46 = .ok (.iload_n 1, 1) := by decide +kernel
theorem dX3_theft_47 : decode cX3_theft 47 = .ok (.iload_n 1, 1) := by decide +kernel
theorem dX3_theft_48 : decode cX3_theft 48 = .ok (.iload 4, 2) := by decide +kernel
theorem dX3_theft_50 : decode cX3_theft 50 = .ok (.invokestatic 166, 3) := by decide +kernel
theorem dX3_theft_53 : decode cX3_theft 53 = .ok (.isub, 1) := by decide +kernel
theorem dX3_theft_54 : decode cX3_theft 54 = .ok (.istore 5, 2) := by decide +kernel
theorem dX3_theft_56 : decode cX3_theft 56 = .ok (.aload_n 0, 1) := by decide +kernel
theorem dX3_theft_57 : decode cX3_theft 57 = .ok (.getfield 27, 3) := by decide +kernel
theorem dX3_theft_60 : decode cX3_theft 60 = .ok (.getfield 90, 3) := by decide +kernel
theorem dX3_theft_63 : decode cX3_theft 63 = .ok (.iload 5, 2) := by decide +kernel
theorem dX3_theft_65 : decode cX3_theft 65 = .ok (.iload 4, 2) := by decide +kernel
theorem dX3_theft_67 : decode cX3_theft 67 = .ok (.iload_n 2, 1) := by decide +kernel
theorem dX3_theft_68 : decode cX3_theft 68 = .ok (.iconst 0, 1) := by decide +kernel
theorem dX3_theft_69 : decode cX3_theft 69 = .ok (.iconst 0, 1) := by decide +kernel
theorem dX3_theft_70 : decode cX3_theft 70 = .ok (.invokevirtual 53, 3) := by decide +kernel
theorem dX3_theft_73 : decode cX3_theft 73 = .ok (.istore 6, 2) := by decide +kernel
theorem dX3_theft_75 : decode cX3_theft 75 = .ok (.aload_n 0, 1) := by decide +kernel
theorem dX3_theft_76 : decode cX3_theft 76 = .ok (.getfield 27, 3) := by decide +kernel
theorem dX3_theft_79 : decode cX3_theft 79 = .ok (.iload_n 1, 1) := by decide +kernel
theorem dX3_theft_80 : decode cX3_theft 80 = .ok (.iload_n 3, 1) := by decide +kernel
theorem dX3_theft_81 : decode cX3_theft 81 = .ok (.invokevirtual 160, 3) := by decide +kernel
theorem dX3_theft_84 : decode cX3_theft 84 = .ok (.iload 6, 2) := by decide +kernel
theorem dX3_theft_86 : decode cX3_theft 86 = .ok (.if_icmp .ne 6, 3) := by decide +kernel
theorem dX3_theft_89 : decode cX3_theft 89 = .ok (.iload 4, 2) := by decide +kernel
theorem dX3_theft_91 : decode cX3_theft 91 = .ok (.ireturn, 1) := by decide +kernel
theorem dX3_theft_92 : decode cX3_theft 92 = .ok (.iinc 4 1, 3) := by decide +kernel
theorem dX3_theft_95 : decode cX3_theft 95 = .ok (.goto (-66), 3) := by decide +kernel
theorem dX3_theft_98 : decode cX3_theft 98 = .ok (.bipush (-9), 2) := by decide +kernel
theorem dX3_theft_100 : decode cX3_theft 100 = .ok (.ireturn, 1) := by decide +kernel
theorem dX3_lost_0 : decode cX3_lost 0 = .ok (.iload_n 1, 1) := by decide +kernel
theorem dX3_lost_1 : decode cX3_lost 1 = .ok (.ifCond .eq 14, 3) := by decide +kernel
theorem dX3_lost_4 : decode cX3_lost 4 = .ok (.aload_n 0, 1) := by decide +kernel
theorem dX3_lost_5 : decode cX3_lost 5 = .ok (.getfield 14, 3) := by decide +kernel
theorem dX3_lost_8 : decode cX3_lost 8 = .ok (.iload_n 1, 1) := by decide +kernel
theorem dX3_lost_9 : decode cX3_lost 9 = .ok (.invokevirtual 114, 3) := by decide +kernel
theorem dX3_lost_12 : decode cX3_lost 12 = .ok (.ifCond .ne 5, 3) := by decide +kernel
theorem dX3_lost_15 : decode cX3_lost 15 = .ok (.iconst (-1), 1) := by decide +kernel
theorem dX3_lost_16 : decode cX3_lost 16 = .ok (.ireturn, 1) := by decide +kernel
theorem dX3_lost_17 : decode cX3_lost 17 = .ok (.aload_n 0, 1) := by decide +kernel
theorem dX3_lost_18 : decode cX3_lost 18 = .ok (.getfield 23, 3) := by decide +kernel
theorem dX3_lost_21 : decode cX3_lost 21 = .ok (.aload_n 0, 1) := by decide +kernel
theorem dX3_lost_22 : decode cX3_lost 22 = .ok (.getfield 23, 3) := by decide +kernel
theorem dX3_lost_25 : decode cX3_lost 25 = .ok (.aload_n 0, 1) := by decide +kernel
theorem dX3_lost_26 : decode cX3_lost 26 = .ok (.getfield 23, 3) := by decide +kernel
theorem dX3_lost_29 : decode cX3_lost 29 = .ok (.getfield 94, 3) := by decide +kernel
theorem dX3_lost_32 : decode cX3_lost 32 = .ok (.iconst 1, 1) := by decide +kernel
theorem dX3_lost_33 : decode cX3_lost 33 = .ok (.iload_n 1, 1) := by decide +kernel
theorem dX3_lost_34 : decode cX3_lost 34 = .ok (.ishl, 1) := by decide +kernel
theorem dX3_lost_35 : decode cX3_lost 35 = .ok (.ior, 1) := by decide +kernel
theorem dX3_lost_36 : decode cX3_lost 36 = .ok (.invokevirtual 97, 3) := by decide +kernel
theorem dX3_lost_39 : decode cX3_lost 39 = .ok (.invokevirtual 169, 3) := by decide +kernel
theorem dX3_lost_42 : decode cX3_lost 42 = .ok (.istore_n 2, 1) := by decide +kernel
theorem dX3_lost_43 : decode cX3_lost 43 = .ok (.aload_n 0, 1) := by decide +kernel
theorem dX3_lost_44 : decode cX3_lost 44 = .ok (.getfield 23, 3) := by decide +kernel
theorem dX3_lost_47 : decode cX3_lost 47 = .ok (.iconst 2, 1) := by decide +kernel
theorem dX3_lost_48 : decode cX3_lost 48 = .ok (.aload_n 0, 1) := by decide +kernel
theorem dX3_lost_49 : decode cX3_lost 49 = .ok (.getfield 23, 3) := by decide +kernel
theorem dX3_lost_52 : decode cX3_lost 52 = .ok (.invokevirtual 104, 3) := by decide +kernel
theorem dX3_lost_55 : decode cX3_lost 55 = .ok (.invokevirtual 107, 3) := by decide +kernel
theorem dX3_lost_58 : decode cX3_lost 58 = .ok (.aload_n 0, 1) := by decide +kernel
theorem dX3_lost_59 : decode cX3_lost 59 = .ok (.getfield 23, 3) := by decide +kernel
theorem dX3_lost_62 : decode cX3_lost 62 = .ok (.iconst 2, 1) := by decide +kernel
theorem dX3_lost_63 : decode cX3_lost 63 = .ok (.iload_n 2, 1) := by decide +kernel
theorem dX3_lost_64 : decode cX3_lost 64 = .ok (.invokevirtual 107, 3) := by decide +kernel
theorem dX3_lost_67 : decode cX3_lost 67 = .ok (.iconst (-1), 1) := by decide +kernel
theorem dX3_lost_68 : decode cX3_lost 68 = .ok (.ixor, 1) := by decide +kernel
theorem dX3_lost_69 : decode cX3_lost 69 = .ok (.iand, 1) := by decide +kernel
theorem dX3_lost_70 : decode cX3_lost 70 = .ok (.ireturn, 1) := by decide +kernel
theorem dX3_judge_0 : decode cX3_judge 0 = .ok (.iload_n 1, 1) := by decide +kernel
theorem dX3_judge_1 : decode cX3_judge 1 = .ok (.iconst 1, 1) := by decide +kernel
theorem dX3_judge_2 : decode cX3_judge 2 = .ok (.if_icmp .lt 23, 3) := by decide +kernel
theorem dX3_judge_5 : decode cX3_judge 5 = .ok (.iload_n 1, 1) := by decide +kernel
theorem dX3_judge_6 : decode cX3_judge 6 = .ok (.iconst 4, 1) := by decide +kernel
theorem dX3_judge_7 : decode cX3_judge 7 = .ok (.if_icmp .gt 18, 3) := by decide +kernel
theorem dX3_judge_10 : decode cX3_judge 10 = .ok (.lload_n 2, 1) := by decide +kernel
theorem dX3_judge_11 : decode cX3_judge 11 = .ok (.lconst 0, 1) := by decide +kernel
theorem dX3_judge_12 : decode cX3_judge 12 = .ok (.lcmp, 1) := by decide +kernel
theorem dX3_judge_13 : decode cX3_judge 13 = .ok (.ifCond .lt 12, 3) := by decide +kernel
theorem dX3_judge_16 : decode cX3_judge 16 = .ok (.aload_n 0, 1) := by decide +kernel
theorem dX3_judge_17 : decode cX3_judge 17 = .ok (.iload_n 1, 1) := by decide +kernel
theorem dX3_judge_18 : decode cX3_judge 18 = .ok (.lload_n 2, 1) := by decide +kernel
theorem dX3_judge_19 : decode cX3_judge 19 = .ok (.invokevirtual 172, 3) := by decide +kernel
theorem dX3_judge_22 : decode cX3_judge 22 = .ok (.ifCond .ne 6, 3) := by decide +kernel
theorem dX3_judge_25 : decode cX3_judge 25 = .ok (.bipush (-2), 2) := by decide +kernel
theorem dX3_judge_27 : decode cX3_judge 27 = .ok (.ireturn, 1) := by decide +kernel
theorem dX3_judge_28 : decode cX3_judge 28 = .ok (.aload_n 0, 1) := by decide +kernel
theorem dX3_judge_29 : decode cX3_judge 29 = .ok (.getfield 27, 3) := by decide +kernel
theorem dX3_judge_32 : decode cX3_judge 32 = .ok (.aload_n 0, 1) := by decide +kernel
theorem dX3_judge_33 : decode cX3_judge 33 = .ok (.getfield 23, 3) := by decide +kernel
theorem dX3_judge_36 : decode cX3_judge 36 = .ok (.invokevirtual 163, 3) := by decide +kernel
theorem dX3_judge_39 : decode cX3_judge 39 = .ok (.iconst 0, 1) := by decide +kernel
theorem dX3_judge_40 : decode cX3_judge 40 = .ok (.istore 4, 2) := by decide +kernel
theorem dX3_judge_42 : decode cX3_judge 42 = .ok (.iload 4, 2) := by decide +kernel
theorem dX3_judge_44 : decode cX3_judge 44 = .ok (.iload_n 1, 1) := by decide +kernel
theorem dX3_judge_45 : decode cX3_judge 45 = .ok (.if_icmp .ge 35, 3) := by decide +kernel
theorem dX3_judge_48 : decode cX3_judge 48 = .ok (.iload 4, 2) := by decide +kernel
theorem dX3_judge_50 : decode cX3_judge 50 = .ok (.iconst 4, 1) := by decide +kernel
theorem dX3_judge_51 : decode cX3_judge 51 = .ok (.if_icmp .ge 29, 3) := by decide +kernel
theorem dX3_judge_54 : decode cX3_judge 54 = .ok (.aload_n 0, 1) := by decide +kernel
theorem dX3_judge_55 : decode cX3_judge 55 = .ok (.getfield 27, 3) := by decide +kernel
theorem dX3_judge_58 : decode cX3_judge 58 = .ok (.aload_n 0, 1) := by decide +kernel
theorem dX3_judge_59 : decode cX3_judge 59 = .ok (.getfield 49, 3) := by decide +kernel
theorem dX3_judge_62 : decode cX3_judge 62 = .ok (.iload 4, 2) := by decide +kernel
theorem dX3_judge_64 : decode cX3_judge 64 = .ok (.iaload, 1) := by decide +kernel
theorem dX3_judge_65 : decode cX3_judge 65 = .ok (.invokevirtual 176, 3) := by decide +kernel
theorem dX3_judge_68 : decode cX3_judge 68 = .ok (.ifCond .ne 6, 3) := by decide +kernel
theorem dX3_judge_71 : decode cX3_judge 71 = .ok (.iload 4, 2) := by decide +kernel
theorem dX3_judge_73 : decode cX3_judge 73 = .ok (.ireturn, 1) := by decide +kernel
theorem dX3_judge_74 : decode cX3_judge 74 = .ok (.iinc 4 1, 3) := by decide +kernel
theorem dX3_judge_77 : decode cX3_judge 77 = .ok (.goto (-35), 3) := by decide +kernel
theorem dX3_judge_80 : decode cX3_judge 80 = .ok (.bipush (-9), 2) := by decide +kernel
theorem dX3_judge_82 : decode cX3_judge 82 = .ok (.ireturn, 1) := by decide +kernel
theorem dX3_see_0 : decode cX3_see 0 = .ok (.iload_n 1, 1) := by decide +kernel
theorem dX3_see_1 : decode cX3_see 1 = .ok (.iload_n 2, 1) := by decide +kernel
theorem dX3_see_2 : decode cX3_see 2 = .ok (.invokestatic 131, 3) := by decide +kernel
theorem dX3_see_5 : decode cX3_see 5 = .ok (.ifCond .eq 14, 3) := by decide +kernel
theorem dX3_see_8 : decode cX3_see 8 = .ok (.iload 4, 2) := by decide +kernel
theorem dX3_see_10 : decode cX3_see 10 = .ok (.ifCond .lt 9, 3) := by decide +kernel
theorem dX3_see_13 : decode cX3_see 13 = .ok (.iload 4, 2) := by decide +kernel
theorem dX3_see_15 : decode cX3_see 15 = .ok (.iconst 2, 1) := by decide +kernel
theorem dX3_see_16 : decode cX3_see 16 = .ok (.if_icmp .le 6, 3) := by decide +kernel
theorem dX3_see_19 : decode cX3_see 19 = .ok (.bipush (-2), 2) := by decide +kernel
theorem dX3_see_21 : decode cX3_see 21 = .ok (.ireturn, 1) := by decide +kernel
theorem dX3_see_22 : decode cX3_see 22 = .ok (.iload_n 3, 1) := by decide +kernel
theorem dX3_see_23 : decode cX3_see 23 = .ok (.invokestatic 135, 3) := by decide +kernel
theorem dX3_see_26 : decode cX3_see 26 = .ok (.ifCond .ne 5, 3) := by decide +kernel
theorem dX3_see_29 : decode cX3_see 29 = .ok (.iconst (-1), 1) := by decide +kernel
theorem dX3_see_30 : decode cX3_see 30 = .ok (.ireturn, 1) := by decide +kernel
theorem dX3_see_31 : decode cX3_see 31 = .ok (.aload_n 0, 1) := by decide +kernel
theorem dX3_see_32 : decode cX3_see 32 = .ok (.getfield 39, 3) := by decide +kernel
theorem dX3_see_35 : decode cX3_see 35 = .ok (.getfield 83, 3) := by decide +kernel
theorem dX3_see_38 : decode cX3_see 38 = .ok (.bipush 6, 2) := by decide +kernel
theorem dX3_see_40 : decode cX3_see 40 = .ok (.if_icmp .lt 6, 3) := by decide +kernel
theorem dX3_see_43 : decode cX3_see 43 = .ok (.bipush (-4), 2) := by decide +kernel
theorem dX3_see_45 : decode cX3_see 45 = .ok (.ireturn, 1) := by decide +kernel
theorem dX3_see_46 : decode cX3_see 46 = .ok (.aload_n 0, 1) := by decide +kernel
theorem dX3_see_47 : decode cX3_see 47 = .ok (.getfield 39, 3) := by decide +kernel
theorem dX3_see_50 : decode cX3_see 50 = .ok (.iload_n 1, 1) := by decide +kernel
theorem dX3_see_51 : decode cX3_see 51 = .ok (.iload_n 2, 1) := by decide +kernel
theorem dX3_see_52 : decode cX3_see 52 = .ok (.iload_n 3, 1) := by decide +kernel
theorem dX3_see_53 : decode cX3_see 53 = .ok (.iload 4, 2) := by decide +kernel
theorem dX3_see_55 : decode cX3_see 55 = .ok (.iconst 0, 1) := by decide +kernel
theorem dX3_see_56 : decode cX3_see 56 = .ok (.invokevirtual 53, 3) := by decide +kernel
theorem dX3_see_59 : decode cX3_see 59 = .ok (.pop, 1) := by decide +kernel
theorem dX3_see_60 : decode cX3_see 60 = .ok (.aload_n 0, 1) := by decide +kernel
theorem dX3_see_61 : decode cX3_see 61 = .ok (.getfield 39, 3) := by decide +kernel
theorem dX3_see_64 : decode cX3_see 64 = .ok (.getfield 83, 3) := by decide +kernel
theorem dX3_see_67 : decode cX3_see 67 = .ok (.ireturn, 1) := by decide +kernel
theorem dX3_unsee_0 : decode cX3_unsee 0 = .ok (.aload_n 0, 1) := by decide +kernel
theorem dX3_unsee_1 : decode cX3_unsee 1 = .ok (.getfield 39, 3) := by decide +kernel
theorem dX3_unsee_4 : decode cX3_unsee 4 = .ok (.getfield 83, 3) := by decide +kernel
theorem dX3_unsee_7 : decode cX3_unsee 7 = .ok (.istore_n 1, 1) := by decide +kernel
theorem dX3_unsee_8 : decode cX3_unsee 8 = .ok (.aload_n 0, 1) := by decide +kernel
theorem dX3_unsee_9 : decode cX3_unsee 9 = .ok (.getfield 39, 3) := by decide +kernel
theorem dX3_unsee_12 : decode cX3_unsee 12 = .ok (.iconst 0, 1) := by decide +kernel
theorem dX3_unsee_13 : decode cX3_unsee 13 = .ok (.putfield 83, 3) := by decide +kernel
theorem dX3_unsee_16 : decode cX3_unsee 16 = .ok (.iload_n 1, 1) := by decide +kernel
theorem dX3_unsee_17 : decode cX3_unsee 17 = .ok (.ireturn, 1) := by decide +kernel
theorem dX3_which_0 : decode cX3_which 0 = .ok (.aload_n 0, 1) := by decide +kernel
theorem dX3_which_1 : decode cX3_which 1 = .ok (.getfield 23, 3) := by decide +kernel
theorem dX3_which_4 : decode cX3_which 4 = .ok (.getfield 89, 3) := by decide +kernel
theorem dX3_which_7 : decode cX3_which 7 = .ok (.iload_n 1, 1) := by decide +kernel
theorem dX3_which_8 : decode cX3_which 8 = .ok (.invokevirtual 114, 3) := by decide +kernel
theorem dX3_which_11 : decode cX3_which 11 = .ok (.ifCond .ne 5, 3) := by decide +kernel
theorem dX3_which_14 : decode cX3_which 14 = .ok (.iconst (-1), 1) := by decide +kernel
theorem dX3_which_15 : decode cX3_which 15 = .ok (.ireturn, 1) := by decide +kernel
theorem dX3_which_16 : decode cX3_which 16 = .ok (.aload_n 0, 1) := by decide +kernel
theorem dX3_which_17 : decode cX3_which 17 = .ok (.getfield 27, 3) := by decide +kernel
theorem dX3_which_20 : decode cX3_which 20 = .ok (.aload_n 0, 1) := by decide +kernel
theorem dX3_which_21 : decode cX3_which 21 = .ok (.getfield 23, 3) := by decide +kernel
theorem dX3_which_24 : decode cX3_which 24 = .ok (.invokevirtual 163, 3) := by decide +kernel
theorem dX3_which_27 : decode cX3_which 27 = .ok (.iconst 0, 1) := by decide +kernel
theorem dX3_which_28 : decode cX3_which 28 = .ok (.istore_n 2, 1) := by decide +kernel
theorem dX3_which_29 : decode cX3_which 29 = .ok (.aload_n 0, 1) := by decide +kernel
theorem dX3_which_30 : decode cX3_which 30 = .ok (.getfield 23, 3) := by decide +kernel
theorem dX3_which_33 : decode cX3_which 33 = .ok (.getfield 89, 3) := by decide +kernel
theorem dX3_which_36 : decode cX3_which 36 = .ok (.iload_n 1, 1) := by decide +kernel
theorem dX3_which_37 : decode cX3_which 37 = .ok (.iconst 1, 1) := by decide +kernel
theorem dX3_which_38 : decode cX3_which 38 = .ok (.invokevirtual 118, 3) := by decide +kernel
theorem dX3_which_41 : decode cX3_which 41 = .ok (.istore_n 3, 1) := by decide +kernel
theorem dX3_which_42 : decode cX3_which 42 = .ok (.iload_n 3, 1) := by decide +kernel
theorem dX3_which_43 : decode cX3_which 43 = .ok (.iconst 5, 1) := by decide +kernel
theorem dX3_which_44 : decode cX3_which 44 = .ok (.if_icmp .gt 42, 3) := by decide +kernel
theorem dX3_which_47 : decode cX3_which 47 = .ok (.aload_n 0, 1) := by decide +kernel
theorem dX3_which_48 : decode cX3_which 48 = .ok (.getfield 27, 3) := by decide +kernel
theorem dX3_which_51 : decode cX3_which 51 = .ok (.getfield 89, 3) := by decide +kernel
theorem dX3_which_54 : decode cX3_which 54 = .ok (.iload_n 1, 1) := by decide +kernel
theorem dX3_which_55 : decode cX3_which 55 = .ok (.iconst 5, 1) := by decide +kernel
theorem dX3_which_56 : decode cX3_which 56 = .ok (.iload_n 3, 1) := by decide +kernel
theorem dX3_which_57 : decode cX3_which 57 = .ok (.invokevirtual 179, 3) := by decide +kernel
theorem dX3_which_60 : decode cX3_which 60 = .ok (.aload_n 0, 1) := by decide +kernel
theorem dX3_which_61 : decode cX3_which 61 = .ok (.getfield 27, 3) := by decide +kernel
theorem dX3_which_64 : decode cX3_which 64 = .ok (.aload_n 0, 1) := by decide +kernel
theorem dX3_which_65 : decode cX3_which 65 = .ok (.getfield 39, 3) := by decide +kernel
theorem dX3_which_68 : decode cX3_which 68 = .ok (.invokevirtual 183, 3) := by decide +kernel
theorem dX3_which_71 : decode cX3_which 71 = .ok (.ifCond .eq 9, 3) := by decide +kernel
theorem dX3_which_74 : decode cX3_which 74 = .ok (.iload_n 2, 1) := by decide +kernel
theorem dX3_which_75 : decode cX3_which 75 = .ok (.iconst 1, 1) := by decide +kernel
theorem dX3_which_76 : decode cX3_which 76 = .ok (.iload_n 3, 1) := by decide +kernel
theorem dX3_which_77 : decode cX3_which 77 = .ok (.ishl, 1) := by decide +kernel
theorem dX3_which_78 : decode cX3_which 78 = .ok (.ior, 1) := by decide +kernel
theorem dX3_which_79 : decode cX3_which 79 = .ok (.istore_n 2, 1) := by decide +kernel
theorem dX3_which_80 : decode cX3_which 80 = .ok (.iinc 3 1, 3) := by decide +kernel
theorem dX3_which_83 : decode cX3_which 83 = .ok (.goto (-41), 3) := by decide +kernel
theorem dX3_which_86 : decode cX3_which 86 = .ok (.iload_n 2, 1) := by decide +kernel
theorem dX3_which_87 : decode cX3_which 87 = .ok (.ireturn, 1) := by decide +kernel
theorem dX3_share_0 : decode cX3_share 0 = .ok (.aload_n 0, 1) := by decide +kernel
theorem dX3_share_1 : decode cX3_share 1 = .ok (.getfield 23, 3) := by decide +kernel
theorem dX3_share_4 : decode cX3_share 4 = .ok (.getfield 89, 3) := by decide +kernel
theorem dX3_share_7 : decode cX3_share 7 = .ok (.iload_n 1, 1) := by decide +kernel
theorem dX3_share_8 : decode cX3_share 8 = .ok (.invokevirtual 114, 3) := by decide +kernel
theorem dX3_share_11 : decode cX3_share 11 = .ok (.ifCond .ne 5, 3) := by decide +kernel
theorem dX3_share_14 : decode cX3_share 14 = .ok (.iconst (-1), 1) := by decide +kernel
theorem dX3_share_15 : decode cX3_share 15 = .ok (.ireturn, 1) := by decide +kernel
theorem dX3_share_16 : decode cX3_share 16 = .ok (.aload_n 0, 1) := by decide +kernel
theorem dX3_share_17 : decode cX3_share 17 = .ok (.getfield 23, 3) := by decide +kernel
theorem dX3_share_20 : decode cX3_share 20 = .ok (.invokevirtual 104, 3) := by decide +kernel
theorem dX3_share_23 : decode cX3_share 23 = .ok (.istore_n 3, 1) := by decide +kernel
theorem dX3_share_24 : decode cX3_share 24 = .ok (.iconst 0, 1) := by decide +kernel
theorem dX3_share_25 : decode cX3_share 25 = .ok (.istore 4, 2) := by decide +kernel
theorem dX3_share_27 : decode cX3_share 27 = .ok (.iconst 0, 1) := by decide +kernel
theorem dX3_share_28 : decode cX3_share 28 = .ok (.istore 5, 2) := by decide +kernel
theorem dX3_share_30 : decode cX3_share 30 = .ok (.iload 5, 2) := by decide +kernel
theorem dX3_share_32 : decode cX3_share 32 = .ok (.aload_n 0, 1) := by decide +kernel
theorem dX3_share_33 : decode cX3_share 33 = .ok (.getfield 23, 3) := by decide +kernel
theorem dX3_share_36 : decode cX3_share 36 = .ok (.getfield 90, 3) := by decide +kernel
theorem dX3_share_39 : decode cX3_share 39 = .ok (.getfield 83, 3) := by decide +kernel
theorem dX3_share_42 : decode cX3_share 42 = .ok (.if_icmp .ge 54, 3) := by decide +kernel
theorem dX3_share_45 : decode cX3_share 45 = .ok (.aload_n 0, 1) := by decide +kernel
theorem dX3_share_46 : decode cX3_share 46 = .ok (.getfield 23, 3) := by decide +kernel
theorem dX3_share_49 : decode cX3_share 49 = .ok (.iload 5, 2) := by decide +kernel
theorem dX3_share_51 : decode cX3_share 51 = .ok (.iload_n 3, 1) := by decide +kernel
theorem dX3_share_52 : decode cX3_share 52 = .ok (.invokevirtual 187, 3) := by decide +kernel
theorem dX3_share_55 : decode cX3_share 55 = .ok (.istore 6, 2) := by decide +kernel
theorem dX3_share_57 : decode cX3_share 57 = .ok (.iload 6, 2) := by decide +kernel
theorem dX3_share_59 : decode cX3_share 59 = .ok (.invokestatic 190, 3) := by decide +kernel
theorem dX3_share_62 : decode cX3_share 62 = .ok (.istore 7, 2) := by decide +kernel
theorem dX3_share_64 : decode cX3_share 64 = .ok (.iload 6, 2) := by decide +kernel
theorem dX3_share_66 : decode cX3_share 66 = .ok (.iload_n 1, 1) := by decide +kernel
theorem dX3_share_67 : decode cX3_share 67 = .ok (.invokestatic 121, 3) := by decide +kernel
theorem dX3_share_70 : decode cX3_share 70 = .ok (.iconst 1, 1) := by decide +kernel
theorem dX3_share_71 : decode cX3_share 71 = .ok (.if_icmp .ne 19, 3) := by decide +kernel
theorem dX3_share_74 : decode cX3_share 74 = .ok (.iload 7, 2) := by decide +kernel
theorem dX3_share_76 : decode cX3_share 76 = .ok (.ifCond .le 14, 3) := by decide +kernel
theorem dX3_share_79 : decode cX3_share 79 = .ok (.iload 4, 2) := by decide +kernel
theorem dX3_share_81 : decode cX3_share 81 = .ok (.sipush 840, 3) := by decide +kernel
theorem dX3_share_84 : decode cX3_share 84 = .ok (.iload 7, 2) := by decide +kernel
theorem dX3_share_86 : decode cX3_share 86 = .ok (.idiv, 1) := by decide +kernel
theorem dX3_share_87 : decode cX3_share 87 = .ok (.iadd, 1) := by decide +kernel
theorem dX3_share_88 : decode cX3_share 88 = .ok (.istore 4, 2) := by decide +kernel
theorem dX3_share_90 : decode cX3_share 90 = .ok (.iinc 5 1, 3) := by decide +kernel
theorem dX3_share_93 : decode cX3_share 93 = .ok (.goto (-63), 3) := by decide +kernel
theorem dX3_share_96 : decode cX3_share 96 = .ok (.iload 4, 2) := by decide +kernel
theorem dX3_share_98 : decode cX3_share 98 = .ok (.sipush 840, 3) := by decide +kernel
theorem dX3_share_101 : decode cX3_share 101 = .ok (.iload_n 2, 1) := by decide +kernel
theorem dX3_share_102 : decode cX3_share 102 = .ok (.invokestatic 195, 3) := by decide +kernel
theorem dX3_share_105 : decode cX3_share 105 = .ok (.ireturn, 1) := by decide +kernel
theorem dX3_chance_0 : decode cX3_chance 0 = .ok (.iload_n 1, 1) := by decide +kernel
theorem dX3_chance_1 : decode cX3_chance 1 = .ok (.ifCond .lt 19, 3) := by decide +kernel
theorem dX3_chance_4 : decode cX3_chance 4 = .ok (.iload_n 1, 1) := by decide +kernel
theorem dX3_chance_5 : decode cX3_chance 5 = .ok (.bipush 6, 2) := by decide +kernel
theorem dX3_chance_7 : decode cX3_chance 7 = .ok (.if_icmp .gt 13, 3) := by decide +kernel
theorem dX3_chance_10 : decode cX3_chance 10 = .ok (.iload_n 2, 1) := by decide +kernel
theorem dX3_chance_11 : decode cX3_chance 11 = .ok (.ifCond .lt 9, 3) := by decide +kernel
theorem dX3_chance_14 : decode cX3_chance 14 = .ok (.iload_n 2, 1) := by decide +kernel
theorem dX3_chance_15 : decode cX3_chance 15 = .ok (.bipush 10, 2) := by decide +kernel
theorem dX3_chance_17 : decode cX3_chance 17 = .ok (.if_icmp .le 6, 3) := by decide +kernel
theorem dX3_chance_20 : decode cX3_chance 20 = .ok (.bipush (-2), 2) := by decide +kernel
theorem dX3_chance_22 : decode cX3_chance 22 = .ok (.ireturn, 1) := by decide +kernel
theorem dX3_chance_23 : decode cX3_chance 23 = .ok (.iconst 0, 1) := by decide +kernel
theorem dX3_chance_24 : decode cX3_chance 24 = .ok (.istore 4, 2) := by decide +kernel
theorem dX3_chance_26 : decode cX3_chance 26 = .ok (.iconst 0, 1) := by decide +kernel
theorem dX3_chance_27 : decode cX3_chance 27 = .ok (.istore 5, 2) := by decide +kernel
theorem dX3_chance_29 : decode cX3_chance 29 = .ok (.iconst 0, 1) := by decide +kernel
theorem dX3_chance_30 : decode cX3_chance 30 = .ok (.istore 6, 2) := by decide +kernel
theorem dX3_chance_32 : decode cX3_chance 32 = .ok (.iload 6, 2) := by decide +kernel
theorem dX3_chance_34 : decode cX3_chance 34 = .ok (.iconst 1, 1) := by decide +kernel
theorem dX3_chance_35 : decode cX3_chance 35 = .ok (.aload_n 0, 1) := by decide +kernel
theorem dX3_chance_36 : decode cX3_chance 36 = .ok (.getfield 14, 3) := by decide +kernel
theorem dX3_chance_39 : decode cX3_chance 39 = .ok (.getfield 83, 3) := by decide +kernel
theorem dX3_chance_42 : decode cX3_chance 42 = .ok (.iconst 1, 1) := by decide +kernel
theorem dX3_chance_43 : decode cX3_chance 43 = .ok (.isub, 1) := by decide +kernel
theorem dX3_chance_44 : decode cX3_chance 44 = .ok (.ishl, 1) := by decide +kernel
theorem dX3_chance_45 : decode cX3_chance 45 = .ok (.if_icmp .ge 73, 3) := by decide +kernel
theorem dX3_chance_48 : decode cX3_chance 48 = .ok (.iload 6, 2) := by decide +kernel
theorem dX3_chance_50 : decode cX3_chance 50 = .ok (.iconst 1, 1) := by decide +kernel
theorem dX3_chance_51 : decode cX3_chance 51 = .ok (.ishl, 1) := by decide +kernel
theorem dX3_chance_52 : decode cX3_chance 52 = .ok (.istore 7, 2) := by decide +kernel
theorem dX3_chance_54 : decode cX3_chance 54 = .ok (.aload_n 0, 1) := by decide +kernel
theorem dX3_chance_55 : decode cX3_chance 55 = .ok (.iload 7, 2) := by decide +kernel
theorem dX3_chance_57 : decode cX3_chance 57 = .ok (.iload_n 2, 1) := by decide +kernel
theorem dX3_chance_58 : decode cX3_chance 58 = .ok (.invokevirtual 199, 3) := by decide +kernel
theorem dX3_chance_61 : decode cX3_chance 61 = .ok (.istore 8, 2) := by decide +kernel
theorem dX3_chance_63 : decode cX3_chance 63 = .ok (.aload_n 0, 1) := by decide +kernel
theorem dX3_chance_64 : decode cX3_chance 64 = .ok (.getfield 23, 3) := by decide +kernel
theorem dX3_chance_67 : decode cX3_chance 67 = .ok (.iconst 2, 1) := by decide +kernel
theorem dX3_chance_68 : decode cX3_chance 68 = .ok (.aload_n 0, 1) := by decide +kernel
theorem dX3_chance_69 : decode cX3_chance 69 = .ok (.getfield 23, 3) := by decide +kernel
theorem dX3_chance_72 : decode cX3_chance 72 = .ok (.aload_n 0, 1) := by decide +kernel
theorem dX3_chance_73 : decode cX3_chance 73 = .ok (.getfield 23, 3) := by decide +kernel
theorem dX3_chance_76 : decode cX3_chance 76 = .ok (.iload 7, 2) := by decide +kernel
theorem dX3_chance_78 : decode cX3_chance 78 = .ok (.invokevirtual 97, 3) := by decide +kernel
theorem dX3_chance_81 : decode cX3_chance 81 = .ok (.invokevirtual 169, 3) := by decide +kernel
theorem dX3_chance_84 : decode cX3_chance 84 = .ok (.invokevirtual 107, 3) := by decide +kernel
theorem dX3_chance_87 : decode cX3_chance 87 = .ok (.istore 9, 2) := by decide +kernel
theorem dX3_chance_89 : decode cX3_chance 89 = .ok (.iload 5, 2) := by decide +kernel
theorem dX3_chance_91 : decode cX3_chance 91 = .ok (.iload 8, 2) := by decide +kernel
theorem dX3_chance_93 : decode cX3_chance 93 = .ok (.iadd, 1) := by decide +kernel
theorem dX3_chance_94 : decode cX3_chance 94 = .ok (.istore 5, 2) := by decide +kernel
theorem dX3_chance_96 : decode cX3_chance 96 = .ok (.iload 9, 2) := by decide +kernel
theorem dX3_chance_98 : decode cX3_chance 98 = .ok (.invokestatic 190, 3) := by decide +kernel
theorem dX3_chance_101 : decode cX3_chance 101 = .ok (.iload_n 1, 1) := by decide +kernel
theorem dX3_chance_102 : decode cX3_chance 102 = .ok (.if_icmp .lt 10, 3) := by decide +kernel
theorem dX3_chance_105 : decode cX3_chance 105 = .ok (.iload 4, 2) := by decide +kernel
theorem dX3_chance_107 : decode cX3_chance 107 = .ok (.iload 8, 2) := by decide +kernel
theorem dX3_chance_109 : decode cX3_chance 109 = .ok (.iadd, 1) := by decide +kernel
theorem dX3_chance_110 : decode cX3_chance 110 = .ok (.istore 4, 2) := by decide +kernel
theorem dX3_chance_112 : decode cX3_chance 112 = .ok (.iinc 6 1, 3) := by decide +kernel
theorem dX3_chance_115 : decode cX3_chance 115 = .ok (.goto (-83), 3) := by decide +kernel
theorem dX3_chance_118 : decode cX3_chance 118 = .ok (.iload 4, 2) := by decide +kernel
theorem dX3_chance_120 : decode cX3_chance 120 = .ok (.iload 5, 2) := by decide +kernel
theorem dX3_chance_122 : decode cX3_chance 122 = .ok (.iload_n 3, 1) := by decide +kernel
theorem dX3_chance_123 : decode cX3_chance 123 = .ok (.invokestatic 195, 3) := by decide +kernel
theorem dX3_chance_126 : decode cX3_chance 126 = .ok (.ireturn, 1) := by decide +kernel
theorem dX3_seed_0 : decode cX3_seed 0 = .ok (.aload_n 0, 1) := by decide +kernel
theorem dX3_seed_1 : decode cX3_seed 1 = .ok (.getfield 202, 3) := by decide +kernel
theorem dX3_seed_4 : decode cX3_seed 4 = .ok (.lstore_n 3, 1) := by decide +kernel
theorem dX3_seed_5 : decode cX3_seed 5 = .ok (.aload_n 0, 1) := by decide +kernel
theorem dX3_seed_6 : decode cX3_seed 6 = .ok (.lload_n 1, 1) := by decide +kernel
theorem dX3_seed_7 : decode cX3_seed 7 = .ok (.putfield 202, 3) := by decide +kernel
theorem dX3_seed_10 : decode cX3_seed 10 = .ok (.lload_n 3, 1) := by decide +kernel
theorem dX3_seed_11 : decode cX3_seed 11 = .ok (.lreturn, 1) := by decide +kernel
theorem dX3_drawn_0 : decode cX3_drawn 0 = .ok (.iload_n 1, 1) := by decide +kernel
theorem dX3_drawn_1 : decode cX3_drawn 1 = .ok (.iconst 1, 1) := by decide +kernel
theorem dX3_drawn_2 : decode cX3_drawn 2 = .ok (.if_icmp .lt 9, 3) := by decide +kernel
theorem dX3_drawn_5 : decode cX3_drawn 5 = .ok (.iload_n 1, 1) := by decide +kernel
theorem dX3_drawn_6 : decode cX3_drawn 6 = .ok (.bipush 40, 2) := by decide +kernel
theorem dX3_drawn_8 : decode cX3_drawn 8 = .ok (.if_icmp .le 6, 3) := by decide +kernel
theorem dX3_drawn_11 : decode cX3_drawn 11 = .ok (.bipush (-2), 2) := by decide +kernel
theorem dX3_drawn_13 : decode cX3_drawn 13 = .ok (.ireturn, 1) := by decide +kernel
theorem dX3_drawn_14 : decode cX3_drawn 14 = .ok (.aload_n 0, 1) := by decide +kernel
theorem dX3_drawn_15 : decode cX3_drawn 15 = .ok (.getfield 23, 3) := by decide +kernel
theorem dX3_drawn_18 : decode cX3_drawn 18 = .ok (.invokevirtual 104, 3) := by decide +kernel
theorem dX3_drawn_21 : decode cX3_drawn 21 = .ok (.istore_n 2, 1) := by decide +kernel
theorem dX3_drawn_22 : decode cX3_drawn 22 = .ok (.iconst 0, 1) := by decide +kernel
theorem dX3_drawn_23 : decode cX3_drawn 23 = .ok (.istore_n 3, 1) := by decide +kernel
theorem dX3_drawn_24 : decode cX3_drawn 24 = .ok (.iconst 0, 1) := by decide +kernel
theorem dX3_drawn_25 : decode cX3_drawn 25 = .ok (.istore 4, 2) := by decide +kernel
theorem dX3_drawn_27 : decode cX3_drawn 27 = .ok (.iload 4, 2) := by decide +kernel
theorem dX3_drawn_29 : decode cX3_drawn 29 = .ok (.iload_n 1, 1) := by decide +kernel
theorem dX3_drawn_30 : decode cX3_drawn 30 = .ok (.if_icmp .ge 93, 3) := by decide +kernel
theorem dX3_drawn_33 : decode cX3_drawn 33 = .ok (.aload_n 0, 1) := by decide +kernel
theorem dX3_drawn_34 : decode cX3_drawn 34 = .ok (.aload_n 0, 1) := by decide +kernel
theorem dX3_drawn_35 : decode cX3_drawn 35 = .ok (.getfield 202, 3) := by decide +kernel
theorem dX3_drawn_38 : decode cX3_drawn 38 = .ok (.ldc2_w 206, 3) := by decide +kernel
theorem dX3_drawn_41 : decode cX3_drawn 41 = .ok (.lmul, 1) := by decide +kernel
theorem dX3_drawn_42 : decode cX3_drawn 42 = .ok (.ldc2_w 208, 3) := by decide +kernel
theorem dX3_drawn_45 : decode cX3_drawn 45 = .ok (.ladd, 1) := by decide +kernel
theorem dX3_drawn_46 : decode cX3_drawn 46 = .ok (.putfield 202, 3) := by decide +kernel
theorem dX3_drawn_49 : decode cX3_drawn 49 = .ok (.aload_n 0, 1) := by decide +kernel
theorem dX3_drawn_50 : decode cX3_drawn 50 = .ok (.getfield 202, 3) := by decide +kernel
theorem dX3_drawn_53 : decode cX3_drawn 53 = .ok (.bipush 33, 2) := by decide +kernel
theorem dX3_drawn_55 : decode cX3_drawn 55 = .ok (.lushr, 1) := by decide +kernel
theorem dX3_drawn_56 : decode cX3_drawn 56 = .ok (.l2i, 1) := by decide +kernel
theorem dX3_drawn_57 : decode cX3_drawn 57 = .ok (.istore 5, 2) := by decide +kernel
theorem dX3_drawn_59 : decode cX3_drawn 59 = .ok (.iload 5, 2) := by decide +kernel
theorem dX3_drawn_61 : decode cX3_drawn 61 = .ok (.bipush 6, 2) := by decide +kernel
theorem dX3_drawn_63 : decode cX3_drawn 63 = .ok (.irem, 1) := by decide +kernel
theorem dX3_drawn_64 : decode cX3_drawn 64 = .ok (.istore 6, 2) := by decide +kernel
theorem dX3_drawn_66 : decode cX3_drawn 66 = .ok (.iload 5, 2) := by decide +kernel
theorem dX3_drawn_68 : decode cX3_drawn 68 = .ok (.bipush 6, 2) := by decide +kernel
theorem dX3_drawn_70 : decode cX3_drawn 70 = .ok (.idiv, 1) := by decide +kernel
theorem dX3_drawn_71 : decode cX3_drawn 71 = .ok (.bipush 32, 2) := by decide +kernel
theorem dX3_drawn_73 : decode cX3_drawn 73 = .ok (.irem, 1) := by decide +kernel
theorem dX3_drawn_74 : decode cX3_drawn 74 = .ok (.istore 7, 2) := by decide +kernel
theorem dX3_drawn_76 : decode cX3_drawn 76 = .ok (.iload 7, 2) := by decide +kernel
theorem dX3_drawn_78 : decode cX3_drawn 78 = .ok (.iload 7, 2) := by decide +kernel
theorem dX3_drawn_80 : decode cX3_drawn 80 = .ok (.iload 6, 2) := by decide +kernel
theorem dX3_drawn_82 : decode cX3_drawn 82 = .ok (.invokestatic 166, 3) := by decide +kernel
theorem dX3_drawn_85 : decode cX3_drawn 85 = .ok (.isub, 1) := by decide +kernel
theorem dX3_drawn_86 : decode cX3_drawn 86 = .ok (.istore 8, 2) := by decide +kernel
theorem dX3_drawn_88 : decode cX3_drawn 88 = .ok (.iload_n 3, 1) := by decide +kernel
theorem dX3_drawn_89 : decode cX3_drawn 89 = .ok (.aload_n 0, 1) := by decide +kernel
theorem dX3_drawn_90 : decode cX3_drawn 90 = .ok (.getfield 23, 3) := by decide +kernel
theorem dX3_drawn_93 : decode cX3_drawn 93 = .ok (.iload 8, 2) := by decide +kernel
theorem dX3_drawn_95 : decode cX3_drawn 95 = .ok (.iload 6, 2) := by decide +kernel
theorem dX3_drawn_97 : decode cX3_drawn 97 = .ok (.invokestatic 151, 3) := by decide +kernel
theorem dX3_drawn_100 : decode cX3_drawn 100 = .ok (.iload 6, 2) := by decide +kernel
theorem dX3_drawn_102 : decode cX3_drawn 102 = .ok (.iload 5, 2) := by decide +kernel
theorem dX3_drawn_104 : decode cX3_drawn 104 = .ok (.sipush 192, 3) := by decide +kernel
theorem dX3_drawn_107 : decode cX3_drawn 107 = .ok (.idiv, 1) := by decide +kernel
theorem dX3_drawn_108 : decode cX3_drawn 108 = .ok (.bipush 6, 2) := by decide +kernel
theorem dX3_drawn_110 : decode cX3_drawn 110 = .ok (.irem, 1) := by decide +kernel
theorem dX3_drawn_111 : decode cX3_drawn 111 = .ok (.iload_n 2, 1) := by decide +kernel
theorem dX3_drawn_112 : decode cX3_drawn 112 = .ok (.invokevirtual 124, 3) := by decide +kernel
theorem dX3_drawn_115 : decode cX3_drawn 115 = .ok (.iadd, 1) := by decide +kernel
theorem dX3_drawn_116 : decode cX3_drawn 116 = .ok (.istore_n 3, 1) := by decide +kernel
theorem dX3_drawn_117 : decode cX3_drawn 117 = .ok (.iinc 4 1, 3) := by decide +kernel
theorem dX3_drawn_120 : decode cX3_drawn 120 = .ok (.goto (-93), 3) := by decide +kernel
theorem dX3_drawn_123 : decode cX3_drawn 123 = .ok (.iload_n 3, 1) := by decide +kernel
theorem dX3_drawn_124 : decode cX3_drawn 124 = .ok (.ireturn, 1) := by decide +kernel
theorem dX3_keep_0 : decode cX3_keep 0 = .ok (.iload_n 1, 1) := by decide +kernel
theorem dX3_keep_1 : decode cX3_keep 1 = .ok (.ifCond .lt 8, 3) := by decide +kernel
theorem dX3_keep_4 : decode cX3_keep 4 = .ok (.iload_n 1, 1) := by decide +kernel
theorem dX3_keep_5 : decode cX3_keep 5 = .ok (.iconst 2, 1) := by decide +kernel
theorem dX3_keep_6 : decode cX3_keep 6 = .ok (.if_icmp .lt 5, 3) := by decide +kernel
theorem dX3_keep_9 : decode cX3_keep 9 = .ok (.iconst (-1), 1) := by decide +kernel
theorem dX3_keep_10 : decode cX3_keep 10 = .ok (.ireturn, 1) := by decide +kernel
theorem dX3_keep_11 : decode cX3_keep 11 = .ok (.aload_n 0, 1) := by decide +kernel
theorem dX3_keep_12 : decode cX3_keep 12 = .ok (.iload_n 1, 1) := by decide +kernel
theorem dX3_keep_13 : decode cX3_keep 13 = .ok (.invokevirtual 210, 3) := by decide +kernel
theorem dX3_keep_16 : decode cX3_keep 16 = .ok (.aload_n 0, 1) := by decide +kernel
theorem dX3_keep_17 : decode cX3_keep 17 = .ok (.getfield 23, 3) := by decide +kernel
theorem dX3_keep_20 : decode cX3_keep 20 = .ok (.invokevirtual 163, 3) := by decide +kernel
theorem dX3_keep_23 : decode cX3_keep 23 = .ok (.aload_n 0, 1) := by decide +kernel
theorem dX3_keep_24 : decode cX3_keep 24 = .ok (.dup, 1) := by decide +kernel
theorem dX3_keep_25 : decode cX3_keep 25 = .ok (.getfield 86, 3) := by decide +kernel
theorem dX3_keep_28 : decode cX3_keep 28 = .ok (.iconst 1, 1) := by decide +kernel
theorem dX3_keep_29 : decode cX3_keep 29 = .ok (.iload_n 1, 1) := by decide +kernel
theorem dX3_keep_30 : decode cX3_keep 30 = .ok (.ishl, 1) := by decide +kernel
theorem dX3_keep_31 : decode cX3_keep 31 = .ok (.ior, 1) := by decide +kernel
theorem dX3_keep_32 : decode cX3_keep 32 = .ok (.putfield 86, 3) := by decide +kernel
theorem dX3_keep_35 : decode cX3_keep 35 = .ok (.aload_n 0, 1) := by decide +kernel
theorem dX3_keep_36 : decode cX3_keep 36 = .ok (.getfield 23, 3) := by decide +kernel
theorem dX3_keep_39 : decode cX3_keep 39 = .ok (.getfield 90, 3) := by decide +kernel
theorem dX3_keep_42 : decode cX3_keep 42 = .ok (.getfield 83, 3) := by decide +kernel
theorem dX3_keep_45 : decode cX3_keep 45 = .ok (.ireturn, 1) := by decide +kernel
theorem dX3_again_0 : decode cX3_again 0 = .ok (.iload_n 1, 1) := by decide +kernel
theorem dX3_again_1 : decode cX3_again 1 = .ok (.ifCond .lt 8, 3) := by decide +kernel
theorem dX3_again_4 : decode cX3_again 4 = .ok (.iload_n 1, 1) := by decide +kernel
theorem dX3_again_5 : decode cX3_again 5 = .ok (.iconst 2, 1) := by decide +kernel
theorem dX3_again_6 : decode cX3_again 6 = .ok (.if_icmp .lt 5, 3) := by decide +kernel
theorem dX3_again_9 : decode cX3_again 9 = .ok (.iconst (-1), 1) := by decide +kernel
theorem dX3_again_10 : decode cX3_again 10 = .ok (.ireturn, 1) := by decide +kernel
theorem dX3_again_11 : decode cX3_again 11 = .ok (.aload_n 0, 1) := by decide +kernel
theorem dX3_again_12 : decode cX3_again 12 = .ok (.getfield 86, 3) := by decide +kernel
theorem dX3_again_15 : decode cX3_again 15 = .ok (.iload_n 1, 1) := by decide +kernel
theorem dX3_again_16 : decode cX3_again 16 = .ok (.invokestatic 121, 3) := by decide +kernel
theorem dX3_again_19 : decode cX3_again 19 = .ok (.ifCond .ne 6, 3) := by decide +kernel
theorem dX3_again_22 : decode cX3_again 22 = .ok (.bipush (-3), 2) := by decide +kernel
theorem dX3_again_24 : decode cX3_again 24 = .ok (.ireturn, 1) := by decide +kernel
theorem dX3_again_25 : decode cX3_again 25 = .ok (.aload_n 0, 1) := by decide +kernel
theorem dX3_again_26 : decode cX3_again 26 = .ok (.getfield 23, 3) := by decide +kernel
theorem dX3_again_29 : decode cX3_again 29 = .ok (.aload_n 0, 1) := by decide +kernel
theorem dX3_again_30 : decode cX3_again 30 = .ok (.iload_n 1, 1) := by decide +kernel
theorem dX3_again_31 : decode cX3_again 31 = .ok (.invokevirtual 210, 3) := by decide +kernel
theorem dX3_again_34 : decode cX3_again 34 = .ok (.invokevirtual 163, 3) := by decide +kernel
theorem dX3_again_37 : decode cX3_again 37 = .ok (.aload_n 0, 1) := by decide +kernel
theorem dX3_again_38 : decode cX3_again 38 = .ok (.getfield 36, 3) := by decide +kernel
theorem dX3_again_41 : decode cX3_again 41 = .ok (.iconst 0, 1) := by decide +kernel
theorem dX3_again_42 : decode cX3_again 42 = .ok (.putfield 83, 3) := by decide +kernel
theorem dX3_again_45 : decode cX3_again 45 = .ok (.aload_n 0, 1) := by decide +kernel
theorem dX3_again_46 : decode cX3_again 46 = .ok (.getfield 23, 3) := by decide +kernel
theorem dX3_again_49 : decode cX3_again 49 = .ok (.getfield 90, 3) := by decide +kernel
theorem dX3_again_52 : decode cX3_again 52 = .ok (.getfield 83, 3) := by decide +kernel
theorem dX3_again_55 : decode cX3_again 55 = .ok (.ireturn, 1) := by decide +kernel
theorem dX3_slotBooks_0 : decode cX3_slotBooks 0 = .ok (.iload_n 1, 1) := by decide +kernel
theorem dX3_slotBooks_1 : decode cX3_slotBooks 1 = .ok (.ifCond .ne 10, 3) := by decide +kernel
theorem dX3_slotBooks_4 : decode cX3_slotBooks 4 = .ok (.aload_n 0, 1) := by decide +kernel
theorem dX3_slotBooks_5 : decode cX3_slotBooks 5 = .ok (.getfield 30, 3) := by decide +kernel
theorem dX3_slotBooks_8 : decode cX3_slotBooks 8 = .ok (.goto 7, 3) := by decide +kernel
theorem dX3_slotBooks_11 : decode cX3_slotBooks 11 = .ok (.aload_n 0, 1) := by decide +kernel
theorem dX3_slotBooks_12 : decode cX3_slotBooks 12 = .ok (.getfield 33, 3) := by decide +kernel
theorem dX3_slotBooks_15 : decode cX3_slotBooks 15 = .ok (.areturn, 1) := by decide +kernel
theorem dX3_remember_0 : decode cX3_remember 0 = .ok (.aload_n 0, 1) := by decide +kernel
theorem dX3_remember_1 : decode cX3_remember 1 = .ok (.getfield 36, 3) := by decide +kernel
theorem dX3_remember_4 : decode cX3_remember 4 = .ok (.getfield 83, 3) := by decide +kernel
theorem dX3_remember_7 : decode cX3_remember 7 = .ok (.bipush 14, 2) := by decide +kernel
theorem dX3_remember_9 : decode cX3_remember 9 = .ok (.if_icmp .lt 11, 3) := by decide +kernel
theorem dX3_remember_12 : decode cX3_remember 12 = .ok (.aload_n 0, 1) := by decide +kernel
theorem dX3_remember_13 : decode cX3_remember 13 = .ok (.getfield 36, 3) := by decide +kernel
theorem dX3_remember_16 : decode cX3_remember 16 = .ok (.iconst 0, 1) := by decide +kernel
theorem dX3_remember_17 : decode cX3_remember 17 = .ok (.invokevirtual 145, 3) := by decide +kernel
theorem dX3_remember_20 : decode cX3_remember 20 = .ok (.aload_n 0, 1) := by decide +kernel
theorem dX3_remember_21 : decode cX3_remember 21 = .ok (.getfield 36, 3) := by decide +kernel
theorem dX3_remember_24 : decode cX3_remember 24 = .ok (.getfield 83, 3) := by decide +kernel
theorem dX3_remember_27 : decode cX3_remember 27 = .ok (.istore_n 3, 1) := by decide +kernel
theorem dX3_remember_28 : decode cX3_remember 28 = .ok (.aload_n 0, 1) := by decide +kernel
theorem dX3_remember_29 : decode cX3_remember 29 = .ok (.getfield 36, 3) := by decide +kernel
theorem dX3_remember_32 : decode cX3_remember 32 = .ok (.iload_n 3, 1) := by decide +kernel
theorem dX3_remember_33 : decode cX3_remember 33 = .ok (.invokevirtual 214, 3) := by decide +kernel
theorem dX3_remember_36 : decode cX3_remember 36 = .ok (.aload_n 0, 1) := by decide +kernel
theorem dX3_remember_37 : decode cX3_remember 37 = .ok (.getfield 36, 3) := by decide +kernel
theorem dX3_remember_40 : decode cX3_remember 40 = .ok (.iload_n 3, 1) := by decide +kernel
theorem dX3_remember_41 : decode cX3_remember 41 = .ok (.iconst 0, 1) := by decide +kernel
theorem dX3_remember_42 : decode cX3_remember 42 = .ok (.iload_n 1, 1) := by decide +kernel
theorem dX3_remember_43 : decode cX3_remember 43 = .ok (.invokevirtual 179, 3) := by decide +kernel
theorem dX3_remember_46 : decode cX3_remember 46 = .ok (.aload_n 0, 1) := by decide +kernel
theorem dX3_remember_47 : decode cX3_remember 47 = .ok (.getfield 36, 3) := by decide +kernel
theorem dX3_remember_50 : decode cX3_remember 50 = .ok (.iload_n 3, 1) := by decide +kernel
theorem dX3_remember_51 : decode cX3_remember 51 = .ok (.iconst 1, 1) := by decide +kernel
theorem dX3_remember_52 : decode cX3_remember 52 = .ok (.iload_n 2, 1) := by decide +kernel
theorem dX3_remember_53 : decode cX3_remember 53 = .ok (.invokevirtual 179, 3) := by decide +kernel
theorem dX3_remember_56 : decode cX3_remember 56 = .ok (.iload_n 3, 1) := by decide +kernel
theorem dX3_remember_57 : decode cX3_remember 57 = .ok (.ireturn, 1) := by decide +kernel
theorem dX3_rememberRow_0 : decode cX3_rememberRow 0 = .ok (.aload_n 0, 1) := by decide +kernel
theorem dX3_rememberRow_1 : decode cX3_rememberRow 1 = .ok (.iload_n 1, 1) := by decide +kernel
theorem dX3_rememberRow_2 : decode cX3_rememberRow 2 = .ok (.iload_n 2, 1) := by decide +kernel
theorem dX3_rememberRow_3 : decode cX3_rememberRow 3 = .ok (.invokevirtual 138, 3) := by decide +kernel
theorem dX3_rememberRow_6 : decode cX3_rememberRow 6 = .ok (.istore 4, 2) := by decide +kernel
theorem dX3_rememberRow_8 : decode cX3_rememberRow 8 = .ok (.iconst 0, 1) := by decide +kernel
theorem dX3_rememberRow_9 : decode cX3_rememberRow 9 = .ok (.istore 5, 2) := by decide +kernel
theorem dX3_rememberRow_11 : decode cX3_rememberRow 11 = .ok (.iload 5, 2) := by decide +kernel
theorem dX3_rememberRow_13 : decode cX3_rememberRow 13 = .ok (.aload_n 3, 1) := by decide +kernel
theorem dX3_rememberRow_14 : decode cX3_rememberRow 14 = .ok (.getfield 217, 3) := by decide +kernel
theorem dX3_rememberRow_17 : decode cX3_rememberRow 17 = .ok (.if_icmp .ge 29, 3) := by decide +kernel
theorem dX3_rememberRow_20 : decode cX3_rememberRow 20 = .ok (.aload_n 0, 1) := by decide +kernel
theorem dX3_rememberRow_21 : decode cX3_rememberRow 21 = .ok (.getfield 36, 3) := by decide +kernel
theorem dX3_rememberRow_24 : decode cX3_rememberRow 24 = .ok (.iload 4, 2) := by decide +kernel
theorem dX3_rememberRow_26 : decode cX3_rememberRow 26 = .ok (.iconst 2, 1) := by decide +kernel
theorem dX3_rememberRow_27 : decode cX3_rememberRow 27 = .ok (.iload 5, 2) := by decide +kernel
theorem dX3_rememberRow_29 : decode cX3_rememberRow 29 = .ok (.iadd, 1) := by decide +kernel
theorem dX3_rememberRow_30 : decode cX3_rememberRow 30 = .ok (.aload_n 3, 1) := by decide +kernel
theorem dX3_rememberRow_31 : decode cX3_rememberRow 31 = .ok (.iload_n 2, 1) := by decide +kernel
theorem dX3_rememberRow_32 : decode cX3_rememberRow 32 = .ok (.iload 5, 2) := by decide +kernel
theorem dX3_rememberRow_34 : decode cX3_rememberRow 34 = .ok (.invokevirtual 118, 3) := by decide +kernel
theorem dX3_rememberRow_37 : decode cX3_rememberRow 37 = .ok (.invokevirtual 179, 3) := by decide +kernel
theorem dX3_rememberRow_40 : decode cX3_rememberRow 40 = .ok (.iinc 5 1, 3) := by decide +kernel
theorem dX3_rememberRow_43 : decode cX3_rememberRow 43 = .ok (.goto (-32), 3) := by decide +kernel
theorem dX3_rememberRow_46 : decode cX3_rememberRow 46 = .ok (.return_, 1) := by decide +kernel
theorem dX3_takeBack_0 : decode cX3_takeBack 0 = .ok (.aload_n 0, 1) := by decide +kernel
theorem dX3_takeBack_1 : decode cX3_takeBack 1 = .ok (.getfield 36, 3) := by decide +kernel
theorem dX3_takeBack_4 : decode cX3_takeBack 4 = .ok (.iload_n 1, 1) := by decide +kernel
theorem dX3_takeBack_5 : decode cX3_takeBack 5 = .ok (.iconst 1, 1) := by decide +kernel
theorem dX3_takeBack_6 : decode cX3_takeBack 6 = .ok (.invokevirtual 118, 3) := by decide +kernel
theorem dX3_takeBack_9 : decode cX3_takeBack 9 = .ok (.istore_n 2, 1) := by decide +kernel
theorem dX3_takeBack_10 : decode cX3_takeBack 10 = .ok (.aload_n 0, 1) := by decide +kernel
theorem dX3_takeBack_11 : decode cX3_takeBack 11 = .ok (.getfield 36, 3) := by decide +kernel
theorem dX3_takeBack_14 : decode cX3_takeBack 14 = .ok (.iload_n 1, 1) := by decide +kernel
theorem dX3_takeBack_15 : decode cX3_takeBack 15 = .ok (.iconst 0, 1) := by decide +kernel
theorem dX3_takeBack_16 : decode cX3_takeBack 16 = .ok (.invokevirtual 118, 3) := by decide +kernel
theorem dX3_takeBack_19 : decode cX3_takeBack 19 = .ok (.tableswitch 153 1 7 #[41, 55, 71, 85, 101, 119, 135], 41) := by decide +kernel
theorem dX3_takeBack_60 : decode cX3_takeBack 60 = .ok (.aload_n 0, 1) := by decide +kernel
theorem dX3_takeBack_61 : decode cX3_takeBack 61 = .ok (.getfield 23, 3) := by decide +kernel
theorem dX3_takeBack_64 : decode cX3_takeBack 64 = .ok (.getfield 90, 3) := by decide +kernel
theorem dX3_takeBack_67 : decode cX3_takeBack 67 = .ok (.iload_n 2, 1) := by decide +kernel
theorem dX3_takeBack_68 : decode cX3_takeBack 68 = .ok (.invokevirtual 145, 3) := by decide +kernel
theorem dX3_takeBack_71 : decode cX3_takeBack 71 = .ok (.goto 101, 3) := by decide +kernel
theorem dX3_takeBack_74 : decode cX3_takeBack 74 = .ok (.aload_n 0, 1) := by decide +kernel
theorem dX3_takeBack_75 : decode cX3_takeBack 75 = .ok (.iload_n 1, 1) := by decide +kernel
theorem dX3_takeBack_76 : decode cX3_takeBack 76 = .ok (.iload_n 2, 1) := by decide +kernel
theorem dX3_takeBack_77 : decode cX3_takeBack 77 = .ok (.aload_n 0, 1) := by decide +kernel
theorem dX3_takeBack_78 : decode cX3_takeBack 78 = .ok (.getfield 23, 3) := by decide +kernel
theorem dX3_takeBack_81 : decode cX3_takeBack 81 = .ok (.getfield 90, 3) := by decide +kernel
theorem dX3_takeBack_84 : decode cX3_takeBack 84 = .ok (.invokevirtual 220, 3) := by decide +kernel
theorem dX3_takeBack_87 : decode cX3_takeBack 87 = .ok (.goto 85, 3) := by decide +kernel
theorem dX3_takeBack_90 : decode cX3_takeBack 90 = .ok (.aload_n 0, 1) := by decide +kernel
theorem dX3_takeBack_91 : decode cX3_takeBack 91 = .ok (.getfield 23, 3) := by decide +kernel
theorem dX3_takeBack_94 : decode cX3_takeBack 94 = .ok (.getfield 89, 3) := by decide +kernel
theorem dX3_takeBack_97 : decode cX3_takeBack 97 = .ok (.iload_n 2, 1) := by decide +kernel
theorem dX3_takeBack_98 : decode cX3_takeBack 98 = .ok (.invokevirtual 145, 3) := by decide +kernel
theorem dX3_takeBack_101 : decode cX3_takeBack 101 = .ok (.goto 71, 3) := by decide +kernel
theorem dX3_takeBack_104 : decode cX3_takeBack 104 = .ok (.aload_n 0, 1) := by decide +kernel
theorem dX3_takeBack_105 : decode cX3_takeBack 105 = .ok (.iload_n 1, 1) := by decide +kernel
theorem dX3_takeBack_106 : decode cX3_takeBack 106 = .ok (.iload_n 2, 1) := by decide +kernel
theorem dX3_takeBack_107 : decode cX3_takeBack 107 = .ok (.aload_n 0, 1) := by decide +kernel
theorem dX3_takeBack_108 : decode cX3_takeBack 108 = .ok (.getfield 23, 3) := by decide +kernel
theorem dX3_takeBack_111 : decode cX3_takeBack 111 = .ok (.getfield 89, 3) := by decide +kernel
theorem dX3_takeBack_114 : decode cX3_takeBack 114 = .ok (.invokevirtual 220, 3) := by decide +kernel
theorem dX3_takeBack_117 : decode cX3_takeBack 117 = .ok (.goto 55, 3) := by decide +kernel
theorem dX3_takeBack_120 : decode cX3_takeBack 120 = .ok (.aload_n 0, 1) := by decide +kernel
theorem dX3_takeBack_121 : decode cX3_takeBack 121 = .ok (.getfield 23, 3) := by decide +kernel
theorem dX3_takeBack_124 : decode cX3_takeBack 124 = .ok (.dup, 1) := by decide +kernel
theorem dX3_takeBack_125 : decode cX3_takeBack 125 = .ok (.getfield 94, 3) := by decide +kernel
theorem dX3_takeBack_128 : decode cX3_takeBack 128 = .ok (.iconst 1, 1) := by decide +kernel
theorem dX3_takeBack_129 : decode cX3_takeBack 129 = .ok (.iload_n 2, 1) := by decide +kernel
theorem dX3_takeBack_130 : decode cX3_takeBack 130 = .ok (.ishl, 1) := by decide +kernel
theorem dX3_takeBack_131 : decode cX3_takeBack 131 = .ok (.ixor, 1) := by decide +kernel
theorem dX3_takeBack_132 : decode cX3_takeBack 132 = .ok (.putfield 94, 3) := by decide +kernel
theorem dX3_takeBack_135 : decode cX3_takeBack 135 = .ok (.goto 37, 3) := by decide +kernel
theorem dX3_takeBack_138 : decode cX3_takeBack 138 = .ok (.aload_n 0, 1) := by decide +kernel
theorem dX3_takeBack_139 : decode cX3_takeBack 139 = .ok (.getfield 23, 3) := by decide +kernel
theorem dX3_takeBack_142 : decode cX3_takeBack 142 = .ok (.dup, 1) := by decide +kernel
theorem dX3_takeBack_143 : decode cX3_takeBack 143 = .ok (.getfield 91, 3) := by decide +kernel
theorem dX3_takeBack_146 : decode cX3_takeBack 146 = .ok (.iconst 1, 1) := by decide +kernel
theorem dX3_takeBack_147 : decode cX3_takeBack 147 = .ok (.isub, 1) := by decide +kernel
theorem dX3_takeBack_148 : decode cX3_takeBack 148 = .ok (.putfield 91, 3) := by decide +kernel
theorem dX3_takeBack_151 : decode cX3_takeBack 151 = .ok (.goto 21, 3) := by decide +kernel
theorem dX3_takeBack_154 : decode cX3_takeBack 154 = .ok (.aload_n 0, 1) := by decide +kernel
theorem dX3_takeBack_155 : decode cX3_takeBack 155 = .ok (.getfield 23, 3) := by decide +kernel
theorem dX3_takeBack_158 : decode cX3_takeBack 158 = .ok (.dup, 1) := by decide +kernel
theorem dX3_takeBack_159 : decode cX3_takeBack 159 = .ok (.getfield 101, 3) := by decide +kernel
theorem dX3_takeBack_162 : decode cX3_takeBack 162 = .ok (.iconst 1, 1) := by decide +kernel
theorem dX3_takeBack_163 : decode cX3_takeBack 163 = .ok (.iload_n 2, 1) := by decide +kernel
theorem dX3_takeBack_164 : decode cX3_takeBack 164 = .ok (.ishl, 1) := by decide +kernel
theorem dX3_takeBack_165 : decode cX3_takeBack 165 = .ok (.ixor, 1) := by decide +kernel
theorem dX3_takeBack_166 : decode cX3_takeBack 166 = .ok (.putfield 101, 3) := by decide +kernel
theorem dX3_takeBack_169 : decode cX3_takeBack 169 = .ok (.goto 3, 3) := by decide +kernel
theorem dX3_takeBack_172 : decode cX3_takeBack 172 = .ok (.return_, 1) := by decide +kernel
theorem dX3_putBack_0 : decode cX3_putBack 0 = .ok (.aload_n 3, 1) := by decide +kernel
theorem dX3_putBack_1 : decode cX3_putBack 1 = .ok (.iload_n 2, 1) := by decide +kernel
theorem dX3_putBack_2 : decode cX3_putBack 2 = .ok (.invokevirtual 214, 3) := by decide +kernel
theorem dX3_putBack_5 : decode cX3_putBack 5 = .ok (.iconst 0, 1) := by decide +kernel
theorem dX3_putBack_6 : decode cX3_putBack 6 = .ok (.istore 4, 2) := by decide +kernel
theorem dX3_putBack_8 : decode cX3_putBack 8 = .ok (.iload 4, 2) := by decide +kernel
theorem dX3_putBack_10 : decode cX3_putBack 10 = .ok (.aload_n 3, 1) := by decide +kernel
theorem dX3_putBack_11 : decode cX3_putBack 11 = .ok (.getfield 217, 3) := by decide +kernel
theorem dX3_putBack_14 : decode cX3_putBack 14 = .ok (.if_icmp .ge 28, 3) := by decide +kernel
theorem dX3_putBack_17 : decode cX3_putBack 17 = .ok (.aload_n 3, 1) := by decide +kernel
theorem dX3_putBack_18 : decode cX3_putBack 18 = .ok (.iload_n 2, 1) := by decide +kernel
theorem dX3_putBack_19 : decode cX3_putBack 19 = .ok (.iload 4, 2) := by decide +kernel
theorem dX3_putBack_21 : decode cX3_putBack 21 = .ok (.aload_n 0, 1) := by decide +kernel
theorem dX3_putBack_22 : decode cX3_putBack 22 = .ok (.getfield 36, 3) := by decide +kernel
theorem dX3_putBack_25 : decode cX3_putBack 25 = .ok (.iload_n 1, 1) := by decide +kernel
theorem dX3_putBack_26 : decode cX3_putBack 26 = .ok (.iconst 2, 1) := by decide +kernel
theorem dX3_putBack_27 : decode cX3_putBack 27 = .ok (.iload 4, 2) := by decide +kernel
theorem dX3_putBack_29 : decode cX3_putBack 29 = .ok (.iadd, 1) := by decide +kernel
theorem dX3_putBack_30 : decode cX3_putBack 30 = .ok (.invokevirtual 118, 3) := by decide +kernel
theorem dX3_putBack_33 : decode cX3_putBack 33 = .ok (.invokevirtual 179, 3) := by decide +kernel
theorem dX3_putBack_36 : decode cX3_putBack 36 = .ok (.iinc 4 1, 3) := by decide +kernel
theorem dX3_putBack_39 : decode cX3_putBack 39 = .ok (.goto (-31), 3) := by decide +kernel
theorem dX3_putBack_42 : decode cX3_putBack 42 = .ok (.return_, 1) := by decide +kernel
theorem dX3_splitDoings_0 : decode cX3_splitDoings 0 = .ok (.lload_n 2, 1) := by decide +kernel
theorem dX3_splitDoings_1 : decode cX3_splitDoings 1 = .ok (.lstore 4, 2) := by decide +kernel
theorem dX3_splitDoings_3 : decode cX3_splitDoings 3 = .ok (.iload_n 1, 1) := by decide +kernel
theorem dX3_splitDoings_4 : decode cX3_splitDoings 4 = .ok (.iconst 4, 1) := by decide +kernel
theorem dX3_splitDoings_5 : decode cX3_splitDoings 5 = .ok (.invokestatic 223, 3) := by decide +kernel
theorem dX3_splitDoings_8 : decode cX3_splitDoings 8 = .ok (.iconst 1, 1) := by decide +kernel
theorem dX3_splitDoings_9 : decode cX3_splitDoings 9 = .ok (.isub, 1) := by decide +kernel
theorem dX3_splitDoings_10 : decode cX3_splitDoings 10 = .ok (.istore 6, 2) := by decide +kernel
theorem dX3_splitDoings_12 : decode cX3_splitDoings 12 = .ok (.iload 6, 2) := by decide +kernel
theorem dX3_splitDoings_14 : decode cX3_splitDoings 14 = .ok (.ifCond .lt 31, 3) := by decide +kernel
theorem dX3_splitDoings_17 : decode cX3_splitDoings 17 = .ok (.aload_n 0, 1) := by decide +kernel
theorem dX3_splitDoings_18 : decode cX3_splitDoings 18 = .ok (.getfield 49, 3) := by decide +kernel
theorem dX3_splitDoings_21 : decode cX3_splitDoings 21 = .ok (.iload 6, 2) := by decide +kernel
theorem dX3_splitDoings_23 : decode cX3_splitDoings 23 = .ok (.lload 4, 2) := by decide +kernel
theorem dX3_splitDoings_25 : decode cX3_splitDoings 25 = .ok (.ldc2_w 228, 3) := by decide +kernel
theorem dX3_splitDoings_28 : decode cX3_splitDoings 28 = .ok (.lrem, 1) := by decide +kernel
theorem dX3_splitDoings_29 : decode cX3_splitDoings 29 = .ok (.l2i, 1) := by decide +kernel
theorem dX3_splitDoings_30 : decode cX3_splitDoings 30 = .ok (.iastore, 1) := by decide +kernel
theorem dX3_splitDoings_31 : decode cX3_splitDoings 31 = .ok (.lload 4, 2) := by decide +kernel
theorem dX3_splitDoings_33 : decode cX3_splitDoings 33 = .ok (.ldc2_w 228, 3) := by decide +kernel
theorem dX3_splitDoings_36 : decode cX3_splitDoings 36 = .ok (.ldiv, 1) := by decide +kernel
theorem dX3_splitDoings_37 : decode cX3_splitDoings 37 = .ok (.lstore 4, 2) := by decide +kernel
theorem dX3_splitDoings_39 : decode cX3_splitDoings 39 = .ok (.iinc 6 (-1), 3) := by decide +kernel
theorem dX3_splitDoings_42 : decode cX3_splitDoings 42 = .ok (.goto (-30), 3) := by decide +kernel
theorem dX3_splitDoings_45 : decode cX3_splitDoings 45 = .ok (.lload 4, 2) := by decide +kernel
theorem dX3_splitDoings_47 : decode cX3_splitDoings 47 = .ok (.lconst 0, 1) := by decide +kernel
theorem dX3_splitDoings_48 : decode cX3_splitDoings 48 = .ok (.lcmp, 1) := by decide +kernel
theorem dX3_splitDoings_49 : decode cX3_splitDoings 49 = .ok (.ifCond .ne 7, 3) := by decide +kernel
theorem dX3_splitDoings_52 : decode cX3_splitDoings 52 = .ok (.iconst 1, 1) := by decide +kernel
theorem dX3_splitDoings_53 : decode cX3_splitDoings 53 = .ok (.goto 4, 3) := by decide +kernel
theorem dX3_splitDoings_56 : decode cX3_splitDoings 56 = .ok (.iconst 0, 1) := by decide +kernel
theorem dX3_splitDoings_57 : decode cX3_splitDoings 57 = .ok (.ireturn, 1) := by decide +kernel
theorem dX3_weightOf_0 : decode cX3_weightOf 0 = .ok (.iconst 1, 1) := by decide +kernel
theorem dX3_weightOf_1 : decode cX3_weightOf 1 = .ok (.istore_n 3, 1) := by decide +kernel
theorem dX3_weightOf_2 : decode cX3_weightOf 2 = .ok (.iconst 1, 1) := by decide +kernel
theorem dX3_weightOf_3 : decode cX3_weightOf 3 = .ok (.istore 4, 2) := by decide +kernel
theorem dX3_weightOf_5 : decode cX3_weightOf 5 = .ok (.iload 4, 2) := by decide +kernel
theorem dX3_weightOf_7 : decode cX3_weightOf 7 = .ok (.aload_n 0, 1) := by decide +kernel
theorem dX3_weightOf_8 : decode cX3_weightOf 8 = .ok (.getfield 14, 3) := by decide +kernel
theorem dX3_weightOf_11 : decode cX3_weightOf 11 = .ok (.getfield 83, 3) := by decide +kernel
theorem dX3_weightOf_14 : decode cX3_weightOf 14 = .ok (.if_icmp .ge 30, 3) := by decide +kernel
theorem dX3_weightOf_17 : decode cX3_weightOf 17 = .ok (.iload_n 3, 1) := by decide +kernel
theorem dX3_weightOf_18 : decode cX3_weightOf 18 = .ok (.iload_n 1, 1) := by decide +kernel
theorem dX3_weightOf_19 : decode cX3_weightOf 19 = .ok (.iload 4, 2) := by decide +kernel
theorem dX3_weightOf_21 : decode cX3_weightOf 21 = .ok (.invokestatic 121, 3) := by decide +kernel
theorem dX3_weightOf_24 : decode cX3_weightOf 24 = .ok (.iconst 1, 1) := by decide +kernel
theorem dX3_weightOf_25 : decode cX3_weightOf 25 = .ok (.if_icmp .ne 7, 3) := by decide +kernel
theorem dX3_weightOf_28 : decode cX3_weightOf 28 = .ok (.iload_n 2, 1) := by decide +kernel
theorem dX3_weightOf_29 : decode cX3_weightOf 29 = .ok (.goto 7, 3) := by decide +kernel
theorem dX3_weightOf_32 : decode cX3_weightOf 32 = .ok (.bipush 10, 2) := by decide +kernel
theorem dX3_weightOf_34 : decode cX3_weightOf 34 = .ok (.iload_n 2, 1) := by decide +kernel
theorem dX3_weightOf_35 : decode cX3_weightOf 35 = .ok (.isub, 1) := by decide +kernel
theorem dX3_weightOf_36 : decode cX3_weightOf 36 = .ok (.imul, 1) := by decide +kernel
theorem dX3_weightOf_37 : decode cX3_weightOf 37 = .ok (.istore_n 3, 1) := by decide +kernel
theorem dX3_weightOf_38 : decode cX3_weightOf 38 = .ok (.iinc 4 1, 3) := by decide +kernel
theorem dX3_weightOf_41 : decode cX3_weightOf 41 = .ok (.goto (-36), 3) := by decide +kernel
theorem dX3_weightOf_44 : decode cX3_weightOf 44 = .ok (.iload_n 3, 1) := by decide +kernel
theorem dX3_weightOf_45 : decode cX3_weightOf 45 = .ok (.ireturn, 1) := by decide +kernel
theorem dX3_fraction_0 : decode cX3_fraction 0 = .ok (.iload_n 1, 1) := by decide +kernel
theorem dX3_fraction_1 : decode cX3_fraction 1 = .ok (.istore_n 3, 1) := by decide +kernel
theorem dX3_fraction_2 : decode cX3_fraction 2 = .ok (.iload_n 0, 1) := by decide +kernel
theorem dX3_fraction_3 : decode cX3_fraction 3 = .ok (.istore 4, 2) := by decide +kernel
theorem dX3_fraction_5 : decode cX3_fraction 5 = .ok (.iconst 0, 1) := by decide +kernel
theorem dX3_fraction_6 : decode cX3_fraction 6 = .ok (.istore 5, 2) := by decide +kernel
theorem dX3_fraction_8 : decode cX3_fraction 8 = .ok (.iload 5, 2) := by decide +kernel
theorem dX3_fraction_10 : decode cX3_fraction 10 = .ok (.bipush 64, 2) := by decide +kernel
theorem dX3_fraction_12 : decode cX3_fraction 12 = .ok (.if_icmp .ge 27, 3) := by decide +kernel
theorem dX3_fraction_15 : decode cX3_fraction 15 = .ok (.iload 4, 2) := by decide +kernel
theorem dX3_fraction_17 : decode cX3_fraction 17 = .ok (.ifCond .eq 22, 3) := by decide +kernel
theorem dX3_fraction_20 : decode cX3_fraction 20 = .ok (.iload_n 3, 1) := by decide +kernel
theorem dX3_fraction_21 : decode cX3_fraction 21 = .ok (.iload 4, 2) := by decide +kernel
theorem dX3_fraction_23 : decode cX3_fraction 23 = .ok (.irem, 1) := by decide +kernel
theorem dX3_fraction_24 : decode cX3_fraction 24 = .ok (.istore 6, 2) := by decide +kernel
theorem dX3_fraction_26 : decode cX3_fraction 26 = .ok (.iload 4, 2) := by decide +kernel
theorem dX3_fraction_28 : decode cX3_fraction 28 = .ok (.istore_n 3, 1) := by decide +kernel
theorem dX3_fraction_29 : decode cX3_fraction 29 = .ok (.iload 6, 2) := by decide +kernel
theorem dX3_fraction_31 : decode cX3_fraction 31 = .ok (.istore 4, 2) := by decide +kernel
theorem dX3_fraction_33 : decode cX3_fraction 33 = .ok (.iinc 5 1, 3) := by decide +kernel
theorem dX3_fraction_36 : decode cX3_fraction 36 = .ok (.goto (-28), 3) := by decide +kernel
theorem dX3_fraction_39 : decode cX3_fraction 39 = .ok (.iload_n 2, 1) := by decide +kernel
theorem dX3_fraction_40 : decode cX3_fraction 40 = .ok (.ifCond .eq 7, 3) := by decide +kernel
theorem dX3_fraction_43 : decode cX3_fraction 43 = .ok (.iload_n 0, 1) := by decide +kernel
theorem dX3_fraction_44 : decode cX3_fraction 44 = .ok (.goto 4, 3) := by decide +kernel
theorem dX3_fraction_47 : decode cX3_fraction 47 = .ok (.iload_n 1, 1) := by decide +kernel
theorem dX3_fraction_48 : decode cX3_fraction 48 = .ok (.istore 5, 2) := by decide +kernel
theorem dX3_fraction_50 : decode cX3_fraction 50 = .ok (.iload_n 3, 1) := by decide +kernel
theorem dX3_fraction_51 : decode cX3_fraction 51 = .ok (.iconst 1, 1) := by decide +kernel
theorem dX3_fraction_52 : decode cX3_fraction 52 = .ok (.if_icmp .le 10, 3) := by decide +kernel
theorem dX3_fraction_55 : decode cX3_fraction 55 = .ok (.iload 5, 2) := by decide +kernel
theorem dX3_fraction_57 : decode cX3_fraction 57 = .ok (.iload_n 3, 1) := by decide +kernel
theorem dX3_fraction_58 : decode cX3_fraction 58 = .ok (.idiv, 1) := by decide +kernel
theorem dX3_fraction_59 : decode cX3_fraction 59 = .ok (.goto 5, 3) := by decide +kernel
theorem dX3_fraction_62 : decode cX3_fraction 62 = .ok (.iload 5, 2) := by decide +kernel
theorem dX3_fraction_64 : decode cX3_fraction 64 = .ok (.ireturn, 1) := by decide +kernel
theorem dX3_bit_0 : decode cX3_bit 0 = .ok (.iload_n 0, 1) := by decide +kernel
theorem dX3_bit_1 : decode cX3_bit 1 = .ok (.iload_n 1, 1) := by decide +kernel
theorem dX3_bit_2 : decode cX3_bit 2 = .ok (.ishr, 1) := by decide +kernel
theorem dX3_bit_3 : decode cX3_bit 3 = .ok (.iconst 1, 1) := by decide +kernel
theorem dX3_bit_4 : decode cX3_bit 4 = .ok (.iand, 1) := by decide +kernel
theorem dX3_bit_5 : decode cX3_bit 5 = .ok (.ireturn, 1) := by decide +kernel
theorem dX3_isPlace_0 : decode cX3_isPlace 0 = .ok (.iload_n 0, 1) := by decide +kernel
theorem dX3_isPlace_1 : decode cX3_isPlace 1 = .ok (.ifCond .lt 13, 3) := by decide +kernel
theorem dX3_isPlace_4 : decode cX3_isPlace 4 = .ok (.iload_n 0, 1) := by decide +kernel
theorem dX3_isPlace_5 : decode cX3_isPlace 5 = .ok (.bipush 32, 2) := by decide +kernel
theorem dX3_isPlace_7 : decode cX3_isPlace 7 = .ok (.if_icmp .ge 7, 3) := by decide +kernel
theorem dX3_isPlace_10 : decode cX3_isPlace 10 = .ok (.iconst 1, 1) := by decide +kernel
theorem dX3_isPlace_11 : decode cX3_isPlace 11 = .ok (.goto 4, 3) := by decide +kernel
theorem dX3_isPlace_14 : decode cX3_isPlace 14 = .ok (.iconst 0, 1) := by decide +kernel
theorem dX3_isPlace_15 : decode cX3_isPlace 15 = .ok (.ireturn, 1) := by decide +kernel
theorem dX3_isOrigin_0 : decode cX3_isOrigin 0 = .ok (.iload_n 0, 1) := by decide +kernel
theorem dX3_isOrigin_1 : decode cX3_isOrigin 1 = .ok (.ifCond .lt 13, 3) := by decide +kernel
theorem dX3_isOrigin_4 : decode cX3_isOrigin 4 = .ok (.iload_n 0, 1) := by decide +kernel
theorem dX3_isOrigin_5 : decode cX3_isOrigin 5 = .ok (.bipush 6, 2) := by decide +kernel
theorem dX3_isOrigin_7 : decode cX3_isOrigin 7 = .ok (.if_icmp .ge 7, 3) := by decide +kernel
theorem dX3_isOrigin_10 : decode cX3_isOrigin 10 = .ok (.iconst 1, 1) := by decide +kernel
theorem dX3_isOrigin_11 : decode cX3_isOrigin 11 = .ok (.goto 4, 3) := by decide +kernel
theorem dX3_isOrigin_14 : decode cX3_isOrigin 14 = .ok (.iconst 0, 1) := by decide +kernel
theorem dX3_isOrigin_15 : decode cX3_isOrigin 15 = .ok (.ireturn, 1) := by decide +kernel
theorem dX3_isLaw_0 : decode cX3_isLaw 0 = .ok (.iload_n 0, 1) := by decide +kernel
theorem dX3_isLaw_1 : decode cX3_isLaw 1 = .ok (.ifCond .lt 12, 3) := by decide +kernel
theorem dX3_isLaw_4 : decode cX3_isLaw 4 = .ok (.iload_n 0, 1) := by decide +kernel
theorem dX3_isLaw_5 : decode cX3_isLaw 5 = .ok (.iconst 4, 1) := by decide +kernel
theorem dX3_isLaw_6 : decode cX3_isLaw 6 = .ok (.if_icmp .ge 7, 3) := by decide +kernel
theorem dX3_isLaw_9 : decode cX3_isLaw 9 = .ok (.iconst 1, 1) := by decide +kernel
theorem dX3_isLaw_10 : decode cX3_isLaw 10 = .ok (.goto 4, 3) := by decide +kernel
theorem dX3_isLaw_13 : decode cX3_isLaw 13 = .ok (.iconst 0, 1) := by decide +kernel
theorem dX3_isLaw_14 : decode cX3_isLaw 14 = .ok (.ireturn, 1) := by decide +kernel
theorem dX3_isRange_0 : decode cX3_isRange 0 = .ok (.iload_n 0, 1) := by decide +kernel
theorem dX3_isRange_1 : decode cX3_isRange 1 = .ok (.invokestatic 154, 3) := by decide +kernel
theorem dX3_isRange_4 : decode cX3_isRange 4 = .ok (.ifCond .eq 24, 3) := by decide +kernel
theorem dX3_isRange_7 : decode cX3_isRange 7 = .ok (.iload_n 1, 1) := by decide +kernel
theorem dX3_isRange_8 : decode cX3_isRange 8 = .ok (.ifCond .lt 20, 3) := by decide +kernel
theorem dX3_isRange_11 : decode cX3_isRange 11 = .ok (.iload_n 1, 1) := by decide +kernel
theorem dX3_isRange_12 : decode cX3_isRange 12 = .ok (.iconst 5, 1) := by decide +kernel
theorem dX3_isRange_13 : decode cX3_isRange 13 = .ok (.if_icmp .gt 15, 3) := by decide +kernel
theorem dX3_isRange_16 : decode cX3_isRange 16 = .ok (.iload_n 0, 1) := by decide +kernel
theorem dX3_isRange_17 : decode cX3_isRange 17 = .ok (.iload_n 1, 1) := by decide +kernel
theorem dX3_isRange_18 : decode cX3_isRange 18 = .ok (.invokestatic 166, 3) := by decide +kernel
theorem dX3_isRange_21 : decode cX3_isRange 21 = .ok (.ifCond .ne 7, 3) := by decide +kernel
theorem dX3_isRange_24 : decode cX3_isRange 24 = .ok (.iconst 1, 1) := by decide +kernel
theorem dX3_isRange_25 : decode cX3_isRange 25 = .ok (.goto 4, 3) := by decide +kernel
theorem dX3_isRange_28 : decode cX3_isRange 28 = .ok (.iconst 0, 1) := by decide +kernel
theorem dX3_isRange_29 : decode cX3_isRange 29 = .ok (.ireturn, 1) := by decide +kernel
theorem dX3_leftBySize_0 : decode cX3_leftBySize 0 = .ok (.iload_n 0, 1) := by decide +kernel
theorem dX3_leftBySize_1 : decode cX3_leftBySize 1 = .ok (.bipush 32, 2) := by decide +kernel
theorem dX3_leftBySize_3 : decode cX3_leftBySize 3 = .ok (.iload_n 1, 1) := by decide +kernel
theorem dX3_leftBySize_4 : decode cX3_leftBySize 4 = .ok (.ishr, 1) := by decide +kernel
theorem dX3_leftBySize_5 : decode cX3_leftBySize 5 = .ok (.iconst 1, 1) := by decide +kernel
theorem dX3_leftBySize_6 : decode cX3_leftBySize 6 = .ok (.isub, 1) := by decide +kernel
theorem dX3_leftBySize_7 : decode cX3_leftBySize 7 = .ok (.iand, 1) := by decide +kernel
theorem dX3_leftBySize_8 : decode cX3_leftBySize 8 = .ok (.ireturn, 1) := by decide +kernel
theorem dX3_coverOf_0 : decode cX3_coverOf 0 = .ok (.iload_n 1, 1) := by decide +kernel
theorem dX3_coverOf_1 : decode cX3_coverOf 1 = .ok (.ifCond .ne 7, 3) := by decide +kernel
theorem dX3_coverOf_4 : decode cX3_coverOf 4 = .ok (.iconst (-1), 1) := by decide +kernel
theorem dX3_coverOf_5 : decode cX3_coverOf 5 = .ok (.goto 13, 3) := by decide +kernel
theorem dX3_coverOf_8 : decode cX3_coverOf 8 = .ok (.iconst 1, 1) := by decide +kernel
theorem dX3_coverOf_9 : decode cX3_coverOf 9 = .ok (.bipush 32, 2) := by decide +kernel
theorem dX3_coverOf_11 : decode cX3_coverOf 11 = .ok (.iload_n 1, 1) := by decide +kernel
theorem dX3_coverOf_12 : decode cX3_coverOf 12 = .ok (.ishr, 1) := by decide +kernel
theorem dX3_coverOf_13 : decode cX3_coverOf 13 = .ok (.ishl, 1) := by decide +kernel
theorem dX3_coverOf_14 : decode cX3_coverOf 14 = .ok (.iconst 1, 1) := by decide +kernel
theorem dX3_coverOf_15 : decode cX3_coverOf 15 = .ok (.isub, 1) := by decide +kernel
theorem dX3_coverOf_16 : decode cX3_coverOf 16 = .ok (.iload_n 0, 1) := by decide +kernel
theorem dX3_coverOf_17 : decode cX3_coverOf 17 = .ok (.ishl, 1) := by decide +kernel
theorem dX3_coverOf_18 : decode cX3_coverOf 18 = .ok (.ireturn, 1) := by decide +kernel
theorem dX3_isWithin_0 : decode cX3_isWithin 0 = .ok (.iload_n 0, 1) := by decide +kernel
theorem dX3_isWithin_1 : decode cX3_isWithin 1 = .ok (.iload_n 1, 1) := by decide +kernel
theorem dX3_isWithin_2 : decode cX3_isWithin 2 = .ok (.iconst (-1), 1) := by decide +kernel
theorem dX3_isWithin_3 : decode cX3_isWithin 3 = .ok (.ixor, 1) := by decide +kernel
theorem dX3_isWithin_4 : decode cX3_isWithin 4 = .ok (.iand, 1) := by decide +kernel
theorem dX3_isWithin_5 : decode cX3_isWithin 5 = .ok (.ifCond .ne 7, 3) := by decide +kernel
theorem dX3_isWithin_8 : decode cX3_isWithin 8 = .ok (.iconst 1, 1) := by decide +kernel
theorem dX3_isWithin_9 : decode cX3_isWithin 9 = .ok (.goto 4, 3) := by decide +kernel
theorem dX3_isWithin_12 : decode cX3_isWithin 12 = .ok (.iconst 0, 1) := by decide +kernel
theorem dX3_isWithin_13 : decode cX3_isWithin 13 = .ok (.ireturn, 1) := by decide +kernel
theorem dX4_init_0 : decode cX4_init 0 = .ok (.aload_n 0, 1) := by decide +kernel
theorem dX4_init_1 : decode cX4_init 1 = .ok (.invokespecial 1, 3) := by decide +kernel
theorem dX4_init_4 : decode cX4_init 4 = .ok (.aload_n 0, 1) := by decide +kernel
theorem dX4_init_5 : decode cX4_init 5 = .ok (.bipush 99, 2) := by decide +kernel
theorem dX4_init_7 : decode cX4_init 7 = .ok (.newarray .int, 2) := by decide +kernel
theorem dX4_init_9 : decode cX4_init 9 = .ok (.putfield 7, 3) := by decide +kernel
theorem dX4_init_12 : decode cX4_init 12 = .ok (.aload_n 0, 1) := by decide +kernel
theorem dX4_init_13 : decode cX4_init 13 = .ok (.bipush 24, 2) := by decide +kernel
theorem dX4_init_15 : decode cX4_init 15 = .ok (.newarray .int, 2) := by decide +kernel
theorem dX4_init_17 : decode cX4_init 17 = .ok (.putfield 13, 3) := by decide +kernel
theorem dX4_init_20 : decode cX4_init 20 = .ok (.aload_n 0, 1) := by decide +kernel
theorem dX4_init_21 : decode cX4_init 21 = .ok (.bipush 66, 2) := by decide +kernel
theorem dX4_init_23 : decode cX4_init 23 = .ok (.newarray .int, 2) := by decide +kernel
theorem dX4_init_25 : decode cX4_init 25 = .ok (.putfield 16, 3) := by decide +kernel
theorem dX4_init_28 : decode cX4_init 28 = .ok (.aload_n 0, 1) := by decide +kernel
theorem dX4_init_29 : decode cX4_init 29 = .ok (.bipush 66, 2) := by decide +kernel
theorem dX4_init_31 : decode cX4_init 31 = .ok (.newarray .int, 2) := by decide +kernel
theorem dX4_init_33 : decode cX4_init 33 = .ok (.putfield 19, 3) := by decide +kernel
theorem dX4_init_36 : decode cX4_init 36 = .ok (.aload_n 0, 1) := by decide +kernel
theorem dX4_init_37 : decode cX4_init 37 = .ok (.sipush 924, 3) := by decide +kernel
theorem dX4_init_40 : decode cX4_init 40 = .ok (.newarray .int, 2) := by decide +kernel
theorem dX4_init_42 : decode cX4_init 42 = .ok (.putfield 22, 3) := by decide +kernel
theorem dX4_init_45 : decode cX4_init 45 = .ok (.aload_n 0, 1) := by decide +kernel
theorem dX4_init_46 : decode cX4_init 46 = .ok (.sipush 132, 3) := by decide +kernel
theorem dX4_init_49 : decode cX4_init 49 = .ok (.newarray .int, 2) := by decide +kernel
theorem dX4_init_51 : decode cX4_init 51 = .ok (.putfield 25, 3) := by decide +kernel
theorem dX4_init_54 : decode cX4_init 54 = .ok (.aload_n 0, 1) := by decide +kernel
theorem dX4_init_55 : decode cX4_init 55 = .ok (.iconst 2, 1) := by decide +kernel
theorem dX4_init_56 : decode cX4_init 56 = .ok (.newarray .boolean, 2) := by decide +kernel
theorem dX4_init_58 : decode cX4_init 58 = .ok (.putfield 28, 3) := by decide +kernel
theorem dX4_init_61 : decode cX4_init 61 = .ok (.aload_n 0, 1) := by decide +kernel
theorem dX4_init_62 : decode cX4_init 62 = .ok (.bipush 24, 2) := by decide +kernel
theorem dX4_init_64 : decode cX4_init 64 = .ok (.newarray .int, 2) := by decide +kernel
theorem dX4_init_66 : decode cX4_init 66 = .ok (.putfield 32, 3) := by decide +kernel
theorem dX4_init_69 : decode cX4_init 69 = .ok (.aload_n 0, 1) := by decide +kernel
theorem dX4_init_70 : decode cX4_init 70 = .ok (.sipush 256, 3) := by decide +kernel
theorem dX4_init_73 : decode cX4_init 73 = .ok (.newarray .int, 2) := by decide +kernel
theorem dX4_init_75 : decode cX4_init 75 = .ok (.putfield 35, 3) := by decide +kernel
theorem dX4_init_78 : decode cX4_init 78 = .ok (.aload_n 0, 1) := by decide +kernel
theorem dX4_init_79 : decode cX4_init 79 = .ok (.bipush 24, 2) := by decide +kernel
theorem dX4_init_81 : decode cX4_init 81 = .ok (.newarray .int, 2) := by decide +kernel
theorem dX4_init_83 : decode cX4_init 83 = .ok (.putfield 38, 3) := by decide +kernel
theorem dX4_init_86 : decode cX4_init 86 = .ok (.aload_n 0, 1) := by decide +kernel
theorem dX4_init_87 : decode cX4_init 87 = .ok (.bipush 66, 2) := by decide +kernel
theorem dX4_init_89 : decode cX4_init 89 = .ok (.newarray .int, 2) := by decide +kernel
theorem dX4_init_91 : decode cX4_init 91 = .ok (.putfield 41, 3) := by decide +kernel
theorem dX4_init_94 : decode cX4_init 94 = .ok (.aload_n 0, 1) := by decide +kernel
theorem dX4_init_95 : decode cX4_init 95 = .ok (.iconst 1, 1) := by decide +kernel
theorem dX4_init_96 : decode cX4_init 96 = .ok (.putfield 44, 3) := by decide +kernel
theorem dX4_init_99 : decode cX4_init 99 = .ok (.return_, 1) := by decide +kernel
theorem dX4_copy_0 : decode cX4_copy 0 = .ok (.iconst 0, 1) := by decide +kernel
theorem dX4_copy_1 : decode cX4_copy 1 = .ok (.istore_n 2, 1) := by decide +kernel
theorem dX4_copy_2 : decode cX4_copy 2 = .ok (.iload_n 2, 1) := by decide +kernel
theorem dX4_copy_3 : decode cX4_copy 3 = .ok (.bipush 66, 2) := by decide +kernel
theorem dX4_copy_5 : decode cX4_copy 5 = .ok (.if_icmp .ge 15, 3) := by decide +kernel
theorem dX4_copy_8 : decode cX4_copy 8 = .ok (.aload_n 1, 1) := by decide +kernel
theorem dX4_copy_9 : decode cX4_copy 9 = .ok (.iload_n 2, 1) := by decide +kernel
theorem dX4_copy_10 : decode cX4_copy 10 = .ok (.aload_n 0, 1) := by decide +kernel
theorem dX4_copy_11 : decode cX4_copy 11 = .ok (.iload_n 2, 1) := by decide +kernel
theorem dX4_copy_12 : decode cX4_copy 12 = .ok (.iaload, 1) := by decide +kernel
theorem dX4_copy_13 : decode cX4_copy 13 = .ok (.iastore, 1) := by decide +kernel
theorem dX4_copy_14 : decode cX4_copy 14 = .ok (.iinc 2 1, 3) := by decide +kernel
theorem dX4_copy_17 : decode cX4_copy 17 = .ok (.goto (-15), 3) := by decide +kernel
theorem dX4_copy_20 : decode cX4_copy 20 = .ok (.return_, 1) := by decide +kernel
theorem dX4_in_0 : decode cX4_in 0 = .ok (.lload_n 0, 1) := by decide +kernel
theorem dX4_in_1 : decode cX4_in 1 = .ok (.lload_n 2, 1) := by decide +kernel
theorem dX4_in_2 : decode cX4_in 2 = .ok (.lcmp, 1) := by decide +kernel
theorem dX4_in_3 : decode cX4_in 3 = .ok (.ifCond .lt 14, 3) := by decide +kernel
theorem dX4_in_6 : decode cX4_in 6 = .ok (.lload_n 0, 1) := by decide +kernel
theorem dX4_in_7 : decode cX4_in 7 = .ok (.lload 4, 2) := by decide +kernel
theorem dX4_in_9 : decode cX4_in 9 = .ok (.lcmp, 1) := by decide +kernel
theorem dX4_in_10 : decode cX4_in 10 = .ok (.ifCond .gt 7, 3) := by decide +kernel
theorem dX4_in_13 : decode cX4_in 13 = .ok (.iconst 1, 1) := by decide +kernel
theorem dX4_in_14 : decode cX4_in 14 = .ok (.goto 4, 3) := by decide +kernel
theorem dX4_in_17 : decode cX4_in 17 = .ok (.iconst 0, 1) := by decide +kernel
theorem dX4_in_18 : decode cX4_in 18 = .ok (.ireturn, 1) := by decide +kernel
theorem dX4_has_0 : decode cX4_has 0 = .ok (.iload_n 0, 1) := by decide +kernel
theorem dX4_has_1 : decode cX4_has 1 = .ok (.iload_n 1, 1) := by decide +kernel
theorem dX4_has_2 : decode cX4_has 2 = .ok (.ishr, 1) := by decide +kernel
theorem dX4_has_3 : decode cX4_has 3 = .ok (.iconst 1, 1) := by decide +kernel
theorem dX4_has_4 : decode cX4_has 4 = .ok (.iand, 1) := by decide +kernel
theorem dX4_has_5 : decode cX4_has 5 = .ok (.iconst 1, 1) := by decide +kernel
theorem dX4_has_6 : decode cX4_has 6 = .ok (.if_icmp .ne 7, 3) := by decide +kernel
theorem dX4_has_9 : decode cX4_has 9 = .ok (.iconst 1, 1) := by decide +kernel
theorem dX4_has_10 : decode cX4_has 10 = .ok (.goto 4, 3) := by decide +kernel
theorem dX4_has_13 : decode cX4_has 13 = .ok (.iconst 0, 1) := by decide +kernel
theorem dX4_has_14 : decode cX4_has 14 = .ok (.ireturn, 1) := by decide +kernel
theorem dX4_ones_0 : decode cX4_ones 0 = .ok (.iconst 0, 1) := by decide +kernel
theorem dX4_ones_1 : decode cX4_ones 1 = .ok (.istore_n 1, 1) := by decide +kernel
theorem dX4_ones_2 : decode cX4_ones 2 = .ok (.iconst 0, 1) := by decide +kernel
theorem dX4_ones_3 : decode cX4_ones 3 = .ok (.istore_n 2, 1) := by decide +kernel
theorem dX4_ones_4 : decode cX4_ones 4 = .ok (.iload_n 2, 1) := by decide +kernel
theorem dX4_ones_5 : decode cX4_ones 5 = .ok (.bipush 8, 2) := by decide +kernel
theorem dX4_ones_7 : decode cX4_ones 7 = .ok (.if_icmp .ge 17, 3) := by decide +kernel
theorem dX4_ones_10 : decode cX4_ones 10 = .ok (.iload_n 1, 1) := by decide +kernel
theorem dX4_ones_11 : decode cX4_ones 11 = .ok (.iload_n 0, 1) := by decide +kernel
theorem dX4_ones_12 : decode cX4_ones 12 = .ok (.iload_n 2, 1) := by decide +kernel
theorem dX4_ones_13 : decode cX4_ones 13 = .ok (.ishr, 1) := by decide +kernel
theorem dX4_ones_14 : decode cX4_ones 14 = .ok (.iconst 1, 1) := by decide +kernel
theorem dX4_ones_15 : decode cX4_ones 15 = .ok (.iand, 1) := by decide +kernel
theorem dX4_ones_16 : decode cX4_ones 16 = .ok (.iadd, 1) := by decide +kernel
theorem dX4_ones_17 : decode cX4_ones 17 = .ok (.istore_n 1, 1) := by decide +kernel
theorem dX4_ones_18 : decode cX4_ones 18 = .ok (.iinc 2 1, 3) := by decide +kernel
theorem dX4_ones_21 : decode cX4_ones 21 = .ok (.goto (-17), 3) := by decide +kernel
theorem dX4_ones_24 : decode cX4_ones 24 = .ok (.iload_n 1, 1) := by decide +kernel
theorem dX4_ones_25 : decode cX4_ones 25 = .ok (.ireturn, 1) := by decide +kernel
theorem dX4_power_0 : decode cX4_power 0 = .ok (.iconst 1, 1) := by decide +kernel
theorem dX4_power_1 : decode cX4_power 1 = .ok (.istore_n 2, 1) := by decide +kernel
theorem dX4_power_2 : decode cX4_power 2 = .ok (.iconst 0, 1) := by decide +kernel
theorem dX4_power_3 : decode cX4_power 3 = .ok (.istore_n 3, 1) := by decide +kernel
theorem dX4_power_4 : decode cX4_power 4 = .ok (.iload_n 3, 1) := by decide +kernel
theorem dX4_power_5 : decode cX4_power 5 = .ok (.iload_n 1, 1) := by decide +kernel
theorem dX4_power_6 : decode cX4_power 6 = .ok (.if_icmp .ge 13, 3) := by decide +kernel
theorem dX4_power_9 : decode cX4_power 9 = .ok (.iload_n 2, 1) := by decide +kernel
theorem dX4_power_10 : decode cX4_power 10 = .ok (.iload_n 0, 1) := by decide +kernel
theorem dX4_power_11 : decode cX4_power 11 = .ok (.imul, 1) := by decide +kernel
theorem dX4_power_12 : decode cX4_power 12 = .ok (.istore_n 2, 1) := by decide +kernel
theorem dX4_power_13 : decode cX4_power 13 = .ok (.iinc 3 1, 3) := by decide +kernel
theorem dX4_power_16 : decode cX4_power 16 = .ok (.goto (-12), 3) := by decide +kernel
theorem dX4_power_19 : decode cX4_power 19 = .ok (.iload_n 2, 1) := by decide +kernel
theorem dX4_power_20 : decode cX4_power 20 = .ok (.ireturn, 1) := by decide +kernel
theorem dX4_factorial_0 : decode cX4_factorial 0 = .ok (.iconst 1, 1) := by decide +kernel
theorem dX4_factorial_1 : decode cX4_factorial 1 = .ok (.istore_n 1, 1) := by decide +kernel
theorem dX4_factorial_2 : decode cX4_factorial 2 = .ok (.iconst 2, 1) := by decide +kernel
theorem dX4_factorial_3 : decode cX4_factorial 3 = .ok (.istore_n 2, 1) := by decide +kernel
theorem dX4_factorial_4 : decode cX4_factorial 4 = .ok (.iload_n 2, 1) := by decide +kernel
theorem dX4_factorial_5 : decode cX4_factorial 5 = .ok (.iload_n 0, 1) := by decide +kernel
theorem dX4_factorial_6 : decode cX4_factorial 6 = .ok (.if_icmp .gt 13, 3) := by decide +kernel
theorem dX4_factorial_9 : decode cX4_factorial 9 = .ok (.iload_n 1, 1) := by decide +kernel
theorem dX4_factorial_10 : decode cX4_factorial 10 = .ok (.iload_n 2, 1) := by decide +kernel
theorem dX4_factorial_11 : decode cX4_factorial 11 = .ok (.imul, 1) := by decide +kernel
theorem dX4_factorial_12 : decode cX4_factorial 12 = .ok (.istore_n 1, 1) := by decide +kernel
theorem dX4_factorial_13 : decode cX4_factorial 13 = .ok (.iinc 2 1, 3) := by decide +kernel
theorem dX4_factorial_16 : decode cX4_factorial 16 = .ok (.goto (-12), 3) := by decide +kernel
theorem dX4_factorial_19 : decode cX4_factorial 19 = .ok (.iload_n 1, 1) := by decide +kernel
theorem dX4_factorial_20 : decode cX4_factorial 20 = .ok (.ireturn, 1) := by decide +kernel
theorem dX4_fraction_0 : decode cX4_fraction 0 = .ok (.iload_n 0, 1) := by decide +kernel
theorem dX4_fraction_1 : decode cX4_fraction 1 = .ok (.ifCond .ge 8, 3) := by decide +kernel
theorem dX4_fraction_4 : decode cX4_fraction 4 = .ok (.iload_n 0, 1) := by decide +kernel
theorem dX4_fraction_5 : decode cX4_fraction 5 = .ok (.ineg, 1) := by decide +kernel
theorem dX4_fraction_6 : decode cX4_fraction 6 = .ok (.goto 4, 3) := by decide +kernel
theorem dX4_fraction_9 : decode cX4_fraction 9 = .ok (.iload_n 0, 1) := by decide +kernel
theorem dX4_fraction_10 : decode cX4_fraction 10 = .ok (.istore_n 3, 1) := by decide +kernel
theorem dX4_fraction_11 : decode cX4_fraction 11 = .ok (.iload_n 1, 1) := by decide +kernel
theorem dX4_fraction_12 : decode cX4_fraction 12 = .ok (.istore 4, 2) := by decide +kernel
theorem dX4_fraction_14 : decode cX4_fraction 14 = .ok (.iload 4, 2) := by decide +kernel
theorem dX4_fraction_16 : decode cX4_fraction 16 = .ok (.ifCond .eq 19, 3) := by decide +kernel
theorem dX4_fraction_19 : decode cX4_fraction 19 = .ok (.iload_n 3, 1) := by decide +kernel
theorem dX4_fraction_20 : decode cX4_fraction 20 = .ok (.iload 4, 2) := by decide +kernel
theorem dX4_fraction_22 : decode cX4_fraction 22 = .ok (.irem, 1) := by decide +kernel
theorem dX4_fraction_23 : decode cX4_fraction 23 = .ok (.istore 5, 2) := by decide +kernel
theorem dX4_fraction_25 : decode cX4_fraction 25 = .ok (.iload 4, 2) := by decide +kernel
theorem dX4_fraction_27 : decode cX4_fraction 27 = .ok (.istore_n 3, 1) := by decide +kernel
theorem dX4_fraction_28 : decode cX4_fraction 28 = .ok (.iload 5, 2) := by decide +kernel
theorem dX4_fraction_30 : decode cX4_fraction 30 = .ok (.istore 4, 2) := by decide +kernel
theorem dX4_fraction_32 : decode cX4_fraction 32 = .ok (.goto (-18), 3) := by decide +kernel
theorem dX4_fraction_35 : decode cX4_fraction 35 = .ok (.iload_n 2, 1) := by decide +kernel
theorem dX4_fraction_36 : decode cX4_fraction 36 = .ok (.ifCond .eq 9, 3) := by decide +kernel
theorem dX4_fraction_39 : decode cX4_fraction 39 = .ok (.iload_n 0, 1) := by decide +kernel
theorem dX4_fraction_40 : decode cX4_fraction 40 = .ok (.iload_n 3, 1) := by decide +kernel
theorem dX4_fraction_41 : decode cX4_fraction 41 = .ok (.idiv, 1) := by decide +kernel
theorem dX4_fraction_42 : decode cX4_fraction 42 = .ok (.goto 6, 3) := by decide +kernel
theorem dX4_fraction_45 : decode cX4_fraction 45 = .ok (.iload_n 1, 1) := by decide +kernel
theorem dX4_fraction_46 : decode cX4_fraction 46 = .ok (.iload_n 3, 1) := by decide +kernel
theorem dX4_fraction_47 : decode cX4_fraction 47 = .ok (.idiv, 1) := by decide +kernel
theorem dX4_fraction_48 : decode cX4_fraction 48 = .ok (.ireturn, 1) := by decide +kernel
theorem dX4_sizeOf_0 : decode cX4_sizeOf 0 = .ok (.bipush 32, 2) := by decide +kernel
theorem dX4_sizeOf_2 : decode cX4_sizeOf 2 = .ok (.iload_n 0, 1) := by decide +kernel
theorem dX4_sizeOf_3 : decode cX4_sizeOf 3 = .ok (.ishr, 1) := by decide +kernel
theorem dX4_sizeOf_4 : decode cX4_sizeOf 4 = .ok (.ireturn, 1) := by decide +kernel
theorem dX4_isRange_0 : decode cX4_isRange 0 = .ok (.iload_n 1, 1) := by decide +kernel
theorem dX4_isRange_1 : decode cX4_isRange 1 = .ok (.i2l, 1) := by decide +kernel
theorem dX4_isRange_2 : decode cX4_isRange 2 = .ok (.lconst 0, 1) := by decide +kernel
theorem dX4_isRange_3 : decode cX4_isRange 3 = .ok (.ldc2_w 48, 3) := by decide +kernel
theorem dX4_isRange_6 : decode cX4_isRange 6 = .ok (.invokestatic 50, 3) := by decide +kernel
theorem dX4_isRange_9 : decode cX4_isRange 9 = .ok (.ifCond .eq 28, 3) := by decide +kernel
theorem dX4_isRange_12 : decode cX4_isRange 12 = .ok (.iload_n 0, 1) := by decide +kernel
theorem dX4_isRange_13 : decode cX4_isRange 13 = .ok (.i2l, 1) := by decide +kernel
theorem dX4_isRange_14 : decode cX4_isRange 14 = .ok (.lconst 0, 1) := by decide +kernel
theorem dX4_isRange_15 : decode cX4_isRange 15 = .ok (.ldc2_w 54, 3) := by decide +kernel
theorem dX4_isRange_18 : decode cX4_isRange 18 = .ok (.invokestatic 50, 3) := by decide +kernel
theorem dX4_isRange_21 : decode cX4_isRange 21 = .ok (.ifCond .eq 16, 3) := by decide +kernel
theorem dX4_isRange_24 : decode cX4_isRange 24 = .ok (.iload_n 0, 1) := by decide +kernel
theorem dX4_isRange_25 : decode cX4_isRange 25 = .ok (.iload_n 1, 1) := by decide +kernel
theorem dX4_isRange_26 : decode cX4_isRange 26 = .ok (.invokestatic 56, 3) := by decide +kernel
theorem dX4_isRange_29 : decode cX4_isRange 29 = .ok (.irem, 1) := by decide +kernel
theorem dX4_isRange_30 : decode cX4_isRange 30 = .ok (.ifCond .ne 7, 3) := by decide +kernel
theorem dX4_isRange_33 : decode cX4_isRange 33 = .ok (.iconst 1, 1) := by decide +kernel
theorem dX4_isRange_34 : decode cX4_isRange 34 = .ok (.goto 4, 3) := by decide +kernel
theorem dX4_isRange_37 : decode cX4_isRange 37 = .ok (.iconst 0, 1) := by decide +kernel
theorem dX4_isRange_38 : decode cX4_isRange 38 = .ok (.ireturn, 1) := by decide +kernel
theorem dX4_isWithin_0 : decode cX4_isWithin 0 = .ok (.iload_n 1, 1) := by decide +kernel
theorem dX4_isWithin_1 : decode cX4_isWithin 1 = .ok (.iload_n 3, 1) := by decide +kernel
theorem dX4_isWithin_2 : decode cX4_isWithin 2 = .ok (.if_icmp .lt 22, 3) := by decide +kernel
theorem dX4_isWithin_5 : decode cX4_isWithin 5 = .ok (.iload_n 0, 1) := by decide +kernel
theorem dX4_isWithin_6 : decode cX4_isWithin 6 = .ok (.iload_n 3, 1) := by decide +kernel
theorem dX4_isWithin_7 : decode cX4_isWithin 7 = .ok (.invokestatic 56, 3) := by decide +kernel
theorem dX4_isWithin_10 : decode cX4_isWithin 10 = .ok (.idiv, 1) := by decide +kernel
theorem dX4_isWithin_11 : decode cX4_isWithin 11 = .ok (.iload_n 2, 1) := by decide +kernel
theorem dX4_isWithin_12 : decode cX4_isWithin 12 = .ok (.iload_n 3, 1) := by decide +kernel
theorem dX4_isWithin_13 : decode cX4_isWithin 13 = .ok (.invokestatic 56, 3) := by decide +kernel
theorem dX4_isWithin_16 : decode cX4_isWithin 16 = .ok (.idiv, 1) := by decide +kernel
theorem dX4_isWithin_17 : decode cX4_isWithin 17 = .ok (.if_icmp .ne 7, 3) := by decide +kernel
theorem dX4_isWithin_20 : decode cX4_isWithin 20 = .ok (.iconst 1, 1) := by decide +kernel
theorem dX4_isWithin_21 : decode cX4_isWithin 21 = .ok (.goto 4, 3) := by decide +kernel
theorem dX4_isWithin_24 : decode cX4_isWithin 24 = .ok (.iconst 0, 1) := by decide +kernel
theorem dX4_isWithin_25 : decode cX4_isWithin 25 = .ok (.ireturn, 1) := by decide +kernel
theorem dX4_isOrigin_0 : decode cX4_isOrigin 0 = .ok (.iload_n 0, 1) := by decide +kernel
theorem dX4_isOrigin_1 : decode cX4_isOrigin 1 = .ok (.i2l, 1) := by decide +kernel
theorem dX4_isOrigin_2 : decode cX4_isOrigin 2 = .ok (.lconst 0, 1) := by decide +kernel
theorem dX4_isOrigin_3 : decode cX4_isOrigin 3 = .ok (.ldc2_w 48, 3) := by decide +kernel
theorem dX4_isOrigin_6 : decode cX4_isOrigin 6 = .ok (.invokestatic 50, 3) := by decide +kernel
theorem dX4_isOrigin_9 : decode cX4_isOrigin 9 = .ok (.ireturn, 1) := by decide +kernel
theorem dX4_write_0 : decode cX4_write 0 = .ok (.iload_n 1, 1) := by decide +kernel
theorem dX4_write_1 : decode cX4_write 1 = .ok (.i2l, 1) := by decide +kernel
theorem dX4_write_2 : decode cX4_write 2 = .ok (.lconst 0, 1) := by decide +kernel
theorem dX4_write_3 : decode cX4_write 3 = .ok (.ldc2_w 60, 3) := by decide +kernel
theorem dX4_write_6 : decode cX4_write 6 = .ok (.invokestatic 50, 3) := by decide +kernel
theorem dX4_write_9 : decode cX4_write 9 = .ok (.ifCond .ne 6, 3) := by decide +kernel
theorem dX4_write_12 : decode cX4_write 12 = .ok (.bipush (-2), 2) := by decide +kernel
theorem dX4_write_14 : decode cX4_write 14 = .ok (.ireturn, 1) := by decide +kernel
theorem dX4_write_15 : decode cX4_write 15 = .ok (.aload_n 0, 1) := by decide +kernel
theorem dX4_write_16 : decode cX4_write 16 = .ok (.getfield 62, 3) := by decide +kernel
theorem dX4_write_19 : decode cX4_write 19 = .ok (.bipush 99, 2) := by decide +kernel
theorem dX4_write_21 : decode cX4_write 21 = .ok (.if_icmp .ne 6, 3) := by decide +kernel
theorem dX4_write_24 : decode cX4_write 24 = .ok (.bipush (-4), 2) := by decide +kernel
theorem dX4_write_26 : decode cX4_write 26 = .ok (.ireturn, 1) := by decide +kernel
theorem dX4_write_27 : decode cX4_write 27 = .ok (.aload_n 0, 1) := by decide +kernel
theorem dX4_write_28 : decode cX4_write 28 = .ok (.getfield 7, 3) := by decide +kernel
theorem dX4_write_31 : decode cX4_write 31 = .ok (.aload_n 0, 1) := by decide +kernel
theorem dX4_write_32 : decode cX4_write 32 = .ok (.getfield 62, 3) := by decide +kernel
theorem dX4_write_35 : decode cX4_write 35 = .ok (.iload_n 1, 1) := by decide +kernel
theorem dX4_write_36 : decode cX4_write 36 = .ok (.iastore, 1) := by decide +kernel
theorem dX4_write_37 : decode cX4_write 37 = .ok (.aload_n 0, 1) := by decide +kernel
theorem dX4_write_38 : decode cX4_write 38 = .ok (.dup, 1) := by decide +kernel
theorem dX4_write_39 : decode cX4_write 39 = .ok (.getfield 62, 3) := by decide +kernel
theorem dX4_write_42 : decode cX4_write 42 = .ok (.iconst 1, 1) := by decide +kernel
theorem dX4_write_43 : decode cX4_write 43 = .ok (.iadd, 1) := by decide +kernel
theorem dX4_write_44 : decode cX4_write 44 = .ok (.putfield 62, 3) := by decide +kernel
theorem dX4_write_47 : decode cX4_write 47 = .ok (.aload_n 0, 1) := by decide +kernel
theorem dX4_write_48 : decode cX4_write 48 = .ok (.getfield 62, 3) := by decide +kernel
theorem dX4_write_51 : decode cX4_write 51 = .ok (.ireturn, 1) := by decide +kernel
theorem dX4_wipe_0 : decode cX4_wipe 0 = .ok (.aload_n 0, 1) := by decide +kernel
theorem dX4_wipe_1 : decode cX4_wipe 1 = .ok (.getfield 62, 3) := by decide +kernel
theorem dX4_wipe_4 : decode cX4_wipe 4 = .ok (.istore_n 1, 1) := by decide +kernel
theorem dX4_wipe_5 : decode cX4_wipe 5 = .ok (.aload_n 0, 1) := by decide +kernel
theorem dX4_wipe_6 : decode cX4_wipe 6 = .ok (.iconst 0, 1) := by decide +kernel
theorem dX4_wipe_7 : decode cX4_wipe 7 = .ok (.putfield 62, 3) := by decide +kernel
theorem dX4_wipe_10 : decode cX4_wipe 10 = .ok (.iload_n 1, 1) := by decide +kernel
theorem dX4_wipe_11 : decode cX4_wipe 11 = .ok (.ireturn, 1) := by decide +kernel
theorem dX4_figure_0 : decode cX4_figure 0 = .ok (.aload_n 0, 1) := by decide +kernel
theorem dX4_figure_1 : decode cX4_figure 1 = .ok (.getfield 65, 3) := by decide +kernel
theorem dX4_figure_4 : decode cX4_figure 4 = .ok (.aload_n 0, 1) := by decide +kernel
theorem dX4_figure_5 : decode cX4_figure 5 = .ok (.getfield 62, 3) := by decide +kernel
theorem dX4_figure_8 : decode cX4_figure 8 = .ok (.if_icmp .ge 18, 3) := by decide +kernel
theorem dX4_figure_11 : decode cX4_figure 11 = .ok (.aload_n 0, 1) := by decide +kernel
theorem dX4_figure_12 : decode cX4_figure 12 = .ok (.getfield 7, 3) := by decide +kernel
theorem dX4_figure_15 : decode cX4_figure 15 = .ok (.aload_n 0, 1) := by decide +kernel
theorem dX4_figure_16 : decode cX4_figure 16 = .ok (.getfield 65, 3) := by decide +kernel
theorem dX4_figure_19 : decode cX4_figure 19 = .ok (.iaload, 1) := by decide +kernel
theorem dX4_figure_20 : decode cX4_figure 20 = .ok (.bipush 48, 2) := by decide +kernel
theorem dX4_figure_22 : decode cX4_figure 22 = .ok (.isub, 1) := by decide +kernel
theorem dX4_figure_23 : decode cX4_figure 23 = .ok (.goto 5, 3) := by decide +kernel
theorem dX4_figure_26 : decode cX4_figure 26 = .ok (.bipush (-9), 2) := by decide +kernel
theorem dX4_figure_28 : decode cX4_figure 28 = .ok (.istore_n 3, 1) := by decide +kernel
theorem dX4_figure_29 : decode cX4_figure 29 = .ok (.iload_n 3, 1) := by decide +kernel
theorem dX4_figure_30 : decode cX4_figure 30 = .ok (.i2l, 1) := by decide +kernel
theorem dX4_figure_31 : decode cX4_figure 31 = .ok (.iload_n 1, 1) := by decide +kernel
theorem dX4_figure_32 : decode cX4_figure 32 = .ok (.i2l, 1) := by decide +kernel
theorem dX4_figure_33 : decode cX4_figure 33 = .ok (.iload_n 2, 1) := by decide +kernel
theorem dX4_figure_34 : decode cX4_figure 34 = .ok (.i2l, 1) := by decide +kernel
theorem dX4_figure_35 : decode cX4_figure 35 = .ok (.invokestatic 50, 3) := by decide +kernel
theorem dX4_figure_38 : decode cX4_figure 38 = .ok (.ifCond .ne 6, 3) := by decide +kernel
theorem dX4_figure_41 : decode cX4_figure 41 = .ok (.bipush (-9), 2) := by decide +kernel
theorem dX4_figure_43 : decode cX4_figure 43 = .ok (.ireturn, 1) := by decide +kernel
theorem dX4_figure_44 : decode cX4_figure 44 = .ok (.aload_n 0, 1) := by decide +kernel
theorem dX4_figure_45 : decode cX4_figure 45 = .ok (.dup, 1) := by decide +kernel
theorem dX4_figure_46 : decode cX4_figure 46 = .ok (.getfield 65, 3) := by decide +kernel
theorem dX4_figure_49 : decode cX4_figure 49 = .ok (.iconst 1, 1) := by decide +kernel
theorem dX4_figure_50 : decode cX4_figure 50 = .ok (.iadd, 1) := by decide +kernel
theorem dX4_figure_51 : decode cX4_figure 51 = .ok (.putfield 65, 3) := by decide +kernel
theorem dX4_figure_54 : decode cX4_figure 54 = .ok (.iload_n 3, 1) := by decide +kernel
theorem dX4_figure_55 : decode cX4_figure 55 = .ok (.ireturn, 1) := by decide +kernel
theorem dX4_readRange_0 : decode cX4_readRange 0 = .ok (.aload_n 0, 1) := by decide +kernel
theorem dX4_readRange_1 : decode cX4_readRange 1 = .ok (.iconst 0, 1) := by decide +kernel
theorem dX4_readRange_2 : decode cX4_readRange 2 = .ok (.iconst 3, 1) := by decide +kernel
theorem dX4_readRange_3 : decode cX4_readRange 3 = .ok (.invokevirtual 68, 3) := by decide +kernel
theorem dX4_readRange_6 : decode cX4_readRange 6 = .ok (.istore_n 1, 1) := by decide +kernel
theorem dX4_readRange_7 : decode cX4_readRange 7 = .ok (.iload_n 1, 1) := by decide +kernel
theorem dX4_readRange_8 : decode cX4_readRange 8 = .ok (.bipush (-9), 2) := by decide +kernel
theorem dX4_readRange_10 : decode cX4_readRange 10 = .ok (.if_icmp .ne 8, 3) := by decide +kernel
theorem dX4_readRange_13 : decode cX4_readRange 13 = .ok (.bipush (-9), 2) := by decide +kernel
theorem dX4_readRange_15 : decode cX4_readRange 15 = .ok (.goto 19, 3) := by decide +kernel
theorem dX4_readRange_18 : decode cX4_readRange 18 = .ok (.aload_n 0, 1) := by decide +kernel
theorem dX4_readRange_19 : decode cX4_readRange 19 = .ok (.iconst 0, 1) := by decide +kernel
theorem dX4_readRange_20 : decode cX4_readRange 20 = .ok (.iload_n 1, 1) := by decide +kernel
theorem dX4_readRange_21 : decode cX4_readRange 21 = .ok (.iconst 3, 1) := by decide +kernel
theorem dX4_readRange_22 : decode cX4_readRange 22 = .ok (.if_icmp .ne 7, 3) := by decide +kernel
theorem dX4_readRange_25 : decode cX4_readRange 25 = .ok (.iconst 1, 1) := by decide +kernel
theorem dX4_readRange_26 : decode cX4_readRange 26 = .ok (.goto 5, 3) := by decide +kernel
theorem dX4_readRange_29 : decode cX4_readRange 29 = .ok (.bipush 9, 2) := by decide +kernel
theorem dX4_readRange_31 : decode cX4_readRange 31 = .ok (.invokevirtual 68, 3) := by decide +kernel
theorem dX4_readRange_34 : decode cX4_readRange 34 = .ok (.istore_n 2, 1) := by decide +kernel
theorem dX4_readRange_35 : decode cX4_readRange 35 = .ok (.iload_n 2, 1) := by decide +kernel
theorem dX4_readRange_36 : decode cX4_readRange 36 = .ok (.bipush (-9), 2) := by decide +kernel
theorem dX4_readRange_38 : decode cX4_readRange 38 = .ok (.if_icmp .ne 5, 3) := by decide +kernel
theorem dX4_readRange_41 : decode cX4_readRange 41 = .ok (.iconst 0, 1) := by decide +kernel
theorem dX4_readRange_42 : decode cX4_readRange 42 = .ok (.ireturn, 1) := by decide +kernel
theorem dX4_readRange_43 : decode cX4_readRange 43 = .ok (.aload_n 0, 1) := by decide +kernel
theorem dX4_readRange_44 : decode cX4_readRange 44 = .ok (.bipush 10, 2) := by decide +kernel
theorem dX4_readRange_46 : decode cX4_readRange 46 = .ok (.iload_n 1, 1) := by decide +kernel
theorem dX4_readRange_47 : decode cX4_readRange 47 = .ok (.imul, 1) := by decide +kernel
theorem dX4_readRange_48 : decode cX4_readRange 48 = .ok (.iload_n 2, 1) := by decide +kernel
theorem dX4_readRange_49 : decode cX4_readRange 49 = .ok (.iadd, 1) := by decide +kernel
theorem dX4_readRange_50 : decode cX4_readRange 50 = .ok (.putfield 72, 3) := by decide +kernel
theorem dX4_readRange_53 : decode cX4_readRange 53 = .ok (.aload_n 0, 1) := by decide +kernel
theorem dX4_readRange_54 : decode cX4_readRange 54 = .ok (.getfield 65, 3) := by decide +kernel
theorem dX4_readRange_57 : decode cX4_readRange 57 = .ok (.aload_n 0, 1) := by decide +kernel
theorem dX4_readRange_58 : decode cX4_readRange 58 = .ok (.getfield 62, 3) := by decide +kernel
theorem dX4_readRange_61 : decode cX4_readRange 61 = .ok (.if_icmp .ge 18, 3) := by decide +kernel
theorem dX4_readRange_64 : decode cX4_readRange 64 = .ok (.aload_n 0, 1) := by decide +kernel
theorem dX4_readRange_65 : decode cX4_readRange 65 = .ok (.getfield 7, 3) := by decide +kernel
theorem dX4_readRange_68 : decode cX4_readRange 68 = .ok (.aload_n 0, 1) := by decide +kernel
theorem dX4_readRange_69 : decode cX4_readRange 69 = .ok (.getfield 65, 3) := by decide +kernel
theorem dX4_readRange_72 : decode cX4_readRange 72 = .ok (.iaload, 1) := by decide +kernel
theorem dX4_readRange_73 : decode cX4_readRange 73 = .ok (.bipush 48, 2) := by decide +kernel
theorem dX4_readRange_75 : decode cX4_readRange 75 = .ok (.isub, 1) := by decide +kernel
theorem dX4_readRange_76 : decode cX4_readRange 76 = .ok (.goto 5, 3) := by decide +kernel
theorem dX4_readRange_79 : decode cX4_readRange 79 = .ok (.bipush (-9), 2) := by decide +kernel
theorem dX4_readRange_81 : decode cX4_readRange 81 = .ok (.istore_n 3, 1) := by decide +kernel
theorem dX4_readRange_82 : decode cX4_readRange 82 = .ok (.aload_n 0, 1) := by decide +kernel
theorem dX4_readRange_83 : decode cX4_readRange 83 = .ok (.getfield 72, 3) := by decide +kernel
theorem dX4_readRange_86 : decode cX4_readRange 86 = .ok (.iload_n 3, 1) := by decide +kernel
theorem dX4_readRange_87 : decode cX4_readRange 87 = .ok (.invokestatic 75, 3) := by decide +kernel
theorem dX4_readRange_90 : decode cX4_readRange 90 = .ok (.ifCond .ne 5, 3) := by decide +kernel
theorem dX4_readRange_93 : decode cX4_readRange 93 = .ok (.iconst 0, 1) := by decide +kernel
theorem dX4_readRange_94 : decode cX4_readRange 94 = .ok (.ireturn, 1) := by decide +kernel
theorem dX4_readRange_95 : decode cX4_readRange 95 = .ok (.aload_n 0, 1) := by decide +kernel
theorem dX4_readRange_96 : decode cX4_readRange 96 = .ok (.iload_n 3, 1) := by decide +kernel
theorem dX4_readRange_97 : decode cX4_readRange 97 = .ok (.putfield 79, 3) := by decide +kernel
theorem dX4_readRange_100 : decode cX4_readRange 100 = .ok (.aload_n 0, 1) := by decide +kernel
theorem dX4_readRange_101 : decode cX4_readRange 101 = .ok (.dup, 1) := by decide +kernel
theorem dX4_readRange_102 : decode cX4_readRange 102 = .ok (.getfield 65, 3) := by decide +kernel
theorem dX4_readRange_105 : decode cX4_readRange 105 = .ok (.iconst 1, 1) := by decide +kernel
theorem dX4_readRange_106 : decode cX4_readRange 106 = .ok (.iadd, 1) := by decide +kernel
theorem dX4_readRange_107 : decode cX4_readRange 107 = .ok (.putfield 65, 3) := by decide +kernel
theorem dX4_readRange_110 : decode cX4_readRange 110 = .ok (.iconst 1, 1) := by decide +kernel
theorem dX4_readRange_111 : decode cX4_readRange 111 = .ok (.ireturn, 1) := by decide +kernel
theorem dX4_readOnePaper_0 : decode cX4_readOnePaper 0 = .ok (.aload_n 0, 1) := by decide +kernel
theorem dX4_readOnePaper_1 : decode cX4_readOnePaper 1 = .ok (.iconst 0, 1) := by decide +kernel
theorem dX4_readOnePaper_2 : decode cX4_readOnePaper 2 = .ok (.aload_n 0, 1) := by decide +kernel
theorem dX4_readOnePaper_3 : decode cX4_readOnePaper 3 = .ok (.getfield 82, 3) := by decide +kernel
theorem dX4_readOnePaper_6 : decode cX4_readOnePaper 6 = .ok (.iconst 1, 1) := by decide +kernel
theorem dX4_readOnePaper_7 : decode cX4_readOnePaper 7 = .ok (.isub, 1) := by decide +kernel
theorem dX4_readOnePaper_8 : decode cX4_readOnePaper 8 = .ok (.invokevirtual 68, 3) := by decide +kernel
theorem dX4_readOnePaper_11 : decode cX4_readOnePaper 11 = .ok (.istore_n 1, 1) := by decide +kernel
theorem dX4_readOnePaper_12 : decode cX4_readOnePaper 12 = .ok (.iload_n 1, 1) := by decide +kernel
theorem dX4_readOnePaper_13 : decode cX4_readOnePaper 13 = .ok (.bipush (-9), 2) := by decide +kernel
theorem dX4_readOnePaper_15 : decode cX4_readOnePaper 15 = .ok (.if_icmp .eq 10, 3) := by decide +kernel
theorem dX4_readOnePaper_18 : decode cX4_readOnePaper 18 = .ok (.aload_n 0, 1) := by decide +kernel
theorem dX4_readOnePaper_19 : decode cX4_readOnePaper 19 = .ok (.invokevirtual 85, 3) := by decide +kernel
theorem dX4_readOnePaper_22 : decode cX4_readOnePaper 22 = .ok (.ifCond .ne 5, 3) := by decide +kernel
theorem dX4_readOnePaper_25 : decode cX4_readOnePaper 25 = .ok (.iconst 0, 1) := by decide +kernel
theorem dX4_readOnePaper_26 : decode cX4_readOnePaper 26 = .ok (.ireturn, 1) := by decide +kernel
theorem dX4_readOnePaper_27 : decode cX4_readOnePaper 27 = .ok (.aload_n 0, 1) := by decide +kernel
theorem dX4_readOnePaper_28 : decode cX4_readOnePaper 28 = .ok (.iconst 0, 1) := by decide +kernel
theorem dX4_readOnePaper_29 : decode cX4_readOnePaper 29 = .ok (.bipush 9, 2) := by decide +kernel
theorem dX4_readOnePaper_31 : decode cX4_readOnePaper 31 = .ok (.invokevirtual 68, 3) := by decide +kernel
theorem dX4_readOnePaper_34 : decode cX4_readOnePaper 34 = .ok (.istore_n 2, 1) := by decide +kernel
theorem dX4_readOnePaper_35 : decode cX4_readOnePaper 35 = .ok (.iload_n 2, 1) := by decide +kernel
theorem dX4_readOnePaper_36 : decode cX4_readOnePaper 36 = .ok (.bipush (-9), 2) := by decide +kernel
theorem dX4_readOnePaper_38 : decode cX4_readOnePaper 38 = .ok (.if_icmp .ne 5, 3) := by decide +kernel
theorem dX4_readOnePaper_41 : decode cX4_readOnePaper 41 = .ok (.iconst 0, 1) := by decide +kernel
theorem dX4_readOnePaper_42 : decode cX4_readOnePaper 42 = .ok (.ireturn, 1) := by decide +kernel
theorem dX4_readOnePaper_43 : decode cX4_readOnePaper 43 = .ok (.iconst 4, 1) := by decide +kernel
theorem dX4_readOnePaper_44 : decode cX4_readOnePaper 44 = .ok (.aload_n 0, 1) := by decide +kernel
theorem dX4_readOnePaper_45 : decode cX4_readOnePaper 45 = .ok (.getfield 82, 3) := by decide +kernel
theorem dX4_readOnePaper_48 : decode cX4_readOnePaper 48 = .ok (.imul, 1) := by decide +kernel
theorem dX4_readOnePaper_49 : decode cX4_readOnePaper 49 = .ok (.istore_n 3, 1) := by decide +kernel
theorem dX4_readOnePaper_50 : decode cX4_readOnePaper 50 = .ok (.aload_n 0, 1) := by decide +kernel
theorem dX4_readOnePaper_51 : decode cX4_readOnePaper 51 = .ok (.getfield 38, 3) := by decide +kernel
theorem dX4_readOnePaper_54 : decode cX4_readOnePaper 54 = .ok (.iload_n 3, 1) := by decide +kernel
theorem dX4_readOnePaper_55 : decode cX4_readOnePaper 55 = .ok (.iload_n 1, 1) := by decide +kernel
theorem dX4_readOnePaper_56 : decode cX4_readOnePaper 56 = .ok (.iastore, 1) := by decide +kernel
theorem dX4_readOnePaper_57 : decode cX4_readOnePaper 57 = .ok (.aload_n 0, 1) := by decide +kernel
theorem dX4_readOnePaper_58 : decode cX4_readOnePaper 58 = .ok (.getfield 38, 3) := by decide +kernel
theorem dX4_readOnePaper_61 : decode cX4_readOnePaper 61 = .ok (.iload_n 3, 1) := by decide +kernel
theorem dX4_readOnePaper_62 : decode cX4_readOnePaper 62 = .ok (.iconst 1, 1) := by decide +kernel
theorem dX4_readOnePaper_63 : decode cX4_readOnePaper 63 = .ok (.iadd, 1) := by decide +kernel
theorem dX4_readOnePaper_64 : decode cX4_readOnePaper 64 = .ok (.aload_n 0, 1) := by decide +kernel
theorem dX4_readOnePaper_65 : decode cX4_readOnePaper 65 = .ok (.getfield 72, 3) := by decide +kernel
theorem dX4_readOnePaper_68 : decode cX4_readOnePaper 68 = .ok (.iastore, 1) := by decide +kernel
theorem dX4_readOnePaper_69 : decode cX4_readOnePaper 69 = .ok (.aload_n 0, 1) := by decide +kernel
theorem dX4_readOnePaper_70 : decode cX4_readOnePaper 70 = .ok (.getfield 38, 3) := by decide +kernel
theorem dX4_readOnePaper_73 : decode cX4_readOnePaper 73 = .ok (.iload_n 3, 1) := by decide +kernel
theorem dX4_readOnePaper_74 : decode cX4_readOnePaper 74 = .ok (.iconst 2, 1) := by decide +kernel
theorem dX4_readOnePaper_75 : decode cX4_readOnePaper 75 = .ok (.iadd, 1) := by decide +kernel
theorem dX4_readOnePaper_76 : decode cX4_readOnePaper 76 = .ok (.aload_n 0, 1) := by decide +kernel
theorem dX4_readOnePaper_77 : decode cX4_readOnePaper 77 = .ok (.getfield 79, 3) := by decide +kernel
theorem dX4_readOnePaper_80 : decode cX4_readOnePaper 80 = .ok (.iastore, 1) := by decide +kernel
theorem dX4_readOnePaper_81 : decode cX4_readOnePaper 81 = .ok (.aload_n 0, 1) := by decide +kernel
theorem dX4_readOnePaper_82 : decode cX4_readOnePaper 82 = .ok (.getfield 38, 3) := by decide +kernel
theorem dX4_readOnePaper_85 : decode cX4_readOnePaper 85 = .ok (.iload_n 3, 1) := by decide +kernel
theorem dX4_readOnePaper_86 : decode cX4_readOnePaper 86 = .ok (.iconst 3, 1) := by decide +kernel
theorem dX4_readOnePaper_87 : decode cX4_readOnePaper 87 = .ok (.iadd, 1) := by decide +kernel
theorem dX4_readOnePaper_88 : decode cX4_readOnePaper 88 = .ok (.iload_n 2, 1) := by decide +kernel
theorem dX4_readOnePaper_89 : decode cX4_readOnePaper 89 = .ok (.iastore, 1) := by decide +kernel
theorem dX4_readOnePaper_90 : decode cX4_readOnePaper 90 = .ok (.aload_n 0, 1) := by decide +kernel
theorem dX4_readOnePaper_91 : decode cX4_readOnePaper 91 = .ok (.dup, 1) := by decide +kernel
theorem dX4_readOnePaper_92 : decode cX4_readOnePaper 92 = .ok (.getfield 82, 3) := by decide +kernel
theorem dX4_readOnePaper_95 : decode cX4_readOnePaper 95 = .ok (.iconst 1, 1) := by decide +kernel
theorem dX4_readOnePaper_96 : decode cX4_readOnePaper 96 = .ok (.iadd, 1) := by decide +kernel
theorem dX4_readOnePaper_97 : decode cX4_readOnePaper 97 = .ok (.putfield 82, 3) := by decide +kernel
theorem dX4_readOnePaper_100 : decode cX4_readOnePaper 100 = .ok (.iconst 1, 1) := by decide +kernel
theorem dX4_readOnePaper_101 : decode cX4_readOnePaper 101 = .ok (.ireturn, 1) := by decide +kernel
theorem dX4_readOneGrant_0 : decode cX4_readOneGrant 0 = .ok (.aload_n 0, 1) := by decide +kernel
theorem dX4_readOneGrant_1 : decode cX4_readOneGrant 1 = .ok (.getfield 65, 3) := by decide +kernel
theorem dX4_readOneGrant_4 : decode cX4_readOneGrant 4 = .ok (.aload_n 0, 1) := by decide +kernel
end
section
theorem dX4_readOneGrant_5 : decode cX4_readOneGrant 5 = .ok (.getfield 62, 3) := by decide +kernel
theorem dX4_readOneGrant_8 : decode cX4_readOneGrant 8 = .ok (.if_icmp .ge 28, 3) := by decide +kernel
theorem dX4_readOneGrant_11 : decode cX4_readOneGrant 11 = .ok (.aload_n 0, 1) := by decide +kernel
theorem dX4_readOneGrant_12 : decode cX4_readOneGrant 12 = .ok (.getfield 7, 3) := by decide +kernel
theorem dX4_readOneGrant_15 : decode cX4_readOneGrant 15 = .ok (.aload_n 0, 1) := by decide +kernel
theorem dX4_readOneGrant_16 : decode cX4_readOneGrant 16 = .ok (.getfield 65, 3) := by decide +kernel
theorem dX4_readOneGrant_19 : decode cX4_readOneGrant 19 = .ok (.iaload, 1) := by decide +kernel
theorem dX4_readOneGrant_20 : decode cX4_readOneGrant 20 = .ok (.bipush 57, 2) := by decide +kernel
theorem dX4_readOneGrant_22 : decode cX4_readOneGrant 22 = .ok (.if_icmp .ne 14, 3) := by decide +kernel
theorem dX4_readOneGrant_25 : decode cX4_readOneGrant 25 = .ok (.aload_n 0, 1) := by decide +kernel
theorem dX4_readOneGrant_26 : decode cX4_readOneGrant 26 = .ok (.bipush 9, 2) := by decide +kernel
theorem dX4_readOneGrant_28 : decode cX4_readOneGrant 28 = .ok (.bipush 9, 2) := by decide +kernel
theorem dX4_readOneGrant_30 : decode cX4_readOneGrant 30 = .ok (.invokevirtual 68, 3) := by decide +kernel
theorem dX4_readOneGrant_33 : decode cX4_readOneGrant 33 = .ok (.goto 14, 3) := by decide +kernel
theorem dX4_readOneGrant_36 : decode cX4_readOneGrant 36 = .ok (.aload_n 0, 1) := by decide +kernel
theorem dX4_readOneGrant_37 : decode cX4_readOneGrant 37 = .ok (.iconst 0, 1) := by decide +kernel
theorem dX4_readOneGrant_38 : decode cX4_readOneGrant 38 = .ok (.aload_n 0, 1) := by decide +kernel
theorem dX4_readOneGrant_39 : decode cX4_readOneGrant 39 = .ok (.getfield 82, 3) := by decide +kernel
theorem dX4_readOneGrant_42 : decode cX4_readOneGrant 42 = .ok (.iconst 1, 1) := by decide +kernel
theorem dX4_readOneGrant_43 : decode cX4_readOneGrant 43 = .ok (.isub, 1) := by decide +kernel
theorem dX4_readOneGrant_44 : decode cX4_readOneGrant 44 = .ok (.invokevirtual 68, 3) := by decide +kernel
theorem dX4_readOneGrant_47 : decode cX4_readOneGrant 47 = .ok (.istore_n 1, 1) := by decide +kernel
theorem dX4_readOneGrant_48 : decode cX4_readOneGrant 48 = .ok (.iload_n 1, 1) := by decide +kernel
theorem dX4_readOneGrant_49 : decode cX4_readOneGrant 49 = .ok (.bipush (-9), 2) := by decide +kernel
theorem dX4_readOneGrant_51 : decode cX4_readOneGrant 51 = .ok (.if_icmp .ne 8, 3) := by decide +kernel
theorem dX4_readOneGrant_54 : decode cX4_readOneGrant 54 = .ok (.bipush (-9), 2) := by decide +kernel
theorem dX4_readOneGrant_56 : decode cX4_readOneGrant 56 = .ok (.goto 9, 3) := by decide +kernel
theorem dX4_readOneGrant_59 : decode cX4_readOneGrant 59 = .ok (.aload_n 0, 1) := by decide +kernel
theorem dX4_readOneGrant_60 : decode cX4_readOneGrant 60 = .ok (.iconst 0, 1) := by decide +kernel
theorem dX4_readOneGrant_61 : decode cX4_readOneGrant 61 = .ok (.iconst 5, 1) := by decide +kernel
theorem dX4_readOneGrant_62 : decode cX4_readOneGrant 62 = .ok (.invokevirtual 68, 3) := by decide +kernel
theorem dX4_readOneGrant_65 : decode cX4_readOneGrant 65 = .ok (.istore_n 2, 1) := by decide +kernel
theorem dX4_readOneGrant_66 : decode cX4_readOneGrant 66 = .ok (.iload_n 2, 1) := by decide +kernel
theorem dX4_readOneGrant_67 : decode cX4_readOneGrant 67 = .ok (.bipush (-9), 2) := by decide +kernel
theorem dX4_readOneGrant_69 : decode cX4_readOneGrant 69 = .ok (.if_icmp .eq 10, 3) := by decide +kernel
theorem dX4_readOneGrant_72 : decode cX4_readOneGrant 72 = .ok (.aload_n 0, 1) := by decide +kernel
theorem dX4_readOneGrant_73 : decode cX4_readOneGrant 73 = .ok (.invokevirtual 85, 3) := by decide +kernel
theorem dX4_readOneGrant_76 : decode cX4_readOneGrant 76 = .ok (.ifCond .ne 5, 3) := by decide +kernel
theorem dX4_readOneGrant_79 : decode cX4_readOneGrant 79 = .ok (.iconst 0, 1) := by decide +kernel
theorem dX4_readOneGrant_80 : decode cX4_readOneGrant 80 = .ok (.ireturn, 1) := by decide +kernel
theorem dX4_readOneGrant_81 : decode cX4_readOneGrant 81 = .ok (.aload_n 0, 1) := by decide +kernel
theorem dX4_readOneGrant_82 : decode cX4_readOneGrant 82 = .ok (.aload_n 0, 1) := by decide +kernel
theorem dX4_readOneGrant_83 : decode cX4_readOneGrant 83 = .ok (.getfield 79, 3) := by decide +kernel
theorem dX4_readOneGrant_86 : decode cX4_readOneGrant 86 = .ok (.iconst 5, 1) := by decide +kernel
theorem dX4_readOneGrant_87 : decode cX4_readOneGrant 87 = .ok (.invokevirtual 68, 3) := by decide +kernel
theorem dX4_readOneGrant_90 : decode cX4_readOneGrant 90 = .ok (.istore_n 3, 1) := by decide +kernel
theorem dX4_readOneGrant_91 : decode cX4_readOneGrant 91 = .ok (.iload_n 3, 1) := by decide +kernel
theorem dX4_readOneGrant_92 : decode cX4_readOneGrant 92 = .ok (.bipush (-9), 2) := by decide +kernel
theorem dX4_readOneGrant_94 : decode cX4_readOneGrant 94 = .ok (.if_icmp .ne 5, 3) := by decide +kernel
theorem dX4_readOneGrant_97 : decode cX4_readOneGrant 97 = .ok (.iconst 0, 1) := by decide +kernel
theorem dX4_readOneGrant_98 : decode cX4_readOneGrant 98 = .ok (.ireturn, 1) := by decide +kernel
theorem dX4_readOneGrant_99 : decode cX4_readOneGrant 99 = .ok (.aload_n 0, 1) := by decide +kernel
theorem dX4_readOneGrant_100 : decode cX4_readOneGrant 100 = .ok (.getfield 41, 3) := by decide +kernel
theorem dX4_readOneGrant_103 : decode cX4_readOneGrant 103 = .ok (.iload_n 1, 1) := by decide +kernel
theorem dX4_readOneGrant_104 : decode cX4_readOneGrant 104 = .ok (.iload_n 2, 1) := by decide +kernel
theorem dX4_readOneGrant_105 : decode cX4_readOneGrant 105 = .ok (.aload_n 0, 1) := by decide +kernel
theorem dX4_readOneGrant_106 : decode cX4_readOneGrant 106 = .ok (.getfield 72, 3) := by decide +kernel
theorem dX4_readOneGrant_109 : decode cX4_readOneGrant 109 = .ok (.aload_n 0, 1) := by decide +kernel
theorem dX4_readOneGrant_110 : decode cX4_readOneGrant 110 = .ok (.getfield 79, 3) := by decide +kernel
theorem dX4_readOneGrant_113 : decode cX4_readOneGrant 113 = .ok (.iload_n 3, 1) := by decide +kernel
theorem dX4_readOneGrant_114 : decode cX4_readOneGrant 114 = .ok (.invokestatic 89, 3) := by decide +kernel
theorem dX4_readOneGrant_117 : decode cX4_readOneGrant 117 = .ok (.iconst 1, 1) := by decide +kernel
theorem dX4_readOneGrant_118 : decode cX4_readOneGrant 118 = .ok (.ireturn, 1) := by decide +kernel
theorem dX4_readOneRoute_0 : decode cX4_readOneRoute 0 = .ok (.aload_n 0, 1) := by decide +kernel
theorem dX4_readOneRoute_1 : decode cX4_readOneRoute 1 = .ok (.invokevirtual 85, 3) := by decide +kernel
theorem dX4_readOneRoute_4 : decode cX4_readOneRoute 4 = .ok (.ifCond .ne 5, 3) := by decide +kernel
theorem dX4_readOneRoute_7 : decode cX4_readOneRoute 7 = .ok (.iconst 0, 1) := by decide +kernel
theorem dX4_readOneRoute_8 : decode cX4_readOneRoute 8 = .ok (.ireturn, 1) := by decide +kernel
theorem dX4_readOneRoute_9 : decode cX4_readOneRoute 9 = .ok (.aload_n 0, 1) := by decide +kernel
theorem dX4_readOneRoute_10 : decode cX4_readOneRoute 10 = .ok (.iconst 0, 1) := by decide +kernel
theorem dX4_readOneRoute_11 : decode cX4_readOneRoute 11 = .ok (.iconst 5, 1) := by decide +kernel
theorem dX4_readOneRoute_12 : decode cX4_readOneRoute 12 = .ok (.invokevirtual 68, 3) := by decide +kernel
theorem dX4_readOneRoute_15 : decode cX4_readOneRoute 15 = .ok (.istore_n 1, 1) := by decide +kernel
theorem dX4_readOneRoute_16 : decode cX4_readOneRoute 16 = .ok (.iload_n 1, 1) := by decide +kernel
theorem dX4_readOneRoute_17 : decode cX4_readOneRoute 17 = .ok (.bipush (-9), 2) := by decide +kernel
theorem dX4_readOneRoute_19 : decode cX4_readOneRoute 19 = .ok (.if_icmp .ne 5, 3) := by decide +kernel
theorem dX4_readOneRoute_22 : decode cX4_readOneRoute 22 = .ok (.iconst 0, 1) := by decide +kernel
theorem dX4_readOneRoute_23 : decode cX4_readOneRoute 23 = .ok (.ireturn, 1) := by decide +kernel
theorem dX4_readOneRoute_24 : decode cX4_readOneRoute 24 = .ok (.aload_n 0, 1) := by decide +kernel
theorem dX4_readOneRoute_25 : decode cX4_readOneRoute 25 = .ok (.getfield 41, 3) := by decide +kernel
theorem dX4_readOneRoute_28 : decode cX4_readOneRoute 28 = .ok (.aload_n 0, 1) := by decide +kernel
theorem dX4_readOneRoute_29 : decode cX4_readOneRoute 29 = .ok (.getfield 72, 3) := by decide +kernel
theorem dX4_readOneRoute_32 : decode cX4_readOneRoute 32 = .ok (.aload_n 0, 1) := by decide +kernel
theorem dX4_readOneRoute_33 : decode cX4_readOneRoute 33 = .ok (.getfield 79, 3) := by decide +kernel
theorem dX4_readOneRoute_36 : decode cX4_readOneRoute 36 = .ok (.iload_n 1, 1) := by decide +kernel
theorem dX4_readOneRoute_37 : decode cX4_readOneRoute 37 = .ok (.invokestatic 93, 3) := by decide +kernel
theorem dX4_readOneRoute_40 : decode cX4_readOneRoute 40 = .ok (.iconst 1, 1) := by decide +kernel
theorem dX4_readOneRoute_41 : decode cX4_readOneRoute 41 = .ok (.ireturn, 1) := by decide +kernel
theorem dX4_readPart_0 : decode cX4_readPart 0 = .ok (.aload_n 0, 1) := by decide +kernel
theorem dX4_readPart_1 : decode cX4_readPart 1 = .ok (.getfield 7, 3) := by decide +kernel
theorem dX4_readPart_4 : decode cX4_readPart 4 = .ok (.aload_n 0, 1) := by decide +kernel
theorem dX4_readPart_5 : decode cX4_readPart 5 = .ok (.getfield 65, 3) := by decide +kernel
theorem dX4_readPart_8 : decode cX4_readPart 8 = .ok (.iaload, 1) := by decide +kernel
theorem dX4_readPart_9 : decode cX4_readPart 9 = .ok (.istore_n 1, 1) := by decide +kernel
theorem dX4_readPart_10 : decode cX4_readPart 10 = .ok (.iload_n 1, 1) := by decide +kernel
theorem dX4_readPart_11 : decode cX4_readPart 11 = .ok (.bipush 112, 2) := by decide +kernel
theorem dX4_readPart_13 : decode cX4_readPart 13 = .ok (.if_icmp .ne 12, 3) := by decide +kernel
theorem dX4_readPart_16 : decode cX4_readPart 16 = .ok (.aload_n 0, 1) := by decide +kernel
theorem dX4_readPart_17 : decode cX4_readPart 17 = .ok (.getfield 82, 3) := by decide +kernel
theorem dX4_readPart_20 : decode cX4_readPart 20 = .ok (.bipush 6, 2) := by decide +kernel
theorem dX4_readPart_22 : decode cX4_readPart 22 = .ok (.if_icmp .lt 38, 3) := by decide +kernel
theorem dX4_readPart_25 : decode cX4_readPart 25 = .ok (.iload_n 1, 1) := by decide +kernel
theorem dX4_readPart_26 : decode cX4_readPart 26 = .ok (.bipush 103, 2) := by decide +kernel
theorem dX4_readPart_28 : decode cX4_readPart 28 = .ok (.if_icmp .ne 14, 3) := by decide +kernel
theorem dX4_readPart_31 : decode cX4_readPart 31 = .ok (.aload_n 0, 1) := by decide +kernel
theorem dX4_readPart_32 : decode cX4_readPart 32 = .ok (.getfield 41, 3) := by decide +kernel
theorem dX4_readPart_35 : decode cX4_readPart 35 = .ok (.iconst 0, 1) := by decide +kernel
theorem dX4_readPart_36 : decode cX4_readPart 36 = .ok (.iaload, 1) := by decide +kernel
theorem dX4_readPart_37 : decode cX4_readPart 37 = .ok (.bipush 8, 2) := by decide +kernel
theorem dX4_readPart_39 : decode cX4_readPart 39 = .ok (.if_icmp .lt 21, 3) := by decide +kernel
theorem dX4_readPart_42 : decode cX4_readPart 42 = .ok (.iload_n 1, 1) := by decide +kernel
theorem dX4_readPart_43 : decode cX4_readPart 43 = .ok (.bipush 114, 2) := by decide +kernel
theorem dX4_readPart_45 : decode cX4_readPart 45 = .ok (.if_icmp .ne 19, 3) := by decide +kernel
theorem dX4_readPart_48 : decode cX4_readPart 48 = .ok (.aload_n 0, 1) := by decide +kernel
theorem dX4_readPart_49 : decode cX4_readPart 49 = .ok (.getfield 41, 3) := by decide +kernel
theorem dX4_readPart_52 : decode cX4_readPart 52 = .ok (.bipush 41, 2) := by decide +kernel
theorem dX4_readPart_54 : decode cX4_readPart 54 = .ok (.iaload, 1) := by decide +kernel
theorem dX4_readPart_55 : decode cX4_readPart 55 = .ok (.bipush 6, 2) := by decide +kernel
theorem dX4_readPart_57 : decode cX4_readPart 57 = .ok (.if_icmp .ge 7, 3) := by decide +kernel
theorem dX4_readPart_60 : decode cX4_readPart 60 = .ok (.iconst 1, 1) := by decide +kernel
theorem dX4_readPart_61 : decode cX4_readPart 61 = .ok (.goto 4, 3) := by decide +kernel
theorem dX4_readPart_64 : decode cX4_readPart 64 = .ok (.iconst 0, 1) := by decide +kernel
theorem dX4_readPart_65 : decode cX4_readPart 65 = .ok (.istore_n 2, 1) := by decide +kernel
theorem dX4_readPart_66 : decode cX4_readPart 66 = .ok (.iload_n 2, 1) := by decide +kernel
theorem dX4_readPart_67 : decode cX4_readPart 67 = .ok (.ifCond .ne 5, 3) := by decide +kernel
theorem dX4_readPart_70 : decode cX4_readPart 70 = .ok (.iconst 0, 1) := by decide +kernel
theorem dX4_readPart_71 : decode cX4_readPart 71 = .ok (.ireturn, 1) := by decide +kernel
theorem dX4_readPart_72 : decode cX4_readPart 72 = .ok (.aload_n 0, 1) := by decide +kernel
theorem dX4_readPart_73 : decode cX4_readPart 73 = .ok (.dup, 1) := by decide +kernel
theorem dX4_readPart_74 : decode cX4_readPart 74 = .ok (.getfield 65, 3) := by decide +kernel
theorem dX4_readPart_77 : decode cX4_readPart 77 = .ok (.iconst 1, 1) := by decide +kernel
theorem dX4_readPart_78 : decode cX4_readPart 78 = .ok (.iadd, 1) := by decide +kernel
theorem dX4_readPart_79 : decode cX4_readPart 79 = .ok (.putfield 65, 3) := by decide +kernel
theorem dX4_readPart_82 : decode cX4_readPart 82 = .ok (.iload_n 1, 1) := by decide +kernel
theorem dX4_readPart_83 : decode cX4_readPart 83 = .ok (.bipush 112, 2) := by decide +kernel
theorem dX4_readPart_85 : decode cX4_readPart 85 = .ok (.if_icmp .ne 10, 3) := by decide +kernel
theorem dX4_readPart_88 : decode cX4_readPart 88 = .ok (.aload_n 0, 1) := by decide +kernel
theorem dX4_readPart_89 : decode cX4_readPart 89 = .ok (.invokevirtual 97, 3) := by decide +kernel
theorem dX4_readPart_92 : decode cX4_readPart 92 = .ok (.goto 20, 3) := by decide +kernel
theorem dX4_readPart_95 : decode cX4_readPart 95 = .ok (.iload_n 1, 1) := by decide +kernel
theorem dX4_readPart_96 : decode cX4_readPart 96 = .ok (.bipush 103, 2) := by decide +kernel
theorem dX4_readPart_98 : decode cX4_readPart 98 = .ok (.if_icmp .ne 10, 3) := by decide +kernel
theorem dX4_readPart_101 : decode cX4_readPart 101 = .ok (.aload_n 0, 1) := by decide +kernel
theorem dX4_readPart_102 : decode cX4_readPart 102 = .ok (.invokevirtual 100, 3) := by decide +kernel
theorem dX4_readPart_105 : decode cX4_readPart 105 = .ok (.goto 7, 3) := by decide +kernel
theorem dX4_readPart_108 : decode cX4_readPart 108 = .ok (.aload_n 0, 1) := by decide +kernel
theorem dX4_readPart_109 : decode cX4_readPart 109 = .ok (.invokevirtual 103, 3) := by decide +kernel
theorem dX4_readPart_112 : decode cX4_readPart 112 = .ok (.ireturn, 1) := by decide +kernel
theorem dX4_readText_0 : decode cX4_readText 0 = .ok (.aload_n 0, 1) := by decide +kernel
theorem dX4_readText_1 : decode cX4_readText 1 = .ok (.iconst 1, 1) := by decide +kernel
theorem dX4_readText_2 : decode cX4_readText 2 = .ok (.putfield 82, 3) := by decide +kernel
theorem dX4_readText_5 : decode cX4_readText 5 = .ok (.iconst 0, 1) := by decide +kernel
theorem dX4_readText_6 : decode cX4_readText 6 = .ok (.istore_n 1, 1) := by decide +kernel
theorem dX4_readText_7 : decode cX4_readText 7 = .ok (.iload_n 1, 1) := by decide +kernel
theorem dX4_readText_8 : decode cX4_readText 8 = .ok (.bipush 66, 2) := by decide +kernel
theorem dX4_readText_10 : decode cX4_readText 10 = .ok (.if_icmp .ge 16, 3) := by decide +kernel
theorem dX4_readText_13 : decode cX4_readText 13 = .ok (.aload_n 0, 1) := by decide +kernel
theorem dX4_readText_14 : decode cX4_readText 14 = .ok (.getfield 41, 3) := by decide +kernel
theorem dX4_readText_17 : decode cX4_readText 17 = .ok (.iload_n 1, 1) := by decide +kernel
theorem dX4_readText_18 : decode cX4_readText 18 = .ok (.iconst 0, 1) := by decide +kernel
theorem dX4_readText_19 : decode cX4_readText 19 = .ok (.iastore, 1) := by decide +kernel
theorem dX4_readText_20 : decode cX4_readText 20 = .ok (.iinc 1 1, 3) := by decide +kernel
theorem dX4_readText_23 : decode cX4_readText 23 = .ok (.goto (-16), 3) := by decide +kernel
theorem dX4_readText_26 : decode cX4_readText 26 = .ok (.aload_n 0, 1) := by decide +kernel
theorem dX4_readText_27 : decode cX4_readText 27 = .ok (.getfield 62, 3) := by decide +kernel
theorem dX4_readText_30 : decode cX4_readText 30 = .ok (.ifCond .eq 14, 3) := by decide +kernel
theorem dX4_readText_33 : decode cX4_readText 33 = .ok (.aload_n 0, 1) := by decide +kernel
theorem dX4_readText_34 : decode cX4_readText 34 = .ok (.getfield 7, 3) := by decide +kernel
theorem dX4_readText_37 : decode cX4_readText 37 = .ok (.iconst 0, 1) := by decide +kernel
theorem dX4_readText_38 : decode cX4_readText 38 = .ok (.iaload, 1) := by decide +kernel
theorem dX4_readText_39 : decode cX4_readText 39 = .ok (.bipush 80, 2) := by decide +kernel
theorem dX4_readText_41 : decode cX4_readText 41 = .ok (.if_icmp .eq 5, 3) := by decide +kernel
theorem dX4_readText_44 : decode cX4_readText 44 = .ok (.iconst 0, 1) := by decide +kernel
theorem dX4_readText_45 : decode cX4_readText 45 = .ok (.ireturn, 1) := by decide +kernel
theorem dX4_readText_46 : decode cX4_readText 46 = .ok (.aload_n 0, 1) := by decide +kernel
theorem dX4_readText_47 : decode cX4_readText 47 = .ok (.iconst 1, 1) := by decide +kernel
theorem dX4_readText_48 : decode cX4_readText 48 = .ok (.putfield 65, 3) := by decide +kernel
theorem dX4_readText_51 : decode cX4_readText 51 = .ok (.aload_n 0, 1) := by decide +kernel
theorem dX4_readText_52 : decode cX4_readText 52 = .ok (.getfield 65, 3) := by decide +kernel
theorem dX4_readText_55 : decode cX4_readText 55 = .ok (.aload_n 0, 1) := by decide +kernel
theorem dX4_readText_56 : decode cX4_readText 56 = .ok (.getfield 62, 3) := by decide +kernel
theorem dX4_readText_59 : decode cX4_readText 59 = .ok (.if_icmp .ge 15, 3) := by decide +kernel
theorem dX4_readText_62 : decode cX4_readText 62 = .ok (.aload_n 0, 1) := by decide +kernel
theorem dX4_readText_63 : decode cX4_readText 63 = .ok (.invokevirtual 106, 3) := by decide +kernel
theorem dX4_readText_66 : decode cX4_readText 66 = .ok (.ifCond .ne (-15), 3) := by decide +kernel
theorem dX4_readText_69 : decode cX4_readText 69 = .ok (.aload_n 0, 1) := by decide +kernel
theorem dX4_readText_70 : decode cX4_readText 70 = .ok (.getfield 65, 3) := by decide +kernel
theorem dX4_readText_73 : decode cX4_readText 73 = .ok (.ireturn, 1) := by decide +kernel
theorem dX4_readText_74 : decode cX4_readText 74 = .ok (.bipush (-9), 2) := by decide +kernel
theorem dX4_readText_76 : decode cX4_readText 76 = .ok (.ireturn, 1) := by decide +kernel
theorem dX4_fault_0 : decode cX4_fault 0 = .ok (.aload_n 0, 1) := by decide +kernel
theorem dX4_fault_1 : decode cX4_fault 1 = .ok (.invokevirtual 109, 3) := by decide +kernel
theorem dX4_fault_4 : decode cX4_fault 4 = .ok (.ireturn, 1) := by decide +kernel
theorem dX4_tree_0 : decode cX4_tree 0 = .ok (.aload_n 0, 1) := by decide +kernel
theorem dX4_tree_1 : decode cX4_tree 1 = .ok (.invokevirtual 109, 3) := by decide +kernel
theorem dX4_tree_4 : decode cX4_tree 4 = .ok (.bipush (-9), 2) := by decide +kernel
theorem dX4_tree_6 : decode cX4_tree 6 = .ok (.if_icmp .eq 6, 3) := by decide +kernel
theorem dX4_tree_9 : decode cX4_tree 9 = .ok (.bipush (-3), 2) := by decide +kernel
theorem dX4_tree_11 : decode cX4_tree 11 = .ok (.ireturn, 1) := by decide +kernel
theorem dX4_tree_12 : decode cX4_tree 12 = .ok (.aload_n 0, 1) := by decide +kernel
theorem dX4_tree_13 : decode cX4_tree 13 = .ok (.aload_n 0, 1) := by decide +kernel
theorem dX4_tree_14 : decode cX4_tree 14 = .ok (.getfield 82, 3) := by decide +kernel
theorem dX4_tree_17 : decode cX4_tree 17 = .ok (.putfield 44, 3) := by decide +kernel
theorem dX4_tree_20 : decode cX4_tree 20 = .ok (.iconst 4, 1) := by decide +kernel
theorem dX4_tree_21 : decode cX4_tree 21 = .ok (.istore_n 1, 1) := by decide +kernel
theorem dX4_tree_22 : decode cX4_tree 22 = .ok (.iload_n 1, 1) := by decide +kernel
theorem dX4_tree_23 : decode cX4_tree 23 = .ok (.iconst 4, 1) := by decide +kernel
theorem dX4_tree_24 : decode cX4_tree 24 = .ok (.aload_n 0, 1) := by decide +kernel
theorem dX4_tree_25 : decode cX4_tree 25 = .ok (.getfield 44, 3) := by decide +kernel
theorem dX4_tree_28 : decode cX4_tree 28 = .ok (.imul, 1) := by decide +kernel
theorem dX4_tree_29 : decode cX4_tree 29 = .ok (.if_icmp .ge 21, 3) := by decide +kernel
theorem dX4_tree_32 : decode cX4_tree 32 = .ok (.aload_n 0, 1) := by decide +kernel
theorem dX4_tree_33 : decode cX4_tree 33 = .ok (.getfield 13, 3) := by decide +kernel
theorem dX4_tree_36 : decode cX4_tree 36 = .ok (.iload_n 1, 1) := by decide +kernel
theorem dX4_tree_37 : decode cX4_tree 37 = .ok (.aload_n 0, 1) := by decide +kernel
theorem dX4_tree_38 : decode cX4_tree 38 = .ok (.getfield 38, 3) := by decide +kernel
theorem dX4_tree_41 : decode cX4_tree 41 = .ok (.iload_n 1, 1) := by decide +kernel
theorem dX4_tree_42 : decode cX4_tree 42 = .ok (.iaload, 1) := by decide +kernel
theorem dX4_tree_43 : decode cX4_tree 43 = .ok (.iastore, 1) := by decide +kernel
theorem dX4_tree_44 : decode cX4_tree 44 = .ok (.iinc 1 1, 3) := by decide +kernel
theorem dX4_tree_47 : decode cX4_tree 47 = .ok (.goto (-25), 3) := by decide +kernel
theorem dX4_tree_50 : decode cX4_tree 50 = .ok (.aload_n 0, 1) := by decide +kernel
theorem dX4_tree_51 : decode cX4_tree 51 = .ok (.getfield 41, 3) := by decide +kernel
theorem dX4_tree_54 : decode cX4_tree 54 = .ok (.aload_n 0, 1) := by decide +kernel
theorem dX4_tree_55 : decode cX4_tree 55 = .ok (.getfield 16, 3) := by decide +kernel
theorem dX4_tree_58 : decode cX4_tree 58 = .ok (.invokestatic 113, 3) := by decide +kernel
theorem dX4_tree_61 : decode cX4_tree 61 = .ok (.aload_n 0, 1) := by decide +kernel
theorem dX4_tree_62 : decode cX4_tree 62 = .ok (.iconst 0, 1) := by decide +kernel
theorem dX4_tree_63 : decode cX4_tree 63 = .ok (.putfield 117, 3) := by decide +kernel
theorem dX4_tree_66 : decode cX4_tree 66 = .ok (.aload_n 0, 1) := by decide +kernel
theorem dX4_tree_67 : decode cX4_tree 67 = .ok (.getfield 28, 3) := by decide +kernel
theorem dX4_tree_70 : decode cX4_tree 70 = .ok (.iconst 0, 1) := by decide +kernel
theorem dX4_tree_71 : decode cX4_tree 71 = .ok (.iconst 0, 1) := by decide +kernel
theorem dX4_tree_72 : decode cX4_tree 72 = .ok (.bastore, 1) := by decide +kernel
theorem dX4_tree_73 : decode cX4_tree 73 = .ok (.aload_n 0, 1) := by decide +kernel
theorem dX4_tree_74 : decode cX4_tree 74 = .ok (.getfield 28, 3) := by decide +kernel
theorem dX4_tree_77 : decode cX4_tree 77 = .ok (.iconst 1, 1) := by decide +kernel
theorem dX4_tree_78 : decode cX4_tree 78 = .ok (.iconst 0, 1) := by decide +kernel
theorem dX4_tree_79 : decode cX4_tree 79 = .ok (.bastore, 1) := by decide +kernel
theorem dX4_tree_80 : decode cX4_tree 80 = .ok (.aload_n 0, 1) := by decide +kernel
theorem dX4_tree_81 : decode cX4_tree 81 = .ok (.getfield 44, 3) := by decide +kernel
theorem dX4_tree_84 : decode cX4_tree 84 = .ok (.ireturn, 1) := by decide +kernel
theorem dX4_addGrant_0 : decode cX4_addGrant 0 = .ok (.iconst 1, 1) := by decide +kernel
theorem dX4_addGrant_1 : decode cX4_addGrant 1 = .ok (.iconst 5, 1) := by decide +kernel
theorem dX4_addGrant_2 : decode cX4_addGrant 2 = .ok (.aload_n 0, 1) := by decide +kernel
theorem dX4_addGrant_3 : decode cX4_addGrant 3 = .ok (.iconst 0, 1) := by decide +kernel
theorem dX4_addGrant_4 : decode cX4_addGrant 4 = .ok (.iaload, 1) := by decide +kernel
theorem dX4_addGrant_5 : decode cX4_addGrant 5 = .ok (.imul, 1) := by decide +kernel
theorem dX4_addGrant_6 : decode cX4_addGrant 6 = .ok (.iadd, 1) := by decide +kernel
theorem dX4_addGrant_7 : decode cX4_addGrant 7 = .ok (.istore 6, 2) := by decide +kernel
theorem dX4_addGrant_9 : decode cX4_addGrant 9 = .ok (.aload_n 0, 1) := by decide +kernel
theorem dX4_addGrant_10 : decode cX4_addGrant 10 = .ok (.iload 6, 2) := by decide +kernel
theorem dX4_addGrant_12 : decode cX4_addGrant 12 = .ok (.iload_n 1, 1) := by decide +kernel
theorem dX4_addGrant_13 : decode cX4_addGrant 13 = .ok (.iastore, 1) := by decide +kernel
theorem dX4_addGrant_14 : decode cX4_addGrant 14 = .ok (.aload_n 0, 1) := by decide +kernel
theorem dX4_addGrant_15 : decode cX4_addGrant 15 = .ok (.iload 6, 2) := by decide +kernel
theorem dX4_addGrant_17 : decode cX4_addGrant 17 = .ok (.iconst 1, 1) := by decide +kernel
theorem dX4_addGrant_18 : decode cX4_addGrant 18 = .ok (.iadd, 1) := by decide +kernel
theorem dX4_addGrant_19 : decode cX4_addGrant 19 = .ok (.iload_n 2, 1) := by decide +kernel
theorem dX4_addGrant_20 : decode cX4_addGrant 20 = .ok (.iastore, 1) := by decide +kernel
theorem dX4_addGrant_21 : decode cX4_addGrant 21 = .ok (.aload_n 0, 1) := by decide +kernel
theorem dX4_addGrant_22 : decode cX4_addGrant 22 = .ok (.iload 6, 2) := by decide +kernel
theorem dX4_addGrant_24 : decode cX4_addGrant 24 = .ok (.iconst 2, 1) := by decide +kernel
theorem dX4_addGrant_25 : decode cX4_addGrant 25 = .ok (.iadd, 1) := by decide +kernel
theorem dX4_addGrant_26 : decode cX4_addGrant 26 = .ok (.iload_n 3, 1) := by decide +kernel
theorem dX4_addGrant_27 : decode cX4_addGrant 27 = .ok (.iastore, 1) := by decide +kernel
theorem dX4_addGrant_28 : decode cX4_addGrant 28 = .ok (.aload_n 0, 1) := by decide +kernel
theorem dX4_addGrant_29 : decode cX4_addGrant 29 = .ok (.iload 6, 2) := by decide +kernel
theorem dX4_addGrant_31 : decode cX4_addGrant 31 = .ok (.iconst 3, 1) := by decide +kernel
theorem dX4_addGrant_32 : decode cX4_addGrant 32 = .ok (.iadd, 1) := by decide +kernel
theorem dX4_addGrant_33 : decode cX4_addGrant 33 = .ok (.iload 4, 2) := by decide +kernel
theorem dX4_addGrant_35 : decode cX4_addGrant 35 = .ok (.iastore, 1) := by decide +kernel
theorem dX4_addGrant_36 : decode cX4_addGrant 36 = .ok (.aload_n 0, 1) := by decide +kernel
theorem dX4_addGrant_37 : decode cX4_addGrant 37 = .ok (.iload 6, 2) := by decide +kernel
theorem dX4_addGrant_39 : decode cX4_addGrant 39 = .ok (.iconst 4, 1) := by decide +kernel
theorem dX4_addGrant_40 : decode cX4_addGrant 40 = .ok (.iadd, 1) := by decide +kernel
theorem dX4_addGrant_41 : decode cX4_addGrant 41 = .ok (.iload 5, 2) := by decide +kernel
theorem dX4_addGrant_43 : decode cX4_addGrant 43 = .ok (.iastore, 1) := by decide +kernel
theorem dX4_addGrant_44 : decode cX4_addGrant 44 = .ok (.aload_n 0, 1) := by decide +kernel
theorem dX4_addGrant_45 : decode cX4_addGrant 45 = .ok (.iconst 0, 1) := by decide +kernel
theorem dX4_addGrant_46 : decode cX4_addGrant 46 = .ok (.dup2, 1) := by decide +kernel
theorem dX4_addGrant_47 : decode cX4_addGrant 47 = .ok (.iaload, 1) := by decide +kernel
theorem dX4_addGrant_48 : decode cX4_addGrant 48 = .ok (.iconst 1, 1) := by decide +kernel
theorem dX4_addGrant_49 : decode cX4_addGrant 49 = .ok (.iadd, 1) := by decide +kernel
theorem dX4_addGrant_50 : decode cX4_addGrant 50 = .ok (.iastore, 1) := by decide +kernel
theorem dX4_addGrant_51 : decode cX4_addGrant 51 = .ok (.return_, 1) := by decide +kernel
theorem dX4_addRoute_0 : decode cX4_addRoute 0 = .ok (.bipush 42, 2) := by decide +kernel
theorem dX4_addRoute_2 : decode cX4_addRoute 2 = .ok (.iconst 3, 1) := by decide +kernel
theorem dX4_addRoute_3 : decode cX4_addRoute 3 = .ok (.aload_n 0, 1) := by decide +kernel
theorem dX4_addRoute_4 : decode cX4_addRoute 4 = .ok (.bipush 41, 2) := by decide +kernel
theorem dX4_addRoute_6 : decode cX4_addRoute 6 = .ok (.iaload, 1) := by decide +kernel
theorem dX4_addRoute_7 : decode cX4_addRoute 7 = .ok (.imul, 1) := by decide +kernel
theorem dX4_addRoute_8 : decode cX4_addRoute 8 = .ok (.iadd, 1) := by decide +kernel
theorem dX4_addRoute_9 : decode cX4_addRoute 9 = .ok (.istore 4, 2) := by decide +kernel
theorem dX4_addRoute_11 : decode cX4_addRoute 11 = .ok (.aload_n 0, 1) := by decide +kernel
theorem dX4_addRoute_12 : decode cX4_addRoute 12 = .ok (.iload 4, 2) := by decide +kernel
theorem dX4_addRoute_14 : decode cX4_addRoute 14 = .ok (.iload_n 1, 1) := by decide +kernel
theorem dX4_addRoute_15 : decode cX4_addRoute 15 = .ok (.iastore, 1) := by decide +kernel
theorem dX4_addRoute_16 : decode cX4_addRoute 16 = .ok (.aload_n 0, 1) := by decide +kernel
theorem dX4_addRoute_17 : decode cX4_addRoute 17 = .ok (.iload 4, 2) := by decide +kernel
theorem dX4_addRoute_19 : decode cX4_addRoute 19 = .ok (.iconst 1, 1) := by decide +kernel
theorem dX4_addRoute_20 : decode cX4_addRoute 20 = .ok (.iadd, 1) := by decide +kernel
theorem dX4_addRoute_21 : decode cX4_addRoute 21 = .ok (.iload_n 2, 1) := by decide +kernel
theorem dX4_addRoute_22 : decode cX4_addRoute 22 = .ok (.iastore, 1) := by decide +kernel
theorem dX4_addRoute_23 : decode cX4_addRoute 23 = .ok (.aload_n 0, 1) := by decide +kernel
theorem dX4_addRoute_24 : decode cX4_addRoute 24 = .ok (.iload 4, 2) := by decide +kernel
theorem dX4_addRoute_26 : decode cX4_addRoute 26 = .ok (.iconst 2, 1) := by decide +kernel
theorem dX4_addRoute_27 : decode cX4_addRoute 27 = .ok (.iadd, 1) := by decide +kernel
theorem dX4_addRoute_28 : decode cX4_addRoute 28 = .ok (.iload_n 3, 1) := by decide +kernel
theorem dX4_addRoute_29 : decode cX4_addRoute 29 = .ok (.iastore, 1) := by decide +kernel
theorem dX4_addRoute_30 : decode cX4_addRoute 30 = .ok (.aload_n 0, 1) := by decide +kernel
theorem dX4_addRoute_31 : decode cX4_addRoute 31 = .ok (.bipush 41, 2) := by decide +kernel
theorem dX4_addRoute_33 : decode cX4_addRoute 33 = .ok (.dup2, 1) := by decide +kernel
theorem dX4_addRoute_34 : decode cX4_addRoute 34 = .ok (.iaload, 1) := by decide +kernel
theorem dX4_addRoute_35 : decode cX4_addRoute 35 = .ok (.iconst 1, 1) := by decide +kernel
theorem dX4_addRoute_36 : decode cX4_addRoute 36 = .ok (.iadd, 1) := by decide +kernel
theorem dX4_addRoute_37 : decode cX4_addRoute 37 = .ok (.iastore, 1) := by decide +kernel
theorem dX4_addRoute_38 : decode cX4_addRoute 38 = .ok (.return_, 1) := by decide +kernel
theorem dX4_takeGrant_0 : decode cX4_takeGrant 0 = .ok (.aload_n 0, 1) := by decide +kernel
theorem dX4_takeGrant_1 : decode cX4_takeGrant 1 = .ok (.iconst 0, 1) := by decide +kernel
theorem dX4_takeGrant_2 : decode cX4_takeGrant 2 = .ok (.dup2, 1) := by decide +kernel
theorem dX4_takeGrant_3 : decode cX4_takeGrant 3 = .ok (.iaload, 1) := by decide +kernel
theorem dX4_takeGrant_4 : decode cX4_takeGrant 4 = .ok (.iconst 1, 1) := by decide +kernel
theorem dX4_takeGrant_5 : decode cX4_takeGrant 5 = .ok (.isub, 1) := by decide +kernel
theorem dX4_takeGrant_6 : decode cX4_takeGrant 6 = .ok (.iastore, 1) := by decide +kernel
theorem dX4_takeGrant_7 : decode cX4_takeGrant 7 = .ok (.iconst 1, 1) := by decide +kernel
theorem dX4_takeGrant_8 : decode cX4_takeGrant 8 = .ok (.iconst 5, 1) := by decide +kernel
theorem dX4_takeGrant_9 : decode cX4_takeGrant 9 = .ok (.iload_n 1, 1) := by decide +kernel
theorem dX4_takeGrant_10 : decode cX4_takeGrant 10 = .ok (.imul, 1) := by decide +kernel
theorem dX4_takeGrant_11 : decode cX4_takeGrant 11 = .ok (.iadd, 1) := by decide +kernel
theorem dX4_takeGrant_12 : decode cX4_takeGrant 12 = .ok (.istore_n 2, 1) := by decide +kernel
theorem dX4_takeGrant_13 : decode cX4_takeGrant 13 = .ok (.iload_n 2, 1) := by decide +kernel
theorem dX4_takeGrant_14 : decode cX4_takeGrant 14 = .ok (.iconst 1, 1) := by decide +kernel
theorem dX4_takeGrant_15 : decode cX4_takeGrant 15 = .ok (.iconst 5, 1) := by decide +kernel
theorem dX4_takeGrant_16 : decode cX4_takeGrant 16 = .ok (.aload_n 0, 1) := by decide +kernel
theorem dX4_takeGrant_17 : decode cX4_takeGrant 17 = .ok (.iconst 0, 1) := by decide +kernel
theorem dX4_takeGrant_18 : decode cX4_takeGrant 18 = .ok (.iaload, 1) := by decide +kernel
theorem dX4_takeGrant_19 : decode cX4_takeGrant 19 = .ok (.imul, 1) := by decide +kernel
theorem dX4_takeGrant_20 : decode cX4_takeGrant 20 = .ok (.iadd, 1) := by decide +kernel
theorem dX4_takeGrant_21 : decode cX4_takeGrant 21 = .ok (.if_icmp .ge 17, 3) := by decide +kernel
theorem dX4_takeGrant_24 : decode cX4_takeGrant 24 = .ok (.aload_n 0, 1) := by decide +kernel
theorem dX4_takeGrant_25 : decode cX4_takeGrant 25 = .ok (.iload_n 2, 1) := by decide +kernel
theorem dX4_takeGrant_26 : decode cX4_takeGrant 26 = .ok (.aload_n 0, 1) := by decide +kernel
theorem dX4_takeGrant_27 : decode cX4_takeGrant 27 = .ok (.iload_n 2, 1) := by decide +kernel
theorem dX4_takeGrant_28 : decode cX4_takeGrant 28 = .ok (.iconst 5, 1) := by decide +kernel
theorem dX4_takeGrant_29 : decode cX4_takeGrant 29 = .ok (.iadd, 1) := by decide +kernel
theorem dX4_takeGrant_30 : decode cX4_takeGrant 30 = .ok (.iaload, 1) := by decide +kernel
theorem dX4_takeGrant_31 : decode cX4_takeGrant 31 = .ok (.iastore, 1) := by decide +kernel
theorem dX4_takeGrant_32 : decode cX4_takeGrant 32 = .ok (.iinc 2 1, 3) := by decide +kernel
theorem dX4_takeGrant_35 : decode cX4_takeGrant 35 = .ok (.goto (-22), 3) := by decide +kernel
theorem dX4_takeGrant_38 : decode cX4_takeGrant 38 = .ok (.return_, 1) := by decide +kernel
theorem dX4_takeRoute_0 : decode cX4_takeRoute 0 = .ok (.aload_n 0, 1) := by decide +kernel
theorem dX4_takeRoute_1 : decode cX4_takeRoute 1 = .ok (.bipush 41, 2) := by decide +kernel
theorem dX4_takeRoute_3 : decode cX4_takeRoute 3 = .ok (.dup2, 1) := by decide +kernel
theorem dX4_takeRoute_4 : decode cX4_takeRoute 4 = .ok (.iaload, 1) := by decide +kernel
theorem dX4_takeRoute_5 : decode cX4_takeRoute 5 = .ok (.iconst 1, 1) := by decide +kernel
theorem dX4_takeRoute_6 : decode cX4_takeRoute 6 = .ok (.isub, 1) := by decide +kernel
theorem dX4_takeRoute_7 : decode cX4_takeRoute 7 = .ok (.iastore, 1) := by decide +kernel
theorem dX4_takeRoute_8 : decode cX4_takeRoute 8 = .ok (.bipush 42, 2) := by decide +kernel
theorem dX4_takeRoute_10 : decode cX4_takeRoute 10 = .ok (.iconst 3, 1) := by decide +kernel
theorem dX4_takeRoute_11 : decode cX4_takeRoute 11 = .ok (.iload_n 1, 1) := by decide +kernel
theorem dX4_takeRoute_12 : decode cX4_takeRoute 12 = .ok (.imul, 1) := by decide +kernel
theorem dX4_takeRoute_13 : decode cX4_takeRoute 13 = .ok (.iadd, 1) := by decide +kernel
theorem dX4_takeRoute_14 : decode cX4_takeRoute 14 = .ok (.istore_n 2, 1) := by decide +kernel
theorem dX4_takeRoute_15 : decode cX4_takeRoute 15 = .ok (.iload_n 2, 1) := by decide +kernel
theorem dX4_takeRoute_16 : decode cX4_takeRoute 16 = .ok (.bipush 42, 2) := by decide +kernel
theorem dX4_takeRoute_18 : decode cX4_takeRoute 18 = .ok (.iconst 3, 1) := by decide +kernel
theorem dX4_takeRoute_19 : decode cX4_takeRoute 19 = .ok (.aload_n 0, 1) := by decide +kernel
theorem dX4_takeRoute_20 : decode cX4_takeRoute 20 = .ok (.bipush 41, 2) := by decide +kernel
theorem dX4_takeRoute_22 : decode cX4_takeRoute 22 = .ok (.iaload, 1) := by decide +kernel
theorem dX4_takeRoute_23 : decode cX4_takeRoute 23 = .ok (.imul, 1) := by decide +kernel
theorem dX4_takeRoute_24 : decode cX4_takeRoute 24 = .ok (.iadd, 1) := by decide +kernel
theorem dX4_takeRoute_25 : decode cX4_takeRoute 25 = .ok (.if_icmp .ge 17, 3) := by decide +kernel
theorem dX4_takeRoute_28 : decode cX4_takeRoute 28 = .ok (.aload_n 0, 1) := by decide +kernel
theorem dX4_takeRoute_29 : decode cX4_takeRoute 29 = .ok (.iload_n 2, 1) := by decide +kernel
theorem dX4_takeRoute_30 : decode cX4_takeRoute 30 = .ok (.aload_n 0, 1) := by decide +kernel
theorem dX4_takeRoute_31 : decode cX4_takeRoute 31 = .ok (.iload_n 2, 1) := by decide +kernel
theorem dX4_takeRoute_32 : decode cX4_takeRoute 32 = .ok (.iconst 3, 1) := by decide +kernel
theorem dX4_takeRoute_33 : decode cX4_takeRoute 33 = .ok (.iadd, 1) := by decide +kernel
theorem dX4_takeRoute_34 : decode cX4_takeRoute 34 = .ok (.iaload, 1) := by decide +kernel
theorem dX4_takeRoute_35 : decode cX4_takeRoute 35 = .ok (.iastore, 1) := by decide +kernel
theorem dX4_takeRoute_36 : decode cX4_takeRoute 36 = .ok (.iinc 2 1, 3) := by decide +kernel
theorem dX4_takeRoute_39 : decode cX4_takeRoute 39 = .ok (.goto (-24), 3) := by decide +kernel
theorem dX4_takeRoute_42 : decode cX4_takeRoute 42 = .ok (.return_, 1) := by decide +kernel
theorem dX4_stands_0 : decode cX4_stands 0 = .ok (.iconst 1, 1) := by decide +kernel
theorem dX4_stands_1 : decode cX4_stands 1 = .ok (.istore_n 3, 1) := by decide +kernel
theorem dX4_stands_2 : decode cX4_stands 2 = .ok (.iload_n 2, 1) := by decide +kernel
theorem dX4_stands_3 : decode cX4_stands 3 = .ok (.istore 4, 2) := by decide +kernel
theorem dX4_stands_5 : decode cX4_stands 5 = .ok (.iload 4, 2) := by decide +kernel
theorem dX4_stands_7 : decode cX4_stands 7 = .ok (.ifCond .le 114, 3) := by decide +kernel
theorem dX4_stands_10 : decode cX4_stands 10 = .ok (.iload_n 3, 1) := by decide +kernel
theorem dX4_stands_11 : decode cX4_stands 11 = .ok (.ifCond .eq 110, 3) := by decide +kernel
theorem dX4_stands_14 : decode cX4_stands 14 = .ok (.iconst 4, 1) := by decide +kernel
theorem dX4_stands_15 : decode cX4_stands 15 = .ok (.iload 4, 2) := by decide +kernel
theorem dX4_stands_17 : decode cX4_stands 17 = .ok (.imul, 1) := by decide +kernel
theorem dX4_stands_18 : decode cX4_stands 18 = .ok (.istore 5, 2) := by decide +kernel
theorem dX4_stands_20 : decode cX4_stands 20 = .ok (.iconst 4, 1) := by decide +kernel
theorem dX4_stands_21 : decode cX4_stands 21 = .ok (.aload_n 0, 1) := by decide +kernel
theorem dX4_stands_22 : decode cX4_stands 22 = .ok (.getfield 13, 3) := by decide +kernel
theorem dX4_stands_25 : decode cX4_stands 25 = .ok (.iload 5, 2) := by decide +kernel
theorem dX4_stands_27 : decode cX4_stands 27 = .ok (.iaload, 1) := by decide +kernel
theorem dX4_stands_28 : decode cX4_stands 28 = .ok (.imul, 1) := by decide +kernel
theorem dX4_stands_29 : decode cX4_stands 29 = .ok (.istore 6, 2) := by decide +kernel
theorem dX4_stands_31 : decode cX4_stands 31 = .ok (.aload_n 1, 1) := by decide +kernel
theorem dX4_stands_32 : decode cX4_stands 32 = .ok (.bipush 63, 2) := by decide +kernel
theorem dX4_stands_34 : decode cX4_stands 34 = .ok (.iaload, 1) := by decide +kernel
theorem dX4_stands_35 : decode cX4_stands 35 = .ok (.iload 4, 2) := by decide +kernel
theorem dX4_stands_37 : decode cX4_stands 37 = .ok (.invokestatic 120, 3) := by decide +kernel
theorem dX4_stands_40 : decode cX4_stands 40 = .ok (.ifCond .ne 65, 3) := by decide +kernel
theorem dX4_stands_43 : decode cX4_stands 43 = .ok (.aload_n 1, 1) := by decide +kernel
theorem dX4_stands_44 : decode cX4_stands 44 = .ok (.bipush 65, 2) := by decide +kernel
theorem dX4_stands_46 : decode cX4_stands 46 = .ok (.iaload, 1) := by decide +kernel
theorem dX4_stands_47 : decode cX4_stands 47 = .ok (.aload_n 0, 1) := by decide +kernel
theorem dX4_stands_48 : decode cX4_stands 48 = .ok (.getfield 13, 3) := by decide +kernel
theorem dX4_stands_51 : decode cX4_stands 51 = .ok (.iload 5, 2) := by decide +kernel
theorem dX4_stands_53 : decode cX4_stands 53 = .ok (.iconst 3, 1) := by decide +kernel
theorem dX4_stands_54 : decode cX4_stands 54 = .ok (.iadd, 1) := by decide +kernel
theorem dX4_stands_55 : decode cX4_stands 55 = .ok (.iaload, 1) := by decide +kernel
theorem dX4_stands_56 : decode cX4_stands 56 = .ok (.if_icmp .gt 49, 3) := by decide +kernel
theorem dX4_stands_59 : decode cX4_stands 59 = .ok (.aload_n 0, 1) := by decide +kernel
theorem dX4_stands_60 : decode cX4_stands 60 = .ok (.getfield 13, 3) := by decide +kernel
theorem dX4_stands_63 : decode cX4_stands 63 = .ok (.iload 5, 2) := by decide +kernel
theorem dX4_stands_65 : decode cX4_stands 65 = .ok (.iconst 1, 1) := by decide +kernel
theorem dX4_stands_66 : decode cX4_stands 66 = .ok (.iadd, 1) := by decide +kernel
theorem dX4_stands_67 : decode cX4_stands 67 = .ok (.iaload, 1) := by decide +kernel
theorem dX4_stands_68 : decode cX4_stands 68 = .ok (.aload_n 0, 1) := by decide +kernel
theorem dX4_stands_69 : decode cX4_stands 69 = .ok (.getfield 13, 3) := by decide +kernel
theorem dX4_stands_72 : decode cX4_stands 72 = .ok (.iload 5, 2) := by decide +kernel
theorem dX4_stands_74 : decode cX4_stands 74 = .ok (.iconst 2, 1) := by decide +kernel
theorem dX4_stands_75 : decode cX4_stands 75 = .ok (.iadd, 1) := by decide +kernel
theorem dX4_stands_76 : decode cX4_stands 76 = .ok (.iaload, 1) := by decide +kernel
theorem dX4_stands_77 : decode cX4_stands 77 = .ok (.aload_n 0, 1) := by decide +kernel
theorem dX4_stands_78 : decode cX4_stands 78 = .ok (.getfield 13, 3) := by decide +kernel
theorem dX4_stands_81 : decode cX4_stands 81 = .ok (.iload 6, 2) := by decide +kernel
theorem dX4_stands_83 : decode cX4_stands 83 = .ok (.iconst 1, 1) := by decide +kernel
theorem dX4_stands_84 : decode cX4_stands 84 = .ok (.iadd, 1) := by decide +kernel
theorem dX4_stands_85 : decode cX4_stands 85 = .ok (.iaload, 1) := by decide +kernel
theorem dX4_stands_86 : decode cX4_stands 86 = .ok (.aload_n 0, 1) := by decide +kernel
theorem dX4_stands_87 : decode cX4_stands 87 = .ok (.getfield 13, 3) := by decide +kernel
theorem dX4_stands_90 : decode cX4_stands 90 = .ok (.iload 6, 2) := by decide +kernel
theorem dX4_stands_92 : decode cX4_stands 92 = .ok (.iconst 2, 1) := by decide +kernel
theorem dX4_stands_93 : decode cX4_stands 93 = .ok (.iadd, 1) := by decide +kernel
theorem dX4_stands_94 : decode cX4_stands 94 = .ok (.iaload, 1) := by decide +kernel
theorem dX4_stands_95 : decode cX4_stands 95 = .ok (.invokestatic 123, 3) := by decide +kernel
theorem dX4_stands_98 : decode cX4_stands 98 = .ok (.ifCond .eq 7, 3) := by decide +kernel
theorem dX4_stands_101 : decode cX4_stands 101 = .ok (.iconst 1, 1) := by decide +kernel
theorem dX4_stands_102 : decode cX4_stands 102 = .ok (.goto 4, 3) := by decide +kernel
theorem dX4_stands_105 : decode cX4_stands 105 = .ok (.iconst 0, 1) := by decide +kernel
theorem dX4_stands_106 : decode cX4_stands 106 = .ok (.istore_n 3, 1) := by decide +kernel
theorem dX4_stands_107 : decode cX4_stands 107 = .ok (.aload_n 0, 1) := by decide +kernel
theorem dX4_stands_108 : decode cX4_stands 108 = .ok (.getfield 13, 3) := by decide +kernel
theorem dX4_stands_111 : decode cX4_stands 111 = .ok (.iconst 4, 1) := by decide +kernel
theorem dX4_stands_112 : decode cX4_stands 112 = .ok (.iload 4, 2) := by decide +kernel
theorem dX4_stands_114 : decode cX4_stands 114 = .ok (.imul, 1) := by decide +kernel
theorem dX4_stands_115 : decode cX4_stands 115 = .ok (.iaload, 1) := by decide +kernel
theorem dX4_stands_116 : decode cX4_stands 116 = .ok (.istore 4, 2) := by decide +kernel
theorem dX4_stands_118 : decode cX4_stands 118 = .ok (.goto (-113), 3) := by decide +kernel
theorem dX4_stands_121 : decode cX4_stands 121 = .ok (.iload_n 3, 1) := by decide +kernel
theorem dX4_stands_122 : decode cX4_stands 122 = .ok (.ireturn, 1) := by decide +kernel
theorem dX4_counts_0 : decode cX4_counts 0 = .ok (.iconst 1, 1) := by decide +kernel
theorem dX4_counts_1 : decode cX4_counts 1 = .ok (.iconst 5, 1) := by decide +kernel
theorem dX4_counts_2 : decode cX4_counts 2 = .ok (.iload_n 2, 1) := by decide +kernel
theorem dX4_counts_3 : decode cX4_counts 3 = .ok (.imul, 1) := by decide +kernel
theorem dX4_counts_4 : decode cX4_counts 4 = .ok (.iadd, 1) := by decide +kernel
theorem dX4_counts_5 : decode cX4_counts 5 = .ok (.istore_n 3, 1) := by decide +kernel
theorem dX4_counts_6 : decode cX4_counts 6 = .ok (.aload_n 1, 1) := by decide +kernel
theorem dX4_counts_7 : decode cX4_counts 7 = .ok (.iload_n 3, 1) := by decide +kernel
theorem dX4_counts_8 : decode cX4_counts 8 = .ok (.iaload, 1) := by decide +kernel
theorem dX4_counts_9 : decode cX4_counts 9 = .ok (.istore 4, 2) := by decide +kernel
theorem dX4_counts_11 : decode cX4_counts 11 = .ok (.iload 4, 2) := by decide +kernel
theorem dX4_counts_13 : decode cX4_counts 13 = .ok (.bipush 9, 2) := by decide +kernel
theorem dX4_counts_15 : decode cX4_counts 15 = .ok (.if_icmp .ne 5, 3) := by decide +kernel
theorem dX4_counts_18 : decode cX4_counts 18 = .ok (.iconst 1, 1) := by decide +kernel
theorem dX4_counts_19 : decode cX4_counts 19 = .ok (.ireturn, 1) := by decide +kernel
theorem dX4_counts_20 : decode cX4_counts 20 = .ok (.aload_n 0, 1) := by decide +kernel
theorem dX4_counts_21 : decode cX4_counts 21 = .ok (.aload_n 1, 1) := by decide +kernel
theorem dX4_counts_22 : decode cX4_counts 22 = .ok (.iload 4, 2) := by decide +kernel
theorem dX4_counts_24 : decode cX4_counts 24 = .ok (.invokevirtual 127, 3) := by decide +kernel
theorem dX4_counts_27 : decode cX4_counts 27 = .ok (.ifCond .eq 60, 3) := by decide +kernel
theorem dX4_counts_30 : decode cX4_counts 30 = .ok (.aload_n 1, 1) := by decide +kernel
theorem dX4_counts_31 : decode cX4_counts 31 = .ok (.iload_n 3, 1) := by decide +kernel
theorem dX4_counts_32 : decode cX4_counts 32 = .ok (.iconst 2, 1) := by decide +kernel
theorem dX4_counts_33 : decode cX4_counts 33 = .ok (.iadd, 1) := by decide +kernel
theorem dX4_counts_34 : decode cX4_counts 34 = .ok (.iaload, 1) := by decide +kernel
theorem dX4_counts_35 : decode cX4_counts 35 = .ok (.aload_n 1, 1) := by decide +kernel
theorem dX4_counts_36 : decode cX4_counts 36 = .ok (.iload_n 3, 1) := by decide +kernel
theorem dX4_counts_37 : decode cX4_counts 37 = .ok (.iconst 3, 1) := by decide +kernel
theorem dX4_counts_38 : decode cX4_counts 38 = .ok (.iadd, 1) := by decide +kernel
theorem dX4_counts_39 : decode cX4_counts 39 = .ok (.iaload, 1) := by decide +kernel
theorem dX4_counts_40 : decode cX4_counts 40 = .ok (.aload_n 0, 1) := by decide +kernel
theorem dX4_counts_41 : decode cX4_counts 41 = .ok (.getfield 13, 3) := by decide +kernel
theorem dX4_counts_44 : decode cX4_counts 44 = .ok (.iconst 4, 1) := by decide +kernel
theorem dX4_counts_45 : decode cX4_counts 45 = .ok (.iload 4, 2) := by decide +kernel
theorem dX4_counts_47 : decode cX4_counts 47 = .ok (.imul, 1) := by decide +kernel
theorem dX4_counts_48 : decode cX4_counts 48 = .ok (.iconst 1, 1) := by decide +kernel
theorem dX4_counts_49 : decode cX4_counts 49 = .ok (.iadd, 1) := by decide +kernel
theorem dX4_counts_50 : decode cX4_counts 50 = .ok (.iaload, 1) := by decide +kernel
theorem dX4_counts_51 : decode cX4_counts 51 = .ok (.aload_n 0, 1) := by decide +kernel
theorem dX4_counts_52 : decode cX4_counts 52 = .ok (.getfield 13, 3) := by decide +kernel
theorem dX4_counts_55 : decode cX4_counts 55 = .ok (.iconst 4, 1) := by decide +kernel
theorem dX4_counts_56 : decode cX4_counts 56 = .ok (.iload 4, 2) := by decide +kernel
theorem dX4_counts_58 : decode cX4_counts 58 = .ok (.imul, 1) := by decide +kernel
theorem dX4_counts_59 : decode cX4_counts 59 = .ok (.iconst 2, 1) := by decide +kernel
theorem dX4_counts_60 : decode cX4_counts 60 = .ok (.iadd, 1) := by decide +kernel
theorem dX4_counts_61 : decode cX4_counts 61 = .ok (.iaload, 1) := by decide +kernel
theorem dX4_counts_62 : decode cX4_counts 62 = .ok (.invokestatic 123, 3) := by decide +kernel
theorem dX4_counts_65 : decode cX4_counts 65 = .ok (.ifCond .eq 22, 3) := by decide +kernel
theorem dX4_counts_68 : decode cX4_counts 68 = .ok (.aload_n 1, 1) := by decide +kernel
theorem dX4_counts_69 : decode cX4_counts 69 = .ok (.bipush 64, 2) := by decide +kernel
theorem dX4_counts_71 : decode cX4_counts 71 = .ok (.iaload, 1) := by decide +kernel
theorem dX4_counts_72 : decode cX4_counts 72 = .ok (.aload_n 1, 1) := by decide +kernel
theorem dX4_counts_73 : decode cX4_counts 73 = .ok (.iload_n 3, 1) := by decide +kernel
theorem dX4_counts_74 : decode cX4_counts 74 = .ok (.iconst 1, 1) := by decide +kernel
theorem dX4_counts_75 : decode cX4_counts 75 = .ok (.iadd, 1) := by decide +kernel
theorem dX4_counts_76 : decode cX4_counts 76 = .ok (.iaload, 1) := by decide +kernel
theorem dX4_counts_77 : decode cX4_counts 77 = .ok (.invokestatic 120, 3) := by decide +kernel
theorem dX4_counts_80 : decode cX4_counts 80 = .ok (.ifCond .ne 7, 3) := by decide +kernel
theorem dX4_counts_83 : decode cX4_counts 83 = .ok (.iconst 1, 1) := by decide +kernel
theorem dX4_counts_84 : decode cX4_counts 84 = .ok (.goto 4, 3) := by decide +kernel
theorem dX4_counts_87 : decode cX4_counts 87 = .ok (.iconst 0, 1) := by decide +kernel
theorem dX4_counts_88 : decode cX4_counts 88 = .ok (.ireturn, 1) := by decide +kernel
theorem dX4_stateBy_0 : decode cX4_stateBy 0 = .ok (.iconst 1, 1) := by decide +kernel
theorem dX4_stateBy_1 : decode cX4_stateBy 1 = .ok (.istore 6, 2) := by decide +kernel
theorem dX4_stateBy_3 : decode cX4_stateBy 3 = .ok (.iconst 0, 1) := by decide +kernel
theorem dX4_stateBy_4 : decode cX4_stateBy 4 = .ok (.istore 7, 2) := by decide +kernel
theorem dX4_stateBy_6 : decode cX4_stateBy 6 = .ok (.iload 7, 2) := by decide +kernel
theorem dX4_stateBy_8 : decode cX4_stateBy 8 = .ok (.aload_n 1, 1) := by decide +kernel
theorem dX4_stateBy_9 : decode cX4_stateBy 9 = .ok (.iconst 0, 1) := by decide +kernel
theorem dX4_stateBy_10 : decode cX4_stateBy 10 = .ok (.iaload, 1) := by decide +kernel
theorem dX4_stateBy_11 : decode cX4_stateBy 11 = .ok (.if_icmp .ge 91, 3) := by decide +kernel
theorem dX4_stateBy_14 : decode cX4_stateBy 14 = .ok (.iconst 1, 1) := by decide +kernel
theorem dX4_stateBy_15 : decode cX4_stateBy 15 = .ok (.iconst 5, 1) := by decide +kernel
theorem dX4_stateBy_16 : decode cX4_stateBy 16 = .ok (.iload 7, 2) := by decide +kernel
theorem dX4_stateBy_18 : decode cX4_stateBy 18 = .ok (.imul, 1) := by decide +kernel
theorem dX4_stateBy_19 : decode cX4_stateBy 19 = .ok (.iadd, 1) := by decide +kernel
theorem dX4_stateBy_20 : decode cX4_stateBy 20 = .ok (.istore 8, 2) := by decide +kernel
theorem dX4_stateBy_22 : decode cX4_stateBy 22 = .ok (.iload 5, 2) := by decide +kernel
theorem dX4_stateBy_24 : decode cX4_stateBy 24 = .ok (.iload 7, 2) := by decide +kernel
theorem dX4_stateBy_26 : decode cX4_stateBy 26 = .ok (.invokestatic 120, 3) := by decide +kernel
theorem dX4_stateBy_29 : decode cX4_stateBy 29 = .ok (.ifCond .eq 67, 3) := by decide +kernel
theorem dX4_stateBy_32 : decode cX4_stateBy 32 = .ok (.iload 6, 2) := by decide +kernel
theorem dX4_stateBy_34 : decode cX4_stateBy 34 = .ok (.iconst 2, 1) := by decide +kernel
theorem dX4_stateBy_35 : decode cX4_stateBy 35 = .ok (.if_icmp .ge 61, 3) := by decide +kernel
theorem dX4_stateBy_38 : decode cX4_stateBy 38 = .ok (.aload_n 0, 1) := by decide +kernel
theorem dX4_stateBy_39 : decode cX4_stateBy 39 = .ok (.aload_n 1, 1) := by decide +kernel
theorem dX4_stateBy_40 : decode cX4_stateBy 40 = .ok (.iload 7, 2) := by decide +kernel
theorem dX4_stateBy_42 : decode cX4_stateBy 42 = .ok (.invokevirtual 131, 3) := by decide +kernel
theorem dX4_stateBy_45 : decode cX4_stateBy 45 = .ok (.ifCond .eq 51, 3) := by decide +kernel
theorem dX4_stateBy_48 : decode cX4_stateBy 48 = .ok (.iload_n 2, 1) := by decide +kernel
theorem dX4_stateBy_49 : decode cX4_stateBy 49 = .ok (.iload_n 3, 1) := by decide +kernel
theorem dX4_stateBy_50 : decode cX4_stateBy 50 = .ok (.aload_n 1, 1) := by decide +kernel
theorem dX4_stateBy_51 : decode cX4_stateBy 51 = .ok (.iload 8, 2) := by decide +kernel
theorem dX4_stateBy_53 : decode cX4_stateBy 53 = .ok (.iconst 2, 1) := by decide +kernel
theorem dX4_stateBy_54 : decode cX4_stateBy 54 = .ok (.iadd, 1) := by decide +kernel
theorem dX4_stateBy_55 : decode cX4_stateBy 55 = .ok (.iaload, 1) := by decide +kernel
theorem dX4_stateBy_56 : decode cX4_stateBy 56 = .ok (.aload_n 1, 1) := by decide +kernel
theorem dX4_stateBy_57 : decode cX4_stateBy 57 = .ok (.iload 8, 2) := by decide +kernel
theorem dX4_stateBy_59 : decode cX4_stateBy 59 = .ok (.iconst 3, 1) := by decide +kernel
theorem dX4_stateBy_60 : decode cX4_stateBy 60 = .ok (.iadd, 1) := by decide +kernel
theorem dX4_stateBy_61 : decode cX4_stateBy 61 = .ok (.iaload, 1) := by decide +kernel
theorem dX4_stateBy_62 : decode cX4_stateBy 62 = .ok (.invokestatic 123, 3) := by decide +kernel
theorem dX4_stateBy_65 : decode cX4_stateBy 65 = .ok (.ifCond .eq 31, 3) := by decide +kernel
theorem dX4_stateBy_68 : decode cX4_stateBy 68 = .ok (.aload_n 1, 1) := by decide +kernel
theorem dX4_stateBy_69 : decode cX4_stateBy 69 = .ok (.iload 8, 2) := by decide +kernel
theorem dX4_stateBy_71 : decode cX4_stateBy 71 = .ok (.iconst 1, 1) := by decide +kernel
theorem dX4_stateBy_72 : decode cX4_stateBy 72 = .ok (.iadd, 1) := by decide +kernel
theorem dX4_stateBy_73 : decode cX4_stateBy 73 = .ok (.iaload, 1) := by decide +kernel
theorem dX4_stateBy_74 : decode cX4_stateBy 74 = .ok (.iload 4, 2) := by decide +kernel
theorem dX4_stateBy_76 : decode cX4_stateBy 76 = .ok (.if_icmp .ne 17, 3) := by decide +kernel
theorem dX4_stateBy_79 : decode cX4_stateBy 79 = .ok (.aload_n 1, 1) := by decide +kernel
theorem dX4_stateBy_80 : decode cX4_stateBy 80 = .ok (.iload 8, 2) := by decide +kernel
theorem dX4_stateBy_82 : decode cX4_stateBy 82 = .ok (.iconst 4, 1) := by decide +kernel
theorem dX4_stateBy_83 : decode cX4_stateBy 83 = .ok (.iadd, 1) := by decide +kernel
theorem dX4_stateBy_84 : decode cX4_stateBy 84 = .ok (.iaload, 1) := by decide +kernel
theorem dX4_stateBy_85 : decode cX4_stateBy 85 = .ok (.iload_n 3, 1) := by decide +kernel
theorem dX4_stateBy_86 : decode cX4_stateBy 86 = .ok (.if_icmp .lt 7, 3) := by decide +kernel
theorem dX4_stateBy_89 : decode cX4_stateBy 89 = .ok (.iconst 2, 1) := by decide +kernel
theorem dX4_stateBy_90 : decode cX4_stateBy 90 = .ok (.goto 4, 3) := by decide +kernel
theorem dX4_stateBy_93 : decode cX4_stateBy 93 = .ok (.iconst 0, 1) := by decide +kernel
theorem dX4_stateBy_94 : decode cX4_stateBy 94 = .ok (.istore 6, 2) := by decide +kernel
theorem dX4_stateBy_96 : decode cX4_stateBy 96 = .ok (.iinc 7 1, 3) := by decide +kernel
theorem dX4_stateBy_99 : decode cX4_stateBy 99 = .ok (.goto (-93), 3) := by decide +kernel
theorem dX4_stateBy_102 : decode cX4_stateBy 102 = .ok (.iload 6, 2) := by decide +kernel
theorem dX4_stateBy_104 : decode cX4_stateBy 104 = .ok (.ireturn, 1) := by decide +kernel
theorem dX4_stateOf_0 : decode cX4_stateOf 0 = .ok (.aload_n 0, 1) := by decide +kernel
theorem dX4_stateOf_1 : decode cX4_stateOf 1 = .ok (.aload_n 1, 1) := by decide +kernel
theorem dX4_stateOf_2 : decode cX4_stateOf 2 = .ok (.iload_n 2, 1) := by decide +kernel
theorem dX4_stateOf_3 : decode cX4_stateOf 3 = .ok (.iload_n 3, 1) := by decide +kernel
theorem dX4_stateOf_4 : decode cX4_stateOf 4 = .ok (.iload 4, 2) := by decide +kernel
theorem dX4_stateOf_6 : decode cX4_stateOf 6 = .ok (.sipush 255, 3) := by decide +kernel
theorem dX4_stateOf_9 : decode cX4_stateOf 9 = .ok (.invokevirtual 134, 3) := by decide +kernel
theorem dX4_stateOf_12 : decode cX4_stateOf 12 = .ok (.ireturn, 1) := by decide +kernel
theorem dX4_routeState_0 : decode cX4_routeState 0 = .ok (.bipush 42, 2) := by decide +kernel
theorem dX4_routeState_2 : decode cX4_routeState 2 = .ok (.iconst 3, 1) := by decide +kernel
theorem dX4_routeState_3 : decode cX4_routeState 3 = .ok (.iload_n 2, 1) := by decide +kernel
theorem dX4_routeState_4 : decode cX4_routeState 4 = .ok (.imul, 1) := by decide +kernel
theorem dX4_routeState_5 : decode cX4_routeState 5 = .ok (.iadd, 1) := by decide +kernel
theorem dX4_routeState_6 : decode cX4_routeState 6 = .ok (.istore_n 3, 1) := by decide +kernel
theorem dX4_routeState_7 : decode cX4_routeState 7 = .ok (.aload_n 0, 1) := by decide +kernel
theorem dX4_routeState_8 : decode cX4_routeState 8 = .ok (.aload_n 1, 1) := by decide +kernel
theorem dX4_routeState_9 : decode cX4_routeState 9 = .ok (.aload_n 1, 1) := by decide +kernel
theorem dX4_routeState_10 : decode cX4_routeState 10 = .ok (.iload_n 3, 1) := by decide +kernel
theorem dX4_routeState_11 : decode cX4_routeState 11 = .ok (.iaload, 1) := by decide +kernel
theorem dX4_routeState_12 : decode cX4_routeState 12 = .ok (.aload_n 1, 1) := by decide +kernel
theorem dX4_routeState_13 : decode cX4_routeState 13 = .ok (.iload_n 3, 1) := by decide +kernel
theorem dX4_routeState_14 : decode cX4_routeState 14 = .ok (.iconst 1, 1) := by decide +kernel
theorem dX4_routeState_15 : decode cX4_routeState 15 = .ok (.iadd, 1) := by decide +kernel
theorem dX4_routeState_16 : decode cX4_routeState 16 = .ok (.iaload, 1) := by decide +kernel
theorem dX4_routeState_17 : decode cX4_routeState 17 = .ok (.aload_n 1, 1) := by decide +kernel
theorem dX4_routeState_18 : decode cX4_routeState 18 = .ok (.iload_n 3, 1) := by decide +kernel
theorem dX4_routeState_19 : decode cX4_routeState 19 = .ok (.iconst 2, 1) := by decide +kernel
theorem dX4_routeState_20 : decode cX4_routeState 20 = .ok (.iadd, 1) := by decide +kernel
theorem dX4_routeState_21 : decode cX4_routeState 21 = .ok (.iaload, 1) := by decide +kernel
theorem dX4_routeState_22 : decode cX4_routeState 22 = .ok (.invokevirtual 138, 3) := by decide +kernel
theorem dX4_routeState_25 : decode cX4_routeState 25 = .ok (.ireturn, 1) := by decide +kernel
theorem dX4_those_0 : decode cX4_those 0 = .ok (.iconst 0, 1) := by decide +kernel
theorem dX4_those_1 : decode cX4_those 1 = .ok (.istore_n 3, 1) := by decide +kernel
theorem dX4_those_2 : decode cX4_those 2 = .ok (.iconst 0, 1) := by decide +kernel
theorem dX4_those_3 : decode cX4_those 3 = .ok (.istore 4, 2) := by decide +kernel
theorem dX4_those_5 : decode cX4_those 5 = .ok (.iload 4, 2) := by decide +kernel
theorem dX4_those_7 : decode cX4_those 7 = .ok (.aload_n 1, 1) := by decide +kernel
theorem dX4_those_8 : decode cX4_those 8 = .ok (.bipush 41, 2) := by decide +kernel
theorem dX4_those_10 : decode cX4_those 10 = .ok (.iaload, 1) := by decide +kernel
theorem dX4_those_11 : decode cX4_those 11 = .ok (.if_icmp .ge 31, 3) := by decide +kernel
theorem dX4_those_14 : decode cX4_those 14 = .ok (.iload_n 3, 1) := by decide +kernel
theorem dX4_those_15 : decode cX4_those 15 = .ok (.aload_n 0, 1) := by decide +kernel
theorem dX4_those_16 : decode cX4_those 16 = .ok (.aload_n 1, 1) := by decide +kernel
theorem dX4_those_17 : decode cX4_those 17 = .ok (.iload 4, 2) := by decide +kernel
theorem dX4_those_19 : decode cX4_those 19 = .ok (.invokevirtual 142, 3) := by decide +kernel
theorem dX4_those_22 : decode cX4_those 22 = .ok (.iload_n 2, 1) := by decide +kernel
theorem dX4_those_23 : decode cX4_those 23 = .ok (.if_icmp .ne 10, 3) := by decide +kernel
theorem dX4_those_26 : decode cX4_those 26 = .ok (.iconst 1, 1) := by decide +kernel
theorem dX4_those_27 : decode cX4_those 27 = .ok (.iload 4, 2) := by decide +kernel
theorem dX4_those_29 : decode cX4_those 29 = .ok (.ishl, 1) := by decide +kernel
theorem dX4_those_30 : decode cX4_those 30 = .ok (.goto 4, 3) := by decide +kernel
theorem dX4_those_33 : decode cX4_those 33 = .ok (.iconst 0, 1) := by decide +kernel
theorem dX4_those_34 : decode cX4_those 34 = .ok (.ior, 1) := by decide +kernel
theorem dX4_those_35 : decode cX4_those 35 = .ok (.istore_n 3, 1) := by decide +kernel
theorem dX4_those_36 : decode cX4_those 36 = .ok (.iinc 4 1, 3) := by decide +kernel
theorem dX4_those_39 : decode cX4_those 39 = .ok (.goto (-34), 3) := by decide +kernel
theorem dX4_those_42 : decode cX4_those 42 = .ok (.iload_n 3, 1) := by decide +kernel
theorem dX4_those_43 : decode cX4_those 43 = .ok (.ireturn, 1) := by decide +kernel
theorem dX4_meet_0 : decode cX4_meet 0 = .ok (.bipush 42, 2) := by decide +kernel
theorem dX4_meet_2 : decode cX4_meet 2 = .ok (.iconst 3, 1) := by decide +kernel
theorem dX4_meet_3 : decode cX4_meet 3 = .ok (.iload_n 1, 1) := by decide +kernel
theorem dX4_meet_4 : decode cX4_meet 4 = .ok (.imul, 1) := by decide +kernel
theorem dX4_meet_5 : decode cX4_meet 5 = .ok (.iadd, 1) := by decide +kernel
theorem dX4_meet_6 : decode cX4_meet 6 = .ok (.istore_n 3, 1) := by decide +kernel
theorem dX4_meet_7 : decode cX4_meet 7 = .ok (.bipush 42, 2) := by decide +kernel
theorem dX4_meet_9 : decode cX4_meet 9 = .ok (.iconst 3, 1) := by decide +kernel
theorem dX4_meet_10 : decode cX4_meet 10 = .ok (.iload_n 2, 1) := by decide +kernel
theorem dX4_meet_11 : decode cX4_meet 11 = .ok (.imul, 1) := by decide +kernel
theorem dX4_meet_12 : decode cX4_meet 12 = .ok (.iadd, 1) := by decide +kernel
theorem dX4_meet_13 : decode cX4_meet 13 = .ok (.istore 4, 2) := by decide +kernel
theorem dX4_meet_15 : decode cX4_meet 15 = .ok (.aload_n 0, 1) := by decide +kernel
theorem dX4_meet_16 : decode cX4_meet 16 = .ok (.iload_n 3, 1) := by decide +kernel
theorem dX4_meet_17 : decode cX4_meet 17 = .ok (.iaload, 1) := by decide +kernel
theorem dX4_meet_18 : decode cX4_meet 18 = .ok (.aload_n 0, 1) := by decide +kernel
theorem dX4_meet_19 : decode cX4_meet 19 = .ok (.iload_n 3, 1) := by decide +kernel
theorem dX4_meet_20 : decode cX4_meet 20 = .ok (.iconst 1, 1) := by decide +kernel
theorem dX4_meet_21 : decode cX4_meet 21 = .ok (.iadd, 1) := by decide +kernel
theorem dX4_meet_22 : decode cX4_meet 22 = .ok (.iaload, 1) := by decide +kernel
theorem dX4_meet_23 : decode cX4_meet 23 = .ok (.aload_n 0, 1) := by decide +kernel
theorem dX4_meet_24 : decode cX4_meet 24 = .ok (.iload 4, 2) := by decide +kernel
theorem dX4_meet_26 : decode cX4_meet 26 = .ok (.iaload, 1) := by decide +kernel
theorem dX4_meet_27 : decode cX4_meet 27 = .ok (.aload_n 0, 1) := by decide +kernel
theorem dX4_meet_28 : decode cX4_meet 28 = .ok (.iload 4, 2) := by decide +kernel
theorem dX4_meet_30 : decode cX4_meet 30 = .ok (.iconst 1, 1) := by decide +kernel
theorem dX4_meet_31 : decode cX4_meet 31 = .ok (.iadd, 1) := by decide +kernel
theorem dX4_meet_32 : decode cX4_meet 32 = .ok (.iaload, 1) := by decide +kernel
theorem dX4_meet_33 : decode cX4_meet 33 = .ok (.invokestatic 123, 3) := by decide +kernel
theorem dX4_meet_36 : decode cX4_meet 36 = .ok (.ifCond .ne 27, 3) := by decide +kernel
theorem dX4_meet_39 : decode cX4_meet 39 = .ok (.aload_n 0, 1) := by decide +kernel
theorem dX4_meet_40 : decode cX4_meet 40 = .ok (.iload 4, 2) := by decide +kernel
theorem dX4_meet_42 : decode cX4_meet 42 = .ok (.iaload, 1) := by decide +kernel
theorem dX4_meet_43 : decode cX4_meet 43 = .ok (.aload_n 0, 1) := by decide +kernel
theorem dX4_meet_44 : decode cX4_meet 44 = .ok (.iload 4, 2) := by decide +kernel
theorem dX4_meet_46 : decode cX4_meet 46 = .ok (.iconst 1, 1) := by decide +kernel
theorem dX4_meet_47 : decode cX4_meet 47 = .ok (.iadd, 1) := by decide +kernel
theorem dX4_meet_48 : decode cX4_meet 48 = .ok (.iaload, 1) := by decide +kernel
theorem dX4_meet_49 : decode cX4_meet 49 = .ok (.aload_n 0, 1) := by decide +kernel
theorem dX4_meet_50 : decode cX4_meet 50 = .ok (.iload_n 3, 1) := by decide +kernel
theorem dX4_meet_51 : decode cX4_meet 51 = .ok (.iaload, 1) := by decide +kernel
theorem dX4_meet_52 : decode cX4_meet 52 = .ok (.aload_n 0, 1) := by decide +kernel
theorem dX4_meet_53 : decode cX4_meet 53 = .ok (.iload_n 3, 1) := by decide +kernel
theorem dX4_meet_54 : decode cX4_meet 54 = .ok (.iconst 1, 1) := by decide +kernel
theorem dX4_meet_55 : decode cX4_meet 55 = .ok (.iadd, 1) := by decide +kernel
theorem dX4_meet_56 : decode cX4_meet 56 = .ok (.iaload, 1) := by decide +kernel
theorem dX4_meet_57 : decode cX4_meet 57 = .ok (.invokestatic 123, 3) := by decide +kernel
theorem dX4_meet_60 : decode cX4_meet 60 = .ok (.ifCond .eq 7, 3) := by decide +kernel
theorem dX4_meet_63 : decode cX4_meet 63 = .ok (.iconst 1, 1) := by decide +kernel
theorem dX4_meet_64 : decode cX4_meet 64 = .ok (.goto 4, 3) := by decide +kernel
theorem dX4_meet_67 : decode cX4_meet 67 = .ok (.iconst 0, 1) := by decide +kernel
theorem dX4_meet_68 : decode cX4_meet 68 = .ok (.ireturn, 1) := by decide +kernel
theorem dX4_isIn_0 : decode cX4_isIn 0 = .ok (.aload_n 0, 1) := by decide +kernel
theorem dX4_isIn_1 : decode cX4_isIn 1 = .ok (.aload_n 1, 1) := by decide +kernel
theorem dX4_isIn_2 : decode cX4_isIn 2 = .ok (.iload_n 2, 1) := by decide +kernel
theorem dX4_isIn_3 : decode cX4_isIn 3 = .ok (.invokevirtual 142, 3) := by decide +kernel
theorem dX4_isIn_6 : decode cX4_isIn 6 = .ok (.istore 4, 2) := by decide +kernel
theorem dX4_isIn_8 : decode cX4_isIn 8 = .ok (.iload_n 3, 1) := by decide +kernel
theorem dX4_isIn_9 : decode cX4_isIn 9 = .ok (.iconst 3, 1) := by decide +kernel
theorem dX4_isIn_10 : decode cX4_isIn 10 = .ok (.if_icmp .ge 30, 3) := by decide +kernel
theorem dX4_isIn_13 : decode cX4_isIn 13 = .ok (.iload_n 3, 1) := by decide +kernel
theorem dX4_isIn_14 : decode cX4_isIn 14 = .ok (.ifCond .eq 20, 3) := by decide +kernel
theorem dX4_isIn_17 : decode cX4_isIn 17 = .ok (.iload 4, 2) := by decide +kernel
theorem dX4_isIn_19 : decode cX4_isIn 19 = .ok (.iconst 2, 1) := by decide +kernel
theorem dX4_isIn_20 : decode cX4_isIn 20 = .ok (.if_icmp .eq 14, 3) := by decide +kernel
theorem dX4_isIn_23 : decode cX4_isIn 23 = .ok (.iload_n 3, 1) := by decide +kernel
theorem dX4_isIn_24 : decode cX4_isIn 24 = .ok (.iconst 1, 1) := by decide +kernel
theorem dX4_isIn_25 : decode cX4_isIn 25 = .ok (.if_icmp .ne 13, 3) := by decide +kernel
theorem dX4_isIn_28 : decode cX4_isIn 28 = .ok (.iload 4, 2) := by decide +kernel
theorem dX4_isIn_30 : decode cX4_isIn 30 = .ok (.iconst 1, 1) := by decide +kernel
theorem dX4_isIn_31 : decode cX4_isIn 31 = .ok (.if_icmp .ne 7, 3) := by decide +kernel
theorem dX4_isIn_34 : decode cX4_isIn 34 = .ok (.iconst 1, 1) := by decide +kernel
theorem dX4_isIn_35 : decode cX4_isIn 35 = .ok (.goto 4, 3) := by decide +kernel
theorem dX4_isIn_38 : decode cX4_isIn 38 = .ok (.iconst 0, 1) := by decide +kernel
theorem dX4_isIn_39 : decode cX4_isIn 39 = .ok (.ireturn, 1) := by decide +kernel
theorem dX4_isIn_40 : decode cX4_isIn 40 = .ok (.iload 4, 2) := by decide +kernel
theorem dX4_isIn_42 : decode cX4_isIn 42 = .ok (.ifCond .le 7, 3) := by decide +kernel
theorem dX4_isIn_45 : decode cX4_isIn 45 = .ok (.iconst 1, 1) := by decide +kernel
theorem dX4_isIn_46 : decode cX4_isIn 46 = .ok (.goto 4, 3) := by decide +kernel
theorem dX4_isIn_49 : decode cX4_isIn 49 = .ok (.iconst 0, 1) := by decide +kernel
theorem dX4_isIn_50 : decode cX4_isIn 50 = .ok (.istore 5, 2) := by decide +kernel
theorem dX4_isIn_52 : decode cX4_isIn 52 = .ok (.iconst 0, 1) := by decide +kernel
theorem dX4_isIn_53 : decode cX4_isIn 53 = .ok (.istore 6, 2) := by decide +kernel
theorem dX4_isIn_55 : decode cX4_isIn 55 = .ok (.iload 6, 2) := by decide +kernel
theorem dX4_isIn_57 : decode cX4_isIn 57 = .ok (.aload_n 1, 1) := by decide +kernel
theorem dX4_isIn_58 : decode cX4_isIn 58 = .ok (.bipush 41, 2) := by decide +kernel
theorem dX4_isIn_60 : decode cX4_isIn 60 = .ok (.iaload, 1) := by decide +kernel
theorem dX4_isIn_61 : decode cX4_isIn 61 = .ok (.if_icmp .ge 48, 3) := by decide +kernel
theorem dX4_isIn_64 : decode cX4_isIn 64 = .ok (.iload 5, 2) := by decide +kernel
theorem dX4_isIn_66 : decode cX4_isIn 66 = .ok (.ifCond .eq 34, 3) := by decide +kernel
theorem dX4_isIn_69 : decode cX4_isIn 69 = .ok (.iload 4, 2) := by decide +kernel
theorem dX4_isIn_71 : decode cX4_isIn 71 = .ok (.iconst 2, 1) := by decide +kernel
theorem dX4_isIn_72 : decode cX4_isIn 72 = .ok (.if_icmp .eq 24, 3) := by decide +kernel
theorem dX4_isIn_75 : decode cX4_isIn 75 = .ok (.aload_n 0, 1) := by decide +kernel
theorem dX4_isIn_76 : decode cX4_isIn 76 = .ok (.aload_n 1, 1) := by decide +kernel
theorem dX4_isIn_77 : decode cX4_isIn 77 = .ok (.iload 6, 2) := by decide +kernel
theorem dX4_isIn_79 : decode cX4_isIn 79 = .ok (.invokevirtual 142, 3) := by decide +kernel
theorem dX4_isIn_82 : decode cX4_isIn 82 = .ok (.iconst 2, 1) := by decide +kernel
theorem dX4_isIn_83 : decode cX4_isIn 83 = .ok (.if_icmp .ne 13, 3) := by decide +kernel
theorem dX4_isIn_86 : decode cX4_isIn 86 = .ok (.aload_n 1, 1) := by decide +kernel
theorem dX4_isIn_87 : decode cX4_isIn 87 = .ok (.iload_n 2, 1) := by decide +kernel
theorem dX4_isIn_88 : decode cX4_isIn 88 = .ok (.iload 6, 2) := by decide +kernel
theorem dX4_isIn_90 : decode cX4_isIn 90 = .ok (.invokestatic 146, 3) := by decide +kernel
theorem dX4_isIn_93 : decode cX4_isIn 93 = .ok (.ifCond .ne 7, 3) := by decide +kernel
theorem dX4_isIn_96 : decode cX4_isIn 96 = .ok (.iconst 1, 1) := by decide +kernel
theorem dX4_isIn_97 : decode cX4_isIn 97 = .ok (.goto 4, 3) := by decide +kernel
theorem dX4_isIn_100 : decode cX4_isIn 100 = .ok (.iconst 0, 1) := by decide +kernel
theorem dX4_isIn_101 : decode cX4_isIn 101 = .ok (.istore 5, 2) := by decide +kernel
theorem dX4_isIn_103 : decode cX4_isIn 103 = .ok (.iinc 6 1, 3) := by decide +kernel
theorem dX4_isIn_106 : decode cX4_isIn 106 = .ok (.goto (-51), 3) := by decide +kernel
theorem dX4_isIn_109 : decode cX4_isIn 109 = .ok (.iload 5, 2) := by decide +kernel
theorem dX4_isIn_111 : decode cX4_isIn 111 = .ok (.ireturn, 1) := by decide +kernel
theorem dX4_goesOf_0 : decode cX4_goesOf 0 = .ok (.bipush (-9), 2) := by decide +kernel
theorem dX4_goesOf_2 : decode cX4_goesOf 2 = .ok (.istore 4, 2) := by decide +kernel
theorem dX4_goesOf_4 : decode cX4_goesOf 4 = .ok (.iconst (-1), 1) := by decide +kernel
theorem dX4_goesOf_5 : decode cX4_goesOf 5 = .ok (.istore 5, 2) := by decide +kernel
theorem dX4_goesOf_7 : decode cX4_goesOf 7 = .ok (.iconst 0, 1) := by decide +kernel
theorem dX4_goesOf_8 : decode cX4_goesOf 8 = .ok (.istore 6, 2) := by decide +kernel
theorem dX4_goesOf_10 : decode cX4_goesOf 10 = .ok (.iload 6, 2) := by decide +kernel
theorem dX4_goesOf_12 : decode cX4_goesOf 12 = .ok (.aload_n 1, 1) := by decide +kernel
theorem dX4_goesOf_13 : decode cX4_goesOf 13 = .ok (.bipush 41, 2) := by decide +kernel
theorem dX4_goesOf_15 : decode cX4_goesOf 15 = .ok (.iaload, 1) := by decide +kernel
theorem dX4_goesOf_16 : decode cX4_goesOf 16 = .ok (.if_icmp .ge 70, 3) := by decide +kernel
theorem dX4_goesOf_19 : decode cX4_goesOf 19 = .ok (.bipush 42, 2) := by decide +kernel
theorem dX4_goesOf_21 : decode cX4_goesOf 21 = .ok (.iconst 3, 1) := by decide +kernel
theorem dX4_goesOf_22 : decode cX4_goesOf 22 = .ok (.iload 6, 2) := by decide +kernel
theorem dX4_goesOf_24 : decode cX4_goesOf 24 = .ok (.imul, 1) := by decide +kernel
theorem dX4_goesOf_25 : decode cX4_goesOf 25 = .ok (.iadd, 1) := by decide +kernel
theorem dX4_goesOf_26 : decode cX4_goesOf 26 = .ok (.istore 7, 2) := by decide +kernel
theorem dX4_goesOf_28 : decode cX4_goesOf 28 = .ok (.iload_n 2, 1) := by decide +kernel
theorem dX4_goesOf_29 : decode cX4_goesOf 29 = .ok (.iconst 5, 1) := by decide +kernel
theorem dX4_goesOf_30 : decode cX4_goesOf 30 = .ok (.aload_n 1, 1) := by decide +kernel
theorem dX4_goesOf_31 : decode cX4_goesOf 31 = .ok (.iload 7, 2) := by decide +kernel
theorem dX4_goesOf_33 : decode cX4_goesOf 33 = .ok (.iaload, 1) := by decide +kernel
theorem dX4_goesOf_34 : decode cX4_goesOf 34 = .ok (.aload_n 1, 1) := by decide +kernel
theorem dX4_goesOf_35 : decode cX4_goesOf 35 = .ok (.iload 7, 2) := by decide +kernel
theorem dX4_goesOf_37 : decode cX4_goesOf 37 = .ok (.iconst 1, 1) := by decide +kernel
theorem dX4_goesOf_38 : decode cX4_goesOf 38 = .ok (.iadd, 1) := by decide +kernel
theorem dX4_goesOf_39 : decode cX4_goesOf 39 = .ok (.iaload, 1) := by decide +kernel
theorem dX4_goesOf_40 : decode cX4_goesOf 40 = .ok (.invokestatic 123, 3) := by decide +kernel
theorem dX4_goesOf_43 : decode cX4_goesOf 43 = .ok (.ifCond .eq 37, 3) := by decide +kernel
theorem dX4_goesOf_46 : decode cX4_goesOf 46 = .ok (.aload_n 1, 1) := by decide +kernel
theorem dX4_goesOf_47 : decode cX4_goesOf 47 = .ok (.iload 7, 2) := by decide +kernel
theorem dX4_goesOf_49 : decode cX4_goesOf 49 = .ok (.iconst 1, 1) := by decide +kernel
theorem dX4_goesOf_50 : decode cX4_goesOf 50 = .ok (.iadd, 1) := by decide +kernel
theorem dX4_goesOf_51 : decode cX4_goesOf 51 = .ok (.iaload, 1) := by decide +kernel
theorem dX4_goesOf_52 : decode cX4_goesOf 52 = .ok (.iload 5, 2) := by decide +kernel
theorem dX4_goesOf_54 : decode cX4_goesOf 54 = .ok (.if_icmp .le 26, 3) := by decide +kernel
theorem dX4_goesOf_57 : decode cX4_goesOf 57 = .ok (.aload_n 0, 1) := by decide +kernel
theorem dX4_goesOf_58 : decode cX4_goesOf 58 = .ok (.aload_n 1, 1) := by decide +kernel
theorem dX4_goesOf_59 : decode cX4_goesOf 59 = .ok (.iload 6, 2) := by decide +kernel
theorem dX4_goesOf_61 : decode cX4_goesOf 61 = .ok (.iload_n 3, 1) := by decide +kernel
theorem dX4_goesOf_62 : decode cX4_goesOf 62 = .ok (.invokevirtual 150, 3) := by decide +kernel
theorem dX4_goesOf_65 : decode cX4_goesOf 65 = .ok (.ifCond .eq 15, 3) := by decide +kernel
theorem dX4_goesOf_68 : decode cX4_goesOf 68 = .ok (.iload 6, 2) := by decide +kernel
theorem dX4_goesOf_70 : decode cX4_goesOf 70 = .ok (.istore 4, 2) := by decide +kernel
theorem dX4_goesOf_72 : decode cX4_goesOf 72 = .ok (.aload_n 1, 1) := by decide +kernel
theorem dX4_goesOf_73 : decode cX4_goesOf 73 = .ok (.iload 7, 2) := by decide +kernel
theorem dX4_goesOf_75 : decode cX4_goesOf 75 = .ok (.iconst 1, 1) := by decide +kernel
theorem dX4_goesOf_76 : decode cX4_goesOf 76 = .ok (.iadd, 1) := by decide +kernel
theorem dX4_goesOf_77 : decode cX4_goesOf 77 = .ok (.iaload, 1) := by decide +kernel
theorem dX4_goesOf_78 : decode cX4_goesOf 78 = .ok (.istore 5, 2) := by decide +kernel
theorem dX4_goesOf_80 : decode cX4_goesOf 80 = .ok (.iinc 6 1, 3) := by decide +kernel
theorem dX4_goesOf_83 : decode cX4_goesOf 83 = .ok (.goto (-73), 3) := by decide +kernel
theorem dX4_goesOf_86 : decode cX4_goesOf 86 = .ok (.iload 4, 2) := by decide +kernel
theorem dX4_goesOf_88 : decode cX4_goesOf 88 = .ok (.ireturn, 1) := by decide +kernel
theorem dX4_makerOf_0 : decode cX4_makerOf 0 = .ok (.bipush 42, 2) := by decide +kernel
theorem dX4_makerOf_2 : decode cX4_makerOf 2 = .ok (.iconst 3, 1) := by decide +kernel
theorem dX4_makerOf_3 : decode cX4_makerOf 3 = .ok (.iload_n 1, 1) := by decide +kernel
theorem dX4_makerOf_4 : decode cX4_makerOf 4 = .ok (.imul, 1) := by decide +kernel
theorem dX4_makerOf_5 : decode cX4_makerOf 5 = .ok (.iadd, 1) := by decide +kernel
theorem dX4_makerOf_6 : decode cX4_makerOf 6 = .ok (.istore_n 2, 1) := by decide +kernel
theorem dX4_makerOf_7 : decode cX4_makerOf 7 = .ok (.iconst 0, 1) := by decide +kernel
theorem dX4_makerOf_8 : decode cX4_makerOf 8 = .ok (.istore_n 3, 1) := by decide +kernel
theorem dX4_makerOf_9 : decode cX4_makerOf 9 = .ok (.iconst 1, 1) := by decide +kernel
theorem dX4_makerOf_10 : decode cX4_makerOf 10 = .ok (.istore 4, 2) := by decide +kernel
theorem dX4_makerOf_12 : decode cX4_makerOf 12 = .ok (.iload 4, 2) := by decide +kernel
theorem dX4_makerOf_14 : decode cX4_makerOf 14 = .ok (.aload_n 0, 1) := by decide +kernel
theorem dX4_makerOf_15 : decode cX4_makerOf 15 = .ok (.getfield 44, 3) := by decide +kernel
theorem dX4_makerOf_18 : decode cX4_makerOf 18 = .ok (.if_icmp .ge 107, 3) := by decide +kernel
theorem dX4_makerOf_21 : decode cX4_makerOf 21 = .ok (.aload_n 0, 1) := by decide +kernel
theorem dX4_makerOf_22 : decode cX4_makerOf 22 = .ok (.aload_n 0, 1) := by decide +kernel
theorem dX4_makerOf_23 : decode cX4_makerOf 23 = .ok (.getfield 16, 3) := by decide +kernel
theorem dX4_makerOf_26 : decode cX4_makerOf 26 = .ok (.iload 4, 2) := by decide +kernel
theorem dX4_makerOf_28 : decode cX4_makerOf 28 = .ok (.invokevirtual 127, 3) := by decide +kernel
theorem dX4_makerOf_31 : decode cX4_makerOf 31 = .ok (.ifCond .eq 49, 3) := by decide +kernel
theorem dX4_makerOf_34 : decode cX4_makerOf 34 = .ok (.aload_n 0, 1) := by decide +kernel
theorem dX4_makerOf_35 : decode cX4_makerOf 35 = .ok (.getfield 16, 3) := by decide +kernel
theorem dX4_makerOf_38 : decode cX4_makerOf 38 = .ok (.iload_n 2, 1) := by decide +kernel
theorem dX4_makerOf_39 : decode cX4_makerOf 39 = .ok (.iaload, 1) := by decide +kernel
theorem dX4_makerOf_40 : decode cX4_makerOf 40 = .ok (.aload_n 0, 1) := by decide +kernel
theorem dX4_makerOf_41 : decode cX4_makerOf 41 = .ok (.getfield 16, 3) := by decide +kernel
theorem dX4_makerOf_44 : decode cX4_makerOf 44 = .ok (.iload_n 2, 1) := by decide +kernel
theorem dX4_makerOf_45 : decode cX4_makerOf 45 = .ok (.iconst 1, 1) := by decide +kernel
theorem dX4_makerOf_46 : decode cX4_makerOf 46 = .ok (.iadd, 1) := by decide +kernel
theorem dX4_makerOf_47 : decode cX4_makerOf 47 = .ok (.iaload, 1) := by decide +kernel
theorem dX4_makerOf_48 : decode cX4_makerOf 48 = .ok (.aload_n 0, 1) := by decide +kernel
theorem dX4_makerOf_49 : decode cX4_makerOf 49 = .ok (.getfield 13, 3) := by decide +kernel
theorem dX4_makerOf_52 : decode cX4_makerOf 52 = .ok (.iconst 4, 1) := by decide +kernel
theorem dX4_makerOf_53 : decode cX4_makerOf 53 = .ok (.iload 4, 2) := by decide +kernel
theorem dX4_makerOf_55 : decode cX4_makerOf 55 = .ok (.imul, 1) := by decide +kernel
theorem dX4_makerOf_56 : decode cX4_makerOf 56 = .ok (.iconst 1, 1) := by decide +kernel
theorem dX4_makerOf_57 : decode cX4_makerOf 57 = .ok (.iadd, 1) := by decide +kernel
theorem dX4_makerOf_58 : decode cX4_makerOf 58 = .ok (.iaload, 1) := by decide +kernel
theorem dX4_makerOf_59 : decode cX4_makerOf 59 = .ok (.aload_n 0, 1) := by decide +kernel
theorem dX4_makerOf_60 : decode cX4_makerOf 60 = .ok (.getfield 13, 3) := by decide +kernel
theorem dX4_makerOf_63 : decode cX4_makerOf 63 = .ok (.iconst 4, 1) := by decide +kernel
theorem dX4_makerOf_64 : decode cX4_makerOf 64 = .ok (.iload 4, 2) := by decide +kernel
theorem dX4_makerOf_66 : decode cX4_makerOf 66 = .ok (.imul, 1) := by decide +kernel
theorem dX4_makerOf_67 : decode cX4_makerOf 67 = .ok (.iconst 2, 1) := by decide +kernel
theorem dX4_makerOf_68 : decode cX4_makerOf 68 = .ok (.iadd, 1) := by decide +kernel
theorem dX4_makerOf_69 : decode cX4_makerOf 69 = .ok (.iaload, 1) := by decide +kernel
theorem dX4_makerOf_70 : decode cX4_makerOf 70 = .ok (.invokestatic 123, 3) := by decide +kernel
theorem dX4_makerOf_73 : decode cX4_makerOf 73 = .ok (.ifCond .eq 7, 3) := by decide +kernel
theorem dX4_makerOf_76 : decode cX4_makerOf 76 = .ok (.iconst 1, 1) := by decide +kernel
theorem dX4_makerOf_77 : decode cX4_makerOf 77 = .ok (.goto 4, 3) := by decide +kernel
theorem dX4_makerOf_80 : decode cX4_makerOf 80 = .ok (.iconst 0, 1) := by decide +kernel
theorem dX4_makerOf_81 : decode cX4_makerOf 81 = .ok (.istore 5, 2) := by decide +kernel
theorem dX4_makerOf_83 : decode cX4_makerOf 83 = .ok (.iload 5, 2) := by decide +kernel
theorem dX4_makerOf_85 : decode cX4_makerOf 85 = .ok (.ifCond .eq 32, 3) := by decide +kernel
theorem dX4_makerOf_88 : decode cX4_makerOf 88 = .ok (.aload_n 0, 1) := by decide +kernel
theorem dX4_makerOf_89 : decode cX4_makerOf 89 = .ok (.getfield 13, 3) := by decide +kernel
theorem dX4_makerOf_92 : decode cX4_makerOf 92 = .ok (.iconst 4, 1) := by decide +kernel
theorem dX4_makerOf_93 : decode cX4_makerOf 93 = .ok (.iload 4, 2) := by decide +kernel
theorem dX4_makerOf_95 : decode cX4_makerOf 95 = .ok (.imul, 1) := by decide +kernel
theorem dX4_makerOf_96 : decode cX4_makerOf 96 = .ok (.iconst 2, 1) := by decide +kernel
theorem dX4_makerOf_97 : decode cX4_makerOf 97 = .ok (.iadd, 1) := by decide +kernel
theorem dX4_makerOf_98 : decode cX4_makerOf 98 = .ok (.iaload, 1) := by decide +kernel
theorem dX4_makerOf_99 : decode cX4_makerOf 99 = .ok (.aload_n 0, 1) := by decide +kernel
theorem dX4_makerOf_100 : decode cX4_makerOf 100 = .ok (.getfield 13, 3) := by decide +kernel
theorem dX4_makerOf_103 : decode cX4_makerOf 103 = .ok (.iconst 4, 1) := by decide +kernel
theorem dX4_makerOf_104 : decode cX4_makerOf 104 = .ok (.iload_n 3, 1) := by decide +kernel
theorem dX4_makerOf_105 : decode cX4_makerOf 105 = .ok (.imul, 1) := by decide +kernel
theorem dX4_makerOf_106 : decode cX4_makerOf 106 = .ok (.iconst 2, 1) := by decide +kernel
theorem dX4_makerOf_107 : decode cX4_makerOf 107 = .ok (.iadd, 1) := by decide +kernel
theorem dX4_makerOf_108 : decode cX4_makerOf 108 = .ok (.iaload, 1) := by decide +kernel
theorem dX4_makerOf_109 : decode cX4_makerOf 109 = .ok (.if_icmp .le 8, 3) := by decide +kernel
theorem dX4_makerOf_112 : decode cX4_makerOf 112 = .ok (.iload 4, 2) := by decide +kernel
theorem dX4_makerOf_114 : decode cX4_makerOf 114 = .ok (.goto 4, 3) := by decide +kernel
theorem dX4_makerOf_117 : decode cX4_makerOf 117 = .ok (.iload_n 3, 1) := by decide +kernel
theorem dX4_makerOf_118 : decode cX4_makerOf 118 = .ok (.istore_n 3, 1) := by decide +kernel
theorem dX4_makerOf_119 : decode cX4_makerOf 119 = .ok (.iinc 4 1, 3) := by decide +kernel
theorem dX4_makerOf_122 : decode cX4_makerOf 122 = .ok (.goto (-110), 3) := by decide +kernel
theorem dX4_makerOf_125 : decode cX4_makerOf 125 = .ok (.iload_n 3, 1) := by decide +kernel
theorem dX4_makerOf_126 : decode cX4_makerOf 126 = .ok (.ireturn, 1) := by decide +kernel
theorem dX4_bare_0 : decode cX4_bare 0 = .ok (.iconst 0, 1) := by decide +kernel
theorem dX4_bare_1 : decode cX4_bare 1 = .ok (.istore_n 1, 1) := by decide +kernel
theorem dX4_bare_2 : decode cX4_bare 2 = .ok (.iconst 0, 1) := by decide +kernel
theorem dX4_bare_3 : decode cX4_bare 3 = .ok (.istore_n 2, 1) := by decide +kernel
theorem dX4_bare_4 : decode cX4_bare 4 = .ok (.iload_n 2, 1) := by decide +kernel
theorem dX4_bare_5 : decode cX4_bare 5 = .ok (.bipush 32, 2) := by decide +kernel
theorem dX4_bare_7 : decode cX4_bare 7 = .ok (.if_icmp .ge 100, 3) := by decide +kernel
theorem dX4_bare_10 : decode cX4_bare 10 = .ok (.iconst 1, 1) := by decide +kernel
theorem dX4_bare_11 : decode cX4_bare 11 = .ok (.istore_n 3, 1) := by decide +kernel
theorem dX4_bare_12 : decode cX4_bare 12 = .ok (.iconst 0, 1) := by decide +kernel
theorem dX4_bare_13 : decode cX4_bare 13 = .ok (.istore 4, 2) := by decide +kernel
theorem dX4_bare_15 : decode cX4_bare 15 = .ok (.iload 4, 2) := by decide +kernel
theorem dX4_bare_17 : decode cX4_bare 17 = .ok (.aload_n 0, 1) := by decide +kernel
theorem dX4_bare_18 : decode cX4_bare 18 = .ok (.getfield 16, 3) := by decide +kernel
theorem dX4_bare_21 : decode cX4_bare 21 = .ok (.iconst 0, 1) := by decide +kernel
theorem dX4_bare_22 : decode cX4_bare 22 = .ok (.iaload, 1) := by decide +kernel
theorem dX4_bare_23 : decode cX4_bare 23 = .ok (.if_icmp .ge 66, 3) := by decide +kernel
theorem dX4_bare_26 : decode cX4_bare 26 = .ok (.iconst 1, 1) := by decide +kernel
theorem dX4_bare_27 : decode cX4_bare 27 = .ok (.iconst 5, 1) := by decide +kernel
theorem dX4_bare_28 : decode cX4_bare 28 = .ok (.iload 4, 2) := by decide +kernel
theorem dX4_bare_30 : decode cX4_bare 30 = .ok (.imul, 1) := by decide +kernel
theorem dX4_bare_31 : decode cX4_bare 31 = .ok (.iadd, 1) := by decide +kernel
theorem dX4_bare_32 : decode cX4_bare 32 = .ok (.istore 5, 2) := by decide +kernel
theorem dX4_bare_34 : decode cX4_bare 34 = .ok (.iload_n 3, 1) := by decide +kernel
theorem dX4_bare_35 : decode cX4_bare 35 = .ok (.ifCond .eq 46, 3) := by decide +kernel
theorem dX4_bare_38 : decode cX4_bare 38 = .ok (.aload_n 0, 1) := by decide +kernel
theorem dX4_bare_39 : decode cX4_bare 39 = .ok (.aload_n 0, 1) := by decide +kernel
theorem dX4_bare_40 : decode cX4_bare 40 = .ok (.getfield 16, 3) := by decide +kernel
theorem dX4_bare_43 : decode cX4_bare 43 = .ok (.iload 4, 2) := by decide +kernel
theorem dX4_bare_45 : decode cX4_bare 45 = .ok (.invokevirtual 131, 3) := by decide +kernel
theorem dX4_bare_48 : decode cX4_bare 48 = .ok (.ifCond .eq 29, 3) := by decide +kernel
theorem dX4_bare_51 : decode cX4_bare 51 = .ok (.iload_n 2, 1) := by decide +kernel
theorem dX4_bare_52 : decode cX4_bare 52 = .ok (.iconst 5, 1) := by decide +kernel
theorem dX4_bare_53 : decode cX4_bare 53 = .ok (.aload_n 0, 1) := by decide +kernel
theorem dX4_bare_54 : decode cX4_bare 54 = .ok (.getfield 16, 3) := by decide +kernel
theorem dX4_bare_57 : decode cX4_bare 57 = .ok (.iload 5, 2) := by decide +kernel
theorem dX4_bare_59 : decode cX4_bare 59 = .ok (.iconst 2, 1) := by decide +kernel
theorem dX4_bare_60 : decode cX4_bare 60 = .ok (.iadd, 1) := by decide +kernel
theorem dX4_bare_61 : decode cX4_bare 61 = .ok (.iaload, 1) := by decide +kernel
theorem dX4_bare_62 : decode cX4_bare 62 = .ok (.aload_n 0, 1) := by decide +kernel
theorem dX4_bare_63 : decode cX4_bare 63 = .ok (.getfield 16, 3) := by decide +kernel
theorem dX4_bare_66 : decode cX4_bare 66 = .ok (.iload 5, 2) := by decide +kernel
theorem dX4_bare_68 : decode cX4_bare 68 = .ok (.iconst 3, 1) := by decide +kernel
theorem dX4_bare_69 : decode cX4_bare 69 = .ok (.iadd, 1) := by decide +kernel
theorem dX4_bare_70 : decode cX4_bare 70 = .ok (.iaload, 1) := by decide +kernel
theorem dX4_bare_71 : decode cX4_bare 71 = .ok (.invokestatic 123, 3) := by decide +kernel
theorem dX4_bare_74 : decode cX4_bare 74 = .ok (.ifCond .ne 7, 3) := by decide +kernel
theorem dX4_bare_77 : decode cX4_bare 77 = .ok (.iconst 1, 1) := by decide +kernel
theorem dX4_bare_78 : decode cX4_bare 78 = .ok (.goto 4, 3) := by decide +kernel
theorem dX4_bare_81 : decode cX4_bare 81 = .ok (.iconst 0, 1) := by decide +kernel
theorem dX4_bare_82 : decode cX4_bare 82 = .ok (.istore_n 3, 1) := by decide +kernel
theorem dX4_bare_83 : decode cX4_bare 83 = .ok (.iinc 4 1, 3) := by decide +kernel
theorem dX4_bare_86 : decode cX4_bare 86 = .ok (.goto (-71), 3) := by decide +kernel
theorem dX4_bare_89 : decode cX4_bare 89 = .ok (.iload_n 1, 1) := by decide +kernel
theorem dX4_bare_90 : decode cX4_bare 90 = .ok (.iload_n 3, 1) := by decide +kernel
theorem dX4_bare_91 : decode cX4_bare 91 = .ok (.ifCond .eq 7, 3) := by decide +kernel
theorem dX4_bare_94 : decode cX4_bare 94 = .ok (.iconst 1, 1) := by decide +kernel
theorem dX4_bare_95 : decode cX4_bare 95 = .ok (.goto 4, 3) := by decide +kernel
theorem dX4_bare_98 : decode cX4_bare 98 = .ok (.iconst 0, 1) := by decide +kernel
theorem dX4_bare_99 : decode cX4_bare 99 = .ok (.iadd, 1) := by decide +kernel
theorem dX4_bare_100 : decode cX4_bare 100 = .ok (.istore_n 1, 1) := by decide +kernel
theorem dX4_bare_101 : decode cX4_bare 101 = .ok (.iinc 2 1, 3) := by decide +kernel
theorem dX4_bare_104 : decode cX4_bare 104 = .ok (.goto (-100), 3) := by decide +kernel
theorem dX4_bare_107 : decode cX4_bare 107 = .ok (.iload_n 1, 1) := by decide +kernel
theorem dX4_bare_108 : decode cX4_bare 108 = .ok (.ireturn, 1) := by decide +kernel
theorem dX4_standing_0 : decode cX4_standing 0 = .ok (.iconst 0, 1) := by decide +kernel
theorem dX4_standing_1 : decode cX4_standing 1 = .ok (.istore_n 1, 1) := by decide +kernel
theorem dX4_standing_2 : decode cX4_standing 2 = .ok (.iconst 0, 1) := by decide +kernel
theorem dX4_standing_3 : decode cX4_standing 3 = .ok (.istore_n 2, 1) := by decide +kernel
theorem dX4_standing_4 : decode cX4_standing 4 = .ok (.iload_n 2, 1) := by decide +kernel
theorem dX4_standing_5 : decode cX4_standing 5 = .ok (.aload_n 0, 1) := by decide +kernel
theorem dX4_standing_6 : decode cX4_standing 6 = .ok (.getfield 44, 3) := by decide +kernel
theorem dX4_standing_9 : decode cX4_standing 9 = .ok (.if_icmp .ge 31, 3) := by decide +kernel
theorem dX4_standing_12 : decode cX4_standing 12 = .ok (.iload_n 1, 1) := by decide +kernel
theorem dX4_standing_13 : decode cX4_standing 13 = .ok (.aload_n 0, 1) := by decide +kernel
theorem dX4_standing_14 : decode cX4_standing 14 = .ok (.aload_n 0, 1) := by decide +kernel
theorem dX4_standing_15 : decode cX4_standing 15 = .ok (.getfield 16, 3) := by decide +kernel
theorem dX4_standing_18 : decode cX4_standing 18 = .ok (.iload_n 2, 1) := by decide +kernel
theorem dX4_standing_19 : decode cX4_standing 19 = .ok (.invokevirtual 127, 3) := by decide +kernel
theorem dX4_standing_22 : decode cX4_standing 22 = .ok (.ifCond .eq 9, 3) := by decide +kernel
theorem dX4_standing_25 : decode cX4_standing 25 = .ok (.iconst 1, 1) := by decide +kernel
theorem dX4_standing_26 : decode cX4_standing 26 = .ok (.iload_n 2, 1) := by decide +kernel
theorem dX4_standing_27 : decode cX4_standing 27 = .ok (.ishl, 1) := by decide +kernel
theorem dX4_standing_28 : decode cX4_standing 28 = .ok (.goto 4, 3) := by decide +kernel
theorem dX4_standing_31 : decode cX4_standing 31 = .ok (.iconst 0, 1) := by decide +kernel
theorem dX4_standing_32 : decode cX4_standing 32 = .ok (.ior, 1) := by decide +kernel
theorem dX4_standing_33 : decode cX4_standing 33 = .ok (.istore_n 1, 1) := by decide +kernel
theorem dX4_standing_34 : decode cX4_standing 34 = .ok (.iinc 2 1, 3) := by decide +kernel
theorem dX4_standing_37 : decode cX4_standing 37 = .ok (.goto (-33), 3) := by decide +kernel
theorem dX4_standing_40 : decode cX4_standing 40 = .ok (.iload_n 1, 1) := by decide +kernel
theorem dX4_standing_41 : decode cX4_standing 41 = .ok (.ireturn, 1) := by decide +kernel
theorem dX4_about_0 : decode cX4_about 0 = .ok (.iload_n 1, 1) := by decide +kernel
theorem dX4_about_1 : decode cX4_about 1 = .ok (.tableswitch 156 0 12 #[67, 72, 79, 87, 95, 103, 108, 116, 126, 136, 141, 146, 151], 67) := by decide +kernel
theorem dX4_about_68 : decode cX4_about 68 = .ok (.aload_n 0, 1) := by decide +kernel
theorem dX4_about_69 : decode cX4_about 69 = .ok (.getfield 44, 3) := by decide +kernel
theorem dX4_about_72 : decode cX4_about 72 = .ok (.ireturn, 1) := by decide +kernel
theorem dX4_about_73 : decode cX4_about 73 = .ok (.aload_n 0, 1) := by decide +kernel
theorem dX4_about_74 : decode cX4_about 74 = .ok (.getfield 16, 3) := by decide +kernel
theorem dX4_about_77 : decode cX4_about 77 = .ok (.iconst 0, 1) := by decide +kernel
theorem dX4_about_78 : decode cX4_about 78 = .ok (.iaload, 1) := by decide +kernel
theorem dX4_about_79 : decode cX4_about 79 = .ok (.ireturn, 1) := by decide +kernel
theorem dX4_about_80 : decode cX4_about 80 = .ok (.aload_n 0, 1) := by decide +kernel
theorem dX4_about_81 : decode cX4_about 81 = .ok (.getfield 16, 3) := by decide +kernel
theorem dX4_about_84 : decode cX4_about 84 = .ok (.bipush 41, 2) := by decide +kernel
theorem dX4_about_86 : decode cX4_about 86 = .ok (.iaload, 1) := by decide +kernel
theorem dX4_about_87 : decode cX4_about 87 = .ok (.ireturn, 1) := by decide +kernel
theorem dX4_about_88 : decode cX4_about 88 = .ok (.aload_n 0, 1) := by decide +kernel
theorem dX4_about_89 : decode cX4_about 89 = .ok (.getfield 16, 3) := by decide +kernel
theorem dX4_about_92 : decode cX4_about 92 = .ok (.bipush 65, 2) := by decide +kernel
theorem dX4_about_94 : decode cX4_about 94 = .ok (.iaload, 1) := by decide +kernel
theorem dX4_about_95 : decode cX4_about 95 = .ok (.ireturn, 1) := by decide +kernel
theorem dX4_about_96 : decode cX4_about 96 = .ok (.aload_n 0, 1) := by decide +kernel
theorem dX4_about_97 : decode cX4_about 97 = .ok (.getfield 16, 3) := by decide +kernel
theorem dX4_about_100 : decode cX4_about 100 = .ok (.bipush 63, 2) := by decide +kernel
theorem dX4_about_102 : decode cX4_about 102 = .ok (.iaload, 1) := by decide +kernel
theorem dX4_about_103 : decode cX4_about 103 = .ok (.ireturn, 1) := by decide +kernel
theorem dX4_about_104 : decode cX4_about 104 = .ok (.aload_n 0, 1) := by decide +kernel
theorem dX4_about_105 : decode cX4_about 105 = .ok (.invokevirtual 153, 3) := by decide +kernel
theorem dX4_about_108 : decode cX4_about 108 = .ok (.ireturn, 1) := by decide +kernel
theorem dX4_about_109 : decode cX4_about 109 = .ok (.aload_n 0, 1) := by decide +kernel
theorem dX4_about_110 : decode cX4_about 110 = .ok (.getfield 16, 3) := by decide +kernel
theorem dX4_about_113 : decode cX4_about 113 = .ok (.bipush 64, 2) := by decide +kernel
theorem dX4_about_115 : decode cX4_about 115 = .ok (.iaload, 1) := by decide +kernel
theorem dX4_about_116 : decode cX4_about 116 = .ok (.ireturn, 1) := by decide +kernel
theorem dX4_about_117 : decode cX4_about 117 = .ok (.aload_n 0, 1) := by decide +kernel
theorem dX4_about_118 : decode cX4_about 118 = .ok (.aload_n 0, 1) := by decide +kernel
theorem dX4_about_119 : decode cX4_about 119 = .ok (.getfield 16, 3) := by decide +kernel
theorem dX4_about_122 : decode cX4_about 122 = .ok (.iconst 2, 1) := by decide +kernel
theorem dX4_about_123 : decode cX4_about 123 = .ok (.invokevirtual 156, 3) := by decide +kernel
theorem dX4_about_126 : decode cX4_about 126 = .ok (.ireturn, 1) := by decide +kernel
theorem dX4_about_127 : decode cX4_about 127 = .ok (.aload_n 0, 1) := by decide +kernel
theorem dX4_about_128 : decode cX4_about 128 = .ok (.aload_n 0, 1) := by decide +kernel
theorem dX4_about_129 : decode cX4_about 129 = .ok (.getfield 16, 3) := by decide +kernel
theorem dX4_about_132 : decode cX4_about 132 = .ok (.iconst 0, 1) := by decide +kernel
theorem dX4_about_133 : decode cX4_about 133 = .ok (.invokevirtual 156, 3) := by decide +kernel
theorem dX4_about_136 : decode cX4_about 136 = .ok (.ireturn, 1) := by decide +kernel
theorem dX4_about_137 : decode cX4_about 137 = .ok (.aload_n 0, 1) := by decide +kernel
theorem dX4_about_138 : decode cX4_about 138 = .ok (.invokevirtual 159, 3) := by decide +kernel
theorem dX4_about_141 : decode cX4_about 141 = .ok (.ireturn, 1) := by decide +kernel
theorem dX4_about_142 : decode cX4_about 142 = .ok (.aload_n 0, 1) := by decide +kernel
theorem dX4_about_143 : decode cX4_about 143 = .ok (.getfield 117, 3) := by decide +kernel
theorem dX4_about_146 : decode cX4_about 146 = .ok (.ireturn, 1) := by decide +kernel
theorem dX4_about_147 : decode cX4_about 147 = .ok (.aload_n 0, 1) := by decide +kernel
theorem dX4_about_148 : decode cX4_about 148 = .ok (.getfield 162, 3) := by decide +kernel
theorem dX4_about_151 : decode cX4_about 151 = .ok (.ireturn, 1) := by decide +kernel
theorem dX4_about_152 : decode cX4_about 152 = .ok (.aload_n 0, 1) := by decide +kernel
theorem dX4_about_153 : decode cX4_about 153 = .ok (.getfield 62, 3) := by decide +kernel
theorem dX4_about_156 : decode cX4_about 156 = .ok (.ireturn, 1) := by decide +kernel
theorem dX4_about_157 : decode cX4_about 157 = .ok (.bipush (-2), 2) := by decide +kernel
theorem dX4_about_159 : decode cX4_about 159 = .ok (.ireturn, 1) := by decide +kernel
theorem dX4_isPaper_0 : decode cX4_isPaper 0 = .ok (.iload_n 1, 1) := by decide +kernel
theorem dX4_isPaper_1 : decode cX4_isPaper 1 = .ok (.i2l, 1) := by decide +kernel
theorem dX4_isPaper_2 : decode cX4_isPaper 2 = .ok (.lconst 0, 1) := by decide +kernel
theorem dX4_isPaper_3 : decode cX4_isPaper 3 = .ok (.aload_n 0, 1) := by decide +kernel
theorem dX4_isPaper_4 : decode cX4_isPaper 4 = .ok (.getfield 44, 3) := by decide +kernel
theorem dX4_isPaper_7 : decode cX4_isPaper 7 = .ok (.iconst 1, 1) := by decide +kernel
theorem dX4_isPaper_8 : decode cX4_isPaper 8 = .ok (.isub, 1) := by decide +kernel
theorem dX4_isPaper_9 : decode cX4_isPaper 9 = .ok (.i2l, 1) := by decide +kernel
theorem dX4_isPaper_10 : decode cX4_isPaper 10 = .ok (.invokestatic 50, 3) := by decide +kernel
theorem dX4_isPaper_13 : decode cX4_isPaper 13 = .ok (.ireturn, 1) := by decide +kernel
theorem dX4_isGrant_0 : decode cX4_isGrant 0 = .ok (.iload_n 1, 1) := by decide +kernel
theorem dX4_isGrant_1 : decode cX4_isGrant 1 = .ok (.i2l, 1) := by decide +kernel
theorem dX4_isGrant_2 : decode cX4_isGrant 2 = .ok (.lconst 0, 1) := by decide +kernel
theorem dX4_isGrant_3 : decode cX4_isGrant 3 = .ok (.aload_n 0, 1) := by decide +kernel
theorem dX4_isGrant_4 : decode cX4_isGrant 4 = .ok (.getfield 16, 3) := by decide +kernel
theorem dX4_isGrant_7 : decode cX4_isGrant 7 = .ok (.iconst 0, 1) := by decide +kernel
theorem dX4_isGrant_8 : decode cX4_isGrant 8 = .ok (.iaload, 1) := by decide +kernel
theorem dX4_isGrant_9 : decode cX4_isGrant 9 = .ok (.iconst 1, 1) := by decide +kernel
theorem dX4_isGrant_10 : decode cX4_isGrant 10 = .ok (.isub, 1) := by decide +kernel
theorem dX4_isGrant_11 : decode cX4_isGrant 11 = .ok (.i2l, 1) := by decide +kernel
theorem dX4_isGrant_12 : decode cX4_isGrant 12 = .ok (.invokestatic 50, 3) := by decide +kernel
theorem dX4_isGrant_15 : decode cX4_isGrant 15 = .ok (.ireturn, 1) := by decide +kernel
theorem dX4_isRoute_0 : decode cX4_isRoute 0 = .ok (.iload_n 1, 1) := by decide +kernel
theorem dX4_isRoute_1 : decode cX4_isRoute 1 = .ok (.i2l, 1) := by decide +kernel
theorem dX4_isRoute_2 : decode cX4_isRoute 2 = .ok (.lconst 0, 1) := by decide +kernel
theorem dX4_isRoute_3 : decode cX4_isRoute 3 = .ok (.aload_n 0, 1) := by decide +kernel
theorem dX4_isRoute_4 : decode cX4_isRoute 4 = .ok (.getfield 16, 3) := by decide +kernel
theorem dX4_isRoute_7 : decode cX4_isRoute 7 = .ok (.bipush 41, 2) := by decide +kernel
theorem dX4_isRoute_9 : decode cX4_isRoute 9 = .ok (.iaload, 1) := by decide +kernel
theorem dX4_isRoute_10 : decode cX4_isRoute 10 = .ok (.iconst 1, 1) := by decide +kernel
theorem dX4_isRoute_11 : decode cX4_isRoute 11 = .ok (.isub, 1) := by decide +kernel
theorem dX4_isRoute_12 : decode cX4_isRoute 12 = .ok (.i2l, 1) := by decide +kernel
theorem dX4_isRoute_13 : decode cX4_isRoute 13 = .ok (.invokestatic 50, 3) := by decide +kernel
theorem dX4_isRoute_16 : decode cX4_isRoute 16 = .ok (.ireturn, 1) := by decide +kernel
theorem dX4_paper_0 : decode cX4_paper 0 = .ok (.aload_n 0, 1) := by decide +kernel
theorem dX4_paper_1 : decode cX4_paper 1 = .ok (.iload_n 1, 1) := by decide +kernel
theorem dX4_paper_2 : decode cX4_paper 2 = .ok (.invokevirtual 165, 3) := by decide +kernel
theorem dX4_paper_5 : decode cX4_paper 5 = .ok (.ifCond .ne 5, 3) := by decide +kernel
theorem dX4_paper_8 : decode cX4_paper 8 = .ok (.iconst (-1), 1) := by decide +kernel
theorem dX4_paper_9 : decode cX4_paper 9 = .ok (.ireturn, 1) := by decide +kernel
theorem dX4_paper_10 : decode cX4_paper 10 = .ok (.iload_n 2, 1) := by decide +kernel
theorem dX4_paper_11 : decode cX4_paper 11 = .ok (.tableswitch 111 0 4 #[33, 51, 62, 73, 93], 33) := by decide +kernel
theorem dX4_paper_44 : decode cX4_paper 44 = .ok (.iload_n 1, 1) := by decide +kernel
theorem dX4_paper_45 : decode cX4_paper 45 = .ok (.ifCond .ne 8, 3) := by decide +kernel
theorem dX4_paper_48 : decode cX4_paper 48 = .ok (.bipush (-9), 2) := by decide +kernel
theorem dX4_paper_50 : decode cX4_paper 50 = .ok (.goto 11, 3) := by decide +kernel
theorem dX4_paper_53 : decode cX4_paper 53 = .ok (.aload_n 0, 1) := by decide +kernel
theorem dX4_paper_54 : decode cX4_paper 54 = .ok (.getfield 13, 3) := by decide +kernel
theorem dX4_paper_57 : decode cX4_paper 57 = .ok (.iconst 4, 1) := by decide +kernel
theorem dX4_paper_58 : decode cX4_paper 58 = .ok (.iload_n 1, 1) := by decide +kernel
theorem dX4_paper_59 : decode cX4_paper 59 = .ok (.imul, 1) := by decide +kernel
theorem dX4_paper_60 : decode cX4_paper 60 = .ok (.iaload, 1) := by decide +kernel
theorem dX4_paper_61 : decode cX4_paper 61 = .ok (.ireturn, 1) := by decide +kernel
theorem dX4_paper_62 : decode cX4_paper 62 = .ok (.aload_n 0, 1) := by decide +kernel
theorem dX4_paper_63 : decode cX4_paper 63 = .ok (.getfield 13, 3) := by decide +kernel
theorem dX4_paper_66 : decode cX4_paper 66 = .ok (.iconst 4, 1) := by decide +kernel
theorem dX4_paper_67 : decode cX4_paper 67 = .ok (.iload_n 1, 1) := by decide +kernel
theorem dX4_paper_68 : decode cX4_paper 68 = .ok (.imul, 1) := by decide +kernel
theorem dX4_paper_69 : decode cX4_paper 69 = .ok (.iconst 1, 1) := by decide +kernel
theorem dX4_paper_70 : decode cX4_paper 70 = .ok (.iadd, 1) := by decide +kernel
theorem dX4_paper_71 : decode cX4_paper 71 = .ok (.iaload, 1) := by decide +kernel
theorem dX4_paper_72 : decode cX4_paper 72 = .ok (.ireturn, 1) := by decide +kernel
theorem dX4_paper_73 : decode cX4_paper 73 = .ok (.aload_n 0, 1) := by decide +kernel
theorem dX4_paper_74 : decode cX4_paper 74 = .ok (.getfield 13, 3) := by decide +kernel
theorem dX4_paper_77 : decode cX4_paper 77 = .ok (.iconst 4, 1) := by decide +kernel
theorem dX4_paper_78 : decode cX4_paper 78 = .ok (.iload_n 1, 1) := by decide +kernel
theorem dX4_paper_79 : decode cX4_paper 79 = .ok (.imul, 1) := by decide +kernel
theorem dX4_paper_80 : decode cX4_paper 80 = .ok (.iconst 2, 1) := by decide +kernel
theorem dX4_paper_81 : decode cX4_paper 81 = .ok (.iadd, 1) := by decide +kernel
theorem dX4_paper_82 : decode cX4_paper 82 = .ok (.iaload, 1) := by decide +kernel
theorem dX4_paper_83 : decode cX4_paper 83 = .ok (.ireturn, 1) := by decide +kernel
theorem dX4_paper_84 : decode cX4_paper 84 = .ok (.iload_n 1, 1) := by decide +kernel
theorem dX4_paper_85 : decode cX4_paper 85 = .ok (.ifCond .ne 8, 3) := by decide +kernel
theorem dX4_paper_88 : decode cX4_paper 88 = .ok (.bipush (-9), 2) := by decide +kernel
theorem dX4_paper_90 : decode cX4_paper 90 = .ok (.goto 13, 3) := by decide +kernel
theorem dX4_paper_93 : decode cX4_paper 93 = .ok (.aload_n 0, 1) := by decide +kernel
theorem dX4_paper_94 : decode cX4_paper 94 = .ok (.getfield 13, 3) := by decide +kernel
theorem dX4_paper_97 : decode cX4_paper 97 = .ok (.iconst 4, 1) := by decide +kernel
theorem dX4_paper_98 : decode cX4_paper 98 = .ok (.iload_n 1, 1) := by decide +kernel
theorem dX4_paper_99 : decode cX4_paper 99 = .ok (.imul, 1) := by decide +kernel
theorem dX4_paper_100 : decode cX4_paper 100 = .ok (.iconst 3, 1) := by decide +kernel
theorem dX4_paper_101 : decode cX4_paper 101 = .ok (.iadd, 1) := by decide +kernel
theorem dX4_paper_102 : decode cX4_paper 102 = .ok (.iaload, 1) := by decide +kernel
theorem dX4_paper_103 : decode cX4_paper 103 = .ok (.ireturn, 1) := by decide +kernel
theorem dX4_paper_104 : decode cX4_paper 104 = .ok (.aload_n 0, 1) := by decide +kernel
theorem dX4_paper_105 : decode cX4_paper 105 = .ok (.aload_n 0, 1) := by decide +kernel
theorem dX4_paper_106 : decode cX4_paper 106 = .ok (.getfield 16, 3) := by decide +kernel
theorem dX4_paper_109 : decode cX4_paper 109 = .ok (.iload_n 1, 1) := by decide +kernel
theorem dX4_paper_110 : decode cX4_paper 110 = .ok (.invokevirtual 127, 3) := by decide +kernel
theorem dX4_paper_113 : decode cX4_paper 113 = .ok (.ifCond .eq 7, 3) := by decide +kernel
theorem dX4_paper_116 : decode cX4_paper 116 = .ok (.iconst 1, 1) := by decide +kernel
theorem dX4_paper_117 : decode cX4_paper 117 = .ok (.goto 4, 3) := by decide +kernel
theorem dX4_paper_120 : decode cX4_paper 120 = .ok (.iconst 0, 1) := by decide +kernel
theorem dX4_paper_121 : decode cX4_paper 121 = .ok (.ireturn, 1) := by decide +kernel
theorem dX4_paper_122 : decode cX4_paper 122 = .ok (.bipush (-2), 2) := by decide +kernel
theorem dX4_paper_124 : decode cX4_paper 124 = .ok (.ireturn, 1) := by decide +kernel
theorem dX4_grant_0 : decode cX4_grant 0 = .ok (.aload_n 0, 1) := by decide +kernel
theorem dX4_grant_1 : decode cX4_grant 1 = .ok (.iload_n 1, 1) := by decide +kernel
theorem dX4_grant_2 : decode cX4_grant 2 = .ok (.invokevirtual 169, 3) := by decide +kernel
theorem dX4_grant_5 : decode cX4_grant 5 = .ok (.ifCond .ne 5, 3) := by decide +kernel
theorem dX4_grant_8 : decode cX4_grant 8 = .ok (.iconst (-1), 1) := by decide +kernel
theorem dX4_grant_9 : decode cX4_grant 9 = .ok (.ireturn, 1) := by decide +kernel
theorem dX4_grant_10 : decode cX4_grant 10 = .ok (.iload_n 2, 1) := by decide +kernel
theorem dX4_grant_11 : decode cX4_grant 11 = .ok (.iconst 5, 1) := by decide +kernel
theorem dX4_grant_12 : decode cX4_grant 12 = .ok (.if_icmp .ne 21, 3) := by decide +kernel
theorem dX4_grant_15 : decode cX4_grant 15 = .ok (.aload_n 0, 1) := by decide +kernel
theorem dX4_grant_16 : decode cX4_grant 16 = .ok (.aload_n 0, 1) := by decide +kernel
theorem dX4_grant_17 : decode cX4_grant 17 = .ok (.getfield 16, 3) := by decide +kernel
theorem dX4_grant_20 : decode cX4_grant 20 = .ok (.iload_n 1, 1) := by decide +kernel
theorem dX4_grant_21 : decode cX4_grant 21 = .ok (.invokevirtual 131, 3) := by decide +kernel
theorem dX4_grant_24 : decode cX4_grant 24 = .ok (.ifCond .eq 7, 3) := by decide +kernel
theorem dX4_grant_27 : decode cX4_grant 27 = .ok (.iconst 1, 1) := by decide +kernel
theorem dX4_grant_28 : decode cX4_grant 28 = .ok (.goto 4, 3) := by decide +kernel
theorem dX4_grant_31 : decode cX4_grant 31 = .ok (.iconst 0, 1) := by decide +kernel
theorem dX4_grant_32 : decode cX4_grant 32 = .ok (.ireturn, 1) := by decide +kernel
theorem dX4_grant_33 : decode cX4_grant 33 = .ok (.iload_n 2, 1) := by decide +kernel
theorem dX4_grant_34 : decode cX4_grant 34 = .ok (.i2l, 1) := by decide +kernel
theorem dX4_grant_35 : decode cX4_grant 35 = .ok (.lconst 0, 1) := by decide +kernel
theorem dX4_grant_36 : decode cX4_grant 36 = .ok (.ldc2_w 172, 3) := by decide +kernel
theorem dX4_grant_39 : decode cX4_grant 39 = .ok (.invokestatic 50, 3) := by decide +kernel
theorem dX4_grant_42 : decode cX4_grant 42 = .ok (.ifCond .eq 18, 3) := by decide +kernel
theorem dX4_grant_45 : decode cX4_grant 45 = .ok (.aload_n 0, 1) := by decide +kernel
theorem dX4_grant_46 : decode cX4_grant 46 = .ok (.getfield 16, 3) := by decide +kernel
theorem dX4_grant_49 : decode cX4_grant 49 = .ok (.iconst 1, 1) := by decide +kernel
theorem dX4_grant_50 : decode cX4_grant 50 = .ok (.iconst 5, 1) := by decide +kernel
theorem dX4_grant_51 : decode cX4_grant 51 = .ok (.iload_n 1, 1) := by decide +kernel
theorem dX4_grant_52 : decode cX4_grant 52 = .ok (.imul, 1) := by decide +kernel
theorem dX4_grant_53 : decode cX4_grant 53 = .ok (.iadd, 1) := by decide +kernel
theorem dX4_grant_54 : decode cX4_grant 54 = .ok (.iload_n 2, 1) := by decide +kernel
theorem dX4_grant_55 : decode cX4_grant 55 = .ok (.iadd, 1) := by decide +kernel
theorem dX4_grant_56 : decode cX4_grant 56 = .ok (.iaload, 1) := by decide +kernel
theorem dX4_grant_57 : decode cX4_grant 57 = .ok (.goto 5, 3) := by decide +kernel
theorem dX4_grant_60 : decode cX4_grant 60 = .ok (.bipush (-2), 2) := by decide +kernel
theorem dX4_grant_62 : decode cX4_grant 62 = .ok (.ireturn, 1) := by decide +kernel
theorem dX4_route_0 : decode cX4_route 0 = .ok (.aload_n 0, 1) := by decide +kernel
theorem dX4_route_1 : decode cX4_route 1 = .ok (.iload_n 1, 1) := by decide +kernel
theorem dX4_route_2 : decode cX4_route 2 = .ok (.invokevirtual 174, 3) := by decide +kernel
theorem dX4_route_5 : decode cX4_route 5 = .ok (.ifCond .ne 5, 3) := by decide +kernel
theorem dX4_route_8 : decode cX4_route 8 = .ok (.iconst (-1), 1) := by decide +kernel
theorem dX4_route_9 : decode cX4_route 9 = .ok (.ireturn, 1) := by decide +kernel
theorem dX4_route_10 : decode cX4_route 10 = .ok (.iload_n 2, 1) := by decide +kernel
theorem dX4_route_11 : decode cX4_route 11 = .ok (.iconst 3, 1) := by decide +kernel
theorem dX4_route_12 : decode cX4_route 12 = .ok (.if_icmp .ne 13, 3) := by decide +kernel
theorem dX4_route_15 : decode cX4_route 15 = .ok (.aload_n 0, 1) := by decide +kernel
theorem dX4_route_16 : decode cX4_route 16 = .ok (.aload_n 0, 1) := by decide +kernel
theorem dX4_route_17 : decode cX4_route 17 = .ok (.getfield 16, 3) := by decide +kernel
theorem dX4_route_20 : decode cX4_route 20 = .ok (.iload_n 1, 1) := by decide +kernel
theorem dX4_route_21 : decode cX4_route 21 = .ok (.invokevirtual 142, 3) := by decide +kernel
theorem dX4_route_24 : decode cX4_route 24 = .ok (.ireturn, 1) := by decide +kernel
theorem dX4_route_25 : decode cX4_route 25 = .ok (.iload_n 2, 1) := by decide +kernel
theorem dX4_route_26 : decode cX4_route 26 = .ok (.iconst 4, 1) := by decide +kernel
theorem dX4_route_27 : decode cX4_route 27 = .ok (.if_icmp .ne 9, 3) := by decide +kernel
theorem dX4_route_30 : decode cX4_route 30 = .ok (.aload_n 0, 1) := by decide +kernel
theorem dX4_route_31 : decode cX4_route 31 = .ok (.iload_n 1, 1) := by decide +kernel
theorem dX4_route_32 : decode cX4_route 32 = .ok (.invokevirtual 177, 3) := by decide +kernel
theorem dX4_route_35 : decode cX4_route 35 = .ok (.ireturn, 1) := by decide +kernel
theorem dX4_route_36 : decode cX4_route 36 = .ok (.iload_n 2, 1) := by decide +kernel
theorem dX4_route_37 : decode cX4_route 37 = .ok (.i2l, 1) := by decide +kernel
theorem dX4_route_38 : decode cX4_route 38 = .ok (.lconst 0, 1) := by decide +kernel
theorem dX4_route_39 : decode cX4_route 39 = .ok (.ldc2_w 180, 3) := by decide +kernel
theorem dX4_route_42 : decode cX4_route 42 = .ok (.invokestatic 50, 3) := by decide +kernel
theorem dX4_route_45 : decode cX4_route 45 = .ok (.ifCond .eq 19, 3) := by decide +kernel
theorem dX4_route_48 : decode cX4_route 48 = .ok (.aload_n 0, 1) := by decide +kernel
theorem dX4_route_49 : decode cX4_route 49 = .ok (.getfield 16, 3) := by decide +kernel
theorem dX4_route_52 : decode cX4_route 52 = .ok (.bipush 42, 2) := by decide +kernel
theorem dX4_route_54 : decode cX4_route 54 = .ok (.iconst 3, 1) := by decide +kernel
theorem dX4_route_55 : decode cX4_route 55 = .ok (.iload_n 1, 1) := by decide +kernel
theorem dX4_route_56 : decode cX4_route 56 = .ok (.imul, 1) := by decide +kernel
theorem dX4_route_57 : decode cX4_route 57 = .ok (.iadd, 1) := by decide +kernel
theorem dX4_route_58 : decode cX4_route 58 = .ok (.iload_n 2, 1) := by decide +kernel
theorem dX4_route_59 : decode cX4_route 59 = .ok (.iadd, 1) := by decide +kernel
theorem dX4_route_60 : decode cX4_route 60 = .ok (.iaload, 1) := by decide +kernel
theorem dX4_route_61 : decode cX4_route 61 = .ok (.goto 5, 3) := by decide +kernel
theorem dX4_route_64 : decode cX4_route 64 = .ok (.bipush (-2), 2) := by decide +kernel
theorem dX4_route_66 : decode cX4_route 66 = .ok (.ireturn, 1) := by decide +kernel
theorem dX4_note_0 : decode cX4_note 0 = .ok (.iconst 0, 1) := by decide +kernel
theorem dX4_note_1 : decode cX4_note 1 = .ok (.istore_n 1, 1) := by decide +kernel
theorem dX4_note_2 : decode cX4_note 2 = .ok (.iload_n 1, 1) := by decide +kernel
theorem dX4_note_3 : decode cX4_note 3 = .ok (.bipush 66, 2) := by decide +kernel
theorem dX4_note_5 : decode cX4_note 5 = .ok (.if_icmp .ge 29, 3) := by decide +kernel
theorem dX4_note_8 : decode cX4_note 8 = .ok (.aload_n 0, 1) := by decide +kernel
theorem dX4_note_9 : decode cX4_note 9 = .ok (.getfield 22, 3) := by decide +kernel
theorem dX4_note_12 : decode cX4_note 12 = .ok (.bipush 66, 2) := by decide +kernel
theorem dX4_note_14 : decode cX4_note 14 = .ok (.aload_n 0, 1) := by decide +kernel
theorem dX4_note_15 : decode cX4_note 15 = .ok (.getfield 182, 3) := by decide +kernel
theorem dX4_note_18 : decode cX4_note 18 = .ok (.imul, 1) := by decide +kernel
theorem dX4_note_19 : decode cX4_note 19 = .ok (.iload_n 1, 1) := by decide +kernel
theorem dX4_note_20 : decode cX4_note 20 = .ok (.iadd, 1) := by decide +kernel
theorem dX4_note_21 : decode cX4_note 21 = .ok (.aload_n 0, 1) := by decide +kernel
theorem dX4_note_22 : decode cX4_note 22 = .ok (.getfield 16, 3) := by decide +kernel
theorem dX4_note_25 : decode cX4_note 25 = .ok (.iload_n 1, 1) := by decide +kernel
theorem dX4_note_26 : decode cX4_note 26 = .ok (.iaload, 1) := by decide +kernel
theorem dX4_note_27 : decode cX4_note 27 = .ok (.iastore, 1) := by decide +kernel
theorem dX4_note_28 : decode cX4_note 28 = .ok (.iinc 1 1, 3) := by decide +kernel
theorem dX4_note_31 : decode cX4_note 31 = .ok (.goto (-29), 3) := by decide +kernel
theorem dX4_note_34 : decode cX4_note 34 = .ok (.aload_n 0, 1) := by decide +kernel
theorem dX4_note_35 : decode cX4_note 35 = .ok (.aload_n 0, 1) := by decide +kernel
theorem dX4_note_36 : decode cX4_note 36 = .ok (.getfield 182, 3) := by decide +kernel
theorem dX4_note_39 : decode cX4_note 39 = .ok (.iconst 1, 1) := by decide +kernel
theorem dX4_note_40 : decode cX4_note 40 = .ok (.iadd, 1) := by decide +kernel
theorem dX4_note_41 : decode cX4_note 41 = .ok (.bipush 14, 2) := by decide +kernel
theorem dX4_note_43 : decode cX4_note 43 = .ok (.irem, 1) := by decide +kernel
theorem dX4_note_44 : decode cX4_note 44 = .ok (.putfield 182, 3) := by decide +kernel
theorem dX4_note_47 : decode cX4_note 47 = .ok (.aload_n 0, 1) := by decide +kernel
theorem dX4_note_48 : decode cX4_note 48 = .ok (.aload_n 0, 1) := by decide +kernel
theorem dX4_note_49 : decode cX4_note 49 = .ok (.getfield 117, 3) := by decide +kernel
theorem dX4_note_52 : decode cX4_note 52 = .ok (.bipush 14, 2) := by decide +kernel
theorem dX4_note_54 : decode cX4_note 54 = .ok (.if_icmp .ge 12, 3) := by decide +kernel
theorem dX4_note_57 : decode cX4_note 57 = .ok (.aload_n 0, 1) := by decide +kernel
theorem dX4_note_58 : decode cX4_note 58 = .ok (.getfield 117, 3) := by decide +kernel
theorem dX4_note_61 : decode cX4_note 61 = .ok (.iconst 1, 1) := by decide +kernel
theorem dX4_note_62 : decode cX4_note 62 = .ok (.iadd, 1) := by decide +kernel
theorem dX4_note_63 : decode cX4_note 63 = .ok (.goto 5, 3) := by decide +kernel
theorem dX4_note_66 : decode cX4_note 66 = .ok (.bipush 14, 2) := by decide +kernel
theorem dX4_note_68 : decode cX4_note 68 = .ok (.putfield 117, 3) := by decide +kernel
theorem dX4_note_71 : decode cX4_note 71 = .ok (.return_, 1) := by decide +kernel
theorem dX4_announce_0 : decode cX4_announce 0 = .ok (.iload_n 1, 1) := by decide +kernel
theorem dX4_announce_1 : decode cX4_announce 1 = .ok (.iload_n 2, 1) := by decide +kernel
theorem dX4_announce_2 : decode cX4_announce 2 = .ok (.invokestatic 75, 3) := by decide +kernel
theorem dX4_announce_5 : decode cX4_announce 5 = .ok (.ifCond .ne 6, 3) := by decide +kernel
theorem dX4_announce_8 : decode cX4_announce 8 = .ok (.bipush (-2), 2) := by decide +kernel
theorem dX4_announce_10 : decode cX4_announce 10 = .ok (.ireturn, 1) := by decide +kernel
theorem dX4_announce_11 : decode cX4_announce 11 = .ok (.iload_n 3, 1) := by decide +kernel
theorem dX4_announce_12 : decode cX4_announce 12 = .ok (.invokestatic 185, 3) := by decide +kernel
theorem dX4_announce_15 : decode cX4_announce 15 = .ok (.ifCond .ne 5, 3) := by decide +kernel
theorem dX4_announce_18 : decode cX4_announce 18 = .ok (.iconst (-1), 1) := by decide +kernel
theorem dX4_announce_19 : decode cX4_announce 19 = .ok (.ireturn, 1) := by decide +kernel
theorem dX4_announce_20 : decode cX4_announce 20 = .ok (.aload_n 0, 1) := by decide +kernel
theorem dX4_announce_21 : decode cX4_announce 21 = .ok (.getfield 16, 3) := by decide +kernel
theorem dX4_announce_24 : decode cX4_announce 24 = .ok (.bipush 41, 2) := by decide +kernel
theorem dX4_announce_26 : decode cX4_announce 26 = .ok (.iaload, 1) := by decide +kernel
theorem dX4_announce_27 : decode cX4_announce 27 = .ok (.bipush 6, 2) := by decide +kernel
theorem dX4_announce_29 : decode cX4_announce 29 = .ok (.if_icmp .ne 6, 3) := by decide +kernel
theorem dX4_announce_32 : decode cX4_announce 32 = .ok (.bipush (-4), 2) := by decide +kernel
theorem dX4_announce_34 : decode cX4_announce 34 = .ok (.ireturn, 1) := by decide +kernel
theorem dX4_announce_35 : decode cX4_announce 35 = .ok (.aload_n 0, 1) := by decide +kernel
theorem dX4_announce_36 : decode cX4_announce 36 = .ok (.invokevirtual 188, 3) := by decide +kernel
theorem dX4_announce_39 : decode cX4_announce 39 = .ok (.aload_n 0, 1) := by decide +kernel
theorem dX4_announce_40 : decode cX4_announce 40 = .ok (.getfield 16, 3) := by decide +kernel
theorem dX4_announce_43 : decode cX4_announce 43 = .ok (.iload_n 1, 1) := by decide +kernel
theorem dX4_announce_44 : decode cX4_announce 44 = .ok (.iload_n 2, 1) := by decide +kernel
theorem dX4_announce_45 : decode cX4_announce 45 = .ok (.iload_n 3, 1) := by decide +kernel
theorem dX4_announce_46 : decode cX4_announce 46 = .ok (.invokestatic 93, 3) := by decide +kernel
theorem dX4_announce_49 : decode cX4_announce 49 = .ok (.aload_n 0, 1) := by decide +kernel
theorem dX4_announce_50 : decode cX4_announce 50 = .ok (.getfield 16, 3) := by decide +kernel
theorem dX4_announce_53 : decode cX4_announce 53 = .ok (.bipush 41, 2) := by decide +kernel
theorem dX4_announce_55 : decode cX4_announce 55 = .ok (.iaload, 1) := by decide +kernel
theorem dX4_announce_56 : decode cX4_announce 56 = .ok (.iconst 1, 1) := by decide +kernel
theorem dX4_announce_57 : decode cX4_announce 57 = .ok (.isub, 1) := by decide +kernel
theorem dX4_announce_58 : decode cX4_announce 58 = .ok (.ireturn, 1) := by decide +kernel
theorem dX4_withdraw_0 : decode cX4_withdraw 0 = .ok (.aload_n 0, 1) := by decide +kernel
theorem dX4_withdraw_1 : decode cX4_withdraw 1 = .ok (.iload_n 1, 1) := by decide +kernel
theorem dX4_withdraw_2 : decode cX4_withdraw 2 = .ok (.invokevirtual 174, 3) := by decide +kernel
theorem dX4_withdraw_5 : decode cX4_withdraw 5 = .ok (.ifCond .ne 5, 3) := by decide +kernel
theorem dX4_withdraw_8 : decode cX4_withdraw 8 = .ok (.iconst (-1), 1) := by decide +kernel
theorem dX4_withdraw_9 : decode cX4_withdraw 9 = .ok (.ireturn, 1) := by decide +kernel
theorem dX4_withdraw_10 : decode cX4_withdraw 10 = .ok (.aload_n 0, 1) := by decide +kernel
theorem dX4_withdraw_11 : decode cX4_withdraw 11 = .ok (.invokevirtual 188, 3) := by decide +kernel
theorem dX4_withdraw_14 : decode cX4_withdraw 14 = .ok (.aload_n 0, 1) := by decide +kernel
theorem dX4_withdraw_15 : decode cX4_withdraw 15 = .ok (.getfield 16, 3) := by decide +kernel
theorem dX4_withdraw_18 : decode cX4_withdraw 18 = .ok (.iload_n 1, 1) := by decide +kernel
theorem dX4_withdraw_19 : decode cX4_withdraw 19 = .ok (.invokestatic 191, 3) := by decide +kernel
theorem dX4_withdraw_22 : decode cX4_withdraw 22 = .ok (.aload_n 0, 1) := by decide +kernel
theorem dX4_withdraw_23 : decode cX4_withdraw 23 = .ok (.getfield 16, 3) := by decide +kernel
theorem dX4_withdraw_26 : decode cX4_withdraw 26 = .ok (.bipush 41, 2) := by decide +kernel
theorem dX4_withdraw_28 : decode cX4_withdraw 28 = .ok (.iaload, 1) := by decide +kernel
theorem dX4_withdraw_29 : decode cX4_withdraw 29 = .ok (.ireturn, 1) := by decide +kernel
theorem dX4_allow_0 : decode cX4_allow 0 = .ok (.aload_n 0, 1) := by decide +kernel
theorem dX4_allow_1 : decode cX4_allow 1 = .ok (.iload_n 1, 1) := by decide +kernel
theorem dX4_allow_2 : decode cX4_allow 2 = .ok (.invokevirtual 165, 3) := by decide +kernel
theorem dX4_allow_5 : decode cX4_allow 5 = .ok (.ifCond .ne 9, 3) := by decide +kernel
theorem dX4_allow_8 : decode cX4_allow 8 = .ok (.iload_n 1, 1) := by decide +kernel
theorem dX4_allow_9 : decode cX4_allow 9 = .ok (.bipush 9, 2) := by decide +kernel
theorem dX4_allow_11 : decode cX4_allow 11 = .ok (.if_icmp .ne 10, 3) := by decide +kernel
theorem dX4_allow_14 : decode cX4_allow 14 = .ok (.iload_n 2, 1) := by decide +kernel
theorem dX4_allow_15 : decode cX4_allow 15 = .ok (.invokestatic 185, 3) := by decide +kernel
theorem dX4_allow_18 : decode cX4_allow 18 = .ok (.ifCond .ne 5, 3) := by decide +kernel
theorem dX4_allow_21 : decode cX4_allow 21 = .ok (.iconst (-1), 1) := by decide +kernel
theorem dX4_allow_22 : decode cX4_allow 22 = .ok (.ireturn, 1) := by decide +kernel
theorem dX4_allow_23 : decode cX4_allow 23 = .ok (.iload_n 3, 1) := by decide +kernel
theorem dX4_allow_24 : decode cX4_allow 24 = .ok (.iload 4, 2) := by decide +kernel
theorem dX4_allow_26 : decode cX4_allow 26 = .ok (.invokestatic 75, 3) := by decide +kernel
theorem dX4_allow_29 : decode cX4_allow 29 = .ok (.ifCond .eq 18, 3) := by decide +kernel
theorem dX4_allow_32 : decode cX4_allow 32 = .ok (.iload 5, 2) := by decide +kernel
theorem dX4_allow_34 : decode cX4_allow 34 = .ok (.i2l, 1) := by decide +kernel
theorem dX4_allow_35 : decode cX4_allow 35 = .ok (.iload 4, 2) := by decide +kernel
theorem dX4_allow_37 : decode cX4_allow 37 = .ok (.i2l, 1) := by decide +kernel
theorem dX4_allow_38 : decode cX4_allow 38 = .ok (.ldc2_w 48, 3) := by decide +kernel
theorem dX4_allow_41 : decode cX4_allow 41 = .ok (.invokestatic 50, 3) := by decide +kernel
theorem dX4_allow_44 : decode cX4_allow 44 = .ok (.ifCond .ne 6, 3) := by decide +kernel
theorem dX4_allow_47 : decode cX4_allow 47 = .ok (.bipush (-2), 2) := by decide +kernel
theorem dX4_allow_49 : decode cX4_allow 49 = .ok (.ireturn, 1) := by decide +kernel
theorem dX4_allow_50 : decode cX4_allow 50 = .ok (.aload_n 0, 1) := by decide +kernel
theorem dX4_allow_51 : decode cX4_allow 51 = .ok (.getfield 16, 3) := by decide +kernel
theorem dX4_allow_54 : decode cX4_allow 54 = .ok (.iconst 0, 1) := by decide +kernel
theorem dX4_allow_55 : decode cX4_allow 55 = .ok (.iaload, 1) := by decide +kernel
theorem dX4_allow_56 : decode cX4_allow 56 = .ok (.bipush 8, 2) := by decide +kernel
theorem dX4_allow_58 : decode cX4_allow 58 = .ok (.if_icmp .ne 6, 3) := by decide +kernel
theorem dX4_allow_61 : decode cX4_allow 61 = .ok (.bipush (-4), 2) := by decide +kernel
theorem dX4_allow_63 : decode cX4_allow 63 = .ok (.ireturn, 1) := by decide +kernel
theorem dX4_allow_64 : decode cX4_allow 64 = .ok (.aload_n 0, 1) := by decide +kernel
theorem dX4_allow_65 : decode cX4_allow 65 = .ok (.invokevirtual 188, 3) := by decide +kernel
theorem dX4_allow_68 : decode cX4_allow 68 = .ok (.aload_n 0, 1) := by decide +kernel
theorem dX4_allow_69 : decode cX4_allow 69 = .ok (.getfield 16, 3) := by decide +kernel
theorem dX4_allow_72 : decode cX4_allow 72 = .ok (.iload_n 1, 1) := by decide +kernel
theorem dX4_allow_73 : decode cX4_allow 73 = .ok (.iload_n 2, 1) := by decide +kernel
theorem dX4_allow_74 : decode cX4_allow 74 = .ok (.iload_n 3, 1) := by decide +kernel
theorem dX4_allow_75 : decode cX4_allow 75 = .ok (.iload 4, 2) := by decide +kernel
theorem dX4_allow_77 : decode cX4_allow 77 = .ok (.iload 5, 2) := by decide +kernel
theorem dX4_allow_79 : decode cX4_allow 79 = .ok (.invokestatic 89, 3) := by decide +kernel
theorem dX4_allow_82 : decode cX4_allow 82 = .ok (.aload_n 0, 1) := by decide +kernel
theorem dX4_allow_83 : decode cX4_allow 83 = .ok (.getfield 16, 3) := by decide +kernel
theorem dX4_allow_86 : decode cX4_allow 86 = .ok (.iconst 0, 1) := by decide +kernel
theorem dX4_allow_87 : decode cX4_allow 87 = .ok (.iaload, 1) := by decide +kernel
theorem dX4_allow_88 : decode cX4_allow 88 = .ok (.iconst 1, 1) := by decide +kernel
theorem dX4_allow_89 : decode cX4_allow 89 = .ok (.isub, 1) := by decide +kernel
theorem dX4_allow_90 : decode cX4_allow 90 = .ok (.ireturn, 1) := by decide +kernel
theorem dX4_tear_0 : decode cX4_tear 0 = .ok (.aload_n 0, 1) := by decide +kernel
theorem dX4_tear_1 : decode cX4_tear 1 = .ok (.iload_n 1, 1) := by decide +kernel
theorem dX4_tear_2 : decode cX4_tear 2 = .ok (.invokevirtual 169, 3) := by decide +kernel
theorem dX4_tear_5 : decode cX4_tear 5 = .ok (.ifCond .ne 5, 3) := by decide +kernel
theorem dX4_tear_8 : decode cX4_tear 8 = .ok (.iconst (-1), 1) := by decide +kernel
theorem dX4_tear_9 : decode cX4_tear 9 = .ok (.ireturn, 1) := by decide +kernel
theorem dX4_tear_10 : decode cX4_tear 10 = .ok (.aload_n 0, 1) := by decide +kernel
theorem dX4_tear_11 : decode cX4_tear 11 = .ok (.invokevirtual 188, 3) := by decide +kernel
theorem dX4_tear_14 : decode cX4_tear 14 = .ok (.aload_n 0, 1) := by decide +kernel
theorem dX4_tear_15 : decode cX4_tear 15 = .ok (.getfield 16, 3) := by decide +kernel
theorem dX4_tear_18 : decode cX4_tear 18 = .ok (.iload_n 1, 1) := by decide +kernel
theorem dX4_tear_19 : decode cX4_tear 19 = .ok (.invokestatic 195, 3) := by decide +kernel
theorem dX4_tear_22 : decode cX4_tear 22 = .ok (.aload_n 0, 1) := by decide +kernel
theorem dX4_tear_23 : decode cX4_tear 23 = .ok (.getfield 16, 3) := by decide +kernel
theorem dX4_tear_26 : decode cX4_tear 26 = .ok (.iconst 0, 1) := by decide +kernel
theorem dX4_tear_27 : decode cX4_tear 27 = .ok (.iaload, 1) := by decide +kernel
theorem dX4_tear_28 : decode cX4_tear 28 = .ok (.ireturn, 1) := by decide +kernel
theorem dX4_revoke_0 : decode cX4_revoke 0 = .ok (.aload_n 0, 1) := by decide +kernel
theorem dX4_revoke_1 : decode cX4_revoke 1 = .ok (.iload_n 1, 1) := by decide +kernel
theorem dX4_revoke_2 : decode cX4_revoke 2 = .ok (.invokevirtual 165, 3) := by decide +kernel
theorem dX4_revoke_5 : decode cX4_revoke 5 = .ok (.ifCond .eq 7, 3) := by decide +kernel
theorem dX4_revoke_8 : decode cX4_revoke 8 = .ok (.iload_n 1, 1) := by decide +kernel
theorem dX4_revoke_9 : decode cX4_revoke 9 = .ok (.ifCond .ne 5, 3) := by decide +kernel
theorem dX4_revoke_12 : decode cX4_revoke 12 = .ok (.iconst (-1), 1) := by decide +kernel
theorem dX4_revoke_13 : decode cX4_revoke 13 = .ok (.ireturn, 1) := by decide +kernel
theorem dX4_revoke_14 : decode cX4_revoke 14 = .ok (.aload_n 0, 1) := by decide +kernel
theorem dX4_revoke_15 : decode cX4_revoke 15 = .ok (.invokevirtual 188, 3) := by decide +kernel
theorem dX4_revoke_18 : decode cX4_revoke 18 = .ok (.aload_n 0, 1) := by decide +kernel
theorem dX4_revoke_19 : decode cX4_revoke 19 = .ok (.getfield 16, 3) := by decide +kernel
theorem dX4_revoke_22 : decode cX4_revoke 22 = .ok (.bipush 63, 2) := by decide +kernel
theorem dX4_revoke_24 : decode cX4_revoke 24 = .ok (.dup2, 1) := by decide +kernel
theorem dX4_revoke_25 : decode cX4_revoke 25 = .ok (.iaload, 1) := by decide +kernel
theorem dX4_revoke_26 : decode cX4_revoke 26 = .ok (.iconst 1, 1) := by decide +kernel
theorem dX4_revoke_27 : decode cX4_revoke 27 = .ok (.iload_n 1, 1) := by decide +kernel
theorem dX4_revoke_28 : decode cX4_revoke 28 = .ok (.ishl, 1) := by decide +kernel
theorem dX4_revoke_29 : decode cX4_revoke 29 = .ok (.ixor, 1) := by decide +kernel
theorem dX4_revoke_30 : decode cX4_revoke 30 = .ok (.iastore, 1) := by decide +kernel
theorem dX4_revoke_31 : decode cX4_revoke 31 = .ok (.aload_n 0, 1) := by decide +kernel
theorem dX4_revoke_32 : decode cX4_revoke 32 = .ok (.getfield 16, 3) := by decide +kernel
theorem dX4_revoke_35 : decode cX4_revoke 35 = .ok (.bipush 63, 2) := by decide +kernel
theorem dX4_revoke_37 : decode cX4_revoke 37 = .ok (.iaload, 1) := by decide +kernel
theorem dX4_revoke_38 : decode cX4_revoke 38 = .ok (.iload_n 1, 1) := by decide +kernel
theorem dX4_revoke_39 : decode cX4_revoke 39 = .ok (.ishr, 1) := by decide +kernel
theorem dX4_revoke_40 : decode cX4_revoke 40 = .ok (.iconst 1, 1) := by decide +kernel
theorem dX4_revoke_41 : decode cX4_revoke 41 = .ok (.iand, 1) := by decide +kernel
theorem dX4_revoke_42 : decode cX4_revoke 42 = .ok (.ireturn, 1) := by decide +kernel
theorem dX4_night_0 : decode cX4_night 0 = .ok (.aload_n 0, 1) := by decide +kernel
theorem dX4_night_1 : decode cX4_night 1 = .ok (.getfield 16, 3) := by decide +kernel
theorem dX4_night_4 : decode cX4_night 4 = .ok (.bipush 65, 2) := by decide +kernel
theorem dX4_night_6 : decode cX4_night 6 = .ok (.iaload, 1) := by decide +kernel
theorem dX4_night_7 : decode cX4_night 7 = .ok (.bipush 9, 2) := by decide +kernel
theorem dX4_night_9 : decode cX4_night 9 = .ok (.if_icmp .ne 6, 3) := by decide +kernel
theorem dX4_night_12 : decode cX4_night 12 = .ok (.bipush (-3), 2) := by decide +kernel
theorem dX4_night_14 : decode cX4_night 14 = .ok (.ireturn, 1) := by decide +kernel
theorem dX4_night_15 : decode cX4_night 15 = .ok (.aload_n 0, 1) := by decide +kernel
theorem dX4_night_16 : decode cX4_night 16 = .ok (.invokevirtual 188, 3) := by decide +kernel
theorem dX4_night_19 : decode cX4_night 19 = .ok (.aload_n 0, 1) := by decide +kernel
theorem dX4_night_20 : decode cX4_night 20 = .ok (.getfield 16, 3) := by decide +kernel
theorem dX4_night_23 : decode cX4_night 23 = .ok (.bipush 65, 2) := by decide +kernel
theorem dX4_night_25 : decode cX4_night 25 = .ok (.dup2, 1) := by decide +kernel
theorem dX4_night_26 : decode cX4_night 26 = .ok (.iaload, 1) := by decide +kernel
theorem dX4_night_27 : decode cX4_night 27 = .ok (.iconst 1, 1) := by decide +kernel
theorem dX4_night_28 : decode cX4_night 28 = .ok (.iadd, 1) := by decide +kernel
theorem dX4_night_29 : decode cX4_night 29 = .ok (.iastore, 1) := by decide +kernel
theorem dX4_night_30 : decode cX4_night 30 = .ok (.aload_n 0, 1) := by decide +kernel
theorem dX4_night_31 : decode cX4_night 31 = .ok (.getfield 16, 3) := by decide +kernel
theorem dX4_night_34 : decode cX4_night 34 = .ok (.bipush 65, 2) := by decide +kernel
theorem dX4_night_36 : decode cX4_night 36 = .ok (.iaload, 1) := by decide +kernel
theorem dX4_night_37 : decode cX4_night 37 = .ok (.ireturn, 1) := by decide +kernel
theorem dX4_setAside_0 : decode cX4_setAside 0 = .ok (.iload_n 1, 1) := by decide +kernel
theorem dX4_setAside_1 : decode cX4_setAside 1 = .ok (.invokestatic 185, 3) := by decide +kernel
theorem dX4_setAside_4 : decode cX4_setAside 4 = .ok (.ifCond .ne 5, 3) := by decide +kernel
theorem dX4_setAside_7 : decode cX4_setAside 7 = .ok (.iconst (-1), 1) := by decide +kernel
theorem dX4_setAside_8 : decode cX4_setAside 8 = .ok (.ireturn, 1) := by decide +kernel
theorem dX4_setAside_9 : decode cX4_setAside 9 = .ok (.aload_n 0, 1) := by decide +kernel
theorem dX4_setAside_10 : decode cX4_setAside 10 = .ok (.invokevirtual 188, 3) := by decide +kernel
theorem dX4_setAside_13 : decode cX4_setAside 13 = .ok (.aload_n 0, 1) := by decide +kernel
theorem dX4_setAside_14 : decode cX4_setAside 14 = .ok (.getfield 16, 3) := by decide +kernel
theorem dX4_setAside_17 : decode cX4_setAside 17 = .ok (.bipush 64, 2) := by decide +kernel
theorem dX4_setAside_19 : decode cX4_setAside 19 = .ok (.dup2, 1) := by decide +kernel
theorem dX4_setAside_20 : decode cX4_setAside 20 = .ok (.iaload, 1) := by decide +kernel
theorem dX4_setAside_21 : decode cX4_setAside 21 = .ok (.iconst 1, 1) := by decide +kernel
theorem dX4_setAside_22 : decode cX4_setAside 22 = .ok (.iload_n 1, 1) := by decide +kernel
theorem dX4_setAside_23 : decode cX4_setAside 23 = .ok (.ishl, 1) := by decide +kernel
theorem dX4_setAside_24 : decode cX4_setAside 24 = .ok (.ixor, 1) := by decide +kernel
theorem dX4_setAside_25 : decode cX4_setAside 25 = .ok (.iastore, 1) := by decide +kernel
theorem dX4_setAside_26 : decode cX4_setAside 26 = .ok (.aload_n 0, 1) := by decide +kernel
theorem dX4_setAside_27 : decode cX4_setAside 27 = .ok (.getfield 16, 3) := by decide +kernel
theorem dX4_setAside_30 : decode cX4_setAside 30 = .ok (.bipush 64, 2) := by decide +kernel
theorem dX4_setAside_32 : decode cX4_setAside 32 = .ok (.iaload, 1) := by decide +kernel
theorem dX4_setAside_33 : decode cX4_setAside 33 = .ok (.iload_n 1, 1) := by decide +kernel
theorem dX4_setAside_34 : decode cX4_setAside 34 = .ok (.ishr, 1) := by decide +kernel
theorem dX4_setAside_35 : decode cX4_setAside 35 = .ok (.iconst 1, 1) := by decide +kernel
theorem dX4_setAside_36 : decode cX4_setAside 36 = .ok (.iand, 1) := by decide +kernel
theorem dX4_setAside_37 : decode cX4_setAside 37 = .ok (.ireturn, 1) := by decide +kernel
theorem dX4_undo_0 : decode cX4_undo 0 = .ok (.aload_n 0, 1) := by decide +kernel
theorem dX4_undo_1 : decode cX4_undo 1 = .ok (.getfield 117, 3) := by decide +kernel
theorem dX4_undo_4 : decode cX4_undo 4 = .ok (.ifCond .ne 6, 3) := by decide +kernel
theorem dX4_undo_7 : decode cX4_undo 7 = .ok (.bipush (-3), 2) := by decide +kernel
theorem dX4_undo_9 : decode cX4_undo 9 = .ok (.ireturn, 1) := by decide +kernel
theorem dX4_undo_10 : decode cX4_undo 10 = .ok (.aload_n 0, 1) := by decide +kernel
theorem dX4_undo_11 : decode cX4_undo 11 = .ok (.dup, 1) := by decide +kernel
theorem dX4_undo_12 : decode cX4_undo 12 = .ok (.getfield 117, 3) := by decide +kernel
theorem dX4_undo_15 : decode cX4_undo 15 = .ok (.iconst 1, 1) := by decide +kernel
theorem dX4_undo_16 : decode cX4_undo 16 = .ok (.isub, 1) := by decide +kernel
theorem dX4_undo_17 : decode cX4_undo 17 = .ok (.putfield 117, 3) := by decide +kernel
theorem dX4_undo_20 : decode cX4_undo 20 = .ok (.aload_n 0, 1) := by decide +kernel
theorem dX4_undo_21 : decode cX4_undo 21 = .ok (.aload_n 0, 1) := by decide +kernel
theorem dX4_undo_22 : decode cX4_undo 22 = .ok (.getfield 182, 3) := by decide +kernel
theorem dX4_undo_25 : decode cX4_undo 25 = .ok (.bipush 14, 2) := by decide +kernel
theorem dX4_undo_27 : decode cX4_undo 27 = .ok (.iadd, 1) := by decide +kernel
theorem dX4_undo_28 : decode cX4_undo 28 = .ok (.iconst 1, 1) := by decide +kernel
theorem dX4_undo_29 : decode cX4_undo 29 = .ok (.isub, 1) := by decide +kernel
theorem dX4_undo_30 : decode cX4_undo 30 = .ok (.bipush 14, 2) := by decide +kernel
theorem dX4_undo_32 : decode cX4_undo 32 = .ok (.irem, 1) := by decide +kernel
theorem dX4_undo_33 : decode cX4_undo 33 = .ok (.putfield 182, 3) := by decide +kernel
theorem dX4_undo_36 : decode cX4_undo 36 = .ok (.iconst 0, 1) := by decide +kernel
theorem dX4_undo_37 : decode cX4_undo 37 = .ok (.istore_n 1, 1) := by decide +kernel
theorem dX4_undo_38 : decode cX4_undo 38 = .ok (.iload_n 1, 1) := by decide +kernel
theorem dX4_undo_39 : decode cX4_undo 39 = .ok (.bipush 66, 2) := by decide +kernel
theorem dX4_undo_41 : decode cX4_undo 41 = .ok (.if_icmp .ge 29, 3) := by decide +kernel
theorem dX4_undo_44 : decode cX4_undo 44 = .ok (.aload_n 0, 1) := by decide +kernel
theorem dX4_undo_45 : decode cX4_undo 45 = .ok (.getfield 16, 3) := by decide +kernel
theorem dX4_undo_48 : decode cX4_undo 48 = .ok (.iload_n 1, 1) := by decide +kernel
theorem dX4_undo_49 : decode cX4_undo 49 = .ok (.aload_n 0, 1) := by decide +kernel
theorem dX4_undo_50 : decode cX4_undo 50 = .ok (.getfield 22, 3) := by decide +kernel
theorem dX4_undo_53 : decode cX4_undo 53 = .ok (.bipush 66, 2) := by decide +kernel
theorem dX4_undo_55 : decode cX4_undo 55 = .ok (.aload_n 0, 1) := by decide +kernel
theorem dX4_undo_56 : decode cX4_undo 56 = .ok (.getfield 182, 3) := by decide +kernel
theorem dX4_undo_59 : decode cX4_undo 59 = .ok (.imul, 1) := by decide +kernel
theorem dX4_undo_60 : decode cX4_undo 60 = .ok (.iload_n 1, 1) := by decide +kernel
theorem dX4_undo_61 : decode cX4_undo 61 = .ok (.iadd, 1) := by decide +kernel
theorem dX4_undo_62 : decode cX4_undo 62 = .ok (.iaload, 1) := by decide +kernel
theorem dX4_undo_63 : decode cX4_undo 63 = .ok (.iastore, 1) := by decide +kernel
theorem dX4_undo_64 : decode cX4_undo 64 = .ok (.iinc 1 1, 3) := by decide +kernel
theorem dX4_undo_67 : decode cX4_undo 67 = .ok (.goto (-29), 3) := by decide +kernel
theorem dX4_undo_70 : decode cX4_undo 70 = .ok (.aload_n 0, 1) := by decide +kernel
theorem dX4_undo_71 : decode cX4_undo 71 = .ok (.getfield 117, 3) := by decide +kernel
theorem dX4_undo_74 : decode cX4_undo 74 = .ok (.ireturn, 1) := by decide +kernel
theorem dX4_state_0 : decode cX4_state 0 = .ok (.iload_n 1, 1) := by decide +kernel
theorem dX4_state_1 : decode cX4_state 1 = .ok (.iload_n 2, 1) := by decide +kernel
theorem dX4_state_2 : decode cX4_state 2 = .ok (.invokestatic 75, 3) := by decide +kernel
theorem dX4_state_5 : decode cX4_state 5 = .ok (.ifCond .ne 6, 3) := by decide +kernel
theorem dX4_state_8 : decode cX4_state 8 = .ok (.bipush (-2), 2) := by decide +kernel
theorem dX4_state_10 : decode cX4_state 10 = .ok (.ireturn, 1) := by decide +kernel
theorem dX4_state_11 : decode cX4_state 11 = .ok (.iload_n 3, 1) := by decide +kernel
theorem dX4_state_12 : decode cX4_state 12 = .ok (.invokestatic 185, 3) := by decide +kernel
theorem dX4_state_15 : decode cX4_state 15 = .ok (.ifCond .eq 17, 3) := by decide +kernel
theorem dX4_state_18 : decode cX4_state 18 = .ok (.aload_n 0, 1) := by decide +kernel
theorem dX4_state_19 : decode cX4_state 19 = .ok (.aload_n 0, 1) := by decide +kernel
theorem dX4_state_20 : decode cX4_state 20 = .ok (.getfield 16, 3) := by decide +kernel
theorem dX4_state_23 : decode cX4_state 23 = .ok (.iload_n 1, 1) := by decide +kernel
theorem dX4_state_24 : decode cX4_state 24 = .ok (.iload_n 2, 1) := by decide +kernel
theorem dX4_state_25 : decode cX4_state 25 = .ok (.iload_n 3, 1) := by decide +kernel
theorem dX4_state_26 : decode cX4_state 26 = .ok (.invokevirtual 138, 3) := by decide +kernel
theorem dX4_state_29 : decode cX4_state 29 = .ok (.goto 4, 3) := by decide +kernel
theorem dX4_state_32 : decode cX4_state 32 = .ok (.iconst (-1), 1) := by decide +kernel
theorem dX4_state_33 : decode cX4_state 33 = .ok (.ireturn, 1) := by decide +kernel
theorem dX4_isLaw_0 : decode cX4_isLaw 0 = .ok (.iload_n 0, 1) := by decide +kernel
theorem dX4_isLaw_1 : decode cX4_isLaw 1 = .ok (.i2l, 1) := by decide +kernel
theorem dX4_isLaw_2 : decode cX4_isLaw 2 = .ok (.lconst 0, 1) := by decide +kernel
theorem dX4_isLaw_3 : decode cX4_isLaw 3 = .ok (.ldc2_w 198, 3) := by decide +kernel
theorem dX4_isLaw_6 : decode cX4_isLaw 6 = .ok (.invokestatic 50, 3) := by decide +kernel
theorem dX4_isLaw_9 : decode cX4_isLaw 9 = .ok (.ireturn, 1) := by decide +kernel
theorem dX4_goes_0 : decode cX4_goes 0 = .ok (.iload_n 1, 1) := by decide +kernel
theorem dX4_goes_1 : decode cX4_goes 1 = .ok (.i2l, 1) := by decide +kernel
theorem dX4_goes_2 : decode cX4_goes 2 = .ok (.lconst 0, 1) := by decide +kernel
theorem dX4_goes_3 : decode cX4_goes 3 = .ok (.ldc2_w 54, 3) := by decide +kernel
theorem dX4_goes_6 : decode cX4_goes 6 = .ok (.invokestatic 50, 3) := by decide +kernel
theorem dX4_goes_9 : decode cX4_goes 9 = .ok (.ifCond .ne 5, 3) := by decide +kernel
theorem dX4_goes_12 : decode cX4_goes 12 = .ok (.iconst (-1), 1) := by decide +kernel
theorem dX4_goes_13 : decode cX4_goes 13 = .ok (.ireturn, 1) := by decide +kernel
theorem dX4_goes_14 : decode cX4_goes 14 = .ok (.iload_n 2, 1) := by decide +kernel
theorem dX4_goes_15 : decode cX4_goes 15 = .ok (.invokestatic 200, 3) := by decide +kernel
theorem dX4_goes_18 : decode cX4_goes 18 = .ok (.ifCond .eq 16, 3) := by decide +kernel
theorem dX4_goes_21 : decode cX4_goes 21 = .ok (.aload_n 0, 1) := by decide +kernel
theorem dX4_goes_22 : decode cX4_goes 22 = .ok (.aload_n 0, 1) := by decide +kernel
theorem dX4_goes_23 : decode cX4_goes 23 = .ok (.getfield 16, 3) := by decide +kernel
theorem dX4_goes_26 : decode cX4_goes 26 = .ok (.iload_n 1, 1) := by decide +kernel
theorem dX4_goes_27 : decode cX4_goes 27 = .ok (.iload_n 2, 1) := by decide +kernel
theorem dX4_goes_28 : decode cX4_goes 28 = .ok (.invokevirtual 203, 3) := by decide +kernel
theorem dX4_goes_31 : decode cX4_goes 31 = .ok (.goto 5, 3) := by decide +kernel
theorem dX4_goes_34 : decode cX4_goes 34 = .ok (.bipush (-2), 2) := by decide +kernel
theorem dX4_goes_36 : decode cX4_goes 36 = .ok (.ireturn, 1) := by decide +kernel
theorem dX4_theft_0 : decode cX4_theft 0 = .ok (.iload_n 1, 1) := by decide +kernel
theorem dX4_theft_1 : decode cX4_theft 1 = .ok (.i2l, 1) := by decide +kernel
theorem dX4_theft_2 : decode cX4_theft 2 = .ok (.lconst 0, 1) := by decide +kernel
theorem dX4_theft_3 : decode cX4_theft 3 = .ok (.ldc2_w 54, 3) := by decide +kernel
theorem dX4_theft_6 : decode cX4_theft 6 = .ok (.invokestatic 50, 3) := by decide +kernel
theorem dX4_theft_9 : decode cX4_theft 9 = .ok (.ifCond .eq 10, 3) := by decide +kernel
theorem dX4_theft_12 : decode cX4_theft 12 = .ok (.iload_n 2, 1) := by decide +kernel
theorem dX4_theft_13 : decode cX4_theft 13 = .ok (.invokestatic 185, 3) := by decide +kernel
theorem dX4_theft_16 : decode cX4_theft 16 = .ok (.ifCond .ne 5, 3) := by decide +kernel
theorem dX4_theft_19 : decode cX4_theft 19 = .ok (.iconst (-1), 1) := by decide +kernel
theorem dX4_theft_20 : decode cX4_theft 20 = .ok (.ireturn, 1) := by decide +kernel
theorem dX4_theft_21 : decode cX4_theft 21 = .ok (.iload_n 3, 1) := by decide +kernel
theorem dX4_theft_22 : decode cX4_theft 22 = .ok (.invokestatic 200, 3) := by decide +kernel
theorem dX4_theft_25 : decode cX4_theft 25 = .ok (.ifCond .ne 6, 3) := by decide +kernel
theorem dX4_theft_28 : decode cX4_theft 28 = .ok (.bipush (-2), 2) := by decide +kernel
theorem dX4_theft_30 : decode cX4_theft 30 = .ok (.ireturn, 1) := by decide +kernel
theorem dX4_theft_31 : decode cX4_theft 31 = .ok (.iconst 0, 1) := by decide +kernel
theorem dX4_theft_32 : decode cX4_theft 32 = .ok (.istore 4, 2) := by decide +kernel
theorem dX4_theft_34 : decode cX4_theft 34 = .ok (.iload 4, 2) := by decide +kernel
theorem dX4_theft_36 : decode cX4_theft 36 = .ok (.bipush 6, 2) := by decide +kernel
theorem dX4_theft_38 : decode cX4_theft 38 = .ok (.if_icmp .ge 64, 3) := by decide +kernel
theorem dX4_theft_41 : decode cX4_theft 41 = .ok (.aload_n 0, 1) := by decide +kernel
theorem dX4_theft_42 : decode cX4_theft 42 = .ok (.getfield 16, 3) := by decide +kernel
theorem dX4_theft_45 : decode cX4_theft 45 = .ok (.aload_n 0, 1) := by decide +kernel
theorem dX4_theft_46 : decode cX4_theft 46 = .ok (.getfield 19, 3) := by decide +kernel
theorem dX4_theft_49 : decode cX4_theft 49 = .ok (.invokestatic 113, 3) := by decide +kernel
theorem dX4_theft_52 : decode cX4_theft 52 = .ok (.aload_n 0, 1) := by decide +kernel
theorem dX4_theft_53 : decode cX4_theft 53 = .ok (.getfield 19, 3) := by decide +kernel
theorem dX4_theft_56 : decode cX4_theft 56 = .ok (.iload_n 1, 1) := by decide +kernel
theorem dX4_theft_57 : decode cX4_theft 57 = .ok (.iload_n 1, 1) := by decide +kernel
theorem dX4_theft_58 : decode cX4_theft 58 = .ok (.iload 4, 2) := by decide +kernel
theorem dX4_theft_60 : decode cX4_theft 60 = .ok (.invokestatic 56, 3) := by decide +kernel
theorem dX4_theft_63 : decode cX4_theft 63 = .ok (.irem, 1) := by decide +kernel
theorem dX4_theft_64 : decode cX4_theft 64 = .ok (.isub, 1) := by decide +kernel
theorem dX4_theft_65 : decode cX4_theft 65 = .ok (.iload 4, 2) := by decide +kernel
theorem dX4_theft_67 : decode cX4_theft 67 = .ok (.iload_n 2, 1) := by decide +kernel
theorem dX4_theft_68 : decode cX4_theft 68 = .ok (.invokestatic 93, 3) := by decide +kernel
theorem dX4_theft_71 : decode cX4_theft 71 = .ok (.aload_n 0, 1) := by decide +kernel
theorem dX4_theft_72 : decode cX4_theft 72 = .ok (.aload_n 0, 1) := by decide +kernel
theorem dX4_theft_73 : decode cX4_theft 73 = .ok (.getfield 19, 3) := by decide +kernel
theorem dX4_theft_76 : decode cX4_theft 76 = .ok (.iload_n 1, 1) := by decide +kernel
theorem dX4_theft_77 : decode cX4_theft 77 = .ok (.iload_n 3, 1) := by decide +kernel
theorem dX4_theft_78 : decode cX4_theft 78 = .ok (.invokevirtual 203, 3) := by decide +kernel
theorem dX4_theft_81 : decode cX4_theft 81 = .ok (.aload_n 0, 1) := by decide +kernel
theorem dX4_theft_82 : decode cX4_theft 82 = .ok (.getfield 19, 3) := by decide +kernel
theorem dX4_theft_85 : decode cX4_theft 85 = .ok (.bipush 41, 2) := by decide +kernel
theorem dX4_theft_87 : decode cX4_theft 87 = .ok (.iaload, 1) := by decide +kernel
theorem dX4_theft_88 : decode cX4_theft 88 = .ok (.iconst 1, 1) := by decide +kernel
theorem dX4_theft_89 : decode cX4_theft 89 = .ok (.isub, 1) := by decide +kernel
theorem dX4_theft_90 : decode cX4_theft 90 = .ok (.if_icmp .ne 6, 3) := by decide +kernel
theorem dX4_theft_93 : decode cX4_theft 93 = .ok (.iload 4, 2) := by decide +kernel
theorem dX4_theft_95 : decode cX4_theft 95 = .ok (.ireturn, 1) := by decide +kernel
theorem dX4_theft_96 : decode cX4_theft 96 = .ok (.iinc 4 1, 3) := by decide +kernel
theorem dX4_theft_99 : decode cX4_theft 99 = .ok (.goto (-65), 3) := by decide +kernel
theorem dX4_theft_102 : decode cX4_theft 102 = .ok (.bipush (-9), 2) := by decide +kernel
theorem dX4_theft_104 : decode cX4_theft 104 = .ok (.ireturn, 1) := by decide +kernel
theorem dX4_lost_0 : decode cX4_lost 0 = .ok (.aload_n 0, 1) := by decide +kernel
theorem dX4_lost_1 : decode cX4_lost 1 = .ok (.iload_n 1, 1) := by decide +kernel
theorem dX4_lost_2 : decode cX4_lost 2 = .ok (.invokevirtual 165, 3) := by decide +kernel
theorem dX4_lost_5 : decode cX4_lost 5 = .ok (.ifCond .eq 7, 3) := by decide +kernel
theorem dX4_lost_8 : decode cX4_lost 8 = .ok (.iload_n 1, 1) := by decide +kernel
theorem dX4_lost_9 : decode cX4_lost 9 = .ok (.ifCond .ne 5, 3) := by decide +kernel
theorem dX4_lost_12 : decode cX4_lost 12 = .ok (.iconst (-1), 1) := by decide +kernel
theorem dX4_lost_13 : decode cX4_lost 13 = .ok (.ireturn, 1) := by decide +kernel
theorem dX4_lost_14 : decode cX4_lost 14 = .ok (.aload_n 0, 1) := by decide +kernel
theorem dX4_lost_15 : decode cX4_lost 15 = .ok (.getfield 16, 3) := by decide +kernel
theorem dX4_lost_18 : decode cX4_lost 18 = .ok (.aload_n 0, 1) := by decide +kernel
theorem dX4_lost_19 : decode cX4_lost 19 = .ok (.getfield 19, 3) := by decide +kernel
theorem dX4_lost_22 : decode cX4_lost 22 = .ok (.invokestatic 113, 3) := by decide +kernel
theorem dX4_lost_25 : decode cX4_lost 25 = .ok (.aload_n 0, 1) := by decide +kernel
theorem dX4_lost_26 : decode cX4_lost 26 = .ok (.getfield 19, 3) := by decide +kernel
theorem dX4_lost_29 : decode cX4_lost 29 = .ok (.bipush 63, 2) := by decide +kernel
theorem dX4_lost_31 : decode cX4_lost 31 = .ok (.dup2, 1) := by decide +kernel
theorem dX4_lost_32 : decode cX4_lost 32 = .ok (.iaload, 1) := by decide +kernel
theorem dX4_lost_33 : decode cX4_lost 33 = .ok (.iconst 1, 1) := by decide +kernel
theorem dX4_lost_34 : decode cX4_lost 34 = .ok (.iload_n 1, 1) := by decide +kernel
theorem dX4_lost_35 : decode cX4_lost 35 = .ok (.ishl, 1) := by decide +kernel
theorem dX4_lost_36 : decode cX4_lost 36 = .ok (.ior, 1) := by decide +kernel
theorem dX4_lost_37 : decode cX4_lost 37 = .ok (.iastore, 1) := by decide +kernel
theorem dX4_lost_38 : decode cX4_lost 38 = .ok (.aload_n 0, 1) := by decide +kernel
end
section
theorem dX4_lost_39 : decode cX4_lost 39 = .ok (.aload_n 0, 1) := by decide +kernel
theorem dX4_lost_40 : decode cX4_lost 40 = .ok (.getfield 16, 3) := by decide +kernel
theorem dX4_lost_43 : decode cX4_lost 43 = .ok (.iconst 2, 1) := by decide +kernel
theorem dX4_lost_44 : decode cX4_lost 44 = .ok (.invokevirtual 156, 3) := by decide +kernel
theorem dX4_lost_47 : decode cX4_lost 47 = .ok (.aload_n 0, 1) := by decide +kernel
theorem dX4_lost_48 : decode cX4_lost 48 = .ok (.aload_n 0, 1) := by decide +kernel
theorem dX4_lost_49 : decode cX4_lost 49 = .ok (.getfield 19, 3) := by decide +kernel
theorem dX4_lost_52 : decode cX4_lost 52 = .ok (.iconst 2, 1) := by decide +kernel
theorem dX4_lost_53 : decode cX4_lost 53 = .ok (.invokevirtual 156, 3) := by decide +kernel
theorem dX4_lost_56 : decode cX4_lost 56 = .ok (.iconst (-1), 1) := by decide +kernel
theorem dX4_lost_57 : decode cX4_lost 57 = .ok (.ixor, 1) := by decide +kernel
theorem dX4_lost_58 : decode cX4_lost 58 = .ok (.iand, 1) := by decide +kernel
theorem dX4_lost_59 : decode cX4_lost 59 = .ok (.ireturn, 1) := by decide +kernel
theorem dX4_judged_0 : decode cX4_judged 0 = .ok (.iload_n 3, 1) := by decide +kernel
theorem dX4_judged_1 : decode cX4_judged 1 = .ok (.ifCond .ne 12, 3) := by decide +kernel
theorem dX4_judged_4 : decode cX4_judged 4 = .ok (.iload 4, 2) := by decide +kernel
theorem dX4_judged_6 : decode cX4_judged 6 = .ok (.ifCond .ne 7, 3) := by decide +kernel
theorem dX4_judged_9 : decode cX4_judged 9 = .ok (.iconst 1, 1) := by decide +kernel
theorem dX4_judged_10 : decode cX4_judged 10 = .ok (.goto 4, 3) := by decide +kernel
theorem dX4_judged_13 : decode cX4_judged 13 = .ok (.iconst 0, 1) := by decide +kernel
theorem dX4_judged_14 : decode cX4_judged 14 = .ok (.istore 5, 2) := by decide +kernel
theorem dX4_judged_16 : decode cX4_judged 16 = .ok (.iload_n 1, 1) := by decide +kernel
theorem dX4_judged_17 : decode cX4_judged 17 = .ok (.tableswitch 351 1 8 #[47, 81, 117, 146, 181, 227, 274, 323], 47) := by decide +kernel
theorem dX4_judged_64 : decode cX4_judged 64 = .ok (.iload_n 2, 1) := by decide +kernel
theorem dX4_judged_65 : decode cX4_judged 65 = .ok (.ifCond .eq 16, 3) := by decide +kernel
theorem dX4_judged_68 : decode cX4_judged 68 = .ok (.aload_n 0, 1) := by decide +kernel
theorem dX4_judged_69 : decode cX4_judged 69 = .ok (.iload_n 2, 1) := by decide +kernel
theorem dX4_judged_70 : decode cX4_judged 70 = .ok (.invokevirtual 165, 3) := by decide +kernel
theorem dX4_judged_73 : decode cX4_judged 73 = .ok (.ifCond .eq 8, 3) := by decide +kernel
theorem dX4_judged_76 : decode cX4_judged 76 = .ok (.iload 5, 2) := by decide +kernel
theorem dX4_judged_78 : decode cX4_judged 78 = .ok (.ifCond .ne 5, 3) := by decide +kernel
theorem dX4_judged_81 : decode cX4_judged 81 = .ok (.iconst 0, 1) := by decide +kernel
theorem dX4_judged_82 : decode cX4_judged 82 = .ok (.ireturn, 1) := by decide +kernel
theorem dX4_judged_83 : decode cX4_judged 83 = .ok (.aload_n 0, 1) := by decide +kernel
theorem dX4_judged_84 : decode cX4_judged 84 = .ok (.getfield 19, 3) := by decide +kernel
theorem dX4_judged_87 : decode cX4_judged 87 = .ok (.bipush 63, 2) := by decide +kernel
theorem dX4_judged_89 : decode cX4_judged 89 = .ok (.dup2, 1) := by decide +kernel
theorem dX4_judged_90 : decode cX4_judged 90 = .ok (.iaload, 1) := by decide +kernel
theorem dX4_judged_91 : decode cX4_judged 91 = .ok (.iconst 1, 1) := by decide +kernel
theorem dX4_judged_92 : decode cX4_judged 92 = .ok (.iload_n 2, 1) := by decide +kernel
theorem dX4_judged_93 : decode cX4_judged 93 = .ok (.ishl, 1) := by decide +kernel
theorem dX4_judged_94 : decode cX4_judged 94 = .ok (.ixor, 1) := by decide +kernel
theorem dX4_judged_95 : decode cX4_judged 95 = .ok (.iastore, 1) := by decide +kernel
theorem dX4_judged_96 : decode cX4_judged 96 = .ok (.iconst 1, 1) := by decide +kernel
theorem dX4_judged_97 : decode cX4_judged 97 = .ok (.ireturn, 1) := by decide +kernel
theorem dX4_judged_98 : decode cX4_judged 98 = .ok (.iload_n 2, 1) := by decide +kernel
theorem dX4_judged_99 : decode cX4_judged 99 = .ok (.ifCond .ne 20, 3) := by decide +kernel
theorem dX4_judged_102 : decode cX4_judged 102 = .ok (.iload 5, 2) := by decide +kernel
theorem dX4_judged_104 : decode cX4_judged 104 = .ok (.ifCond .eq 15, 3) := by decide +kernel
theorem dX4_judged_107 : decode cX4_judged 107 = .ok (.aload_n 0, 1) := by decide +kernel
theorem dX4_judged_108 : decode cX4_judged 108 = .ok (.getfield 19, 3) := by decide +kernel
theorem dX4_judged_111 : decode cX4_judged 111 = .ok (.bipush 65, 2) := by decide +kernel
theorem dX4_judged_113 : decode cX4_judged 113 = .ok (.iaload, 1) := by decide +kernel
theorem dX4_judged_114 : decode cX4_judged 114 = .ok (.bipush 9, 2) := by decide +kernel
theorem dX4_judged_116 : decode cX4_judged 116 = .ok (.if_icmp .ne 5, 3) := by decide +kernel
theorem dX4_judged_119 : decode cX4_judged 119 = .ok (.iconst 0, 1) := by decide +kernel
theorem dX4_judged_120 : decode cX4_judged 120 = .ok (.ireturn, 1) := by decide +kernel
theorem dX4_judged_121 : decode cX4_judged 121 = .ok (.aload_n 0, 1) := by decide +kernel
theorem dX4_judged_122 : decode cX4_judged 122 = .ok (.getfield 19, 3) := by decide +kernel
theorem dX4_judged_125 : decode cX4_judged 125 = .ok (.bipush 65, 2) := by decide +kernel
theorem dX4_judged_127 : decode cX4_judged 127 = .ok (.dup2, 1) := by decide +kernel
theorem dX4_judged_128 : decode cX4_judged 128 = .ok (.iaload, 1) := by decide +kernel
theorem dX4_judged_129 : decode cX4_judged 129 = .ok (.iconst 1, 1) := by decide +kernel
theorem dX4_judged_130 : decode cX4_judged 130 = .ok (.iadd, 1) := by decide +kernel
theorem dX4_judged_131 : decode cX4_judged 131 = .ok (.iastore, 1) := by decide +kernel
theorem dX4_judged_132 : decode cX4_judged 132 = .ok (.iconst 1, 1) := by decide +kernel
theorem dX4_judged_133 : decode cX4_judged 133 = .ok (.ireturn, 1) := by decide +kernel
theorem dX4_judged_134 : decode cX4_judged 134 = .ok (.iload_n 2, 1) := by decide +kernel
theorem dX4_judged_135 : decode cX4_judged 135 = .ok (.invokestatic 185, 3) := by decide +kernel
theorem dX4_judged_138 : decode cX4_judged 138 = .ok (.ifCond .eq 8, 3) := by decide +kernel
theorem dX4_judged_141 : decode cX4_judged 141 = .ok (.iload 5, 2) := by decide +kernel
theorem dX4_judged_143 : decode cX4_judged 143 = .ok (.ifCond .ne 5, 3) := by decide +kernel
theorem dX4_judged_146 : decode cX4_judged 146 = .ok (.iconst 0, 1) := by decide +kernel
theorem dX4_judged_147 : decode cX4_judged 147 = .ok (.ireturn, 1) := by decide +kernel
theorem dX4_judged_148 : decode cX4_judged 148 = .ok (.aload_n 0, 1) := by decide +kernel
theorem dX4_judged_149 : decode cX4_judged 149 = .ok (.getfield 19, 3) := by decide +kernel
theorem dX4_judged_152 : decode cX4_judged 152 = .ok (.bipush 64, 2) := by decide +kernel
theorem dX4_judged_154 : decode cX4_judged 154 = .ok (.dup2, 1) := by decide +kernel
theorem dX4_judged_155 : decode cX4_judged 155 = .ok (.iaload, 1) := by decide +kernel
theorem dX4_judged_156 : decode cX4_judged 156 = .ok (.iconst 1, 1) := by decide +kernel
theorem dX4_judged_157 : decode cX4_judged 157 = .ok (.iload_n 2, 1) := by decide +kernel
theorem dX4_judged_158 : decode cX4_judged 158 = .ok (.ishl, 1) := by decide +kernel
theorem dX4_judged_159 : decode cX4_judged 159 = .ok (.ixor, 1) := by decide +kernel
theorem dX4_judged_160 : decode cX4_judged 160 = .ok (.iastore, 1) := by decide +kernel
theorem dX4_judged_161 : decode cX4_judged 161 = .ok (.iconst 1, 1) := by decide +kernel
theorem dX4_judged_162 : decode cX4_judged 162 = .ok (.ireturn, 1) := by decide +kernel
theorem dX4_judged_163 : decode cX4_judged 163 = .ok (.iload_n 3, 1) := by decide +kernel
theorem dX4_judged_164 : decode cX4_judged 164 = .ok (.ifCond .ne 32, 3) := by decide +kernel
theorem dX4_judged_167 : decode cX4_judged 167 = .ok (.iload_n 2, 1) := by decide +kernel
theorem dX4_judged_168 : decode cX4_judged 168 = .ok (.aload_n 0, 1) := by decide +kernel
theorem dX4_judged_169 : decode cX4_judged 169 = .ok (.getfield 19, 3) := by decide +kernel
theorem dX4_judged_172 : decode cX4_judged 172 = .ok (.bipush 41, 2) := by decide +kernel
theorem dX4_judged_174 : decode cX4_judged 174 = .ok (.iaload, 1) := by decide +kernel
theorem dX4_judged_175 : decode cX4_judged 175 = .ok (.if_icmp .ge 21, 3) := by decide +kernel
theorem dX4_judged_178 : decode cX4_judged 178 = .ok (.aload_n 0, 1) := by decide +kernel
theorem dX4_judged_179 : decode cX4_judged 179 = .ok (.aload_n 0, 1) := by decide +kernel
theorem dX4_judged_180 : decode cX4_judged 180 = .ok (.getfield 19, 3) := by decide +kernel
theorem dX4_judged_183 : decode cX4_judged 183 = .ok (.iload_n 2, 1) := by decide +kernel
theorem dX4_judged_184 : decode cX4_judged 184 = .ok (.invokevirtual 142, 3) := by decide +kernel
theorem dX4_judged_187 : decode cX4_judged 187 = .ok (.iload 4, 2) := by decide +kernel
theorem dX4_judged_189 : decode cX4_judged 189 = .ok (.if_icmp .ne 7, 3) := by decide +kernel
theorem dX4_judged_192 : decode cX4_judged 192 = .ok (.iconst 1, 1) := by decide +kernel
theorem dX4_judged_193 : decode cX4_judged 193 = .ok (.goto 4, 3) := by decide +kernel
theorem dX4_judged_196 : decode cX4_judged 196 = .ok (.iconst 0, 1) := by decide +kernel
theorem dX4_judged_197 : decode cX4_judged 197 = .ok (.ireturn, 1) := by decide +kernel
theorem dX4_judged_198 : decode cX4_judged 198 = .ok (.iload_n 2, 1) := by decide +kernel
theorem dX4_judged_199 : decode cX4_judged 199 = .ok (.invokestatic 200, 3) := by decide +kernel
theorem dX4_judged_202 : decode cX4_judged 202 = .ok (.ifCond .eq 40, 3) := by decide +kernel
theorem dX4_judged_205 : decode cX4_judged 205 = .ok (.bipush 10, 2) := by decide +kernel
theorem dX4_judged_207 : decode cX4_judged 207 = .ok (.iload_n 3, 1) := by decide +kernel
theorem dX4_judged_208 : decode cX4_judged 208 = .ok (.imul, 1) := by decide +kernel
theorem dX4_judged_209 : decode cX4_judged 209 = .ok (.iload 4, 2) := by decide +kernel
theorem dX4_judged_211 : decode cX4_judged 211 = .ok (.iadd, 1) := by decide +kernel
theorem dX4_judged_212 : decode cX4_judged 212 = .ok (.bipush 32, 2) := by decide +kernel
theorem dX4_judged_214 : decode cX4_judged 214 = .ok (.if_icmp .ge 28, 3) := by decide +kernel
theorem dX4_judged_217 : decode cX4_judged 217 = .ok (.aload_n 0, 1) := by decide +kernel
theorem dX4_judged_218 : decode cX4_judged 218 = .ok (.aload_n 0, 1) := by decide +kernel
theorem dX4_judged_219 : decode cX4_judged 219 = .ok (.getfield 19, 3) := by decide +kernel
theorem dX4_judged_222 : decode cX4_judged 222 = .ok (.bipush 10, 2) := by decide +kernel
theorem dX4_judged_224 : decode cX4_judged 224 = .ok (.iload_n 3, 1) := by decide +kernel
theorem dX4_judged_225 : decode cX4_judged 225 = .ok (.imul, 1) := by decide +kernel
theorem dX4_judged_226 : decode cX4_judged 226 = .ok (.iload 4, 2) := by decide +kernel
theorem dX4_judged_228 : decode cX4_judged 228 = .ok (.iadd, 1) := by decide +kernel
theorem dX4_judged_229 : decode cX4_judged 229 = .ok (.iload_n 2, 1) := by decide +kernel
theorem dX4_judged_230 : decode cX4_judged 230 = .ok (.invokevirtual 203, 3) := by decide +kernel
theorem dX4_judged_233 : decode cX4_judged 233 = .ok (.bipush (-9), 2) := by decide +kernel
theorem dX4_judged_235 : decode cX4_judged 235 = .ok (.if_icmp .ne 7, 3) := by decide +kernel
theorem dX4_judged_238 : decode cX4_judged 238 = .ok (.iconst 1, 1) := by decide +kernel
theorem dX4_judged_239 : decode cX4_judged 239 = .ok (.goto 4, 3) := by decide +kernel
theorem dX4_judged_242 : decode cX4_judged 242 = .ok (.iconst 0, 1) := by decide +kernel
theorem dX4_judged_243 : decode cX4_judged 243 = .ok (.ireturn, 1) := by decide +kernel
theorem dX4_judged_244 : decode cX4_judged 244 = .ok (.iload_n 3, 1) := by decide +kernel
theorem dX4_judged_245 : decode cX4_judged 245 = .ok (.ifCond .ne 44, 3) := by decide +kernel
theorem dX4_judged_248 : decode cX4_judged 248 = .ok (.aload_n 0, 1) := by decide +kernel
theorem dX4_judged_249 : decode cX4_judged 249 = .ok (.iload_n 2, 1) := by decide +kernel
theorem dX4_judged_250 : decode cX4_judged 250 = .ok (.invokevirtual 165, 3) := by decide +kernel
theorem dX4_judged_253 : decode cX4_judged 253 = .ok (.ifCond .eq 36, 3) := by decide +kernel
theorem dX4_judged_256 : decode cX4_judged 256 = .ok (.iload 4, 2) := by decide +kernel
theorem dX4_judged_258 : decode cX4_judged 258 = .ok (.iconst 2, 1) := by decide +kernel
theorem dX4_judged_259 : decode cX4_judged 259 = .ok (.if_icmp .ge 30, 3) := by decide +kernel
theorem dX4_judged_262 : decode cX4_judged 262 = .ok (.aload_n 0, 1) := by decide +kernel
theorem dX4_judged_263 : decode cX4_judged 263 = .ok (.aload_n 0, 1) := by decide +kernel
theorem dX4_judged_264 : decode cX4_judged 264 = .ok (.getfield 19, 3) := by decide +kernel
theorem dX4_judged_267 : decode cX4_judged 267 = .ok (.iload_n 2, 1) := by decide +kernel
theorem dX4_judged_268 : decode cX4_judged 268 = .ok (.invokevirtual 127, 3) := by decide +kernel
theorem dX4_judged_271 : decode cX4_judged 271 = .ok (.iload 4, 2) := by decide +kernel
theorem dX4_judged_273 : decode cX4_judged 273 = .ok (.iconst 1, 1) := by decide +kernel
theorem dX4_judged_274 : decode cX4_judged 274 = .ok (.if_icmp .ne 7, 3) := by decide +kernel
theorem dX4_judged_277 : decode cX4_judged 277 = .ok (.iconst 1, 1) := by decide +kernel
theorem dX4_judged_278 : decode cX4_judged 278 = .ok (.goto 4, 3) := by decide +kernel
theorem dX4_judged_281 : decode cX4_judged 281 = .ok (.iconst 0, 1) := by decide +kernel
theorem dX4_judged_282 : decode cX4_judged 282 = .ok (.if_icmp .ne 7, 3) := by decide +kernel
theorem dX4_judged_285 : decode cX4_judged 285 = .ok (.iconst 1, 1) := by decide +kernel
theorem dX4_judged_286 : decode cX4_judged 286 = .ok (.goto 4, 3) := by decide +kernel
theorem dX4_judged_289 : decode cX4_judged 289 = .ok (.iconst 0, 1) := by decide +kernel
theorem dX4_judged_290 : decode cX4_judged 290 = .ok (.ireturn, 1) := by decide +kernel
theorem dX4_judged_291 : decode cX4_judged 291 = .ok (.iload_n 3, 1) := by decide +kernel
theorem dX4_judged_292 : decode cX4_judged 292 = .ok (.ifCond .ne 46, 3) := by decide +kernel
theorem dX4_judged_295 : decode cX4_judged 295 = .ok (.iload_n 2, 1) := by decide +kernel
theorem dX4_judged_296 : decode cX4_judged 296 = .ok (.aload_n 0, 1) := by decide +kernel
theorem dX4_judged_297 : decode cX4_judged 297 = .ok (.getfield 19, 3) := by decide +kernel
theorem dX4_judged_300 : decode cX4_judged 300 = .ok (.iconst 0, 1) := by decide +kernel
theorem dX4_judged_301 : decode cX4_judged 301 = .ok (.iaload, 1) := by decide +kernel
theorem dX4_judged_302 : decode cX4_judged 302 = .ok (.if_icmp .ge 36, 3) := by decide +kernel
theorem dX4_judged_305 : decode cX4_judged 305 = .ok (.iload 4, 2) := by decide +kernel
theorem dX4_judged_307 : decode cX4_judged 307 = .ok (.iconst 2, 1) := by decide +kernel
theorem dX4_judged_308 : decode cX4_judged 308 = .ok (.if_icmp .ge 30, 3) := by decide +kernel
theorem dX4_judged_311 : decode cX4_judged 311 = .ok (.aload_n 0, 1) := by decide +kernel
theorem dX4_judged_312 : decode cX4_judged 312 = .ok (.aload_n 0, 1) := by decide +kernel
theorem dX4_judged_313 : decode cX4_judged 313 = .ok (.getfield 19, 3) := by decide +kernel
theorem dX4_judged_316 : decode cX4_judged 316 = .ok (.iload_n 2, 1) := by decide +kernel
theorem dX4_judged_317 : decode cX4_judged 317 = .ok (.invokevirtual 131, 3) := by decide +kernel
theorem dX4_judged_320 : decode cX4_judged 320 = .ok (.iload 4, 2) := by decide +kernel
theorem dX4_judged_322 : decode cX4_judged 322 = .ok (.iconst 1, 1) := by decide +kernel
theorem dX4_judged_323 : decode cX4_judged 323 = .ok (.if_icmp .ne 7, 3) := by decide +kernel
theorem dX4_judged_326 : decode cX4_judged 326 = .ok (.iconst 1, 1) := by decide +kernel
theorem dX4_judged_327 : decode cX4_judged 327 = .ok (.goto 4, 3) := by decide +kernel
theorem dX4_judged_330 : decode cX4_judged 330 = .ok (.iconst 0, 1) := by decide +kernel
theorem dX4_judged_331 : decode cX4_judged 331 = .ok (.if_icmp .ne 7, 3) := by decide +kernel
theorem dX4_judged_334 : decode cX4_judged 334 = .ok (.iconst 1, 1) := by decide +kernel
theorem dX4_judged_335 : decode cX4_judged 335 = .ok (.goto 4, 3) := by decide +kernel
theorem dX4_judged_338 : decode cX4_judged 338 = .ok (.iconst 0, 1) := by decide +kernel
theorem dX4_judged_339 : decode cX4_judged 339 = .ok (.ireturn, 1) := by decide +kernel
theorem dX4_judged_340 : decode cX4_judged 340 = .ok (.iload_n 2, 1) := by decide +kernel
theorem dX4_judged_341 : decode cX4_judged 341 = .ok (.aload_n 0, 1) := by decide +kernel
theorem dX4_judged_342 : decode cX4_judged 342 = .ok (.getfield 19, 3) := by decide +kernel
theorem dX4_judged_345 : decode cX4_judged 345 = .ok (.bipush 41, 2) := by decide +kernel
theorem dX4_judged_347 : decode cX4_judged 347 = .ok (.iaload, 1) := by decide +kernel
theorem dX4_judged_348 : decode cX4_judged 348 = .ok (.if_icmp .ge 8, 3) := by decide +kernel
theorem dX4_judged_351 : decode cX4_judged 351 = .ok (.iload 5, 2) := by decide +kernel
theorem dX4_judged_353 : decode cX4_judged 353 = .ok (.ifCond .ne 5, 3) := by decide +kernel
theorem dX4_judged_356 : decode cX4_judged 356 = .ok (.iconst 0, 1) := by decide +kernel
theorem dX4_judged_357 : decode cX4_judged 357 = .ok (.ireturn, 1) := by decide +kernel
theorem dX4_judged_358 : decode cX4_judged 358 = .ok (.aload_n 0, 1) := by decide +kernel
theorem dX4_judged_359 : decode cX4_judged 359 = .ok (.getfield 19, 3) := by decide +kernel
theorem dX4_judged_362 : decode cX4_judged 362 = .ok (.iload_n 2, 1) := by decide +kernel
theorem dX4_judged_363 : decode cX4_judged 363 = .ok (.invokestatic 191, 3) := by decide +kernel
theorem dX4_judged_366 : decode cX4_judged 366 = .ok (.iconst 1, 1) := by decide +kernel
theorem dX4_judged_367 : decode cX4_judged 367 = .ok (.ireturn, 1) := by decide +kernel
theorem dX4_judged_368 : decode cX4_judged 368 = .ok (.iconst 0, 1) := by decide +kernel
theorem dX4_judged_369 : decode cX4_judged 369 = .ok (.ireturn, 1) := by decide +kernel
theorem dX4_tenThousands_0 : decode cX4_tenThousands 0 = .ok (.lconst 1, 1) := by decide +kernel
theorem dX4_tenThousands_1 : decode cX4_tenThousands 1 = .ok (.lstore_n 1, 1) := by decide +kernel
theorem dX4_tenThousands_2 : decode cX4_tenThousands 2 = .ok (.iconst 0, 1) := by decide +kernel
theorem dX4_tenThousands_3 : decode cX4_tenThousands 3 = .ok (.istore_n 3, 1) := by decide +kernel
theorem dX4_tenThousands_4 : decode cX4_tenThousands 4 = .ok (.iload_n 3, 1) := by decide +kernel
theorem dX4_tenThousands_5 : decode cX4_tenThousands 5 = .ok (.iload_n 0, 1) := by decide +kernel
theorem dX4_tenThousands_6 : decode cX4_tenThousands 6 = .ok (.if_icmp .ge 15, 3) := by decide +kernel
theorem dX4_tenThousands_9 : decode cX4_tenThousands 9 = .ok (.lload_n 1, 1) := by decide +kernel
theorem dX4_tenThousands_10 : decode cX4_tenThousands 10 = .ok (.ldc2_w 207, 3) := by decide +kernel
theorem dX4_tenThousands_13 : decode cX4_tenThousands 13 = .ok (.lmul, 1) := by decide +kernel
theorem dX4_tenThousands_14 : decode cX4_tenThousands 14 = .ok (.lstore_n 1, 1) := by decide +kernel
theorem dX4_tenThousands_15 : decode cX4_tenThousands 15 = .ok (.iinc 3 1, 3) := by decide +kernel
theorem dX4_tenThousands_18 : decode cX4_tenThousands 18 = .ok (.goto (-14), 3) := by decide +kernel
theorem dX4_tenThousands_21 : decode cX4_tenThousands 21 = .ok (.lload_n 1, 1) := by decide +kernel
theorem dX4_tenThousands_22 : decode cX4_tenThousands 22 = .ok (.lreturn, 1) := by decide +kernel
theorem dX4_judge_0 : decode cX4_judge 0 = .ok (.iload_n 1, 1) := by decide +kernel
theorem dX4_judge_1 : decode cX4_judge 1 = .ok (.i2l, 1) := by decide +kernel
theorem dX4_judge_2 : decode cX4_judge 2 = .ok (.lconst 1, 1) := by decide +kernel
theorem dX4_judge_3 : decode cX4_judge 3 = .ok (.ldc2_w 172, 3) := by decide +kernel
theorem dX4_judge_6 : decode cX4_judge 6 = .ok (.invokestatic 50, 3) := by decide +kernel
theorem dX4_judge_9 : decode cX4_judge 9 = .ok (.ifCond .eq 17, 3) := by decide +kernel
theorem dX4_judge_12 : decode cX4_judge 12 = .ok (.lload_n 2, 1) := by decide +kernel
theorem dX4_judge_13 : decode cX4_judge 13 = .ok (.lconst 0, 1) := by decide +kernel
theorem dX4_judge_14 : decode cX4_judge 14 = .ok (.iload_n 1, 1) := by decide +kernel
theorem dX4_judge_15 : decode cX4_judge 15 = .ok (.invokestatic 209, 3) := by decide +kernel
theorem dX4_judge_18 : decode cX4_judge 18 = .ok (.lconst 1, 1) := by decide +kernel
theorem dX4_judge_19 : decode cX4_judge 19 = .ok (.lsub, 1) := by decide +kernel
theorem dX4_judge_20 : decode cX4_judge 20 = .ok (.invokestatic 50, 3) := by decide +kernel
theorem dX4_judge_23 : decode cX4_judge 23 = .ok (.ifCond .ne 6, 3) := by decide +kernel
theorem dX4_judge_26 : decode cX4_judge 26 = .ok (.bipush (-2), 2) := by decide +kernel
theorem dX4_judge_28 : decode cX4_judge 28 = .ok (.ireturn, 1) := by decide +kernel
theorem dX4_judge_29 : decode cX4_judge 29 = .ok (.aload_n 0, 1) := by decide +kernel
theorem dX4_judge_30 : decode cX4_judge 30 = .ok (.getfield 16, 3) := by decide +kernel
theorem dX4_judge_33 : decode cX4_judge 33 = .ok (.aload_n 0, 1) := by decide +kernel
theorem dX4_judge_34 : decode cX4_judge 34 = .ok (.getfield 19, 3) := by decide +kernel
theorem dX4_judge_37 : decode cX4_judge 37 = .ok (.invokestatic 113, 3) := by decide +kernel
theorem dX4_judge_40 : decode cX4_judge 40 = .ok (.iconst 0, 1) := by decide +kernel
theorem dX4_judge_41 : decode cX4_judge 41 = .ok (.istore 4, 2) := by decide +kernel
theorem dX4_judge_43 : decode cX4_judge 43 = .ok (.iload 4, 2) := by decide +kernel
theorem dX4_judge_45 : decode cX4_judge 45 = .ok (.iload_n 1, 1) := by decide +kernel
theorem dX4_judge_46 : decode cX4_judge 46 = .ok (.if_icmp .ge 64, 3) := by decide +kernel
theorem dX4_judge_49 : decode cX4_judge 49 = .ok (.lload_n 2, 1) := by decide +kernel
theorem dX4_judge_50 : decode cX4_judge 50 = .ok (.iload_n 1, 1) := by decide +kernel
theorem dX4_judge_51 : decode cX4_judge 51 = .ok (.iconst 1, 1) := by decide +kernel
theorem dX4_judge_52 : decode cX4_judge 52 = .ok (.isub, 1) := by decide +kernel
theorem dX4_judge_53 : decode cX4_judge 53 = .ok (.iload 4, 2) := by decide +kernel
theorem dX4_judge_55 : decode cX4_judge 55 = .ok (.isub, 1) := by decide +kernel
theorem dX4_judge_56 : decode cX4_judge 56 = .ok (.invokestatic 209, 3) := by decide +kernel
theorem dX4_judge_59 : decode cX4_judge 59 = .ok (.ldiv, 1) := by decide +kernel
theorem dX4_judge_60 : decode cX4_judge 60 = .ok (.ldc2_w 207, 3) := by decide +kernel
theorem dX4_judge_63 : decode cX4_judge 63 = .ok (.lrem, 1) := by decide +kernel
theorem dX4_judge_64 : decode cX4_judge 64 = .ok (.l2i, 1) := by decide +kernel
theorem dX4_judge_65 : decode cX4_judge 65 = .ok (.istore 5, 2) := by decide +kernel
theorem dX4_judge_67 : decode cX4_judge 67 = .ok (.aload_n 0, 1) := by decide +kernel
theorem dX4_judge_68 : decode cX4_judge 68 = .ok (.iload 5, 2) := by decide +kernel
theorem dX4_judge_70 : decode cX4_judge 70 = .ok (.sipush 1000, 3) := by decide +kernel
theorem dX4_judge_73 : decode cX4_judge 73 = .ok (.idiv, 1) := by decide +kernel
theorem dX4_judge_74 : decode cX4_judge 74 = .ok (.iload 5, 2) := by decide +kernel
theorem dX4_judge_76 : decode cX4_judge 76 = .ok (.bipush 100, 2) := by decide +kernel
theorem dX4_judge_78 : decode cX4_judge 78 = .ok (.idiv, 1) := by decide +kernel
theorem dX4_judge_79 : decode cX4_judge 79 = .ok (.bipush 10, 2) := by decide +kernel
theorem dX4_judge_81 : decode cX4_judge 81 = .ok (.irem, 1) := by decide +kernel
theorem dX4_judge_82 : decode cX4_judge 82 = .ok (.iload 5, 2) := by decide +kernel
theorem dX4_judge_84 : decode cX4_judge 84 = .ok (.bipush 10, 2) := by decide +kernel
theorem dX4_judge_86 : decode cX4_judge 86 = .ok (.idiv, 1) := by decide +kernel
theorem dX4_judge_87 : decode cX4_judge 87 = .ok (.bipush 10, 2) := by decide +kernel
theorem dX4_judge_89 : decode cX4_judge 89 = .ok (.irem, 1) := by decide +kernel
theorem dX4_judge_90 : decode cX4_judge 90 = .ok (.iload 5, 2) := by decide +kernel
theorem dX4_judge_92 : decode cX4_judge 92 = .ok (.bipush 10, 2) := by decide +kernel
theorem dX4_judge_94 : decode cX4_judge 94 = .ok (.irem, 1) := by decide +kernel
theorem dX4_judge_95 : decode cX4_judge 95 = .ok (.invokevirtual 213, 3) := by decide +kernel
theorem dX4_judge_98 : decode cX4_judge 98 = .ok (.ifCond .ne 6, 3) := by decide +kernel
theorem dX4_judge_101 : decode cX4_judge 101 = .ok (.iload 4, 2) := by decide +kernel
theorem dX4_judge_103 : decode cX4_judge 103 = .ok (.ireturn, 1) := by decide +kernel
theorem dX4_judge_104 : decode cX4_judge 104 = .ok (.iinc 4 1, 3) := by decide +kernel
theorem dX4_judge_107 : decode cX4_judge 107 = .ok (.goto (-64), 3) := by decide +kernel
theorem dX4_judge_110 : decode cX4_judge 110 = .ok (.bipush (-9), 2) := by decide +kernel
theorem dX4_judge_112 : decode cX4_judge 112 = .ok (.ireturn, 1) := by decide +kernel
theorem dX4_see_0 : decode cX4_see 0 = .ok (.iload_n 1, 1) := by decide +kernel
theorem dX4_see_1 : decode cX4_see 1 = .ok (.iload_n 2, 1) := by decide +kernel
theorem dX4_see_2 : decode cX4_see 2 = .ok (.invokestatic 75, 3) := by decide +kernel
theorem dX4_see_5 : decode cX4_see 5 = .ok (.ifCond .eq 16, 3) := by decide +kernel
theorem dX4_see_8 : decode cX4_see 8 = .ok (.iload 4, 2) := by decide +kernel
theorem dX4_see_10 : decode cX4_see 10 = .ok (.i2l, 1) := by decide +kernel
theorem dX4_see_11 : decode cX4_see 11 = .ok (.lconst 0, 1) := by decide +kernel
theorem dX4_see_12 : decode cX4_see 12 = .ok (.ldc2_w 180, 3) := by decide +kernel
theorem dX4_see_15 : decode cX4_see 15 = .ok (.invokestatic 50, 3) := by decide +kernel
theorem dX4_see_18 : decode cX4_see 18 = .ok (.ifCond .ne 6, 3) := by decide +kernel
theorem dX4_see_21 : decode cX4_see 21 = .ok (.bipush (-2), 2) := by decide +kernel
theorem dX4_see_23 : decode cX4_see 23 = .ok (.ireturn, 1) := by decide +kernel
theorem dX4_see_24 : decode cX4_see 24 = .ok (.iload_n 3, 1) := by decide +kernel
theorem dX4_see_25 : decode cX4_see 25 = .ok (.invokestatic 185, 3) := by decide +kernel
theorem dX4_see_28 : decode cX4_see 28 = .ok (.ifCond .ne 5, 3) := by decide +kernel
theorem dX4_see_31 : decode cX4_see 31 = .ok (.iconst (-1), 1) := by decide +kernel
theorem dX4_see_32 : decode cX4_see 32 = .ok (.ireturn, 1) := by decide +kernel
theorem dX4_see_33 : decode cX4_see 33 = .ok (.aload_n 0, 1) := by decide +kernel
theorem dX4_see_34 : decode cX4_see 34 = .ok (.getfield 162, 3) := by decide +kernel
theorem dX4_see_37 : decode cX4_see 37 = .ok (.bipush 6, 2) := by decide +kernel
theorem dX4_see_39 : decode cX4_see 39 = .ok (.if_icmp .ne 6, 3) := by decide +kernel
theorem dX4_see_42 : decode cX4_see 42 = .ok (.bipush (-4), 2) := by decide +kernel
theorem dX4_see_44 : decode cX4_see 44 = .ok (.ireturn, 1) := by decide +kernel
theorem dX4_see_45 : decode cX4_see 45 = .ok (.aload_n 0, 1) := by decide +kernel
theorem dX4_see_46 : decode cX4_see 46 = .ok (.getfield 32, 3) := by decide +kernel
theorem dX4_see_49 : decode cX4_see 49 = .ok (.iconst 4, 1) := by decide +kernel
theorem dX4_see_50 : decode cX4_see 50 = .ok (.aload_n 0, 1) := by decide +kernel
theorem dX4_see_51 : decode cX4_see 51 = .ok (.getfield 162, 3) := by decide +kernel
theorem dX4_see_54 : decode cX4_see 54 = .ok (.imul, 1) := by decide +kernel
theorem dX4_see_55 : decode cX4_see 55 = .ok (.iload_n 1, 1) := by decide +kernel
theorem dX4_see_56 : decode cX4_see 56 = .ok (.iastore, 1) := by decide +kernel
theorem dX4_see_57 : decode cX4_see 57 = .ok (.aload_n 0, 1) := by decide +kernel
theorem dX4_see_58 : decode cX4_see 58 = .ok (.getfield 32, 3) := by decide +kernel
theorem dX4_see_61 : decode cX4_see 61 = .ok (.iconst 4, 1) := by decide +kernel
theorem dX4_see_62 : decode cX4_see 62 = .ok (.aload_n 0, 1) := by decide +kernel
theorem dX4_see_63 : decode cX4_see 63 = .ok (.getfield 162, 3) := by decide +kernel
theorem dX4_see_66 : decode cX4_see 66 = .ok (.imul, 1) := by decide +kernel
theorem dX4_see_67 : decode cX4_see 67 = .ok (.iconst 1, 1) := by decide +kernel
theorem dX4_see_68 : decode cX4_see 68 = .ok (.iadd, 1) := by decide +kernel
theorem dX4_see_69 : decode cX4_see 69 = .ok (.iload_n 2, 1) := by decide +kernel
theorem dX4_see_70 : decode cX4_see 70 = .ok (.iastore, 1) := by decide +kernel
theorem dX4_see_71 : decode cX4_see 71 = .ok (.aload_n 0, 1) := by decide +kernel
theorem dX4_see_72 : decode cX4_see 72 = .ok (.getfield 32, 3) := by decide +kernel
theorem dX4_see_75 : decode cX4_see 75 = .ok (.iconst 4, 1) := by decide +kernel
theorem dX4_see_76 : decode cX4_see 76 = .ok (.aload_n 0, 1) := by decide +kernel
theorem dX4_see_77 : decode cX4_see 77 = .ok (.getfield 162, 3) := by decide +kernel
theorem dX4_see_80 : decode cX4_see 80 = .ok (.imul, 1) := by decide +kernel
theorem dX4_see_81 : decode cX4_see 81 = .ok (.iconst 2, 1) := by decide +kernel
theorem dX4_see_82 : decode cX4_see 82 = .ok (.iadd, 1) := by decide +kernel
theorem dX4_see_83 : decode cX4_see 83 = .ok (.iload_n 3, 1) := by decide +kernel
theorem dX4_see_84 : decode cX4_see 84 = .ok (.iastore, 1) := by decide +kernel
theorem dX4_see_85 : decode cX4_see 85 = .ok (.aload_n 0, 1) := by decide +kernel
theorem dX4_see_86 : decode cX4_see 86 = .ok (.getfield 32, 3) := by decide +kernel
theorem dX4_see_89 : decode cX4_see 89 = .ok (.iconst 4, 1) := by decide +kernel
theorem dX4_see_90 : decode cX4_see 90 = .ok (.aload_n 0, 1) := by decide +kernel
theorem dX4_see_91 : decode cX4_see 91 = .ok (.getfield 162, 3) := by decide +kernel
theorem dX4_see_94 : decode cX4_see 94 = .ok (.imul, 1) := by decide +kernel
theorem dX4_see_95 : decode cX4_see 95 = .ok (.iconst 3, 1) := by decide +kernel
theorem dX4_see_96 : decode cX4_see 96 = .ok (.iadd, 1) := by decide +kernel
theorem dX4_see_97 : decode cX4_see 97 = .ok (.iload 4, 2) := by decide +kernel
theorem dX4_see_99 : decode cX4_see 99 = .ok (.iastore, 1) := by decide +kernel
theorem dX4_see_100 : decode cX4_see 100 = .ok (.aload_n 0, 1) := by decide +kernel
theorem dX4_see_101 : decode cX4_see 101 = .ok (.dup, 1) := by decide +kernel
theorem dX4_see_102 : decode cX4_see 102 = .ok (.getfield 162, 3) := by decide +kernel
theorem dX4_see_105 : decode cX4_see 105 = .ok (.iconst 1, 1) := by decide +kernel
theorem dX4_see_106 : decode cX4_see 106 = .ok (.iadd, 1) := by decide +kernel
theorem dX4_see_107 : decode cX4_see 107 = .ok (.putfield 162, 3) := by decide +kernel
theorem dX4_see_110 : decode cX4_see 110 = .ok (.aload_n 0, 1) := by decide +kernel
theorem dX4_see_111 : decode cX4_see 111 = .ok (.getfield 162, 3) := by decide +kernel
theorem dX4_see_114 : decode cX4_see 114 = .ok (.ireturn, 1) := by decide +kernel
theorem dX4_unsee_0 : decode cX4_unsee 0 = .ok (.aload_n 0, 1) := by decide +kernel
theorem dX4_unsee_1 : decode cX4_unsee 1 = .ok (.getfield 162, 3) := by decide +kernel
theorem dX4_unsee_4 : decode cX4_unsee 4 = .ok (.istore_n 1, 1) := by decide +kernel
theorem dX4_unsee_5 : decode cX4_unsee 5 = .ok (.aload_n 0, 1) := by decide +kernel
theorem dX4_unsee_6 : decode cX4_unsee 6 = .ok (.iconst 0, 1) := by decide +kernel
theorem dX4_unsee_7 : decode cX4_unsee 7 = .ok (.putfield 162, 3) := by decide +kernel
theorem dX4_unsee_10 : decode cX4_unsee 10 = .ok (.iload_n 1, 1) := by decide +kernel
theorem dX4_unsee_11 : decode cX4_unsee 11 = .ok (.ireturn, 1) := by decide +kernel
theorem dX4_which_0 : decode cX4_which 0 = .ok (.aload_n 0, 1) := by decide +kernel
theorem dX4_which_1 : decode cX4_which 1 = .ok (.iload_n 1, 1) := by decide +kernel
theorem dX4_which_2 : decode cX4_which 2 = .ok (.invokevirtual 169, 3) := by decide +kernel
theorem dX4_which_5 : decode cX4_which 5 = .ok (.ifCond .ne 5, 3) := by decide +kernel
theorem dX4_which_8 : decode cX4_which 8 = .ok (.iconst (-1), 1) := by decide +kernel
theorem dX4_which_9 : decode cX4_which 9 = .ok (.ireturn, 1) := by decide +kernel
theorem dX4_which_10 : decode cX4_which 10 = .ok (.iconst 0, 1) := by decide +kernel
theorem dX4_which_11 : decode cX4_which 11 = .ok (.istore_n 2, 1) := by decide +kernel
theorem dX4_which_12 : decode cX4_which 12 = .ok (.aload_n 0, 1) := by decide +kernel
theorem dX4_which_13 : decode cX4_which 13 = .ok (.getfield 16, 3) := by decide +kernel
theorem dX4_which_16 : decode cX4_which 16 = .ok (.iconst 1, 1) := by decide +kernel
theorem dX4_which_17 : decode cX4_which 17 = .ok (.iconst 5, 1) := by decide +kernel
theorem dX4_which_18 : decode cX4_which 18 = .ok (.iload_n 1, 1) := by decide +kernel
theorem dX4_which_19 : decode cX4_which 19 = .ok (.imul, 1) := by decide +kernel
theorem dX4_which_20 : decode cX4_which 20 = .ok (.iadd, 1) := by decide +kernel
theorem dX4_which_21 : decode cX4_which 21 = .ok (.iconst 3, 1) := by decide +kernel
theorem dX4_which_22 : decode cX4_which 22 = .ok (.iadd, 1) := by decide +kernel
theorem dX4_which_23 : decode cX4_which 23 = .ok (.iaload, 1) := by decide +kernel
theorem dX4_which_24 : decode cX4_which 24 = .ok (.istore_n 3, 1) := by decide +kernel
theorem dX4_which_25 : decode cX4_which 25 = .ok (.iload_n 3, 1) := by decide +kernel
theorem dX4_which_26 : decode cX4_which 26 = .ok (.bipush 6, 2) := by decide +kernel
theorem dX4_which_28 : decode cX4_which 28 = .ok (.if_icmp .ge 134, 3) := by decide +kernel
theorem dX4_which_31 : decode cX4_which 31 = .ok (.aload_n 0, 1) := by decide +kernel
theorem dX4_which_32 : decode cX4_which 32 = .ok (.getfield 16, 3) := by decide +kernel
theorem dX4_which_35 : decode cX4_which 35 = .ok (.aload_n 0, 1) := by decide +kernel
theorem dX4_which_36 : decode cX4_which 36 = .ok (.getfield 19, 3) := by decide +kernel
theorem dX4_which_39 : decode cX4_which 39 = .ok (.invokestatic 113, 3) := by decide +kernel
theorem dX4_which_42 : decode cX4_which 42 = .ok (.aload_n 0, 1) := by decide +kernel
theorem dX4_which_43 : decode cX4_which 43 = .ok (.getfield 19, 3) := by decide +kernel
theorem dX4_which_46 : decode cX4_which 46 = .ok (.iconst 1, 1) := by decide +kernel
theorem dX4_which_47 : decode cX4_which 47 = .ok (.iconst 5, 1) := by decide +kernel
theorem dX4_which_48 : decode cX4_which 48 = .ok (.iload_n 1, 1) := by decide +kernel
theorem dX4_which_49 : decode cX4_which 49 = .ok (.imul, 1) := by decide +kernel
theorem dX4_which_50 : decode cX4_which 50 = .ok (.iadd, 1) := by decide +kernel
theorem dX4_which_51 : decode cX4_which 51 = .ok (.iconst 4, 1) := by decide +kernel
theorem dX4_which_52 : decode cX4_which 52 = .ok (.iadd, 1) := by decide +kernel
theorem dX4_which_53 : decode cX4_which 53 = .ok (.iload_n 3, 1) := by decide +kernel
theorem dX4_which_54 : decode cX4_which 54 = .ok (.iastore, 1) := by decide +kernel
theorem dX4_which_55 : decode cX4_which 55 = .ok (.iconst 1, 1) := by decide +kernel
theorem dX4_which_56 : decode cX4_which 56 = .ok (.istore 4, 2) := by decide +kernel
theorem dX4_which_58 : decode cX4_which 58 = .ok (.iconst 0, 1) := by decide +kernel
theorem dX4_which_59 : decode cX4_which 59 = .ok (.istore 5, 2) := by decide +kernel
theorem dX4_which_61 : decode cX4_which 61 = .ok (.iload 5, 2) := by decide +kernel
theorem dX4_which_63 : decode cX4_which 63 = .ok (.aload_n 0, 1) := by decide +kernel
theorem dX4_which_64 : decode cX4_which 64 = .ok (.getfield 162, 3) := by decide +kernel
theorem dX4_which_67 : decode cX4_which 67 = .ok (.if_icmp .ge 74, 3) := by decide +kernel
theorem dX4_which_70 : decode cX4_which 70 = .ok (.iload 4, 2) := by decide +kernel
theorem dX4_which_72 : decode cX4_which 72 = .ok (.ifCond .eq 60, 3) := by decide +kernel
theorem dX4_which_75 : decode cX4_which 75 = .ok (.aload_n 0, 1) := by decide +kernel
theorem dX4_which_76 : decode cX4_which 76 = .ok (.aload_n 0, 1) := by decide +kernel
theorem dX4_which_77 : decode cX4_which 77 = .ok (.getfield 19, 3) := by decide +kernel
theorem dX4_which_80 : decode cX4_which 80 = .ok (.aload_n 0, 1) := by decide +kernel
theorem dX4_which_81 : decode cX4_which 81 = .ok (.getfield 32, 3) := by decide +kernel
theorem dX4_which_84 : decode cX4_which 84 = .ok (.iconst 4, 1) := by decide +kernel
theorem dX4_which_85 : decode cX4_which 85 = .ok (.iload 5, 2) := by decide +kernel
theorem dX4_which_87 : decode cX4_which 87 = .ok (.imul, 1) := by decide +kernel
theorem dX4_which_88 : decode cX4_which 88 = .ok (.iaload, 1) := by decide +kernel
theorem dX4_which_89 : decode cX4_which 89 = .ok (.aload_n 0, 1) := by decide +kernel
theorem dX4_which_90 : decode cX4_which 90 = .ok (.getfield 32, 3) := by decide +kernel
theorem dX4_which_93 : decode cX4_which 93 = .ok (.iconst 4, 1) := by decide +kernel
theorem dX4_which_94 : decode cX4_which 94 = .ok (.iload 5, 2) := by decide +kernel
theorem dX4_which_96 : decode cX4_which 96 = .ok (.imul, 1) := by decide +kernel
theorem dX4_which_97 : decode cX4_which 97 = .ok (.iconst 1, 1) := by decide +kernel
theorem dX4_which_98 : decode cX4_which 98 = .ok (.iadd, 1) := by decide +kernel
theorem dX4_which_99 : decode cX4_which 99 = .ok (.iaload, 1) := by decide +kernel
theorem dX4_which_100 : decode cX4_which 100 = .ok (.aload_n 0, 1) := by decide +kernel
theorem dX4_which_101 : decode cX4_which 101 = .ok (.getfield 32, 3) := by decide +kernel
theorem dX4_which_104 : decode cX4_which 104 = .ok (.iconst 4, 1) := by decide +kernel
theorem dX4_which_105 : decode cX4_which 105 = .ok (.iload 5, 2) := by decide +kernel
theorem dX4_which_107 : decode cX4_which 107 = .ok (.imul, 1) := by decide +kernel
theorem dX4_which_108 : decode cX4_which 108 = .ok (.iconst 2, 1) := by decide +kernel
theorem dX4_which_109 : decode cX4_which 109 = .ok (.iadd, 1) := by decide +kernel
theorem dX4_which_110 : decode cX4_which 110 = .ok (.iaload, 1) := by decide +kernel
theorem dX4_which_111 : decode cX4_which 111 = .ok (.invokevirtual 138, 3) := by decide +kernel
theorem dX4_which_114 : decode cX4_which 114 = .ok (.aload_n 0, 1) := by decide +kernel
theorem dX4_which_115 : decode cX4_which 115 = .ok (.getfield 32, 3) := by decide +kernel
theorem dX4_which_118 : decode cX4_which 118 = .ok (.iconst 4, 1) := by decide +kernel
theorem dX4_which_119 : decode cX4_which 119 = .ok (.iload 5, 2) := by decide +kernel
theorem dX4_which_121 : decode cX4_which 121 = .ok (.imul, 1) := by decide +kernel
theorem dX4_which_122 : decode cX4_which 122 = .ok (.iconst 3, 1) := by decide +kernel
theorem dX4_which_123 : decode cX4_which 123 = .ok (.iadd, 1) := by decide +kernel
theorem dX4_which_124 : decode cX4_which 124 = .ok (.iaload, 1) := by decide +kernel
theorem dX4_which_125 : decode cX4_which 125 = .ok (.if_icmp .ne 7, 3) := by decide +kernel
theorem dX4_which_128 : decode cX4_which 128 = .ok (.iconst 1, 1) := by decide +kernel
theorem dX4_which_129 : decode cX4_which 129 = .ok (.goto 4, 3) := by decide +kernel
theorem dX4_which_132 : decode cX4_which 132 = .ok (.iconst 0, 1) := by decide +kernel
theorem dX4_which_133 : decode cX4_which 133 = .ok (.istore 4, 2) := by decide +kernel
theorem dX4_which_135 : decode cX4_which 135 = .ok (.iinc 5 1, 3) := by decide +kernel
theorem dX4_which_138 : decode cX4_which 138 = .ok (.goto (-77), 3) := by decide +kernel
theorem dX4_which_141 : decode cX4_which 141 = .ok (.iload_n 2, 1) := by decide +kernel
theorem dX4_which_142 : decode cX4_which 142 = .ok (.iload 4, 2) := by decide +kernel
theorem dX4_which_144 : decode cX4_which 144 = .ok (.ifCond .eq 9, 3) := by decide +kernel
theorem dX4_which_147 : decode cX4_which 147 = .ok (.iconst 1, 1) := by decide +kernel
theorem dX4_which_148 : decode cX4_which 148 = .ok (.iload_n 3, 1) := by decide +kernel
theorem dX4_which_149 : decode cX4_which 149 = .ok (.ishl, 1) := by decide +kernel
theorem dX4_which_150 : decode cX4_which 150 = .ok (.goto 4, 3) := by decide +kernel
theorem dX4_which_153 : decode cX4_which 153 = .ok (.iconst 0, 1) := by decide +kernel
theorem dX4_which_154 : decode cX4_which 154 = .ok (.ior, 1) := by decide +kernel
theorem dX4_which_155 : decode cX4_which 155 = .ok (.istore_n 2, 1) := by decide +kernel
theorem dX4_which_156 : decode cX4_which 156 = .ok (.iinc 3 1, 3) := by decide +kernel
theorem dX4_which_159 : decode cX4_which 159 = .ok (.goto (-134), 3) := by decide +kernel
theorem dX4_which_162 : decode cX4_which 162 = .ok (.iload_n 2, 1) := by decide +kernel
theorem dX4_which_163 : decode cX4_which 163 = .ok (.ireturn, 1) := by decide +kernel
theorem dX4_rightBy_0 : decode cX4_rightBy 0 = .ok (.iconst 0, 1) := by decide +kernel
theorem dX4_rightBy_1 : decode cX4_rightBy 1 = .ok (.istore_n 2, 1) := by decide +kernel
theorem dX4_rightBy_2 : decode cX4_rightBy 2 = .ok (.iconst 0, 1) := by decide +kernel
theorem dX4_rightBy_3 : decode cX4_rightBy 3 = .ok (.istore_n 3, 1) := by decide +kernel
theorem dX4_rightBy_4 : decode cX4_rightBy 4 = .ok (.iload_n 3, 1) := by decide +kernel
theorem dX4_rightBy_5 : decode cX4_rightBy 5 = .ok (.aload_n 0, 1) := by decide +kernel
theorem dX4_rightBy_6 : decode cX4_rightBy 6 = .ok (.getfield 16, 3) := by decide +kernel
theorem dX4_rightBy_9 : decode cX4_rightBy 9 = .ok (.bipush 41, 2) := by decide +kernel
theorem dX4_rightBy_11 : decode cX4_rightBy 11 = .ok (.iaload, 1) := by decide +kernel
theorem dX4_rightBy_12 : decode cX4_rightBy 12 = .ok (.if_icmp .ge 63, 3) := by decide +kernel
theorem dX4_rightBy_15 : decode cX4_rightBy 15 = .ok (.bipush 42, 2) := by decide +kernel
theorem dX4_rightBy_17 : decode cX4_rightBy 17 = .ok (.iconst 3, 1) := by decide +kernel
theorem dX4_rightBy_18 : decode cX4_rightBy 18 = .ok (.iload_n 3, 1) := by decide +kernel
theorem dX4_rightBy_19 : decode cX4_rightBy 19 = .ok (.imul, 1) := by decide +kernel
theorem dX4_rightBy_20 : decode cX4_rightBy 20 = .ok (.iadd, 1) := by decide +kernel
theorem dX4_rightBy_21 : decode cX4_rightBy 21 = .ok (.istore 4, 2) := by decide +kernel
theorem dX4_rightBy_23 : decode cX4_rightBy 23 = .ok (.iload_n 2, 1) := by decide +kernel
theorem dX4_rightBy_24 : decode cX4_rightBy 24 = .ok (.aload_n 0, 1) := by decide +kernel
theorem dX4_rightBy_25 : decode cX4_rightBy 25 = .ok (.aload_n 0, 1) := by decide +kernel
theorem dX4_rightBy_26 : decode cX4_rightBy 26 = .ok (.getfield 16, 3) := by decide +kernel
theorem dX4_rightBy_29 : decode cX4_rightBy 29 = .ok (.aload_n 0, 1) := by decide +kernel
theorem dX4_rightBy_30 : decode cX4_rightBy 30 = .ok (.getfield 16, 3) := by decide +kernel
theorem dX4_rightBy_33 : decode cX4_rightBy 33 = .ok (.iload 4, 2) := by decide +kernel
theorem dX4_rightBy_35 : decode cX4_rightBy 35 = .ok (.iaload, 1) := by decide +kernel
theorem dX4_rightBy_36 : decode cX4_rightBy 36 = .ok (.aload_n 0, 1) := by decide +kernel
theorem dX4_rightBy_37 : decode cX4_rightBy 37 = .ok (.getfield 16, 3) := by decide +kernel
theorem dX4_rightBy_40 : decode cX4_rightBy 40 = .ok (.iload 4, 2) := by decide +kernel
theorem dX4_rightBy_42 : decode cX4_rightBy 42 = .ok (.iconst 1, 1) := by decide +kernel
theorem dX4_rightBy_43 : decode cX4_rightBy 43 = .ok (.iadd, 1) := by decide +kernel
theorem dX4_rightBy_44 : decode cX4_rightBy 44 = .ok (.iaload, 1) := by decide +kernel
theorem dX4_rightBy_45 : decode cX4_rightBy 45 = .ok (.aload_n 0, 1) := by decide +kernel
theorem dX4_rightBy_46 : decode cX4_rightBy 46 = .ok (.getfield 16, 3) := by decide +kernel
theorem dX4_rightBy_49 : decode cX4_rightBy 49 = .ok (.iload 4, 2) := by decide +kernel
theorem dX4_rightBy_51 : decode cX4_rightBy 51 = .ok (.iconst 2, 1) := by decide +kernel
theorem dX4_rightBy_52 : decode cX4_rightBy 52 = .ok (.iadd, 1) := by decide +kernel
theorem dX4_rightBy_53 : decode cX4_rightBy 53 = .ok (.iaload, 1) := by decide +kernel
theorem dX4_rightBy_54 : decode cX4_rightBy 54 = .ok (.iload_n 1, 1) := by decide +kernel
theorem dX4_rightBy_55 : decode cX4_rightBy 55 = .ok (.invokevirtual 134, 3) := by decide +kernel
theorem dX4_rightBy_58 : decode cX4_rightBy 58 = .ok (.iconst 2, 1) := by decide +kernel
theorem dX4_rightBy_59 : decode cX4_rightBy 59 = .ok (.if_icmp .ne 7, 3) := by decide +kernel
theorem dX4_rightBy_62 : decode cX4_rightBy 62 = .ok (.iconst 1, 1) := by decide +kernel
theorem dX4_rightBy_63 : decode cX4_rightBy 63 = .ok (.goto 4, 3) := by decide +kernel
theorem dX4_rightBy_66 : decode cX4_rightBy 66 = .ok (.iconst 0, 1) := by decide +kernel
theorem dX4_rightBy_67 : decode cX4_rightBy 67 = .ok (.iadd, 1) := by decide +kernel
theorem dX4_rightBy_68 : decode cX4_rightBy 68 = .ok (.istore_n 2, 1) := by decide +kernel
theorem dX4_rightBy_69 : decode cX4_rightBy 69 = .ok (.iinc 3 1, 3) := by decide +kernel
theorem dX4_rightBy_72 : decode cX4_rightBy 72 = .ok (.goto (-68), 3) := by decide +kernel
theorem dX4_rightBy_75 : decode cX4_rightBy 75 = .ok (.iload_n 2, 1) := by decide +kernel
theorem dX4_rightBy_76 : decode cX4_rightBy 76 = .ok (.ireturn, 1) := by decide +kernel
theorem dX4_share_0 : decode cX4_share 0 = .ok (.aload_n 0, 1) := by decide +kernel
theorem dX4_share_1 : decode cX4_share 1 = .ok (.iload_n 1, 1) := by decide +kernel
theorem dX4_share_2 : decode cX4_share 2 = .ok (.invokevirtual 169, 3) := by decide +kernel
theorem dX4_share_5 : decode cX4_share 5 = .ok (.ifCond .ne 5, 3) := by decide +kernel
theorem dX4_share_8 : decode cX4_share 8 = .ok (.iconst (-1), 1) := by decide +kernel
theorem dX4_share_9 : decode cX4_share 9 = .ok (.ireturn, 1) := by decide +kernel
theorem dX4_share_10 : decode cX4_share 10 = .ok (.aload_n 0, 1) := by decide +kernel
theorem dX4_share_11 : decode cX4_share 11 = .ok (.getfield 16, 3) := by decide +kernel
theorem dX4_share_14 : decode cX4_share 14 = .ok (.iconst 0, 1) := by decide +kernel
theorem dX4_share_15 : decode cX4_share 15 = .ok (.iaload, 1) := by decide +kernel
theorem dX4_share_16 : decode cX4_share 16 = .ok (.istore_n 3, 1) := by decide +kernel
theorem dX4_share_17 : decode cX4_share 17 = .ok (.iconst 0, 1) := by decide +kernel
theorem dX4_share_18 : decode cX4_share 18 = .ok (.istore 4, 2) := by decide +kernel
theorem dX4_share_20 : decode cX4_share 20 = .ok (.iload 4, 2) := by decide +kernel
theorem dX4_share_22 : decode cX4_share 22 = .ok (.iconst 1, 1) := by decide +kernel
theorem dX4_share_23 : decode cX4_share 23 = .ok (.iload_n 3, 1) := by decide +kernel
theorem dX4_share_24 : decode cX4_share 24 = .ok (.ishl, 1) := by decide +kernel
theorem dX4_share_25 : decode cX4_share 25 = .ok (.if_icmp .ge 22, 3) := by decide +kernel
theorem dX4_share_28 : decode cX4_share 28 = .ok (.aload_n 0, 1) := by decide +kernel
theorem dX4_share_29 : decode cX4_share 29 = .ok (.getfield 35, 3) := by decide +kernel
theorem dX4_share_32 : decode cX4_share 32 = .ok (.iload 4, 2) := by decide +kernel
theorem dX4_share_34 : decode cX4_share 34 = .ok (.aload_n 0, 1) := by decide +kernel
theorem dX4_share_35 : decode cX4_share 35 = .ok (.iload 4, 2) := by decide +kernel
theorem dX4_share_37 : decode cX4_share 37 = .ok (.invokevirtual 216, 3) := by decide +kernel
theorem dX4_share_40 : decode cX4_share 40 = .ok (.iastore, 1) := by decide +kernel
theorem dX4_share_41 : decode cX4_share 41 = .ok (.iinc 4 1, 3) := by decide +kernel
theorem dX4_share_44 : decode cX4_share 44 = .ok (.goto (-24), 3) := by decide +kernel
theorem dX4_share_47 : decode cX4_share 47 = .ok (.iconst 0, 1) := by decide +kernel
theorem dX4_share_48 : decode cX4_share 48 = .ok (.istore 4, 2) := by decide +kernel
theorem dX4_share_50 : decode cX4_share 50 = .ok (.iconst 0, 1) := by decide +kernel
theorem dX4_share_51 : decode cX4_share 51 = .ok (.istore 5, 2) := by decide +kernel
theorem dX4_share_53 : decode cX4_share 53 = .ok (.iload 5, 2) := by decide +kernel
theorem dX4_share_55 : decode cX4_share 55 = .ok (.iconst 1, 1) := by decide +kernel
theorem dX4_share_56 : decode cX4_share 56 = .ok (.iload_n 3, 1) := by decide +kernel
theorem dX4_share_57 : decode cX4_share 57 = .ok (.ishl, 1) := by decide +kernel
theorem dX4_share_58 : decode cX4_share 58 = .ok (.if_icmp .ge 65, 3) := by decide +kernel
theorem dX4_share_61 : decode cX4_share 61 = .ok (.iload 5, 2) := by decide +kernel
theorem dX4_share_63 : decode cX4_share 63 = .ok (.iload_n 1, 1) := by decide +kernel
theorem dX4_share_64 : decode cX4_share 64 = .ok (.invokestatic 120, 3) := by decide +kernel
theorem dX4_share_67 : decode cX4_share 67 = .ok (.ifCond .ne 50, 3) := by decide +kernel
theorem dX4_share_70 : decode cX4_share 70 = .ok (.iload 5, 2) := by decide +kernel
theorem dX4_share_72 : decode cX4_share 72 = .ok (.invokestatic 219, 3) := by decide +kernel
theorem dX4_share_75 : decode cX4_share 75 = .ok (.istore 6, 2) := by decide +kernel
theorem dX4_share_77 : decode cX4_share 77 = .ok (.iload 4, 2) := by decide +kernel
theorem dX4_share_79 : decode cX4_share 79 = .ok (.iload 6, 2) := by decide +kernel
theorem dX4_share_81 : decode cX4_share 81 = .ok (.invokestatic 222, 3) := by decide +kernel
theorem dX4_share_84 : decode cX4_share 84 = .ok (.iload_n 3, 1) := by decide +kernel
theorem dX4_share_85 : decode cX4_share 85 = .ok (.iconst 1, 1) := by decide +kernel
theorem dX4_share_86 : decode cX4_share 86 = .ok (.isub, 1) := by decide +kernel
theorem dX4_share_87 : decode cX4_share 87 = .ok (.iload 6, 2) := by decide +kernel
theorem dX4_share_89 : decode cX4_share 89 = .ok (.isub, 1) := by decide +kernel
theorem dX4_share_90 : decode cX4_share 90 = .ok (.invokestatic 222, 3) := by decide +kernel
theorem dX4_share_93 : decode cX4_share 93 = .ok (.imul, 1) := by decide +kernel
theorem dX4_share_94 : decode cX4_share 94 = .ok (.aload_n 0, 1) := by decide +kernel
theorem dX4_share_95 : decode cX4_share 95 = .ok (.getfield 35, 3) := by decide +kernel
theorem dX4_share_98 : decode cX4_share 98 = .ok (.iload 5, 2) := by decide +kernel
theorem dX4_share_100 : decode cX4_share 100 = .ok (.iconst 1, 1) := by decide +kernel
theorem dX4_share_101 : decode cX4_share 101 = .ok (.iload_n 1, 1) := by decide +kernel
theorem dX4_share_102 : decode cX4_share 102 = .ok (.ishl, 1) := by decide +kernel
theorem dX4_share_103 : decode cX4_share 103 = .ok (.ior, 1) := by decide +kernel
theorem dX4_share_104 : decode cX4_share 104 = .ok (.iaload, 1) := by decide +kernel
theorem dX4_share_105 : decode cX4_share 105 = .ok (.aload_n 0, 1) := by decide +kernel
theorem dX4_share_106 : decode cX4_share 106 = .ok (.getfield 35, 3) := by decide +kernel
theorem dX4_share_109 : decode cX4_share 109 = .ok (.iload 5, 2) := by decide +kernel
theorem dX4_share_111 : decode cX4_share 111 = .ok (.iaload, 1) := by decide +kernel
theorem dX4_share_112 : decode cX4_share 112 = .ok (.isub, 1) := by decide +kernel
theorem dX4_share_113 : decode cX4_share 113 = .ok (.imul, 1) := by decide +kernel
theorem dX4_share_114 : decode cX4_share 114 = .ok (.iadd, 1) := by decide +kernel
theorem dX4_share_115 : decode cX4_share 115 = .ok (.istore 4, 2) := by decide +kernel
theorem dX4_share_117 : decode cX4_share 117 = .ok (.iinc 5 1, 3) := by decide +kernel
theorem dX4_share_120 : decode cX4_share 120 = .ok (.goto (-67), 3) := by decide +kernel
theorem dX4_share_123 : decode cX4_share 123 = .ok (.iload 4, 2) := by decide +kernel
theorem dX4_share_125 : decode cX4_share 125 = .ok (.iload_n 3, 1) := by decide +kernel
theorem dX4_share_126 : decode cX4_share 126 = .ok (.invokestatic 222, 3) := by decide +kernel
theorem dX4_share_129 : decode cX4_share 129 = .ok (.iload_n 2, 1) := by decide +kernel
theorem dX4_share_130 : decode cX4_share 130 = .ok (.invokestatic 225, 3) := by decide +kernel
theorem dX4_share_133 : decode cX4_share 133 = .ok (.ireturn, 1) := by decide +kernel
theorem dX4_chance_0 : decode cX4_chance 0 = .ok (.iload_n 1, 1) := by decide +kernel
theorem dX4_chance_1 : decode cX4_chance 1 = .ok (.i2l, 1) := by decide +kernel
theorem dX4_chance_2 : decode cX4_chance 2 = .ok (.lconst 0, 1) := by decide +kernel
theorem dX4_chance_3 : decode cX4_chance 3 = .ok (.ldc2_w 229, 3) := by decide +kernel
theorem dX4_chance_6 : decode cX4_chance 6 = .ok (.invokestatic 50, 3) := by decide +kernel
theorem dX4_chance_9 : decode cX4_chance 9 = .ok (.ifCond .eq 15, 3) := by decide +kernel
theorem dX4_chance_12 : decode cX4_chance 12 = .ok (.iload_n 2, 1) := by decide +kernel
theorem dX4_chance_13 : decode cX4_chance 13 = .ok (.i2l, 1) := by decide +kernel
theorem dX4_chance_14 : decode cX4_chance 14 = .ok (.lconst 0, 1) := by decide +kernel
theorem dX4_chance_15 : decode cX4_chance 15 = .ok (.ldc2_w 231, 3) := by decide +kernel
theorem dX4_chance_18 : decode cX4_chance 18 = .ok (.invokestatic 50, 3) := by decide +kernel
theorem dX4_chance_21 : decode cX4_chance 21 = .ok (.ifCond .ne 6, 3) := by decide +kernel
theorem dX4_chance_24 : decode cX4_chance 24 = .ok (.bipush (-2), 2) := by decide +kernel
theorem dX4_chance_26 : decode cX4_chance 26 = .ok (.ireturn, 1) := by decide +kernel
theorem dX4_chance_27 : decode cX4_chance 27 = .ok (.aload_n 0, 1) := by decide +kernel
theorem dX4_chance_28 : decode cX4_chance 28 = .ok (.getfield 44, 3) := by decide +kernel
theorem dX4_chance_31 : decode cX4_chance 31 = .ok (.iconst 1, 1) := by decide +kernel
theorem dX4_chance_32 : decode cX4_chance 32 = .ok (.isub, 1) := by decide +kernel
theorem dX4_chance_33 : decode cX4_chance 33 = .ok (.istore 4, 2) := by decide +kernel
theorem dX4_chance_35 : decode cX4_chance 35 = .ok (.iconst 0, 1) := by decide +kernel
theorem dX4_chance_36 : decode cX4_chance 36 = .ok (.istore 5, 2) := by decide +kernel
theorem dX4_chance_38 : decode cX4_chance 38 = .ok (.iconst 0, 1) := by decide +kernel
theorem dX4_chance_39 : decode cX4_chance 39 = .ok (.istore 6, 2) := by decide +kernel
theorem dX4_chance_41 : decode cX4_chance 41 = .ok (.iload 6, 2) := by decide +kernel
theorem dX4_chance_43 : decode cX4_chance 43 = .ok (.iconst 1, 1) := by decide +kernel
theorem dX4_chance_44 : decode cX4_chance 44 = .ok (.iload 4, 2) := by decide +kernel
theorem dX4_chance_46 : decode cX4_chance 46 = .ok (.ishl, 1) := by decide +kernel
theorem dX4_chance_47 : decode cX4_chance 47 = .ok (.if_icmp .ge 82, 3) := by decide +kernel
theorem dX4_chance_50 : decode cX4_chance 50 = .ok (.aload_n 0, 1) := by decide +kernel
theorem dX4_chance_51 : decode cX4_chance 51 = .ok (.getfield 16, 3) := by decide +kernel
theorem dX4_chance_54 : decode cX4_chance 54 = .ok (.aload_n 0, 1) := by decide +kernel
theorem dX4_chance_55 : decode cX4_chance 55 = .ok (.getfield 19, 3) := by decide +kernel
theorem dX4_chance_58 : decode cX4_chance 58 = .ok (.invokestatic 113, 3) := by decide +kernel
theorem dX4_chance_61 : decode cX4_chance 61 = .ok (.aload_n 0, 1) := by decide +kernel
theorem dX4_chance_62 : decode cX4_chance 62 = .ok (.getfield 19, 3) := by decide +kernel
theorem dX4_chance_65 : decode cX4_chance 65 = .ok (.bipush 63, 2) := by decide +kernel
theorem dX4_chance_67 : decode cX4_chance 67 = .ok (.iconst 2, 1) := by decide +kernel
theorem dX4_chance_68 : decode cX4_chance 68 = .ok (.iload 6, 2) := by decide +kernel
theorem dX4_chance_70 : decode cX4_chance 70 = .ok (.imul, 1) := by decide +kernel
theorem dX4_chance_71 : decode cX4_chance 71 = .ok (.iastore, 1) := by decide +kernel
theorem dX4_chance_72 : decode cX4_chance 72 = .ok (.iload 6, 2) := by decide +kernel
theorem dX4_chance_74 : decode cX4_chance 74 = .ok (.invokestatic 219, 3) := by decide +kernel
theorem dX4_chance_77 : decode cX4_chance 77 = .ok (.istore 7, 2) := by decide +kernel
theorem dX4_chance_79 : decode cX4_chance 79 = .ok (.iload 5, 2) := by decide +kernel
theorem dX4_chance_81 : decode cX4_chance 81 = .ok (.aload_n 0, 1) := by decide +kernel
theorem dX4_chance_82 : decode cX4_chance 82 = .ok (.aload_n 0, 1) := by decide +kernel
theorem dX4_chance_83 : decode cX4_chance 83 = .ok (.getfield 19, 3) := by decide +kernel
theorem dX4_chance_86 : decode cX4_chance 86 = .ok (.iconst 2, 1) := by decide +kernel
theorem dX4_chance_87 : decode cX4_chance 87 = .ok (.invokevirtual 156, 3) := by decide +kernel
theorem dX4_chance_90 : decode cX4_chance 90 = .ok (.invokestatic 219, 3) := by decide +kernel
theorem dX4_chance_93 : decode cX4_chance 93 = .ok (.iload_n 1, 1) := by decide +kernel
theorem dX4_chance_94 : decode cX4_chance 94 = .ok (.if_icmp .lt 25, 3) := by decide +kernel
theorem dX4_chance_97 : decode cX4_chance 97 = .ok (.iload_n 2, 1) := by decide +kernel
theorem dX4_chance_98 : decode cX4_chance 98 = .ok (.iload 7, 2) := by decide +kernel
theorem dX4_chance_100 : decode cX4_chance 100 = .ok (.invokestatic 233, 3) := by decide +kernel
theorem dX4_chance_103 : decode cX4_chance 103 = .ok (.bipush 10, 2) := by decide +kernel
theorem dX4_chance_105 : decode cX4_chance 105 = .ok (.iload_n 2, 1) := by decide +kernel
theorem dX4_chance_106 : decode cX4_chance 106 = .ok (.isub, 1) := by decide +kernel
theorem dX4_chance_107 : decode cX4_chance 107 = .ok (.iload 4, 2) := by decide +kernel
theorem dX4_chance_109 : decode cX4_chance 109 = .ok (.iload 7, 2) := by decide +kernel
theorem dX4_chance_111 : decode cX4_chance 111 = .ok (.isub, 1) := by decide +kernel
theorem dX4_chance_112 : decode cX4_chance 112 = .ok (.invokestatic 233, 3) := by decide +kernel
theorem dX4_chance_115 : decode cX4_chance 115 = .ok (.imul, 1) := by decide +kernel
theorem dX4_chance_116 : decode cX4_chance 116 = .ok (.goto 4, 3) := by decide +kernel
theorem dX4_chance_119 : decode cX4_chance 119 = .ok (.iconst 0, 1) := by decide +kernel
theorem dX4_chance_120 : decode cX4_chance 120 = .ok (.iadd, 1) := by decide +kernel
theorem dX4_chance_121 : decode cX4_chance 121 = .ok (.istore 5, 2) := by decide +kernel
theorem dX4_chance_123 : decode cX4_chance 123 = .ok (.iinc 6 1, 3) := by decide +kernel
theorem dX4_chance_126 : decode cX4_chance 126 = .ok (.goto (-85), 3) := by decide +kernel
theorem dX4_chance_129 : decode cX4_chance 129 = .ok (.iload 5, 2) := by decide +kernel
theorem dX4_chance_131 : decode cX4_chance 131 = .ok (.bipush 10, 2) := by decide +kernel
theorem dX4_chance_133 : decode cX4_chance 133 = .ok (.iload 4, 2) := by decide +kernel
theorem dX4_chance_135 : decode cX4_chance 135 = .ok (.invokestatic 233, 3) := by decide +kernel
theorem dX4_chance_138 : decode cX4_chance 138 = .ok (.iload_n 3, 1) := by decide +kernel
theorem dX4_chance_139 : decode cX4_chance 139 = .ok (.invokestatic 225, 3) := by decide +kernel
theorem dX4_chance_142 : decode cX4_chance 142 = .ok (.ireturn, 1) := by decide +kernel
theorem dX4_seed_0 : decode cX4_seed 0 = .ok (.aload_n 0, 1) := by decide +kernel
theorem dX4_seed_1 : decode cX4_seed 1 = .ok (.getfield 236, 3) := by decide +kernel
theorem dX4_seed_4 : decode cX4_seed 4 = .ok (.lstore_n 3, 1) := by decide +kernel
theorem dX4_seed_5 : decode cX4_seed 5 = .ok (.aload_n 0, 1) := by decide +kernel
theorem dX4_seed_6 : decode cX4_seed 6 = .ok (.lload_n 1, 1) := by decide +kernel
theorem dX4_seed_7 : decode cX4_seed 7 = .ok (.putfield 236, 3) := by decide +kernel
theorem dX4_seed_10 : decode cX4_seed 10 = .ok (.lload_n 3, 1) := by decide +kernel
theorem dX4_seed_11 : decode cX4_seed 11 = .ok (.lreturn, 1) := by decide +kernel
theorem dX4_drawn_0 : decode cX4_drawn 0 = .ok (.iload_n 1, 1) := by decide +kernel
theorem dX4_drawn_1 : decode cX4_drawn 1 = .ok (.i2l, 1) := by decide +kernel
theorem dX4_drawn_2 : decode cX4_drawn 2 = .ok (.lconst 1, 1) := by decide +kernel
theorem dX4_drawn_3 : decode cX4_drawn 3 = .ok (.ldc2_w 240, 3) := by decide +kernel
theorem dX4_drawn_6 : decode cX4_drawn 6 = .ok (.invokestatic 50, 3) := by decide +kernel
theorem dX4_drawn_9 : decode cX4_drawn 9 = .ok (.ifCond .ne 6, 3) := by decide +kernel
theorem dX4_drawn_12 : decode cX4_drawn 12 = .ok (.bipush (-2), 2) := by decide +kernel
theorem dX4_drawn_14 : decode cX4_drawn 14 = .ok (.ireturn, 1) := by decide +kernel
theorem dX4_drawn_15 : decode cX4_drawn 15 = .ok (.iconst 0, 1) := by decide +kernel
theorem dX4_drawn_16 : decode cX4_drawn 16 = .ok (.istore_n 2, 1) := by decide +kernel
theorem dX4_drawn_17 : decode cX4_drawn 17 = .ok (.iconst 0, 1) := by decide +kernel
theorem dX4_drawn_18 : decode cX4_drawn 18 = .ok (.istore_n 3, 1) := by decide +kernel
theorem dX4_drawn_19 : decode cX4_drawn 19 = .ok (.iload_n 3, 1) := by decide +kernel
theorem dX4_drawn_20 : decode cX4_drawn 20 = .ok (.iload_n 1, 1) := by decide +kernel
theorem dX4_drawn_21 : decode cX4_drawn 21 = .ok (.if_icmp .ge 85, 3) := by decide +kernel
theorem dX4_drawn_24 : decode cX4_drawn 24 = .ok (.aload_n 0, 1) := by decide +kernel
theorem dX4_drawn_25 : decode cX4_drawn 25 = .ok (.aload_n 0, 1) := by decide +kernel
theorem dX4_drawn_26 : decode cX4_drawn 26 = .ok (.getfield 236, 3) := by decide +kernel
theorem dX4_drawn_29 : decode cX4_drawn 29 = .ok (.ldc2_w 242, 3) := by decide +kernel
theorem dX4_drawn_32 : decode cX4_drawn 32 = .ok (.lmul, 1) := by decide +kernel
theorem dX4_drawn_33 : decode cX4_drawn 33 = .ok (.ldc2_w 244, 3) := by decide +kernel
theorem dX4_drawn_36 : decode cX4_drawn 36 = .ok (.ladd, 1) := by decide +kernel
theorem dX4_drawn_37 : decode cX4_drawn 37 = .ok (.putfield 236, 3) := by decide +kernel
theorem dX4_drawn_40 : decode cX4_drawn 40 = .ok (.aload_n 0, 1) := by decide +kernel
theorem dX4_drawn_41 : decode cX4_drawn 41 = .ok (.getfield 236, 3) := by decide +kernel
theorem dX4_drawn_44 : decode cX4_drawn 44 = .ok (.bipush 33, 2) := by decide +kernel
theorem dX4_drawn_46 : decode cX4_drawn 46 = .ok (.lushr, 1) := by decide +kernel
theorem dX4_drawn_47 : decode cX4_drawn 47 = .ok (.l2i, 1) := by decide +kernel
theorem dX4_drawn_48 : decode cX4_drawn 48 = .ok (.istore 4, 2) := by decide +kernel
theorem dX4_drawn_50 : decode cX4_drawn 50 = .ok (.iload 4, 2) := by decide +kernel
theorem dX4_drawn_52 : decode cX4_drawn 52 = .ok (.bipush 6, 2) := by decide +kernel
theorem dX4_drawn_54 : decode cX4_drawn 54 = .ok (.irem, 1) := by decide +kernel
theorem dX4_drawn_55 : decode cX4_drawn 55 = .ok (.istore 5, 2) := by decide +kernel
theorem dX4_drawn_57 : decode cX4_drawn 57 = .ok (.iload 4, 2) := by decide +kernel
theorem dX4_drawn_59 : decode cX4_drawn 59 = .ok (.bipush 6, 2) := by decide +kernel
theorem dX4_drawn_61 : decode cX4_drawn 61 = .ok (.idiv, 1) := by decide +kernel
theorem dX4_drawn_62 : decode cX4_drawn 62 = .ok (.bipush 32, 2) := by decide +kernel
theorem dX4_drawn_64 : decode cX4_drawn 64 = .ok (.irem, 1) := by decide +kernel
theorem dX4_drawn_65 : decode cX4_drawn 65 = .ok (.istore 6, 2) := by decide +kernel
theorem dX4_drawn_67 : decode cX4_drawn 67 = .ok (.iload_n 2, 1) := by decide +kernel
theorem dX4_drawn_68 : decode cX4_drawn 68 = .ok (.aload_n 0, 1) := by decide +kernel
theorem dX4_drawn_69 : decode cX4_drawn 69 = .ok (.aload_n 0, 1) := by decide +kernel
theorem dX4_drawn_70 : decode cX4_drawn 70 = .ok (.getfield 16, 3) := by decide +kernel
theorem dX4_drawn_73 : decode cX4_drawn 73 = .ok (.iload 6, 2) := by decide +kernel
theorem dX4_drawn_75 : decode cX4_drawn 75 = .ok (.iload 6, 2) := by decide +kernel
theorem dX4_drawn_77 : decode cX4_drawn 77 = .ok (.iload 5, 2) := by decide +kernel
theorem dX4_drawn_79 : decode cX4_drawn 79 = .ok (.invokestatic 56, 3) := by decide +kernel
theorem dX4_drawn_82 : decode cX4_drawn 82 = .ok (.irem, 1) := by decide +kernel
theorem dX4_drawn_83 : decode cX4_drawn 83 = .ok (.isub, 1) := by decide +kernel
theorem dX4_drawn_84 : decode cX4_drawn 84 = .ok (.iload 5, 2) := by decide +kernel
theorem dX4_drawn_86 : decode cX4_drawn 86 = .ok (.iload 4, 2) := by decide +kernel
theorem dX4_drawn_88 : decode cX4_drawn 88 = .ok (.sipush 192, 3) := by decide +kernel
theorem dX4_drawn_91 : decode cX4_drawn 91 = .ok (.idiv, 1) := by decide +kernel
theorem dX4_drawn_92 : decode cX4_drawn 92 = .ok (.bipush 6, 2) := by decide +kernel
theorem dX4_drawn_94 : decode cX4_drawn 94 = .ok (.irem, 1) := by decide +kernel
theorem dX4_drawn_95 : decode cX4_drawn 95 = .ok (.invokevirtual 138, 3) := by decide +kernel
theorem dX4_drawn_98 : decode cX4_drawn 98 = .ok (.iadd, 1) := by decide +kernel
theorem dX4_drawn_99 : decode cX4_drawn 99 = .ok (.istore_n 2, 1) := by decide +kernel
theorem dX4_drawn_100 : decode cX4_drawn 100 = .ok (.iinc 3 1, 3) := by decide +kernel
theorem dX4_drawn_103 : decode cX4_drawn 103 = .ok (.goto (-84), 3) := by decide +kernel
theorem dX4_drawn_106 : decode cX4_drawn 106 = .ok (.iload_n 2, 1) := by decide +kernel
theorem dX4_drawn_107 : decode cX4_drawn 107 = .ok (.ireturn, 1) := by decide +kernel
theorem dX4_keep_0 : decode cX4_keep 0 = .ok (.iload_n 1, 1) := by decide +kernel
theorem dX4_keep_1 : decode cX4_keep 1 = .ok (.i2l, 1) := by decide +kernel
theorem dX4_keep_2 : decode cX4_keep 2 = .ok (.lconst 0, 1) := by decide +kernel
theorem dX4_keep_3 : decode cX4_keep 3 = .ok (.lconst 1, 1) := by decide +kernel
theorem dX4_keep_4 : decode cX4_keep 4 = .ok (.invokestatic 50, 3) := by decide +kernel
theorem dX4_keep_7 : decode cX4_keep 7 = .ok (.ifCond .ne 5, 3) := by decide +kernel
theorem dX4_keep_10 : decode cX4_keep 10 = .ok (.iconst (-1), 1) := by decide +kernel
theorem dX4_keep_11 : decode cX4_keep 11 = .ok (.ireturn, 1) := by decide +kernel
theorem dX4_keep_12 : decode cX4_keep 12 = .ok (.aload_n 0, 1) := by decide +kernel
theorem dX4_keep_13 : decode cX4_keep 13 = .ok (.getfield 28, 3) := by decide +kernel
theorem dX4_keep_16 : decode cX4_keep 16 = .ok (.iload_n 1, 1) := by decide +kernel
theorem dX4_keep_17 : decode cX4_keep 17 = .ok (.iconst 1, 1) := by decide +kernel
theorem dX4_keep_18 : decode cX4_keep 18 = .ok (.bastore, 1) := by decide +kernel
theorem dX4_keep_19 : decode cX4_keep 19 = .ok (.iconst 0, 1) := by decide +kernel
theorem dX4_keep_20 : decode cX4_keep 20 = .ok (.istore_n 2, 1) := by decide +kernel
theorem dX4_keep_21 : decode cX4_keep 21 = .ok (.iload_n 2, 1) := by decide +kernel
theorem dX4_keep_22 : decode cX4_keep 22 = .ok (.bipush 66, 2) := by decide +kernel
theorem dX4_keep_24 : decode cX4_keep 24 = .ok (.if_icmp .ge 26, 3) := by decide +kernel
theorem dX4_keep_27 : decode cX4_keep 27 = .ok (.aload_n 0, 1) := by decide +kernel
theorem dX4_keep_28 : decode cX4_keep 28 = .ok (.getfield 25, 3) := by decide +kernel
theorem dX4_keep_31 : decode cX4_keep 31 = .ok (.bipush 66, 2) := by decide +kernel
theorem dX4_keep_33 : decode cX4_keep 33 = .ok (.iload_n 1, 1) := by decide +kernel
theorem dX4_keep_34 : decode cX4_keep 34 = .ok (.imul, 1) := by decide +kernel
theorem dX4_keep_35 : decode cX4_keep 35 = .ok (.iload_n 2, 1) := by decide +kernel
theorem dX4_keep_36 : decode cX4_keep 36 = .ok (.iadd, 1) := by decide +kernel
theorem dX4_keep_37 : decode cX4_keep 37 = .ok (.aload_n 0, 1) := by decide +kernel
theorem dX4_keep_38 : decode cX4_keep 38 = .ok (.getfield 16, 3) := by decide +kernel
theorem dX4_keep_41 : decode cX4_keep 41 = .ok (.iload_n 2, 1) := by decide +kernel
theorem dX4_keep_42 : decode cX4_keep 42 = .ok (.iaload, 1) := by decide +kernel
theorem dX4_keep_43 : decode cX4_keep 43 = .ok (.iastore, 1) := by decide +kernel
theorem dX4_keep_44 : decode cX4_keep 44 = .ok (.iinc 2 1, 3) := by decide +kernel
theorem dX4_keep_47 : decode cX4_keep 47 = .ok (.goto (-26), 3) := by decide +kernel
theorem dX4_keep_50 : decode cX4_keep 50 = .ok (.aload_n 0, 1) := by decide +kernel
theorem dX4_keep_51 : decode cX4_keep 51 = .ok (.getfield 16, 3) := by decide +kernel
theorem dX4_keep_54 : decode cX4_keep 54 = .ok (.bipush 41, 2) := by decide +kernel
theorem dX4_keep_56 : decode cX4_keep 56 = .ok (.iaload, 1) := by decide +kernel
theorem dX4_keep_57 : decode cX4_keep 57 = .ok (.ireturn, 1) := by decide +kernel
theorem dX4_again_0 : decode cX4_again 0 = .ok (.iload_n 1, 1) := by decide +kernel
theorem dX4_again_1 : decode cX4_again 1 = .ok (.i2l, 1) := by decide +kernel
theorem dX4_again_2 : decode cX4_again 2 = .ok (.lconst 0, 1) := by decide +kernel
theorem dX4_again_3 : decode cX4_again 3 = .ok (.lconst 1, 1) := by decide +kernel
theorem dX4_again_4 : decode cX4_again 4 = .ok (.invokestatic 50, 3) := by decide +kernel
theorem dX4_again_7 : decode cX4_again 7 = .ok (.ifCond .ne 5, 3) := by decide +kernel
theorem dX4_again_10 : decode cX4_again 10 = .ok (.iconst (-1), 1) := by decide +kernel
theorem dX4_again_11 : decode cX4_again 11 = .ok (.ireturn, 1) := by decide +kernel
theorem dX4_again_12 : decode cX4_again 12 = .ok (.aload_n 0, 1) := by decide +kernel
theorem dX4_again_13 : decode cX4_again 13 = .ok (.getfield 28, 3) := by decide +kernel
theorem dX4_again_16 : decode cX4_again 16 = .ok (.iload_n 1, 1) := by decide +kernel
theorem dX4_again_17 : decode cX4_again 17 = .ok (.baload, 1) := by decide +kernel
theorem dX4_again_18 : decode cX4_again 18 = .ok (.ifCond .ne 6, 3) := by decide +kernel
theorem dX4_again_21 : decode cX4_again 21 = .ok (.bipush (-3), 2) := by decide +kernel
theorem dX4_again_23 : decode cX4_again 23 = .ok (.ireturn, 1) := by decide +kernel
theorem dX4_again_24 : decode cX4_again 24 = .ok (.iconst 0, 1) := by decide +kernel
theorem dX4_again_25 : decode cX4_again 25 = .ok (.istore_n 2, 1) := by decide +kernel
theorem dX4_again_26 : decode cX4_again 26 = .ok (.iload_n 2, 1) := by decide +kernel
theorem dX4_again_27 : decode cX4_again 27 = .ok (.bipush 66, 2) := by decide +kernel
theorem dX4_again_29 : decode cX4_again 29 = .ok (.if_icmp .ge 26, 3) := by decide +kernel
theorem dX4_again_32 : decode cX4_again 32 = .ok (.aload_n 0, 1) := by decide +kernel
theorem dX4_again_33 : decode cX4_again 33 = .ok (.getfield 16, 3) := by decide +kernel
theorem dX4_again_36 : decode cX4_again 36 = .ok (.iload_n 2, 1) := by decide +kernel
theorem dX4_again_37 : decode cX4_again 37 = .ok (.aload_n 0, 1) := by decide +kernel
theorem dX4_again_38 : decode cX4_again 38 = .ok (.getfield 25, 3) := by decide +kernel
theorem dX4_again_41 : decode cX4_again 41 = .ok (.bipush 66, 2) := by decide +kernel
theorem dX4_again_43 : decode cX4_again 43 = .ok (.iload_n 1, 1) := by decide +kernel
theorem dX4_again_44 : decode cX4_again 44 = .ok (.imul, 1) := by decide +kernel
theorem dX4_again_45 : decode cX4_again 45 = .ok (.iload_n 2, 1) := by decide +kernel
theorem dX4_again_46 : decode cX4_again 46 = .ok (.iadd, 1) := by decide +kernel
theorem dX4_again_47 : decode cX4_again 47 = .ok (.iaload, 1) := by decide +kernel
theorem dX4_again_48 : decode cX4_again 48 = .ok (.iastore, 1) := by decide +kernel
theorem dX4_again_49 : decode cX4_again 49 = .ok (.iinc 2 1, 3) := by decide +kernel
theorem dX4_again_52 : decode cX4_again 52 = .ok (.goto (-26), 3) := by decide +kernel
theorem dX4_again_55 : decode cX4_again 55 = .ok (.aload_n 0, 1) := by decide +kernel
theorem dX4_again_56 : decode cX4_again 56 = .ok (.iconst 0, 1) := by decide +kernel
theorem dX4_again_57 : decode cX4_again 57 = .ok (.putfield 117, 3) := by decide +kernel
theorem dX4_again_60 : decode cX4_again 60 = .ok (.aload_n 0, 1) := by decide +kernel
theorem dX4_again_61 : decode cX4_again 61 = .ok (.getfield 16, 3) := by decide +kernel
theorem dX4_again_64 : decode cX4_again 64 = .ok (.bipush 41, 2) := by decide +kernel
theorem dX4_again_66 : decode cX4_again 66 = .ok (.iaload, 1) := by decide +kernel
theorem dX4_again_67 : decode cX4_again 67 = .ok (.ireturn, 1) := by decide +kernel
theorem dJ6_bitCount_0f7a4_0 : decode cJ6_bitCount_0f7a4 0 = .ok (.iload_n 0, 1) := by decide +kernel
theorem dJ6_bitCount_0f7a4_1 : decode cJ6_bitCount_0f7a4 1 = .ok (.iload_n 0, 1) := by decide +kernel
theorem dJ6_bitCount_0f7a4_2 : decode cJ6_bitCount_0f7a4 2 = .ok (.iconst 1, 1) := by decide +kernel
theorem dJ6_bitCount_0f7a4_3 : decode cJ6_bitCount_0f7a4 3 = .ok (.iushr, 1) := by decide +kernel
theorem dJ6_bitCount_0f7a4_4 : decode cJ6_bitCount_0f7a4 4 = .ok (.ldc_w 265, 3) := by decide +kernel
theorem dJ6_bitCount_0f7a4_7 : decode cJ6_bitCount_0f7a4 7 = .ok (.iand, 1) := by decide +kernel
theorem dJ6_bitCount_0f7a4_8 : decode cJ6_bitCount_0f7a4 8 = .ok (.isub, 1) := by decide +kernel
theorem dJ6_bitCount_0f7a4_9 : decode cJ6_bitCount_0f7a4 9 = .ok (.istore_n 0, 1) := by decide +kernel
theorem dJ6_bitCount_0f7a4_10 : decode cJ6_bitCount_0f7a4 10 = .ok (.iload_n 0, 1) := by decide +kernel
theorem dJ6_bitCount_0f7a4_11 : decode cJ6_bitCount_0f7a4 11 = .ok (.ldc_w 266, 3) := by decide +kernel
theorem dJ6_bitCount_0f7a4_14 : decode cJ6_bitCount_0f7a4 14 = .ok (.iand, 1) := by decide +kernel
theorem dJ6_bitCount_0f7a4_15 : decode cJ6_bitCount_0f7a4 15 = .ok (.iload_n 0, 1) := by decide +kernel
theorem dJ6_bitCount_0f7a4_16 : decode cJ6_bitCount_0f7a4 16 = .ok (.iconst 2, 1) := by decide +kernel
theorem dJ6_bitCount_0f7a4_17 : decode cJ6_bitCount_0f7a4 17 = .ok (.iushr, 1) := by decide +kernel
theorem dJ6_bitCount_0f7a4_18 : decode cJ6_bitCount_0f7a4 18 = .ok (.ldc_w 266, 3) := by decide +kernel
theorem dJ6_bitCount_0f7a4_21 : decode cJ6_bitCount_0f7a4 21 = .ok (.iand, 1) := by decide +kernel
theorem dJ6_bitCount_0f7a4_22 : decode cJ6_bitCount_0f7a4 22 = .ok (.iadd, 1) := by decide +kernel
theorem dJ6_bitCount_0f7a4_23 : decode cJ6_bitCount_0f7a4 23 = .ok (.istore_n 0, 1) := by decide +kernel
theorem dJ6_bitCount_0f7a4_24 : decode cJ6_bitCount_0f7a4 24 = .ok (.iload_n 0, 1) := by decide +kernel
theorem dJ6_bitCount_0f7a4_25 : decode cJ6_bitCount_0f7a4 25 = .ok (.iload_n 0, 1) := by decide +kernel
theorem dJ6_bitCount_0f7a4_26 : decode cJ6_bitCount_0f7a4 26 = .ok (.iconst 4, 1) := by decide +kernel
theorem dJ6_bitCount_0f7a4_27 : decode cJ6_bitCount_0f7a4 27 = .ok (.iushr, 1) := by decide +kernel
theorem dJ6_bitCount_0f7a4_28 : decode cJ6_bitCount_0f7a4 28 = .ok (.iadd, 1) := by decide +kernel
theorem dJ6_bitCount_0f7a4_29 : decode cJ6_bitCount_0f7a4 29 = .ok (.ldc_w 267, 3) := by decide +kernel
theorem dJ6_bitCount_0f7a4_32 : decode cJ6_bitCount_0f7a4 32 = .ok (.iand, 1) := by decide +kernel
theorem dJ6_bitCount_0f7a4_33 : decode cJ6_bitCount_0f7a4 33 = .ok (.istore_n 0, 1) := by decide +kernel
theorem dJ6_bitCount_0f7a4_34 : decode cJ6_bitCount_0f7a4 34 = .ok (.iload_n 0, 1) := by decide +kernel
theorem dJ6_bitCount_0f7a4_35 : decode cJ6_bitCount_0f7a4 35 = .ok (.iload_n 0, 1) := by decide +kernel
theorem dJ6_bitCount_0f7a4_36 : decode cJ6_bitCount_0f7a4 36 = .ok (.bipush 8, 2) := by decide +kernel
theorem dJ6_bitCount_0f7a4_38 : decode cJ6_bitCount_0f7a4 38 = .ok (.iushr, 1) := by decide +kernel
theorem dJ6_bitCount_0f7a4_39 : decode cJ6_bitCount_0f7a4 39 = .ok (.iadd, 1) := by decide +kernel
theorem dJ6_bitCount_0f7a4_40 : decode cJ6_bitCount_0f7a4 40 = .ok (.istore_n 0, 1) := by decide +kernel
theorem dJ6_bitCount_0f7a4_41 : decode cJ6_bitCount_0f7a4 41 = .ok (.iload_n 0, 1) := by decide +kernel
theorem dJ6_bitCount_0f7a4_42 : decode cJ6_bitCount_0f7a4 42 = .ok (.iload_n 0, 1) := by decide +kernel
theorem dJ6_bitCount_0f7a4_43 : decode cJ6_bitCount_0f7a4 43 = .ok (.bipush 16, 2) := by decide +kernel
theorem dJ6_bitCount_0f7a4_45 : decode cJ6_bitCount_0f7a4 45 = .ok (.iushr, 1) := by decide +kernel
theorem dJ6_bitCount_0f7a4_46 : decode cJ6_bitCount_0f7a4 46 = .ok (.iadd, 1) := by decide +kernel
theorem dJ6_bitCount_0f7a4_47 : decode cJ6_bitCount_0f7a4 47 = .ok (.istore_n 0, 1) := by decide +kernel
theorem dJ6_bitCount_0f7a4_48 : decode cJ6_bitCount_0f7a4 48 = .ok (.iload_n 0, 1) := by decide +kernel
theorem dJ6_bitCount_0f7a4_49 : decode cJ6_bitCount_0f7a4 49 = .ok (.bipush 63, 2) := by decide +kernel
theorem dJ6_bitCount_0f7a4_51 : decode cJ6_bitCount_0f7a4 51 = .ok (.iand, 1) := by decide +kernel
theorem dJ6_bitCount_0f7a4_52 : decode cJ6_bitCount_0f7a4 52 = .ok (.ireturn, 1) := by decide +kernel
theorem dJ9_max_7cf53_0 : decode cJ9_max_7cf53 0 = .ok (.iload_n 0, 1) := by decide +kernel
theorem dJ9_max_7cf53_1 : decode cJ9_max_7cf53 1 = .ok (.iload_n 1, 1) := by decide +kernel
theorem dJ9_max_7cf53_2 : decode cJ9_max_7cf53 2 = .ok (.if_icmp .lt 7, 3) := by decide +kernel
theorem dJ9_max_7cf53_5 : decode cJ9_max_7cf53 5 = .ok (.iload_n 0, 1) := by decide +kernel
theorem dJ9_max_7cf53_6 : decode cJ9_max_7cf53 6 = .ok (.goto 4, 3) := by decide +kernel
theorem dJ9_max_7cf53_9 : decode cJ9_max_7cf53 9 = .ok (.iload_n 1, 1) := by decide +kernel
theorem dJ9_max_7cf53_10 : decode cJ9_max_7cf53 10 = .ok (.ireturn, 1) := by decide +kernel
theorem dJ9_min_7cf53_0 : decode cJ9_min_7cf53 0 = .ok (.iload_n 0, 1) := by decide +kernel
theorem dJ9_min_7cf53_1 : decode cJ9_min_7cf53 1 = .ok (.iload_n 1, 1) := by decide +kernel
theorem dJ9_min_7cf53_2 : decode cJ9_min_7cf53 2 = .ok (.if_icmp .gt 7, 3) := by decide +kernel
theorem dJ9_min_7cf53_5 : decode cJ9_min_7cf53 5 = .ok (.iload_n 0, 1) := by decide +kernel
theorem dJ9_min_7cf53_6 : decode cJ9_min_7cf53 6 = .ok (.goto 4, 3) := by decide +kernel
theorem dJ9_min_7cf53_9 : decode cJ9_min_7cf53 9 = .ok (.iload_n 1, 1) := by decide +kernel
theorem dJ9_min_7cf53_10 : decode cJ9_min_7cf53 10 = .ok (.ireturn, 1) := by decide +kernel
theorem dL_law_0 : decode cL_law 0 = .ok (.new 7, 3) := by decide +kernel
theorem dL_law_3 : decode cL_law 3 = .ok (.dup, 1) := by decide +kernel
theorem dL_law_4 : decode cL_law 4 = .ok (.invokespecial 9, 3) := by decide +kernel
theorem dL_law_7 : decode cL_law 7 = .ok (.astore_n 1, 1) := by decide +kernel
theorem dL_law_8 : decode cL_law 8 = .ok (.new 10, 3) := by decide +kernel
theorem dL_law_11 : decode cL_law 11 = .ok (.dup, 1) := by decide +kernel
theorem dL_law_12 : decode cL_law 12 = .ok (.invokespecial 12, 3) := by decide +kernel
theorem dL_law_15 : decode cL_law 15 = .ok (.astore_n 2, 1) := by decide +kernel
theorem dL_law_16 : decode cL_law 16 = .ok (.iconst 0, 1) := by decide +kernel
theorem dL_law_17 : decode cL_law 17 = .ok (.istore_n 3, 1) := by decide +kernel
theorem dL_law_18 : decode cL_law 18 = .ok (.iload_n 3, 1) := by decide +kernel
theorem dL_law_19 : decode cL_law 19 = .ok (.aload_n 0, 1) := by decide +kernel
theorem dL_law_20 : decode cL_law 20 = .ok (.arraylength, 1) := by decide +kernel
theorem dL_law_21 : decode cL_law 21 = .ok (.bipush 6, 2) := by decide +kernel
theorem dL_law_23 : decode cL_law 23 = .ok (.isub, 1) := by decide +kernel
theorem dL_law_24 : decode cL_law 24 = .ok (.if_icmp .gt 1083, 3) := by decide +kernel
theorem dL_law_27 : decode cL_law 27 = .ok (.aload_n 0, 1) := by decide +kernel
theorem dL_law_28 : decode cL_law 28 = .ok (.iload_n 3, 1) := by decide +kernel
theorem dL_law_29 : decode cL_law 29 = .ok (.iaload, 1) := by decide +kernel
theorem dL_law_30 : decode cL_law 30 = .ok (.bipush 31, 2) := by decide +kernel
theorem dL_law_32 : decode cL_law 32 = .ok (.iand, 1) := by decide +kernel
theorem dL_law_33 : decode cL_law 33 = .ok (.tableswitch 1068 0 29 #[135, 158, 171, 184, 197, 220, 253, 286, 319, 362, 385, 448, 471, 494, 507, 530, 543, 586, 619, 662, 685, 748, 801, 814, 837, 886, 945, 999, 1022, 1045], 135) := by decide +kernel
theorem dL_law_168 : decode cL_law 168 = .ok (.aload_n 1, 1) := by decide +kernel
theorem dL_law_169 : decode cL_law 169 = .ok (.aload_n 0, 1) := by decide +kernel
theorem dL_law_170 : decode cL_law 170 = .ok (.iload_n 3, 1) := by decide +kernel
theorem dL_law_171 : decode cL_law 171 = .ok (.iconst 1, 1) := by decide +kernel
theorem dL_law_172 : decode cL_law 172 = .ok (.iadd, 1) := by decide +kernel
theorem dL_law_173 : decode cL_law 173 = .ok (.iaload, 1) := by decide +kernel
theorem dL_law_174 : decode cL_law 174 = .ok (.invokevirtual 13, 3) := by decide +kernel
theorem dL_law_177 : decode cL_law 177 = .ok (.aload_n 2, 1) := by decide +kernel
theorem dL_law_178 : decode cL_law 178 = .ok (.aload_n 0, 1) := by decide +kernel
theorem dL_law_179 : decode cL_law 179 = .ok (.iload_n 3, 1) := by decide +kernel
theorem dL_law_180 : decode cL_law 180 = .ok (.iconst 1, 1) := by decide +kernel
theorem dL_law_181 : decode cL_law 181 = .ok (.iadd, 1) := by decide +kernel
theorem dL_law_182 : decode cL_law 182 = .ok (.iaload, 1) := by decide +kernel
theorem dL_law_183 : decode cL_law 183 = .ok (.invokevirtual 17, 3) := by decide +kernel
theorem dL_law_186 : decode cL_law 186 = .ok (.if_icmp .eq 915, 3) := by decide +kernel
theorem dL_law_189 : decode cL_law 189 = .ok (.iconst 0, 1) := by decide +kernel
theorem dL_law_190 : decode cL_law 190 = .ok (.ireturn, 1) := by decide +kernel
theorem dL_law_191 : decode cL_law 191 = .ok (.aload_n 1, 1) := by decide +kernel
theorem dL_law_192 : decode cL_law 192 = .ok (.invokevirtual 18, 3) := by decide +kernel
theorem dL_law_195 : decode cL_law 195 = .ok (.aload_n 2, 1) := by decide +kernel
theorem dL_law_196 : decode cL_law 196 = .ok (.invokevirtual 22, 3) := by decide +kernel
theorem dL_law_199 : decode cL_law 199 = .ok (.if_icmp .eq 902, 3) := by decide +kernel
theorem dL_law_202 : decode cL_law 202 = .ok (.iconst 0, 1) := by decide +kernel
theorem dL_law_203 : decode cL_law 203 = .ok (.ireturn, 1) := by decide +kernel
theorem dL_law_204 : decode cL_law 204 = .ok (.aload_n 1, 1) := by decide +kernel
theorem dL_law_205 : decode cL_law 205 = .ok (.invokevirtual 23, 3) := by decide +kernel
theorem dL_law_208 : decode cL_law 208 = .ok (.aload_n 2, 1) := by decide +kernel
theorem dL_law_209 : decode cL_law 209 = .ok (.invokevirtual 26, 3) := by decide +kernel
theorem dL_law_212 : decode cL_law 212 = .ok (.if_icmp .eq 889, 3) := by decide +kernel
theorem dL_law_215 : decode cL_law 215 = .ok (.iconst 0, 1) := by decide +kernel
theorem dL_law_216 : decode cL_law 216 = .ok (.ireturn, 1) := by decide +kernel
theorem dL_law_217 : decode cL_law 217 = .ok (.aload_n 1, 1) := by decide +kernel
theorem dL_law_218 : decode cL_law 218 = .ok (.invokevirtual 27, 3) := by decide +kernel
theorem dL_law_221 : decode cL_law 221 = .ok (.aload_n 2, 1) := by decide +kernel
theorem dL_law_222 : decode cL_law 222 = .ok (.invokevirtual 30, 3) := by decide +kernel
theorem dL_law_225 : decode cL_law 225 = .ok (.if_icmp .eq 876, 3) := by decide +kernel
theorem dL_law_228 : decode cL_law 228 = .ok (.iconst 0, 1) := by decide +kernel
theorem dL_law_229 : decode cL_law 229 = .ok (.ireturn, 1) := by decide +kernel
theorem dL_law_230 : decode cL_law 230 = .ok (.aload_n 1, 1) := by decide +kernel
theorem dL_law_231 : decode cL_law 231 = .ok (.aload_n 0, 1) := by decide +kernel
theorem dL_law_232 : decode cL_law 232 = .ok (.iload_n 3, 1) := by decide +kernel
theorem dL_law_233 : decode cL_law 233 = .ok (.iconst 1, 1) := by decide +kernel
theorem dL_law_234 : decode cL_law 234 = .ok (.iadd, 1) := by decide +kernel
theorem dL_law_235 : decode cL_law 235 = .ok (.iaload, 1) := by decide +kernel
theorem dL_law_236 : decode cL_law 236 = .ok (.invokevirtual 31, 3) := by decide +kernel
theorem dL_law_239 : decode cL_law 239 = .ok (.aload_n 2, 1) := by decide +kernel
theorem dL_law_240 : decode cL_law 240 = .ok (.aload_n 0, 1) := by decide +kernel
theorem dL_law_241 : decode cL_law 241 = .ok (.iload_n 3, 1) := by decide +kernel
theorem dL_law_242 : decode cL_law 242 = .ok (.iconst 1, 1) := by decide +kernel
theorem dL_law_243 : decode cL_law 243 = .ok (.iadd, 1) := by decide +kernel
theorem dL_law_244 : decode cL_law 244 = .ok (.iaload, 1) := by decide +kernel
theorem dL_law_245 : decode cL_law 245 = .ok (.invokevirtual 34, 3) := by decide +kernel
theorem dL_law_248 : decode cL_law 248 = .ok (.if_icmp .eq 853, 3) := by decide +kernel
theorem dL_law_251 : decode cL_law 251 = .ok (.iconst 0, 1) := by decide +kernel
theorem dL_law_252 : decode cL_law 252 = .ok (.ireturn, 1) := by decide +kernel
theorem dL_law_253 : decode cL_law 253 = .ok (.aload_n 1, 1) := by decide +kernel
theorem dL_law_254 : decode cL_law 254 = .ok (.aload_n 0, 1) := by decide +kernel
theorem dL_law_255 : decode cL_law 255 = .ok (.iload_n 3, 1) := by decide +kernel
theorem dL_law_256 : decode cL_law 256 = .ok (.iconst 1, 1) := by decide +kernel
theorem dL_law_257 : decode cL_law 257 = .ok (.iadd, 1) := by decide +kernel
theorem dL_law_258 : decode cL_law 258 = .ok (.iaload, 1) := by decide +kernel
theorem dL_law_259 : decode cL_law 259 = .ok (.aload_n 0, 1) := by decide +kernel
theorem dL_law_260 : decode cL_law 260 = .ok (.iload_n 3, 1) := by decide +kernel
theorem dL_law_261 : decode cL_law 261 = .ok (.iconst 2, 1) := by decide +kernel
theorem dL_law_262 : decode cL_law 262 = .ok (.iadd, 1) := by decide +kernel
theorem dL_law_263 : decode cL_law 263 = .ok (.iaload, 1) := by decide +kernel
theorem dL_law_264 : decode cL_law 264 = .ok (.invokevirtual 35, 3) := by decide +kernel
theorem dL_law_267 : decode cL_law 267 = .ok (.aload_n 2, 1) := by decide +kernel
theorem dL_law_268 : decode cL_law 268 = .ok (.aload_n 0, 1) := by decide +kernel
theorem dL_law_269 : decode cL_law 269 = .ok (.iload_n 3, 1) := by decide +kernel
theorem dL_law_270 : decode cL_law 270 = .ok (.iconst 1, 1) := by decide +kernel
theorem dL_law_271 : decode cL_law 271 = .ok (.iadd, 1) := by decide +kernel
theorem dL_law_272 : decode cL_law 272 = .ok (.iaload, 1) := by decide +kernel
theorem dL_law_273 : decode cL_law 273 = .ok (.aload_n 0, 1) := by decide +kernel
theorem dL_law_274 : decode cL_law 274 = .ok (.iload_n 3, 1) := by decide +kernel
theorem dL_law_275 : decode cL_law 275 = .ok (.iconst 2, 1) := by decide +kernel
theorem dL_law_276 : decode cL_law 276 = .ok (.iadd, 1) := by decide +kernel
theorem dL_law_277 : decode cL_law 277 = .ok (.iaload, 1) := by decide +kernel
theorem dL_law_278 : decode cL_law 278 = .ok (.invokevirtual 39, 3) := by decide +kernel
theorem dL_law_281 : decode cL_law 281 = .ok (.if_icmp .eq 820, 3) := by decide +kernel
theorem dL_law_284 : decode cL_law 284 = .ok (.iconst 0, 1) := by decide +kernel
theorem dL_law_285 : decode cL_law 285 = .ok (.ireturn, 1) := by decide +kernel
theorem dL_law_286 : decode cL_law 286 = .ok (.aload_n 1, 1) := by decide +kernel
theorem dL_law_287 : decode cL_law 287 = .ok (.aload_n 0, 1) := by decide +kernel
theorem dL_law_288 : decode cL_law 288 = .ok (.iload_n 3, 1) := by decide +kernel
theorem dL_law_289 : decode cL_law 289 = .ok (.iconst 1, 1) := by decide +kernel
theorem dL_law_290 : decode cL_law 290 = .ok (.iadd, 1) := by decide +kernel
theorem dL_law_291 : decode cL_law 291 = .ok (.iaload, 1) := by decide +kernel
theorem dL_law_292 : decode cL_law 292 = .ok (.aload_n 0, 1) := by decide +kernel
theorem dL_law_293 : decode cL_law 293 = .ok (.iload_n 3, 1) := by decide +kernel
theorem dL_law_294 : decode cL_law 294 = .ok (.iconst 2, 1) := by decide +kernel
theorem dL_law_295 : decode cL_law 295 = .ok (.iadd, 1) := by decide +kernel
theorem dL_law_296 : decode cL_law 296 = .ok (.iaload, 1) := by decide +kernel
theorem dL_law_297 : decode cL_law 297 = .ok (.invokevirtual 40, 3) := by decide +kernel
theorem dL_law_300 : decode cL_law 300 = .ok (.aload_n 2, 1) := by decide +kernel
theorem dL_law_301 : decode cL_law 301 = .ok (.aload_n 0, 1) := by decide +kernel
theorem dL_law_302 : decode cL_law 302 = .ok (.iload_n 3, 1) := by decide +kernel
theorem dL_law_303 : decode cL_law 303 = .ok (.iconst 1, 1) := by decide +kernel
theorem dL_law_304 : decode cL_law 304 = .ok (.iadd, 1) := by decide +kernel
theorem dL_law_305 : decode cL_law 305 = .ok (.iaload, 1) := by decide +kernel
theorem dL_law_306 : decode cL_law 306 = .ok (.aload_n 0, 1) := by decide +kernel
theorem dL_law_307 : decode cL_law 307 = .ok (.iload_n 3, 1) := by decide +kernel
theorem dL_law_308 : decode cL_law 308 = .ok (.iconst 2, 1) := by decide +kernel
theorem dL_law_309 : decode cL_law 309 = .ok (.iadd, 1) := by decide +kernel
theorem dL_law_310 : decode cL_law 310 = .ok (.iaload, 1) := by decide +kernel
theorem dL_law_311 : decode cL_law 311 = .ok (.invokevirtual 43, 3) := by decide +kernel
theorem dL_law_314 : decode cL_law 314 = .ok (.if_icmp .eq 787, 3) := by decide +kernel
theorem dL_law_317 : decode cL_law 317 = .ok (.iconst 0, 1) := by decide +kernel
theorem dL_law_318 : decode cL_law 318 = .ok (.ireturn, 1) := by decide +kernel
theorem dL_law_319 : decode cL_law 319 = .ok (.aload_n 1, 1) := by decide +kernel
theorem dL_law_320 : decode cL_law 320 = .ok (.aload_n 0, 1) := by decide +kernel
theorem dL_law_321 : decode cL_law 321 = .ok (.iload_n 3, 1) := by decide +kernel
theorem dL_law_322 : decode cL_law 322 = .ok (.iconst 1, 1) := by decide +kernel
theorem dL_law_323 : decode cL_law 323 = .ok (.iadd, 1) := by decide +kernel
theorem dL_law_324 : decode cL_law 324 = .ok (.iaload, 1) := by decide +kernel
theorem dL_law_325 : decode cL_law 325 = .ok (.aload_n 0, 1) := by decide +kernel
theorem dL_law_326 : decode cL_law 326 = .ok (.iload_n 3, 1) := by decide +kernel
theorem dL_law_327 : decode cL_law 327 = .ok (.iconst 2, 1) := by decide +kernel
theorem dL_law_328 : decode cL_law 328 = .ok (.iadd, 1) := by decide +kernel
theorem dL_law_329 : decode cL_law 329 = .ok (.iaload, 1) := by decide +kernel
theorem dL_law_330 : decode cL_law 330 = .ok (.invokevirtual 44, 3) := by decide +kernel
theorem dL_law_333 : decode cL_law 333 = .ok (.aload_n 2, 1) := by decide +kernel
theorem dL_law_334 : decode cL_law 334 = .ok (.aload_n 0, 1) := by decide +kernel
theorem dL_law_335 : decode cL_law 335 = .ok (.iload_n 3, 1) := by decide +kernel
theorem dL_law_336 : decode cL_law 336 = .ok (.iconst 1, 1) := by decide +kernel
theorem dL_law_337 : decode cL_law 337 = .ok (.iadd, 1) := by decide +kernel
theorem dL_law_338 : decode cL_law 338 = .ok (.iaload, 1) := by decide +kernel
theorem dL_law_339 : decode cL_law 339 = .ok (.aload_n 0, 1) := by decide +kernel
theorem dL_law_340 : decode cL_law 340 = .ok (.iload_n 3, 1) := by decide +kernel
theorem dL_law_341 : decode cL_law 341 = .ok (.iconst 2, 1) := by decide +kernel
theorem dL_law_342 : decode cL_law 342 = .ok (.iadd, 1) := by decide +kernel
theorem dL_law_343 : decode cL_law 343 = .ok (.iaload, 1) := by decide +kernel
theorem dL_law_344 : decode cL_law 344 = .ok (.invokevirtual 47, 3) := by decide +kernel
theorem dL_law_347 : decode cL_law 347 = .ok (.if_icmp .eq 754, 3) := by decide +kernel
theorem dL_law_350 : decode cL_law 350 = .ok (.iconst 0, 1) := by decide +kernel
theorem dL_law_351 : decode cL_law 351 = .ok (.ireturn, 1) := by decide +kernel
theorem dL_law_352 : decode cL_law 352 = .ok (.aload_n 1, 1) := by decide +kernel
theorem dL_law_353 : decode cL_law 353 = .ok (.aload_n 0, 1) := by decide +kernel
theorem dL_law_354 : decode cL_law 354 = .ok (.iload_n 3, 1) := by decide +kernel
theorem dL_law_355 : decode cL_law 355 = .ok (.iconst 1, 1) := by decide +kernel
theorem dL_law_356 : decode cL_law 356 = .ok (.iadd, 1) := by decide +kernel
theorem dL_law_357 : decode cL_law 357 = .ok (.iaload, 1) := by decide +kernel
theorem dL_law_358 : decode cL_law 358 = .ok (.aload_n 0, 1) := by decide +kernel
theorem dL_law_359 : decode cL_law 359 = .ok (.iload_n 3, 1) := by decide +kernel
theorem dL_law_360 : decode cL_law 360 = .ok (.iconst 2, 1) := by decide +kernel
theorem dL_law_361 : decode cL_law 361 = .ok (.iadd, 1) := by decide +kernel
theorem dL_law_362 : decode cL_law 362 = .ok (.iaload, 1) := by decide +kernel
theorem dL_law_363 : decode cL_law 363 = .ok (.aload_n 0, 1) := by decide +kernel
theorem dL_law_364 : decode cL_law 364 = .ok (.iload_n 3, 1) := by decide +kernel
theorem dL_law_365 : decode cL_law 365 = .ok (.iconst 3, 1) := by decide +kernel
theorem dL_law_366 : decode cL_law 366 = .ok (.iadd, 1) := by decide +kernel
theorem dL_law_367 : decode cL_law 367 = .ok (.iaload, 1) := by decide +kernel
theorem dL_law_368 : decode cL_law 368 = .ok (.invokevirtual 48, 3) := by decide +kernel
theorem dL_law_371 : decode cL_law 371 = .ok (.aload_n 2, 1) := by decide +kernel
theorem dL_law_372 : decode cL_law 372 = .ok (.aload_n 0, 1) := by decide +kernel
theorem dL_law_373 : decode cL_law 373 = .ok (.iload_n 3, 1) := by decide +kernel
theorem dL_law_374 : decode cL_law 374 = .ok (.iconst 1, 1) := by decide +kernel
theorem dL_law_375 : decode cL_law 375 = .ok (.iadd, 1) := by decide +kernel
theorem dL_law_376 : decode cL_law 376 = .ok (.iaload, 1) := by decide +kernel
theorem dL_law_377 : decode cL_law 377 = .ok (.aload_n 0, 1) := by decide +kernel
theorem dL_law_378 : decode cL_law 378 = .ok (.iload_n 3, 1) := by decide +kernel
theorem dL_law_379 : decode cL_law 379 = .ok (.iconst 2, 1) := by decide +kernel
theorem dL_law_380 : decode cL_law 380 = .ok (.iadd, 1) := by decide +kernel
theorem dL_law_381 : decode cL_law 381 = .ok (.iaload, 1) := by decide +kernel
theorem dL_law_382 : decode cL_law 382 = .ok (.aload_n 0, 1) := by decide +kernel
theorem dL_law_383 : decode cL_law 383 = .ok (.iload_n 3, 1) := by decide +kernel
theorem dL_law_384 : decode cL_law 384 = .ok (.iconst 3, 1) := by decide +kernel
theorem dL_law_385 : decode cL_law 385 = .ok (.iadd, 1) := by decide +kernel
theorem dL_law_386 : decode cL_law 386 = .ok (.iaload, 1) := by decide +kernel
theorem dL_law_387 : decode cL_law 387 = .ok (.invokevirtual 52, 3) := by decide +kernel
theorem dL_law_390 : decode cL_law 390 = .ok (.if_icmp .eq 711, 3) := by decide +kernel
theorem dL_law_393 : decode cL_law 393 = .ok (.iconst 0, 1) := by decide +kernel
theorem dL_law_394 : decode cL_law 394 = .ok (.ireturn, 1) := by decide +kernel
theorem dL_law_395 : decode cL_law 395 = .ok (.aload_n 1, 1) := by decide +kernel
theorem dL_law_396 : decode cL_law 396 = .ok (.aload_n 0, 1) := by decide +kernel
theorem dL_law_397 : decode cL_law 397 = .ok (.iload_n 3, 1) := by decide +kernel
theorem dL_law_398 : decode cL_law 398 = .ok (.iconst 1, 1) := by decide +kernel
theorem dL_law_399 : decode cL_law 399 = .ok (.iadd, 1) := by decide +kernel
theorem dL_law_400 : decode cL_law 400 = .ok (.iaload, 1) := by decide +kernel
theorem dL_law_401 : decode cL_law 401 = .ok (.invokevirtual 53, 3) := by decide +kernel
theorem dL_law_404 : decode cL_law 404 = .ok (.aload_n 2, 1) := by decide +kernel
theorem dL_law_405 : decode cL_law 405 = .ok (.aload_n 0, 1) := by decide +kernel
theorem dL_law_406 : decode cL_law 406 = .ok (.iload_n 3, 1) := by decide +kernel
theorem dL_law_407 : decode cL_law 407 = .ok (.iconst 1, 1) := by decide +kernel
theorem dL_law_408 : decode cL_law 408 = .ok (.iadd, 1) := by decide +kernel
theorem dL_law_409 : decode cL_law 409 = .ok (.iaload, 1) := by decide +kernel
theorem dL_law_410 : decode cL_law 410 = .ok (.invokevirtual 56, 3) := by decide +kernel
theorem dL_law_413 : decode cL_law 413 = .ok (.if_icmp .eq 688, 3) := by decide +kernel
theorem dL_law_416 : decode cL_law 416 = .ok (.iconst 0, 1) := by decide +kernel
theorem dL_law_417 : decode cL_law 417 = .ok (.ireturn, 1) := by decide +kernel
theorem dL_law_418 : decode cL_law 418 = .ok (.aload_n 1, 1) := by decide +kernel
theorem dL_law_419 : decode cL_law 419 = .ok (.aload_n 0, 1) := by decide +kernel
theorem dL_law_420 : decode cL_law 420 = .ok (.iload_n 3, 1) := by decide +kernel
theorem dL_law_421 : decode cL_law 421 = .ok (.iconst 1, 1) := by decide +kernel
theorem dL_law_422 : decode cL_law 422 = .ok (.iadd, 1) := by decide +kernel
theorem dL_law_423 : decode cL_law 423 = .ok (.iaload, 1) := by decide +kernel
theorem dL_law_424 : decode cL_law 424 = .ok (.aload_n 0, 1) := by decide +kernel
theorem dL_law_425 : decode cL_law 425 = .ok (.iload_n 3, 1) := by decide +kernel
theorem dL_law_426 : decode cL_law 426 = .ok (.iconst 2, 1) := by decide +kernel
theorem dL_law_427 : decode cL_law 427 = .ok (.iadd, 1) := by decide +kernel
theorem dL_law_428 : decode cL_law 428 = .ok (.iaload, 1) := by decide +kernel
theorem dL_law_429 : decode cL_law 429 = .ok (.aload_n 0, 1) := by decide +kernel
theorem dL_law_430 : decode cL_law 430 = .ok (.iload_n 3, 1) := by decide +kernel
theorem dL_law_431 : decode cL_law 431 = .ok (.iconst 3, 1) := by decide +kernel
theorem dL_law_432 : decode cL_law 432 = .ok (.iadd, 1) := by decide +kernel
theorem dL_law_433 : decode cL_law 433 = .ok (.iaload, 1) := by decide +kernel
theorem dL_law_434 : decode cL_law 434 = .ok (.aload_n 0, 1) := by decide +kernel
theorem dL_law_435 : decode cL_law 435 = .ok (.iload_n 3, 1) := by decide +kernel
theorem dL_law_436 : decode cL_law 436 = .ok (.iconst 4, 1) := by decide +kernel
theorem dL_law_437 : decode cL_law 437 = .ok (.iadd, 1) := by decide +kernel
theorem dL_law_438 : decode cL_law 438 = .ok (.iaload, 1) := by decide +kernel
theorem dL_law_439 : decode cL_law 439 = .ok (.aload_n 0, 1) := by decide +kernel
theorem dL_law_440 : decode cL_law 440 = .ok (.iload_n 3, 1) := by decide +kernel
theorem dL_law_441 : decode cL_law 441 = .ok (.iconst 5, 1) := by decide +kernel
theorem dL_law_442 : decode cL_law 442 = .ok (.iadd, 1) := by decide +kernel
theorem dL_law_443 : decode cL_law 443 = .ok (.iaload, 1) := by decide +kernel
theorem dL_law_444 : decode cL_law 444 = .ok (.invokevirtual 57, 3) := by decide +kernel
theorem dL_law_447 : decode cL_law 447 = .ok (.aload_n 2, 1) := by decide +kernel
theorem dL_law_448 : decode cL_law 448 = .ok (.aload_n 0, 1) := by decide +kernel
theorem dL_law_449 : decode cL_law 449 = .ok (.iload_n 3, 1) := by decide +kernel
theorem dL_law_450 : decode cL_law 450 = .ok (.iconst 1, 1) := by decide +kernel
theorem dL_law_451 : decode cL_law 451 = .ok (.iadd, 1) := by decide +kernel
theorem dL_law_452 : decode cL_law 452 = .ok (.iaload, 1) := by decide +kernel
theorem dL_law_453 : decode cL_law 453 = .ok (.aload_n 0, 1) := by decide +kernel
theorem dL_law_454 : decode cL_law 454 = .ok (.iload_n 3, 1) := by decide +kernel
theorem dL_law_455 : decode cL_law 455 = .ok (.iconst 2, 1) := by decide +kernel
theorem dL_law_456 : decode cL_law 456 = .ok (.iadd, 1) := by decide +kernel
theorem dL_law_457 : decode cL_law 457 = .ok (.iaload, 1) := by decide +kernel
theorem dL_law_458 : decode cL_law 458 = .ok (.aload_n 0, 1) := by decide +kernel
theorem dL_law_459 : decode cL_law 459 = .ok (.iload_n 3, 1) := by decide +kernel
theorem dL_law_460 : decode cL_law 460 = .ok (.iconst 3, 1) := by decide +kernel
theorem dL_law_461 : decode cL_law 461 = .ok (.iadd, 1) := by decide +kernel
theorem dL_law_462 : decode cL_law 462 = .ok (.iaload, 1) := by decide +kernel
theorem dL_law_463 : decode cL_law 463 = .ok (.aload_n 0, 1) := by decide +kernel
theorem dL_law_464 : decode cL_law 464 = .ok (.iload_n 3, 1) := by decide +kernel
theorem dL_law_465 : decode cL_law 465 = .ok (.iconst 4, 1) := by decide +kernel
theorem dL_law_466 : decode cL_law 466 = .ok (.iadd, 1) := by decide +kernel
theorem dL_law_467 : decode cL_law 467 = .ok (.iaload, 1) := by decide +kernel
theorem dL_law_468 : decode cL_law 468 = .ok (.aload_n 0, 1) := by decide +kernel
theorem dL_law_469 : decode cL_law 469 = .ok (.iload_n 3, 1) := by decide +kernel
theorem dL_law_470 : decode cL_law 470 = .ok (.iconst 5, 1) := by decide +kernel
theorem dL_law_471 : decode cL_law 471 = .ok (.iadd, 1) := by decide +kernel
theorem dL_law_472 : decode cL_law 472 = .ok (.iaload, 1) := by decide +kernel
theorem dL_law_473 : decode cL_law 473 = .ok (.invokevirtual 61, 3) := by decide +kernel
theorem dL_law_476 : decode cL_law 476 = .ok (.if_icmp .eq 625, 3) := by decide +kernel
theorem dL_law_479 : decode cL_law 479 = .ok (.iconst 0, 1) := by decide +kernel
theorem dL_law_480 : decode cL_law 480 = .ok (.ireturn, 1) := by decide +kernel
theorem dL_law_481 : decode cL_law 481 = .ok (.aload_n 1, 1) := by decide +kernel
theorem dL_law_482 : decode cL_law 482 = .ok (.aload_n 0, 1) := by decide +kernel
theorem dL_law_483 : decode cL_law 483 = .ok (.iload_n 3, 1) := by decide +kernel
theorem dL_law_484 : decode cL_law 484 = .ok (.iconst 1, 1) := by decide +kernel
theorem dL_law_485 : decode cL_law 485 = .ok (.iadd, 1) := by decide +kernel
theorem dL_law_486 : decode cL_law 486 = .ok (.iaload, 1) := by decide +kernel
theorem dL_law_487 : decode cL_law 487 = .ok (.invokevirtual 62, 3) := by decide +kernel
theorem dL_law_490 : decode cL_law 490 = .ok (.aload_n 2, 1) := by decide +kernel
theorem dL_law_491 : decode cL_law 491 = .ok (.aload_n 0, 1) := by decide +kernel
theorem dL_law_492 : decode cL_law 492 = .ok (.iload_n 3, 1) := by decide +kernel
theorem dL_law_493 : decode cL_law 493 = .ok (.iconst 1, 1) := by decide +kernel
theorem dL_law_494 : decode cL_law 494 = .ok (.iadd, 1) := by decide +kernel
theorem dL_law_495 : decode cL_law 495 = .ok (.iaload, 1) := by decide +kernel
theorem dL_law_496 : decode cL_law 496 = .ok (.invokevirtual 65, 3) := by decide +kernel
theorem dL_law_499 : decode cL_law 499 = .ok (.if_icmp .eq 602, 3) := by decide +kernel
theorem dL_law_502 : decode cL_law 502 = .ok (.iconst 0, 1) := by decide +kernel
theorem dL_law_503 : decode cL_law 503 = .ok (.ireturn, 1) := by decide +kernel
theorem dL_law_504 : decode cL_law 504 = .ok (.aload_n 1, 1) := by decide +kernel
theorem dL_law_505 : decode cL_law 505 = .ok (.aload_n 0, 1) := by decide +kernel
theorem dL_law_506 : decode cL_law 506 = .ok (.iload_n 3, 1) := by decide +kernel
theorem dL_law_507 : decode cL_law 507 = .ok (.iconst 1, 1) := by decide +kernel
theorem dL_law_508 : decode cL_law 508 = .ok (.iadd, 1) := by decide +kernel
theorem dL_law_509 : decode cL_law 509 = .ok (.iaload, 1) := by decide +kernel
theorem dL_law_510 : decode cL_law 510 = .ok (.invokevirtual 66, 3) := by decide +kernel
theorem dL_law_513 : decode cL_law 513 = .ok (.aload_n 2, 1) := by decide +kernel
theorem dL_law_514 : decode cL_law 514 = .ok (.aload_n 0, 1) := by decide +kernel
theorem dL_law_515 : decode cL_law 515 = .ok (.iload_n 3, 1) := by decide +kernel
theorem dL_law_516 : decode cL_law 516 = .ok (.iconst 1, 1) := by decide +kernel
theorem dL_law_517 : decode cL_law 517 = .ok (.iadd, 1) := by decide +kernel
theorem dL_law_518 : decode cL_law 518 = .ok (.iaload, 1) := by decide +kernel
theorem dL_law_519 : decode cL_law 519 = .ok (.invokevirtual 69, 3) := by decide +kernel
theorem dL_law_522 : decode cL_law 522 = .ok (.if_icmp .eq 579, 3) := by decide +kernel
theorem dL_law_525 : decode cL_law 525 = .ok (.iconst 0, 1) := by decide +kernel
theorem dL_law_526 : decode cL_law 526 = .ok (.ireturn, 1) := by decide +kernel
theorem dL_law_527 : decode cL_law 527 = .ok (.aload_n 1, 1) := by decide +kernel
theorem dL_law_528 : decode cL_law 528 = .ok (.invokevirtual 70, 3) := by decide +kernel
theorem dL_law_531 : decode cL_law 531 = .ok (.aload_n 2, 1) := by decide +kernel
theorem dL_law_532 : decode cL_law 532 = .ok (.invokevirtual 73, 3) := by decide +kernel
theorem dL_law_535 : decode cL_law 535 = .ok (.if_icmp .eq 566, 3) := by decide +kernel
theorem dL_law_538 : decode cL_law 538 = .ok (.iconst 0, 1) := by decide +kernel
theorem dL_law_539 : decode cL_law 539 = .ok (.ireturn, 1) := by decide +kernel
theorem dL_law_540 : decode cL_law 540 = .ok (.aload_n 1, 1) := by decide +kernel
theorem dL_law_541 : decode cL_law 541 = .ok (.aload_n 0, 1) := by decide +kernel
theorem dL_law_542 : decode cL_law 542 = .ok (.iload_n 3, 1) := by decide +kernel
theorem dL_law_543 : decode cL_law 543 = .ok (.iconst 1, 1) := by decide +kernel
theorem dL_law_544 : decode cL_law 544 = .ok (.iadd, 1) := by decide +kernel
theorem dL_law_545 : decode cL_law 545 = .ok (.iaload, 1) := by decide +kernel
theorem dL_law_546 : decode cL_law 546 = .ok (.invokevirtual 74, 3) := by decide +kernel
theorem dL_law_549 : decode cL_law 549 = .ok (.aload_n 2, 1) := by decide +kernel
theorem dL_law_550 : decode cL_law 550 = .ok (.aload_n 0, 1) := by decide +kernel
theorem dL_law_551 : decode cL_law 551 = .ok (.iload_n 3, 1) := by decide +kernel
theorem dL_law_552 : decode cL_law 552 = .ok (.iconst 1, 1) := by decide +kernel
theorem dL_law_553 : decode cL_law 553 = .ok (.iadd, 1) := by decide +kernel
theorem dL_law_554 : decode cL_law 554 = .ok (.iaload, 1) := by decide +kernel
theorem dL_law_555 : decode cL_law 555 = .ok (.invokevirtual 77, 3) := by decide +kernel
theorem dL_law_558 : decode cL_law 558 = .ok (.if_icmp .eq 543, 3) := by decide +kernel
theorem dL_law_561 : decode cL_law 561 = .ok (.iconst 0, 1) := by decide +kernel
theorem dL_law_562 : decode cL_law 562 = .ok (.ireturn, 1) := by decide +kernel
theorem dL_law_563 : decode cL_law 563 = .ok (.aload_n 1, 1) := by decide +kernel
theorem dL_law_564 : decode cL_law 564 = .ok (.invokevirtual 78, 3) := by decide +kernel
theorem dL_law_567 : decode cL_law 567 = .ok (.aload_n 2, 1) := by decide +kernel
theorem dL_law_568 : decode cL_law 568 = .ok (.invokevirtual 81, 3) := by decide +kernel
theorem dL_law_571 : decode cL_law 571 = .ok (.if_icmp .eq 530, 3) := by decide +kernel
theorem dL_law_574 : decode cL_law 574 = .ok (.iconst 0, 1) := by decide +kernel
theorem dL_law_575 : decode cL_law 575 = .ok (.ireturn, 1) := by decide +kernel
theorem dL_law_576 : decode cL_law 576 = .ok (.aload_n 1, 1) := by decide +kernel
theorem dL_law_577 : decode cL_law 577 = .ok (.aload_n 0, 1) := by decide +kernel
theorem dL_law_578 : decode cL_law 578 = .ok (.iload_n 3, 1) := by decide +kernel
theorem dL_law_579 : decode cL_law 579 = .ok (.iconst 1, 1) := by decide +kernel
theorem dL_law_580 : decode cL_law 580 = .ok (.iadd, 1) := by decide +kernel
theorem dL_law_581 : decode cL_law 581 = .ok (.iaload, 1) := by decide +kernel
theorem dL_law_582 : decode cL_law 582 = .ok (.aload_n 0, 1) := by decide +kernel
theorem dL_law_583 : decode cL_law 583 = .ok (.iload_n 3, 1) := by decide +kernel
theorem dL_law_584 : decode cL_law 584 = .ok (.iconst 2, 1) := by decide +kernel
theorem dL_law_585 : decode cL_law 585 = .ok (.iadd, 1) := by decide +kernel
theorem dL_law_586 : decode cL_law 586 = .ok (.iaload, 1) := by decide +kernel
theorem dL_law_587 : decode cL_law 587 = .ok (.aload_n 0, 1) := by decide +kernel
theorem dL_law_588 : decode cL_law 588 = .ok (.iload_n 3, 1) := by decide +kernel
theorem dL_law_589 : decode cL_law 589 = .ok (.iconst 3, 1) := by decide +kernel
theorem dL_law_590 : decode cL_law 590 = .ok (.iadd, 1) := by decide +kernel
theorem dL_law_591 : decode cL_law 591 = .ok (.iaload, 1) := by decide +kernel
theorem dL_law_592 : decode cL_law 592 = .ok (.invokevirtual 82, 3) := by decide +kernel
theorem dL_law_595 : decode cL_law 595 = .ok (.aload_n 2, 1) := by decide +kernel
theorem dL_law_596 : decode cL_law 596 = .ok (.aload_n 0, 1) := by decide +kernel
theorem dL_law_597 : decode cL_law 597 = .ok (.iload_n 3, 1) := by decide +kernel
theorem dL_law_598 : decode cL_law 598 = .ok (.iconst 1, 1) := by decide +kernel
theorem dL_law_599 : decode cL_law 599 = .ok (.iadd, 1) := by decide +kernel
theorem dL_law_600 : decode cL_law 600 = .ok (.iaload, 1) := by decide +kernel
theorem dL_law_601 : decode cL_law 601 = .ok (.aload_n 0, 1) := by decide +kernel
theorem dL_law_602 : decode cL_law 602 = .ok (.iload_n 3, 1) := by decide +kernel
theorem dL_law_603 : decode cL_law 603 = .ok (.iconst 2, 1) := by decide +kernel
theorem dL_law_604 : decode cL_law 604 = .ok (.iadd, 1) := by decide +kernel
theorem dL_law_605 : decode cL_law 605 = .ok (.iaload, 1) := by decide +kernel
theorem dL_law_606 : decode cL_law 606 = .ok (.aload_n 0, 1) := by decide +kernel
theorem dL_law_607 : decode cL_law 607 = .ok (.iload_n 3, 1) := by decide +kernel
theorem dL_law_608 : decode cL_law 608 = .ok (.iconst 3, 1) := by decide +kernel
theorem dL_law_609 : decode cL_law 609 = .ok (.iadd, 1) := by decide +kernel
theorem dL_law_610 : decode cL_law 610 = .ok (.iaload, 1) := by decide +kernel
theorem dL_law_611 : decode cL_law 611 = .ok (.invokevirtual 85, 3) := by decide +kernel
theorem dL_law_614 : decode cL_law 614 = .ok (.if_icmp .eq 487, 3) := by decide +kernel
theorem dL_law_617 : decode cL_law 617 = .ok (.iconst 0, 1) := by decide +kernel
theorem dL_law_618 : decode cL_law 618 = .ok (.ireturn, 1) := by decide +kernel
theorem dL_law_619 : decode cL_law 619 = .ok (.aload_n 1, 1) := by decide +kernel
theorem dL_law_620 : decode cL_law 620 = .ok (.aload_n 0, 1) := by decide +kernel
theorem dL_law_621 : decode cL_law 621 = .ok (.iload_n 3, 1) := by decide +kernel
theorem dL_law_622 : decode cL_law 622 = .ok (.iconst 1, 1) := by decide +kernel
theorem dL_law_623 : decode cL_law 623 = .ok (.iadd, 1) := by decide +kernel
theorem dL_law_624 : decode cL_law 624 = .ok (.iaload, 1) := by decide +kernel
theorem dL_law_625 : decode cL_law 625 = .ok (.aload_n 0, 1) := by decide +kernel
theorem dL_law_626 : decode cL_law 626 = .ok (.iload_n 3, 1) := by decide +kernel
theorem dL_law_627 : decode cL_law 627 = .ok (.iconst 2, 1) := by decide +kernel
theorem dL_law_628 : decode cL_law 628 = .ok (.iadd, 1) := by decide +kernel
theorem dL_law_629 : decode cL_law 629 = .ok (.iaload, 1) := by decide +kernel
theorem dL_law_630 : decode cL_law 630 = .ok (.invokevirtual 86, 3) := by decide +kernel
theorem dL_law_633 : decode cL_law 633 = .ok (.aload_n 2, 1) := by decide +kernel
theorem dL_law_634 : decode cL_law 634 = .ok (.aload_n 0, 1) := by decide +kernel
theorem dL_law_635 : decode cL_law 635 = .ok (.iload_n 3, 1) := by decide +kernel
theorem dL_law_636 : decode cL_law 636 = .ok (.iconst 1, 1) := by decide +kernel
theorem dL_law_637 : decode cL_law 637 = .ok (.iadd, 1) := by decide +kernel
theorem dL_law_638 : decode cL_law 638 = .ok (.iaload, 1) := by decide +kernel
theorem dL_law_639 : decode cL_law 639 = .ok (.aload_n 0, 1) := by decide +kernel
theorem dL_law_640 : decode cL_law 640 = .ok (.iload_n 3, 1) := by decide +kernel
theorem dL_law_641 : decode cL_law 641 = .ok (.iconst 2, 1) := by decide +kernel
theorem dL_law_642 : decode cL_law 642 = .ok (.iadd, 1) := by decide +kernel
theorem dL_law_643 : decode cL_law 643 = .ok (.iaload, 1) := by decide +kernel
theorem dL_law_644 : decode cL_law 644 = .ok (.invokevirtual 89, 3) := by decide +kernel
theorem dL_law_647 : decode cL_law 647 = .ok (.if_icmp .eq 454, 3) := by decide +kernel
theorem dL_law_650 : decode cL_law 650 = .ok (.iconst 0, 1) := by decide +kernel
theorem dL_law_651 : decode cL_law 651 = .ok (.ireturn, 1) := by decide +kernel
theorem dL_law_652 : decode cL_law 652 = .ok (.aload_n 1, 1) := by decide +kernel
theorem dL_law_653 : decode cL_law 653 = .ok (.aload_n 0, 1) := by decide +kernel
theorem dL_law_654 : decode cL_law 654 = .ok (.iload_n 3, 1) := by decide +kernel
theorem dL_law_655 : decode cL_law 655 = .ok (.iconst 1, 1) := by decide +kernel
theorem dL_law_656 : decode cL_law 656 = .ok (.iadd, 1) := by decide +kernel
theorem dL_law_657 : decode cL_law 657 = .ok (.iaload, 1) := by decide +kernel
theorem dL_law_658 : decode cL_law 658 = .ok (.aload_n 0, 1) := by decide +kernel
theorem dL_law_659 : decode cL_law 659 = .ok (.iload_n 3, 1) := by decide +kernel
theorem dL_law_660 : decode cL_law 660 = .ok (.iconst 2, 1) := by decide +kernel
theorem dL_law_661 : decode cL_law 661 = .ok (.iadd, 1) := by decide +kernel
theorem dL_law_662 : decode cL_law 662 = .ok (.iaload, 1) := by decide +kernel
theorem dL_law_663 : decode cL_law 663 = .ok (.aload_n 0, 1) := by decide +kernel
theorem dL_law_664 : decode cL_law 664 = .ok (.iload_n 3, 1) := by decide +kernel
theorem dL_law_665 : decode cL_law 665 = .ok (.iconst 3, 1) := by decide +kernel
theorem dL_law_666 : decode cL_law 666 = .ok (.iadd, 1) := by decide +kernel
theorem dL_law_667 : decode cL_law 667 = .ok (.iaload, 1) := by decide +kernel
theorem dL_law_668 : decode cL_law 668 = .ok (.invokevirtual 90, 3) := by decide +kernel
theorem dL_law_671 : decode cL_law 671 = .ok (.aload_n 2, 1) := by decide +kernel
theorem dL_law_672 : decode cL_law 672 = .ok (.aload_n 0, 1) := by decide +kernel
theorem dL_law_673 : decode cL_law 673 = .ok (.iload_n 3, 1) := by decide +kernel
theorem dL_law_674 : decode cL_law 674 = .ok (.iconst 1, 1) := by decide +kernel
theorem dL_law_675 : decode cL_law 675 = .ok (.iadd, 1) := by decide +kernel
theorem dL_law_676 : decode cL_law 676 = .ok (.iaload, 1) := by decide +kernel
theorem dL_law_677 : decode cL_law 677 = .ok (.aload_n 0, 1) := by decide +kernel
theorem dL_law_678 : decode cL_law 678 = .ok (.iload_n 3, 1) := by decide +kernel
theorem dL_law_679 : decode cL_law 679 = .ok (.iconst 2, 1) := by decide +kernel
theorem dL_law_680 : decode cL_law 680 = .ok (.iadd, 1) := by decide +kernel
theorem dL_law_681 : decode cL_law 681 = .ok (.iaload, 1) := by decide +kernel
theorem dL_law_682 : decode cL_law 682 = .ok (.aload_n 0, 1) := by decide +kernel
theorem dL_law_683 : decode cL_law 683 = .ok (.iload_n 3, 1) := by decide +kernel
theorem dL_law_684 : decode cL_law 684 = .ok (.iconst 3, 1) := by decide +kernel
theorem dL_law_685 : decode cL_law 685 = .ok (.iadd, 1) := by decide +kernel
theorem dL_law_686 : decode cL_law 686 = .ok (.iaload, 1) := by decide +kernel
theorem dL_law_687 : decode cL_law 687 = .ok (.invokevirtual 93, 3) := by decide +kernel
theorem dL_law_690 : decode cL_law 690 = .ok (.if_icmp .eq 411, 3) := by decide +kernel
theorem dL_law_693 : decode cL_law 693 = .ok (.iconst 0, 1) := by decide +kernel
theorem dL_law_694 : decode cL_law 694 = .ok (.ireturn, 1) := by decide +kernel
theorem dL_law_695 : decode cL_law 695 = .ok (.aload_n 1, 1) := by decide +kernel
theorem dL_law_696 : decode cL_law 696 = .ok (.aload_n 0, 1) := by decide +kernel
theorem dL_law_697 : decode cL_law 697 = .ok (.iload_n 3, 1) := by decide +kernel
theorem dL_law_698 : decode cL_law 698 = .ok (.iconst 1, 1) := by decide +kernel
theorem dL_law_699 : decode cL_law 699 = .ok (.iadd, 1) := by decide +kernel
theorem dL_law_700 : decode cL_law 700 = .ok (.iaload, 1) := by decide +kernel
theorem dL_law_701 : decode cL_law 701 = .ok (.invokevirtual 94, 3) := by decide +kernel
theorem dL_law_704 : decode cL_law 704 = .ok (.aload_n 2, 1) := by decide +kernel
theorem dL_law_705 : decode cL_law 705 = .ok (.aload_n 0, 1) := by decide +kernel
theorem dL_law_706 : decode cL_law 706 = .ok (.iload_n 3, 1) := by decide +kernel
theorem dL_law_707 : decode cL_law 707 = .ok (.iconst 1, 1) := by decide +kernel
theorem dL_law_708 : decode cL_law 708 = .ok (.iadd, 1) := by decide +kernel
theorem dL_law_709 : decode cL_law 709 = .ok (.iaload, 1) := by decide +kernel
theorem dL_law_710 : decode cL_law 710 = .ok (.invokevirtual 97, 3) := by decide +kernel
theorem dL_law_713 : decode cL_law 713 = .ok (.if_icmp .eq 388, 3) := by decide +kernel
theorem dL_law_716 : decode cL_law 716 = .ok (.iconst 0, 1) := by decide +kernel
theorem dL_law_717 : decode cL_law 717 = .ok (.ireturn, 1) := by decide +kernel
theorem dL_law_718 : decode cL_law 718 = .ok (.aload_n 1, 1) := by decide +kernel
theorem dL_law_719 : decode cL_law 719 = .ok (.aload_n 0, 1) := by decide +kernel
theorem dL_law_720 : decode cL_law 720 = .ok (.iload_n 3, 1) := by decide +kernel
theorem dL_law_721 : decode cL_law 721 = .ok (.iconst 1, 1) := by decide +kernel
theorem dL_law_722 : decode cL_law 722 = .ok (.iadd, 1) := by decide +kernel
theorem dL_law_723 : decode cL_law 723 = .ok (.iaload, 1) := by decide +kernel
theorem dL_law_724 : decode cL_law 724 = .ok (.aload_n 0, 1) := by decide +kernel
theorem dL_law_725 : decode cL_law 725 = .ok (.iload_n 3, 1) := by decide +kernel
theorem dL_law_726 : decode cL_law 726 = .ok (.iconst 2, 1) := by decide +kernel
theorem dL_law_727 : decode cL_law 727 = .ok (.iadd, 1) := by decide +kernel
theorem dL_law_728 : decode cL_law 728 = .ok (.iaload, 1) := by decide +kernel
theorem dL_law_729 : decode cL_law 729 = .ok (.i2l, 1) := by decide +kernel
theorem dL_law_730 : decode cL_law 730 = .ok (.bipush 32, 2) := by decide +kernel
theorem dL_law_732 : decode cL_law 732 = .ok (.lshl, 1) := by decide +kernel
theorem dL_law_733 : decode cL_law 733 = .ok (.aload_n 0, 1) := by decide +kernel
theorem dL_law_734 : decode cL_law 734 = .ok (.iload_n 3, 1) := by decide +kernel
theorem dL_law_735 : decode cL_law 735 = .ok (.iconst 3, 1) := by decide +kernel
theorem dL_law_736 : decode cL_law 736 = .ok (.iadd, 1) := by decide +kernel
theorem dL_law_737 : decode cL_law 737 = .ok (.iaload, 1) := by decide +kernel
theorem dL_law_738 : decode cL_law 738 = .ok (.i2l, 1) := by decide +kernel
theorem dL_law_739 : decode cL_law 739 = .ok (.ldc2_w 98, 3) := by decide +kernel
theorem dL_law_742 : decode cL_law 742 = .ok (.land, 1) := by decide +kernel
theorem dL_law_743 : decode cL_law 743 = .ok (.lor, 1) := by decide +kernel
theorem dL_law_744 : decode cL_law 744 = .ok (.invokevirtual 100, 3) := by decide +kernel
theorem dL_law_747 : decode cL_law 747 = .ok (.aload_n 2, 1) := by decide +kernel
theorem dL_law_748 : decode cL_law 748 = .ok (.aload_n 0, 1) := by decide +kernel
theorem dL_law_749 : decode cL_law 749 = .ok (.iload_n 3, 1) := by decide +kernel
theorem dL_law_750 : decode cL_law 750 = .ok (.iconst 1, 1) := by decide +kernel
theorem dL_law_751 : decode cL_law 751 = .ok (.iadd, 1) := by decide +kernel
theorem dL_law_752 : decode cL_law 752 = .ok (.iaload, 1) := by decide +kernel
theorem dL_law_753 : decode cL_law 753 = .ok (.aload_n 0, 1) := by decide +kernel
theorem dL_law_754 : decode cL_law 754 = .ok (.iload_n 3, 1) := by decide +kernel
theorem dL_law_755 : decode cL_law 755 = .ok (.iconst 2, 1) := by decide +kernel
theorem dL_law_756 : decode cL_law 756 = .ok (.iadd, 1) := by decide +kernel
theorem dL_law_757 : decode cL_law 757 = .ok (.iaload, 1) := by decide +kernel
theorem dL_law_758 : decode cL_law 758 = .ok (.i2l, 1) := by decide +kernel
theorem dL_law_759 : decode cL_law 759 = .ok (.bipush 32, 2) := by decide +kernel
theorem dL_law_761 : decode cL_law 761 = .ok (.lshl, 1) := by decide +kernel
theorem dL_law_762 : decode cL_law 762 = .ok (.aload_n 0, 1) := by decide +kernel
theorem dL_law_763 : decode cL_law 763 = .ok (.iload_n 3, 1) := by decide +kernel
theorem dL_law_764 : decode cL_law 764 = .ok (.iconst 3, 1) := by decide +kernel
theorem dL_law_765 : decode cL_law 765 = .ok (.iadd, 1) := by decide +kernel
theorem dL_law_766 : decode cL_law 766 = .ok (.iaload, 1) := by decide +kernel
theorem dL_law_767 : decode cL_law 767 = .ok (.i2l, 1) := by decide +kernel
theorem dL_law_768 : decode cL_law 768 = .ok (.ldc2_w 98, 3) := by decide +kernel
theorem dL_law_771 : decode cL_law 771 = .ok (.land, 1) := by decide +kernel
theorem dL_law_772 : decode cL_law 772 = .ok (.lor, 1) := by decide +kernel
theorem dL_law_773 : decode cL_law 773 = .ok (.invokevirtual 104, 3) := by decide +kernel
theorem dL_law_776 : decode cL_law 776 = .ok (.if_icmp .eq 325, 3) := by decide +kernel
theorem dL_law_779 : decode cL_law 779 = .ok (.iconst 0, 1) := by decide +kernel
theorem dL_law_780 : decode cL_law 780 = .ok (.ireturn, 1) := by decide +kernel
theorem dL_law_781 : decode cL_law 781 = .ok (.aload_n 1, 1) := by decide +kernel
theorem dL_law_782 : decode cL_law 782 = .ok (.aload_n 0, 1) := by decide +kernel
theorem dL_law_783 : decode cL_law 783 = .ok (.iload_n 3, 1) := by decide +kernel
theorem dL_law_784 : decode cL_law 784 = .ok (.iconst 1, 1) := by decide +kernel
theorem dL_law_785 : decode cL_law 785 = .ok (.iadd, 1) := by decide +kernel
theorem dL_law_786 : decode cL_law 786 = .ok (.iaload, 1) := by decide +kernel
theorem dL_law_787 : decode cL_law 787 = .ok (.aload_n 0, 1) := by decide +kernel
theorem dL_law_788 : decode cL_law 788 = .ok (.iload_n 3, 1) := by decide +kernel
theorem dL_law_789 : decode cL_law 789 = .ok (.iconst 2, 1) := by decide +kernel
theorem dL_law_790 : decode cL_law 790 = .ok (.iadd, 1) := by decide +kernel
theorem dL_law_791 : decode cL_law 791 = .ok (.iaload, 1) := by decide +kernel
theorem dL_law_792 : decode cL_law 792 = .ok (.aload_n 0, 1) := by decide +kernel
theorem dL_law_793 : decode cL_law 793 = .ok (.iload_n 3, 1) := by decide +kernel
theorem dL_law_794 : decode cL_law 794 = .ok (.iconst 3, 1) := by decide +kernel
theorem dL_law_795 : decode cL_law 795 = .ok (.iadd, 1) := by decide +kernel
theorem dL_law_796 : decode cL_law 796 = .ok (.iaload, 1) := by decide +kernel
theorem dL_law_797 : decode cL_law 797 = .ok (.aload_n 0, 1) := by decide +kernel
theorem dL_law_798 : decode cL_law 798 = .ok (.iload_n 3, 1) := by decide +kernel
theorem dL_law_799 : decode cL_law 799 = .ok (.iconst 4, 1) := by decide +kernel
theorem dL_law_800 : decode cL_law 800 = .ok (.iadd, 1) := by decide +kernel
theorem dL_law_801 : decode cL_law 801 = .ok (.iaload, 1) := by decide +kernel
theorem dL_law_802 : decode cL_law 802 = .ok (.invokevirtual 105, 3) := by decide +kernel
theorem dL_law_805 : decode cL_law 805 = .ok (.aload_n 2, 1) := by decide +kernel
theorem dL_law_806 : decode cL_law 806 = .ok (.aload_n 0, 1) := by decide +kernel
theorem dL_law_807 : decode cL_law 807 = .ok (.iload_n 3, 1) := by decide +kernel
theorem dL_law_808 : decode cL_law 808 = .ok (.iconst 1, 1) := by decide +kernel
theorem dL_law_809 : decode cL_law 809 = .ok (.iadd, 1) := by decide +kernel
theorem dL_law_810 : decode cL_law 810 = .ok (.iaload, 1) := by decide +kernel
theorem dL_law_811 : decode cL_law 811 = .ok (.aload_n 0, 1) := by decide +kernel
theorem dL_law_812 : decode cL_law 812 = .ok (.iload_n 3, 1) := by decide +kernel
theorem dL_law_813 : decode cL_law 813 = .ok (.iconst 2, 1) := by decide +kernel
theorem dL_law_814 : decode cL_law 814 = .ok (.iadd, 1) := by decide +kernel
theorem dL_law_815 : decode cL_law 815 = .ok (.iaload, 1) := by decide +kernel
theorem dL_law_816 : decode cL_law 816 = .ok (.aload_n 0, 1) := by decide +kernel
theorem dL_law_817 : decode cL_law 817 = .ok (.iload_n 3, 1) := by decide +kernel
theorem dL_law_818 : decode cL_law 818 = .ok (.iconst 3, 1) := by decide +kernel
theorem dL_law_819 : decode cL_law 819 = .ok (.iadd, 1) := by decide +kernel
theorem dL_law_820 : decode cL_law 820 = .ok (.iaload, 1) := by decide +kernel
theorem dL_law_821 : decode cL_law 821 = .ok (.aload_n 0, 1) := by decide +kernel
theorem dL_law_822 : decode cL_law 822 = .ok (.iload_n 3, 1) := by decide +kernel
theorem dL_law_823 : decode cL_law 823 = .ok (.iconst 4, 1) := by decide +kernel
theorem dL_law_824 : decode cL_law 824 = .ok (.iadd, 1) := by decide +kernel
theorem dL_law_825 : decode cL_law 825 = .ok (.iaload, 1) := by decide +kernel
theorem dL_law_826 : decode cL_law 826 = .ok (.invokevirtual 109, 3) := by decide +kernel
theorem dL_law_829 : decode cL_law 829 = .ok (.if_icmp .eq 272, 3) := by decide +kernel
theorem dL_law_832 : decode cL_law 832 = .ok (.iconst 0, 1) := by decide +kernel
theorem dL_law_833 : decode cL_law 833 = .ok (.ireturn, 1) := by decide +kernel
theorem dL_law_834 : decode cL_law 834 = .ok (.aload_n 1, 1) := by decide +kernel
theorem dL_law_835 : decode cL_law 835 = .ok (.invokevirtual 110, 3) := by decide +kernel
theorem dL_law_838 : decode cL_law 838 = .ok (.aload_n 2, 1) := by decide +kernel
theorem dL_law_839 : decode cL_law 839 = .ok (.invokevirtual 113, 3) := by decide +kernel
theorem dL_law_842 : decode cL_law 842 = .ok (.if_icmp .eq 259, 3) := by decide +kernel
theorem dL_law_845 : decode cL_law 845 = .ok (.iconst 0, 1) := by decide +kernel
theorem dL_law_846 : decode cL_law 846 = .ok (.ireturn, 1) := by decide +kernel
theorem dL_law_847 : decode cL_law 847 = .ok (.aload_n 1, 1) := by decide +kernel
theorem dL_law_848 : decode cL_law 848 = .ok (.aload_n 0, 1) := by decide +kernel
theorem dL_law_849 : decode cL_law 849 = .ok (.iload_n 3, 1) := by decide +kernel
theorem dL_law_850 : decode cL_law 850 = .ok (.iconst 1, 1) := by decide +kernel
theorem dL_law_851 : decode cL_law 851 = .ok (.iadd, 1) := by decide +kernel
theorem dL_law_852 : decode cL_law 852 = .ok (.iaload, 1) := by decide +kernel
theorem dL_law_853 : decode cL_law 853 = .ok (.invokevirtual 114, 3) := by decide +kernel
theorem dL_law_856 : decode cL_law 856 = .ok (.aload_n 2, 1) := by decide +kernel
theorem dL_law_857 : decode cL_law 857 = .ok (.aload_n 0, 1) := by decide +kernel
theorem dL_law_858 : decode cL_law 858 = .ok (.iload_n 3, 1) := by decide +kernel
theorem dL_law_859 : decode cL_law 859 = .ok (.iconst 1, 1) := by decide +kernel
theorem dL_law_860 : decode cL_law 860 = .ok (.iadd, 1) := by decide +kernel
theorem dL_law_861 : decode cL_law 861 = .ok (.iaload, 1) := by decide +kernel
theorem dL_law_862 : decode cL_law 862 = .ok (.invokevirtual 117, 3) := by decide +kernel
theorem dL_law_865 : decode cL_law 865 = .ok (.if_icmp .eq 236, 3) := by decide +kernel
theorem dL_law_868 : decode cL_law 868 = .ok (.iconst 0, 1) := by decide +kernel
theorem dL_law_869 : decode cL_law 869 = .ok (.ireturn, 1) := by decide +kernel
theorem dL_law_870 : decode cL_law 870 = .ok (.aload_n 1, 1) := by decide +kernel
theorem dL_law_871 : decode cL_law 871 = .ok (.aload_n 0, 1) := by decide +kernel
theorem dL_law_872 : decode cL_law 872 = .ok (.iload_n 3, 1) := by decide +kernel
theorem dL_law_873 : decode cL_law 873 = .ok (.iconst 1, 1) := by decide +kernel
theorem dL_law_874 : decode cL_law 874 = .ok (.iadd, 1) := by decide +kernel
theorem dL_law_875 : decode cL_law 875 = .ok (.iaload, 1) := by decide +kernel
theorem dL_law_876 : decode cL_law 876 = .ok (.aload_n 0, 1) := by decide +kernel
theorem dL_law_877 : decode cL_law 877 = .ok (.iload_n 3, 1) := by decide +kernel
theorem dL_law_878 : decode cL_law 878 = .ok (.iconst 2, 1) := by decide +kernel
theorem dL_law_879 : decode cL_law 879 = .ok (.iadd, 1) := by decide +kernel
theorem dL_law_880 : decode cL_law 880 = .ok (.iaload, 1) := by decide +kernel
theorem dL_law_881 : decode cL_law 881 = .ok (.ifCond .eq 7, 3) := by decide +kernel
theorem dL_law_884 : decode cL_law 884 = .ok (.iconst 1, 1) := by decide +kernel
theorem dL_law_885 : decode cL_law 885 = .ok (.goto 4, 3) := by decide +kernel
theorem dL_law_888 : decode cL_law 888 = .ok (.iconst 0, 1) := by decide +kernel
theorem dL_law_889 : decode cL_law 889 = .ok (.invokevirtual 118, 3) := by decide +kernel
theorem dL_law_892 : decode cL_law 892 = .ok (.aload_n 2, 1) := by decide +kernel
theorem dL_law_893 : decode cL_law 893 = .ok (.aload_n 0, 1) := by decide +kernel
theorem dL_law_894 : decode cL_law 894 = .ok (.iload_n 3, 1) := by decide +kernel
theorem dL_law_895 : decode cL_law 895 = .ok (.iconst 1, 1) := by decide +kernel
theorem dL_law_896 : decode cL_law 896 = .ok (.iadd, 1) := by decide +kernel
theorem dL_law_897 : decode cL_law 897 = .ok (.iaload, 1) := by decide +kernel
theorem dL_law_898 : decode cL_law 898 = .ok (.aload_n 0, 1) := by decide +kernel
theorem dL_law_899 : decode cL_law 899 = .ok (.iload_n 3, 1) := by decide +kernel
theorem dL_law_900 : decode cL_law 900 = .ok (.iconst 2, 1) := by decide +kernel
theorem dL_law_901 : decode cL_law 901 = .ok (.iadd, 1) := by decide +kernel
theorem dL_law_902 : decode cL_law 902 = .ok (.iaload, 1) := by decide +kernel
theorem dL_law_903 : decode cL_law 903 = .ok (.ifCond .eq 7, 3) := by decide +kernel
theorem dL_law_906 : decode cL_law 906 = .ok (.iconst 1, 1) := by decide +kernel
theorem dL_law_907 : decode cL_law 907 = .ok (.goto 4, 3) := by decide +kernel
theorem dL_law_910 : decode cL_law 910 = .ok (.iconst 0, 1) := by decide +kernel
theorem dL_law_911 : decode cL_law 911 = .ok (.invokevirtual 122, 3) := by decide +kernel
theorem dL_law_914 : decode cL_law 914 = .ok (.if_icmp .eq 187, 3) := by decide +kernel
theorem dL_law_917 : decode cL_law 917 = .ok (.iconst 0, 1) := by decide +kernel
theorem dL_law_918 : decode cL_law 918 = .ok (.ireturn, 1) := by decide +kernel
theorem dL_law_919 : decode cL_law 919 = .ok (.aload_n 1, 1) := by decide +kernel
theorem dL_law_920 : decode cL_law 920 = .ok (.aload_n 0, 1) := by decide +kernel
theorem dL_law_921 : decode cL_law 921 = .ok (.iload_n 3, 1) := by decide +kernel
theorem dL_law_922 : decode cL_law 922 = .ok (.iconst 1, 1) := by decide +kernel
theorem dL_law_923 : decode cL_law 923 = .ok (.iadd, 1) := by decide +kernel
theorem dL_law_924 : decode cL_law 924 = .ok (.iaload, 1) := by decide +kernel
theorem dL_law_925 : decode cL_law 925 = .ok (.aload_n 0, 1) := by decide +kernel
theorem dL_law_926 : decode cL_law 926 = .ok (.iload_n 3, 1) := by decide +kernel
theorem dL_law_927 : decode cL_law 927 = .ok (.iconst 2, 1) := by decide +kernel
theorem dL_law_928 : decode cL_law 928 = .ok (.iadd, 1) := by decide +kernel
theorem dL_law_929 : decode cL_law 929 = .ok (.iaload, 1) := by decide +kernel
theorem dL_law_930 : decode cL_law 930 = .ok (.aload_n 0, 1) := by decide +kernel
theorem dL_law_931 : decode cL_law 931 = .ok (.iload_n 3, 1) := by decide +kernel
theorem dL_law_932 : decode cL_law 932 = .ok (.iconst 3, 1) := by decide +kernel
theorem dL_law_933 : decode cL_law 933 = .ok (.iadd, 1) := by decide +kernel
theorem dL_law_934 : decode cL_law 934 = .ok (.iaload, 1) := by decide +kernel
theorem dL_law_935 : decode cL_law 935 = .ok (.ifCond .eq 7, 3) := by decide +kernel
theorem dL_law_938 : decode cL_law 938 = .ok (.iconst 1, 1) := by decide +kernel
theorem dL_law_939 : decode cL_law 939 = .ok (.goto 4, 3) := by decide +kernel
theorem dL_law_942 : decode cL_law 942 = .ok (.iconst 0, 1) := by decide +kernel
theorem dL_law_943 : decode cL_law 943 = .ok (.invokevirtual 123, 3) := by decide +kernel
theorem dL_law_946 : decode cL_law 946 = .ok (.aload_n 2, 1) := by decide +kernel
theorem dL_law_947 : decode cL_law 947 = .ok (.aload_n 0, 1) := by decide +kernel
theorem dL_law_948 : decode cL_law 948 = .ok (.iload_n 3, 1) := by decide +kernel
theorem dL_law_949 : decode cL_law 949 = .ok (.iconst 1, 1) := by decide +kernel
theorem dL_law_950 : decode cL_law 950 = .ok (.iadd, 1) := by decide +kernel
theorem dL_law_951 : decode cL_law 951 = .ok (.iaload, 1) := by decide +kernel
theorem dL_law_952 : decode cL_law 952 = .ok (.aload_n 0, 1) := by decide +kernel
theorem dL_law_953 : decode cL_law 953 = .ok (.iload_n 3, 1) := by decide +kernel
theorem dL_law_954 : decode cL_law 954 = .ok (.iconst 2, 1) := by decide +kernel
theorem dL_law_955 : decode cL_law 955 = .ok (.iadd, 1) := by decide +kernel
theorem dL_law_956 : decode cL_law 956 = .ok (.iaload, 1) := by decide +kernel
theorem dL_law_957 : decode cL_law 957 = .ok (.aload_n 0, 1) := by decide +kernel
theorem dL_law_958 : decode cL_law 958 = .ok (.iload_n 3, 1) := by decide +kernel
theorem dL_law_959 : decode cL_law 959 = .ok (.iconst 3, 1) := by decide +kernel
theorem dL_law_960 : decode cL_law 960 = .ok (.iadd, 1) := by decide +kernel
theorem dL_law_961 : decode cL_law 961 = .ok (.iaload, 1) := by decide +kernel
theorem dL_law_962 : decode cL_law 962 = .ok (.ifCond .eq 7, 3) := by decide +kernel
theorem dL_law_965 : decode cL_law 965 = .ok (.iconst 1, 1) := by decide +kernel
theorem dL_law_966 : decode cL_law 966 = .ok (.goto 4, 3) := by decide +kernel
theorem dL_law_969 : decode cL_law 969 = .ok (.iconst 0, 1) := by decide +kernel
theorem dL_law_970 : decode cL_law 970 = .ok (.invokevirtual 127, 3) := by decide +kernel
theorem dL_law_973 : decode cL_law 973 = .ok (.if_icmp .eq 128, 3) := by decide +kernel
theorem dL_law_976 : decode cL_law 976 = .ok (.iconst 0, 1) := by decide +kernel
theorem dL_law_977 : decode cL_law 977 = .ok (.ireturn, 1) := by decide +kernel
theorem dL_law_978 : decode cL_law 978 = .ok (.aload_n 1, 1) := by decide +kernel
theorem dL_law_979 : decode cL_law 979 = .ok (.aload_n 0, 1) := by decide +kernel
theorem dL_law_980 : decode cL_law 980 = .ok (.iload_n 3, 1) := by decide +kernel
theorem dL_law_981 : decode cL_law 981 = .ok (.iconst 1, 1) := by decide +kernel
theorem dL_law_982 : decode cL_law 982 = .ok (.iadd, 1) := by decide +kernel
theorem dL_law_983 : decode cL_law 983 = .ok (.iaload, 1) := by decide +kernel
theorem dL_law_984 : decode cL_law 984 = .ok (.i2l, 1) := by decide +kernel
theorem dL_law_985 : decode cL_law 985 = .ok (.bipush 32, 2) := by decide +kernel
theorem dL_law_987 : decode cL_law 987 = .ok (.lshl, 1) := by decide +kernel
theorem dL_law_988 : decode cL_law 988 = .ok (.aload_n 0, 1) := by decide +kernel
theorem dL_law_989 : decode cL_law 989 = .ok (.iload_n 3, 1) := by decide +kernel
theorem dL_law_990 : decode cL_law 990 = .ok (.iconst 2, 1) := by decide +kernel
theorem dL_law_991 : decode cL_law 991 = .ok (.iadd, 1) := by decide +kernel
theorem dL_law_992 : decode cL_law 992 = .ok (.iaload, 1) := by decide +kernel
theorem dL_law_993 : decode cL_law 993 = .ok (.i2l, 1) := by decide +kernel
theorem dL_law_994 : decode cL_law 994 = .ok (.ldc2_w 98, 3) := by decide +kernel
theorem dL_law_997 : decode cL_law 997 = .ok (.land, 1) := by decide +kernel
theorem dL_law_998 : decode cL_law 998 = .ok (.lor, 1) := by decide +kernel
theorem dL_law_999 : decode cL_law 999 = .ok (.invokevirtual 128, 3) := by decide +kernel
theorem dL_law_1002 : decode cL_law 1002 = .ok (.aload_n 2, 1) := by decide +kernel
theorem dL_law_1003 : decode cL_law 1003 = .ok (.aload_n 0, 1) := by decide +kernel
theorem dL_law_1004 : decode cL_law 1004 = .ok (.iload_n 3, 1) := by decide +kernel
theorem dL_law_1005 : decode cL_law 1005 = .ok (.iconst 1, 1) := by decide +kernel
theorem dL_law_1006 : decode cL_law 1006 = .ok (.iadd, 1) := by decide +kernel
theorem dL_law_1007 : decode cL_law 1007 = .ok (.iaload, 1) := by decide +kernel
theorem dL_law_1008 : decode cL_law 1008 = .ok (.i2l, 1) := by decide +kernel
theorem dL_law_1009 : decode cL_law 1009 = .ok (.bipush 32, 2) := by decide +kernel
theorem dL_law_1011 : decode cL_law 1011 = .ok (.lshl, 1) := by decide +kernel
theorem dL_law_1012 : decode cL_law 1012 = .ok (.aload_n 0, 1) := by decide +kernel
theorem dL_law_1013 : decode cL_law 1013 = .ok (.iload_n 3, 1) := by decide +kernel
theorem dL_law_1014 : decode cL_law 1014 = .ok (.iconst 2, 1) := by decide +kernel
theorem dL_law_1015 : decode cL_law 1015 = .ok (.iadd, 1) := by decide +kernel
theorem dL_law_1016 : decode cL_law 1016 = .ok (.iaload, 1) := by decide +kernel
theorem dL_law_1017 : decode cL_law 1017 = .ok (.i2l, 1) := by decide +kernel
theorem dL_law_1018 : decode cL_law 1018 = .ok (.ldc2_w 98, 3) := by decide +kernel
theorem dL_law_1021 : decode cL_law 1021 = .ok (.land, 1) := by decide +kernel
theorem dL_law_1022 : decode cL_law 1022 = .ok (.lor, 1) := by decide +kernel
theorem dL_law_1023 : decode cL_law 1023 = .ok (.invokevirtual 132, 3) := by decide +kernel
theorem dL_law_1026 : decode cL_law 1026 = .ok (.lcmp, 1) := by decide +kernel
theorem dL_law_1027 : decode cL_law 1027 = .ok (.ifCond .eq 74, 3) := by decide +kernel
theorem dL_law_1030 : decode cL_law 1030 = .ok (.iconst 0, 1) := by decide +kernel
theorem dL_law_1031 : decode cL_law 1031 = .ok (.ireturn, 1) := by decide +kernel
theorem dL_law_1032 : decode cL_law 1032 = .ok (.aload_n 1, 1) := by decide +kernel
theorem dL_law_1033 : decode cL_law 1033 = .ok (.aload_n 0, 1) := by decide +kernel
theorem dL_law_1034 : decode cL_law 1034 = .ok (.iload_n 3, 1) := by decide +kernel
theorem dL_law_1035 : decode cL_law 1035 = .ok (.iconst 1, 1) := by decide +kernel
theorem dL_law_1036 : decode cL_law 1036 = .ok (.iadd, 1) := by decide +kernel
theorem dL_law_1037 : decode cL_law 1037 = .ok (.iaload, 1) := by decide +kernel
theorem dL_law_1038 : decode cL_law 1038 = .ok (.invokevirtual 133, 3) := by decide +kernel
theorem dL_law_1041 : decode cL_law 1041 = .ok (.aload_n 2, 1) := by decide +kernel
theorem dL_law_1042 : decode cL_law 1042 = .ok (.aload_n 0, 1) := by decide +kernel
theorem dL_law_1043 : decode cL_law 1043 = .ok (.iload_n 3, 1) := by decide +kernel
theorem dL_law_1044 : decode cL_law 1044 = .ok (.iconst 1, 1) := by decide +kernel
theorem dL_law_1045 : decode cL_law 1045 = .ok (.iadd, 1) := by decide +kernel
theorem dL_law_1046 : decode cL_law 1046 = .ok (.iaload, 1) := by decide +kernel
theorem dL_law_1047 : decode cL_law 1047 = .ok (.invokevirtual 136, 3) := by decide +kernel
theorem dL_law_1050 : decode cL_law 1050 = .ok (.if_icmp .eq 51, 3) := by decide +kernel
theorem dL_law_1053 : decode cL_law 1053 = .ok (.iconst 0, 1) := by decide +kernel
theorem dL_law_1054 : decode cL_law 1054 = .ok (.ireturn, 1) := by decide +kernel
theorem dL_law_1055 : decode cL_law 1055 = .ok (.aload_n 1, 1) := by decide +kernel
theorem dL_law_1056 : decode cL_law 1056 = .ok (.aload_n 0, 1) := by decide +kernel
theorem dL_law_1057 : decode cL_law 1057 = .ok (.iload_n 3, 1) := by decide +kernel
theorem dL_law_1058 : decode cL_law 1058 = .ok (.iconst 1, 1) := by decide +kernel
theorem dL_law_1059 : decode cL_law 1059 = .ok (.iadd, 1) := by decide +kernel
theorem dL_law_1060 : decode cL_law 1060 = .ok (.iaload, 1) := by decide +kernel
theorem dL_law_1061 : decode cL_law 1061 = .ok (.invokevirtual 137, 3) := by decide +kernel
theorem dL_law_1064 : decode cL_law 1064 = .ok (.aload_n 2, 1) := by decide +kernel
theorem dL_law_1065 : decode cL_law 1065 = .ok (.aload_n 0, 1) := by decide +kernel
theorem dL_law_1066 : decode cL_law 1066 = .ok (.iload_n 3, 1) := by decide +kernel
theorem dL_law_1067 : decode cL_law 1067 = .ok (.iconst 1, 1) := by decide +kernel
theorem dL_law_1068 : decode cL_law 1068 = .ok (.iadd, 1) := by decide +kernel
theorem dL_law_1069 : decode cL_law 1069 = .ok (.iaload, 1) := by decide +kernel
theorem dL_law_1070 : decode cL_law 1070 = .ok (.invokevirtual 140, 3) := by decide +kernel
theorem dL_law_1073 : decode cL_law 1073 = .ok (.if_icmp .eq 28, 3) := by decide +kernel
theorem dL_law_1076 : decode cL_law 1076 = .ok (.iconst 0, 1) := by decide +kernel
theorem dL_law_1077 : decode cL_law 1077 = .ok (.ireturn, 1) := by decide +kernel
theorem dL_law_1078 : decode cL_law 1078 = .ok (.aload_n 1, 1) := by decide +kernel
theorem dL_law_1079 : decode cL_law 1079 = .ok (.aload_n 0, 1) := by decide +kernel
theorem dL_law_1080 : decode cL_law 1080 = .ok (.iload_n 3, 1) := by decide +kernel
theorem dL_law_1081 : decode cL_law 1081 = .ok (.iconst 1, 1) := by decide +kernel
theorem dL_law_1082 : decode cL_law 1082 = .ok (.iadd, 1) := by decide +kernel
theorem dL_law_1083 : decode cL_law 1083 = .ok (.iaload, 1) := by decide +kernel
theorem dL_law_1084 : decode cL_law 1084 = .ok (.invokevirtual 141, 3) := by decide +kernel
theorem dL_law_1087 : decode cL_law 1087 = .ok (.aload_n 2, 1) := by decide +kernel
theorem dL_law_1088 : decode cL_law 1088 = .ok (.aload_n 0, 1) := by decide +kernel
theorem dL_law_1089 : decode cL_law 1089 = .ok (.iload_n 3, 1) := by decide +kernel
theorem dL_law_1090 : decode cL_law 1090 = .ok (.iconst 1, 1) := by decide +kernel
theorem dL_law_1091 : decode cL_law 1091 = .ok (.iadd, 1) := by decide +kernel
theorem dL_law_1092 : decode cL_law 1092 = .ok (.iaload, 1) := by decide +kernel
theorem dL_law_1093 : decode cL_law 1093 = .ok (.invokevirtual 144, 3) := by decide +kernel
theorem dL_law_1096 : decode cL_law 1096 = .ok (.if_icmp .eq 5, 3) := by decide +kernel
theorem dL_law_1099 : decode cL_law 1099 = .ok (.iconst 0, 1) := by decide +kernel
theorem dL_law_1100 : decode cL_law 1100 = .ok (.ireturn, 1) := by decide +kernel
theorem dL_law_1101 : decode cL_law 1101 = .ok (.iinc 3 6, 3) := by decide +kernel
theorem dL_law_1104 : decode cL_law 1104 = .ok (.goto (-1086), 3) := by decide +kernel
theorem dL_law_1107 : decode cL_law 1107 = .ok (.iconst 1, 1) := by decide +kernel
theorem dL_law_1108 : decode cL_law 1108 = .ok (.ireturn, 1) := by decide +kernel
end
section
theorem inlX0 : ∀ w ∈ wsX00, w ∈ wsL_law := fun _ h => List.mem_append_left _ (List.mem_append_left _ (List.mem_append_right _ h))
theorem inlX1 : ∀ w ∈ wsX10, w ∈ wsL_law := fun _ h => List.mem_append_left _ (List.mem_append_left _ (List.mem_append_left _ (List.mem_append_right _ h)))
theorem inlX2 : ∀ w ∈ wsX20, w ∈ wsL_law := fun _ h => List.mem_append_left _ (List.mem_append_right _ h)
theorem inlX3 : ∀ w ∈ wsX30, w ∈ wsL_law := fun _ h => List.mem_append_left _ (List.mem_append_left _ (List.mem_append_left _ (List.mem_append_left _ (List.mem_append_left _ (List.mem_append_right _ h)))))
theorem inlX4 : ∀ w ∈ wsX40, w ∈ wsL_law := fun _ h => List.mem_append_left _ (List.mem_append_left _ (List.mem_append_left _ (List.mem_append_left _ (List.mem_append_right _ h))))
/-! words: one list for all methods -/
theorem goodU_b : wsL_law.all goodWord = true := by decide +kernel
theorem goodU (ws : List Cond) (h : ∀ w ∈ ws, w ∈ wsL_law) : GoodIn wsL_law ws := fun w hw => ⟨h w hw, good_of_word (List.all_eq_true.mp goodU_b w (h w hw))⟩
/-! what every method takes of the machine: classes, arrays, private links of nest mates -/
def NWs (U : State) : Prop := va_Nw (.methodLinkNest RX3 44 yX2_init RX3) U ∧ va_Nw (.methodLinkNest RX1 39 yX3_coverOf RX3) U ∧ va_Nw (.methodLinkNest RX2 78 yX3_leftBySize RX3) U ∧ va_Nw (.methodLinkNest RX0 47 yX3_bit RX3) U ∧ va_Nw (.methodLinkNest RX0 50 yX3_isWithin RX3) U ∧ va_Nw (.methodLinkNest RX0 109 yX3_isOrigin RX3) U ∧ va_Nw (.methodLinkNest RX0 97 yX3_isLaw RX3) U ∧ va_Nw (.methodLinkNest RX0 100 yX3_isPlace RX3) U
def EV (D : va_G) (cI cC cZ : ClassId) (U : State) : Prop := va_K D vwCl [(cI, .int), (cC, .char), (cZ, .boolean)] U ∧ NWs U
theorem EV.warm {D : va_G} {cI cC cZ : ClassId} {s U : State} (hW : s.WarmedH U.vm) (h : EV D cI cC cZ s) : EV D cI cC cZ U := by
  obtain ⟨hK, h1, h2, h3, h4, h5, h6, h7, h8⟩ := h
  exact ⟨va_K.moved hW.alike hK, va_Nw.warmM hW h1, va_Nw.warmM hW h2, va_Nw.warmM hW h3, va_Nw.warmM hW h4, va_Nw.warmM hW h5, va_Nw.warmM hW h6, va_Nw.warmM hW h7, va_Nw.warmM hW h8⟩
theorem EV.calling {D : va_G} {cI cC cZ : ClassId} {U : State} {g : JFrame} {mk : MethodId} {a : Array Value} (h : EV D cI cC cZ U) : EV D cI cC cZ (U.calling g mk a) := by
  obtain ⟨hK, h1, h2, h3, h4, h5, h6, h7, h8⟩ := h
  exact ⟨va_K.moved (u := U) (U := U.calling g mk a) (Vm.Alike.refl U.vm) hK, va_Nw.same rfl rfl h1, va_Nw.same rfl rfl h2, va_Nw.same rfl rfl h3, va_Nw.same rfl rfl h4, va_Nw.same rfl rfl h5, va_Nw.same rfl rfl h6, va_Nw.same rfl rfl h7, va_Nw.same rfl rfl h8⟩
/-! contracts: of a method that changes nothing, and of one that changes its world's cells -/
def RM (fr lo : Nat) : Room := { frames := fr, cells := 0, slots := 0, locals := lo }
def RdP (D : va_G) (cI cC cZ : ClassId) (w : va_W) (as : List Value) : Array Value → State → Prop := va_Pc as (fun U => EV D cI cC cZ U ∧ va_P D vwCl w U.heap)
def RdQ (v : Option Value) : Array Value → State → Outcome → State → Prop := fun _ st oc t => oc = .returned v ∧ t.heap = st.heap
def Rd (l : Launch) (y : MethodName) (b : ByteArray) (n : Nat) (ret : Option FieldType) (fr lo : Nat) (D : va_G) (cI cC cZ : ClassId) (w : va_W) (as : List Value) (v : Option Value) : Prop :=
  Met l y (.code y b n ret :: wsL_law) (RM fr lo) (RdP D cI cC cZ w as) (RdQ v) 0 0 (fun _ => False)
def MuP (D : va_G) (cI cC cZ : ClassId) (w : va_W) (sz : Nat) (as : List Value) : Array Value → State → Prop := va_Pc as (fun U => U.heap.size = sz ∧ EV D cI cC cZ U ∧ va_P D vwCl w U.heap ∧ va_D (fun _ => True) w)
def MuQ (D : va_G) (w w' : va_W) (sz : Nat) (v : Option Value) : Array Value → State → Outcome → State → Prop := fun _ st oc t => oc = .returned v ∧ va_P D vwCl w' t.heap ∧ va_F (va_A w sz) st t
def Mu (l : Launch) (y : MethodName) (b : ByteArray) (n : Nat) (ret : Option FieldType) (fr lo : Nat) (D : va_G) (cI cC cZ : ClassId) (w w' : va_W) (as : List Value) (v : Option Value) : Prop :=
  ∀ sz : Nat, Met l y (.code y b n ret :: wsL_law) (RM fr lo) (MuP D cI cC cZ w sz as) (MuQ D w w' sz v) 0 0 (va_A w sz)
theorem RdP.blind {D : va_G} {cI cC cZ : ClassId} {w : va_W} {as : List Value} : FrameBlind (RdP D cI cC cZ w as) := fun _ _ _ _ q => ⟨q.1, EV.calling q.2.1, q.2.2⟩
theorem MuP.blind {D : va_G} {cI cC cZ : ClassId} {w : va_W} {sz : Nat} {as : List Value} : FrameBlind (MuP D cI cC cZ w sz as) := fun _ _ _ _ q => ⟨q.1, q.2.1, EV.calling q.2.2.1, q.2.2.2⟩
/-! a call's words -/
def dOk (y : MethodName) (k : Nat) : Prop := y.cls ≠ "java/lang/invoke/MethodHandle" ∧ y.cls ≠ "java/lang/invoke/VarHandle" ∧ (parseMethodDescriptor y.desc).map (fun d => d.parameters.length) = some k
def LkV (own : String) (idx : Nat) (C : String) (y : MethodName) (b : ByteArray) (n : Nat) (ret : Option FieldType) (k : Nat) : Prop :=
  Cond.methodLink own idx y ∈ wsL_law ∧ Cond.instanceMethod y ∈ wsL_law ∧ Cond.selects C y y ∈ wsL_law ∧ Cond.initialized y.cls ∈ wsL_law ∧ Cond.code y b n ret ∈ wsL_law ∧ dOk y k
def LkS (own : String) (idx : Nat) (y : MethodName) (b : ByteArray) (n : Nat) (ret : Option FieldType) (k : Nat) : Prop :=
  Cond.methodLink own idx y ∈ wsL_law ∧ Cond.static y ∈ wsL_law ∧ Cond.initialized y.cls ∈ wsL_law ∧ Cond.code y b n ret ∈ wsL_law ∧ dOk y k
def LkN (y : MethodName) (b : ByteArray) (n : Nat) (ret : Option FieldType) (k : Nat) : Prop :=
  Cond.static y ∈ wsL_law ∧ Cond.initialized y.cls ∈ wsL_law ∧ Cond.code y b n ret ∈ wsL_law ∧ dOk y k
theorem consU {x : Cond} (hx : x ∈ wsL_law) : ∀ w ∈ x :: wsL_law, w ∈ wsL_law := fun _ h => (List.mem_cons.mp h).elim (fun q => q ▸ hx) id
section KIT
variable {p : Program} {l : Launch} {e : Env} {R : Room} {s : State} {m : MethodId} {args : Array Value} {below : List Frame} {meth : Method} {c : Code} {H H0 : Heap} {locs : List Loc} {cells slots : Nat} {Q : State → Prop}
variable {D : va_G} {cI cC cZ : ClassId} {cc b : ByteArray} {nL n k pc fr lo idx o ci N : Nat} {own C : String} {T : u_T} {y : MethodName} {ret : Option FieldType} {w w' ws nw : va_W} {As rest st st2 : List Value} {v : Option Value} {ls : Array Slot} {fs : List Value} {A : Nat → Prop}
theorem cbU (hU : ∀ w ∈ wsL_law, w.before args s = true) (hl : Cond.methodLink own idx y ∈ wsL_law) (hi : Cond.initialized y.cls ∈ wsL_law) (hc : Cond.code y b n ret ∈ wsL_law) (hd : dOk y k) (hR : fr + 1 ≤ R.frames ∧ 8 + (n + 11) + lo ≤ R.locals) :
    CallB R s args own idx y b n ret (.code y b n ret :: wsL_law) (RM fr lo) 0 0 k :=
  callB_of k hU (goodU _ (consU hc)) rfl rfl rfl (hU _ hi) (hU _ hl) hd hR
theorem cnU {host : String} (hU : ∀ w ∈ wsL_law, w.before args s = true) (hl : va_Nw (.methodLinkNest own idx y host) s) (hi : Cond.initialized y.cls ∈ wsL_law) (hc : Cond.code y b n ret ∈ wsL_law) (hd : dOk y k) (hR : fr + 1 ≤ R.frames ∧ 8 + (n + 11) + lo ≤ R.locals) :
    va_CN R s args own idx y host b n ret (.code y b n ret :: wsL_law) (RM fr lo) 0 0 k :=
  va_cnB k hU (goodU _ (consU hc)) rfl rfl rfl hl (hU _ hi) hd hR
/-- behind a call that changed nothing -/
theorem rdGo {As0 : List Value} (hr : va_Run p l e R s m args below meth c H locs cells slots 0 0 (F0 m pc ls st) rest (RdQ v As0.toArray) (fun _ => False)) (h2 : v.toList ++ rest = st2)
    (kk : W p l e R s m args below meth c H locs cells slots Q (F0 m (pc + 3) ls st2)) : W p l e R s m args below meth c H locs cells slots Q (F0 m pc ls st) := by
  intro T hT X
  obtain ⟨v', st₀, t, T', L, h0, X', hL, e1, -, ⟨hv, hh⟩, sg⟩ := hr T hT X
  cases hv
  subst h2
  obtain ⟨t2, a1, b1⟩ := kk T' (by rw [e1, hh, h0]) (Stand.forget X' (fun q h => (hL q h).elim))
  exact ⟨t2, sg t2 a1, b1⟩
theorem rdV (S : CallFix p m c cc nL s args wsL_law own) (hE : EV D cI cC cZ s) (hM : Rd l y b n ret fr lo D cI cC cZ w (.ref o :: As) v) (L : LkV own idx C y b n ret k) (hP : va_P D vwCl w H) (hci : vwCl[ci]? = some (C, T, N)) (h0 : w[0]? = some (o, .inr (ci, fs)))
    (hk : As.length = k) (hsz : ls.size = nL) (hst : st = As.reverse ++ .ref o :: rest) (hrm : (rest.map fun v => v.category).sum ≤ 8) (hR : fr + 1 ≤ R.frames ∧ 8 + (n + 11) + lo ≤ R.locals) (hdg : decode cc pc = .ok (.invokevirtual idx, 3)) (hc : cells ≤ R.cells ∧ slots ≤ R.slots) (h2 : v.toList ++ rest = st2)
    (kk : W p l e R s m args below meth c H locs cells slots Q (F0 m (pc + 3) ls st2)) : W p l e R s m args below meth c H locs cells slots Q (F0 m pc ls st) :=
  rdGo (As0 := .ref o :: As) (va_runV (As := As) (rest := rest) S hM ⟨cbU S.2.2.2.2 L.1 L.2.2.2.1 L.2.2.2.2.1 L.2.2.2.2.2 hR, S.2.2.2.2 _ L.2.1, S.2.2.2.2 _ L.2.2.1⟩
    ⟨RdP.blind, va_recv hE.1 hP hci h0, fun U hU hW => ⟨rfl, EV.warm hW hE, by rw [hU]; exact hP⟩⟩ rfl hk hsz hst (lv_room hrm) hdg hc) h2 kk
theorem rdS (S : CallFix p m c cc nL s args wsL_law own) (hE : EV D cI cC cZ s) (hM : Rd l y b n ret fr lo D cI cC cZ w As v) (L : LkS own idx y b n ret k) (hP : va_P D vwCl w H)
    (hk : As.length = k) (hsz : ls.size = nL) (hst : st = As.reverse ++ rest) (hrm : (rest.map fun v => v.category).sum ≤ 8) (hR : fr + 1 ≤ R.frames ∧ 8 + (n + 11) + lo ≤ R.locals) (hdg : decode cc pc = .ok (.invokestatic idx, 3)) (hc : cells ≤ R.cells ∧ slots ≤ R.slots) (h2 : v.toList ++ rest = st2)
    (kk : W p l e R s m args below meth c H locs cells slots Q (F0 m (pc + 3) ls st2)) : W p l e R s m args below meth c H locs cells slots Q (F0 m pc ls st) :=
  rdGo (As0 := As) (va_runS (As := As) (rest := rest) S hM ⟨cbU S.2.2.2.2 L.1 L.2.2.1 L.2.2.2.1 L.2.2.2.2 hR, S.2.2.2.2 _ L.2.1⟩
    ⟨RdP.blind, fun U hU hW => ⟨rfl, EV.warm hW hE, by rw [hU]; exact hP⟩⟩ rfl hk hsz hst (lv_room hrm) hdg hc) h2 kk
theorem rdN {host : String} (S : CallFix p m c cc nL s args wsL_law own) (hE : EV D cI cC cZ s) (hN : va_Nw (.methodLinkNest own idx y host) s) (hM : Rd l y b n ret fr lo D cI cC cZ w As v) (L : LkN y b n ret k) (hP : va_P D vwCl w H)
    (hk : As.length = k) (hsz : ls.size = nL) (hst : st = As.reverse ++ rest) (hrm : (rest.map fun v => v.category).sum ≤ 8) (hR : fr + 1 ≤ R.frames ∧ 8 + (n + 11) + lo ≤ R.locals) (hdg : decode cc pc = .ok (.invokestatic idx, 3)) (hc : cells ≤ R.cells ∧ slots ≤ R.slots) (h2 : v.toList ++ rest = st2)
    (kk : W p l e R s m args below meth c H locs cells slots Q (F0 m (pc + 3) ls st2)) : W p l e R s m args below meth c H locs cells slots Q (F0 m pc ls st) :=
  rdGo (As0 := As) (va_runSN (As := As) (rest := rest) S hM ⟨cnU S.2.2.2.2 hN L.2.1 L.2.2.1 L.2.2.2 hR, S.2.2.2.2 _ L.1, trivial⟩
    ⟨RdP.blind, fun U hU hW => ⟨rfl, EV.warm hW hE, by rw [hU]; exact hP⟩⟩ rfl hk hsz hst (lv_room hrm) hdg hc) h2 kk
end KIT
/-! a world with some of its cells put anew -/
def setAll (ws : va_W) : List (Nat × (Nat × va_E)) → va_W
  | [] => ws
  | z :: r => setAll (ws.set z.1 z.2) r
theorem setAll_at : ∀ (zs : List (Nat × (Nat × va_E))) (ws : va_W) (k : Nat) (x : Nat × va_E), (setAll ws zs)[k]? = some x → (k, x) ∈ zs ∨ (k ∉ zs.map (·.1) ∧ ws[k]? = some x)
  | [], ws, k, x, h => Or.inr ⟨by simp, h⟩
  | z :: r, ws, k, x, h => by
    rcases setAll_at r (ws.set z.1 z.2) k x h with h1 | ⟨h1, h2⟩
    · exact Or.inl (List.mem_cons_of_mem _ h1)
    · by_cases hz : z.1 = k
      · subst hz
        have hlt := (List.getElem?_eq_some_iff.mp h2).1
        rw [List.length_set] at hlt
        rw [List.getElem?_set_self hlt] at h2
        cases h2
        exact Or.inl List.mem_cons_self
      · rw [List.getElem?_set_ne hz] at h2
        refine Or.inr ⟨?_, h2⟩
        intro hk
        rcases List.mem_cons.mp hk with q | q
        · exact hz q.symm
        · exact h1 q
theorem fr_set {D : va_G} {cl : List vw_C} {A0 : Nat → Prop} {ws w w' nw : va_W} {H H1 : Heap} (hP : va_P D cl ws H) (hD : va_D A0 ws) (is : List Nat) (hC : is.map (fun i => ws[i]?) = w.map some)
    (hk : ∀ q : Nat, q < H.size → ¬ va_A w H.size q → H1[q]? = H[q]?) (hP1 : va_P D cl w' H1) (hz : (is.zip w').map (·.1) = is) (hnw : setAll ws (is.zip w') = nw) (hadr : nw.map (·.1) = ws.map (·.1)) : va_P D cl nw H1 ∧ va_D A0 nw := by
  have ad : ∀ (k : Nat) (x : Nat × va_E), nw[k]? = some x → ∃ y, ws[k]? = some y ∧ y.1 = x.1 := by
    intro k x hx
    have h1 : (nw.map (·.1))[k]? = some x.1 := by rw [List.getElem?_map, hx]; rfl
    rw [hadr, List.getElem?_map] at h1
    cases hy : ws[k]? with
    | none => rw [hy] at h1; cases h1
    | some y => rw [hy] at h1; exact ⟨y, rfl, Option.some.inj h1⟩
  refine ⟨fun k x hx => ?_, fun i j x y hx hy hxy => ?_, fun k x hx => ?_⟩
  · rw [← hnw] at hx
    rcases setAll_at _ _ _ _ hx with h | ⟨h, h2⟩
    · obtain ⟨j, hj⟩ := List.getElem?_of_mem (List.of_mem_zip h).2
      exact hP1 j x hj
    · rw [hz] at h
      have hl := (hP k x h2).lt
      refine (hP k x h2).kept (hk x.1 hl ?_)
      rintro (⟨j, e, hj⟩ | hj)
      · have h3 : (is.map (fun i => ws[i]?))[j]? = some (some (x.1, e)) := by rw [hC, List.getElem?_map, hj]; rfl
        rw [List.getElem?_map] at h3
        cases hi : is[j]? with
        | none => rw [hi] at h3; cases h3
        | some i =>
          rw [hi] at h3
          have h4 := hD.1 k i x (x.1, e) h2 (Option.some.inj h3) rfl
          subst h4
          exact h (List.mem_of_getElem? hi)
      · omega
  · obtain ⟨x', h1, h2⟩ := ad i x hx
    obtain ⟨y', h3, h4⟩ := ad j y hy
    exact hD.1 i j x' y' h1 h3 (by rw [h2, h4, hxy])
  · obtain ⟨x', h1, h2⟩ := ad k x hx
    rw [← h2]
    exact hD.2 k x' h1
section KIT2
variable {p : Program} {l : Launch} {e : Env} {R : Room} {s : State} {m : MethodId} {args : Array Value} {below : List Frame} {meth : Method} {c : Code} {H H0 : Heap} {locs : List Loc} {cells slots : Nat} {Q : State → Prop}
variable {D : va_G} {cI cC cZ : ClassId} {cc b : ByteArray} {nL n k pc fr lo idx o ci N : Nat} {own C : String} {T : u_T} {y : MethodName} {ret : Option FieldType} {w w' ws nw : va_W} {As rest st st2 : List Value} {v : Option Value} {ls : Array Slot} {fs : List Value} {A : Nat → Prop}
/-- behind a call that changed cells -/
theorem muGo {As0 : List Value} (hr : va_Run p l e R s m args below meth c H locs cells slots 0 0 (F0 m pc ls st) rest (MuQ D w w' H.size v As0.toArray) (va_A w H.size)) (hP : va_P D vwCl ws H) (hD : va_D A ws) (hS : va_S A H0 H locs) (hA : ∀ q, H0.size ≤ q → A q)
    (is : List Nat) (hC : is.map (fun i => ws[i]?) = w.map some) (hz : (is.zip w').map (·.1) = is) (hnw : setAll ws (is.zip w') = nw) (hadr : nw.map (·.1) = ws.map (·.1)) (h2 : v.toList ++ rest = st2)
    (kk : ∀ (H1 : Heap) (locs1 : List Loc), va_P D vwCl nw H1 → va_D A nw → va_S A H0 H1 locs1 → W p l e R s m args below meth c H1 locs1 cells slots Q (F0 m (pc + 3) ls st2)) : W p l e R s m args below meth c H locs cells slots Q (F0 m pc ls st) := by
  intro T hT X
  obtain ⟨v', st₀, t, T', L, h0, X', hL, e1, -, ⟨hv, hp1, hz1, hk1⟩, sg⟩ := hr T hT X
  cases hv
  subst h2
  rw [h0] at hz1 hk1
  have hF := va_free (wc := w) hD hS hA is hC
  obtain ⟨hP', hD'⟩ := fr_set hP hD is hC hk1 hp1 hz hnw hadr
  obtain ⟨t2, a1, b1⟩ := kk T'.heap (locs ++ L) (by rw [e1]; exact hP') hD'
    ⟨Nat.le_trans hS.1 (by rw [e1]; exact hz1), fun q h1 h2 => by rw [e1, hk1 q (Nat.lt_of_lt_of_le h1 hS.1) (fun z => h2 (hF q z))]; exact hS.2.1 q h1 h2, fun q hq => by
      rcases List.mem_append.mp hq with h | h
      · exact hS.2.2 q h
      · exact hF _ (hL q h)⟩ T' rfl X'
  exact ⟨t2, sg t2 a1, b1⟩
theorem muV (S : CallFix p m c cc nL s args wsL_law own) (hE : EV D cI cC cZ s) (hM : Mu l y b n ret fr lo D cI cC cZ w w' (.ref o :: As) v) (L : LkV own idx C y b n ret k) (hP : va_P D vwCl ws H) (hD : va_D A ws) (hS : va_S A H0 H locs) (hA : ∀ q, H0.size ≤ q → A q)
    (is : List Nat) (hC : is.map (fun i => ws[i]?) = w.map some) (hCf : is.filterMap (fun i => ws[i]?) = w) (hnd : va_nd is = true) (hci : vwCl[ci]? = some (C, T, N)) (h0 : w[0]? = some (o, .inr (ci, fs)))
    (hk : As.length = k) (hsz : ls.size = nL) (hst : st = As.reverse ++ .ref o :: rest) (hrm : (rest.map fun v => v.category).sum ≤ 8) (hR : fr + 1 ≤ R.frames ∧ 8 + (n + 11) + lo ≤ R.locals) (hdg : decode cc pc = .ok (.invokevirtual idx, 3)) (hc : cells ≤ R.cells ∧ slots ≤ R.slots)
    (hz : (is.zip w').map (·.1) = is) (hnw : setAll ws (is.zip w') = nw) (hadr : nw.map (·.1) = ws.map (·.1)) (h2 : v.toList ++ rest = st2)
    (kk : ∀ (H1 : Heap) (locs1 : List Loc), va_P D vwCl nw H1 → va_D A nw → va_S A H0 H1 locs1 → W p l e R s m args below meth c H1 locs1 cells slots Q (F0 m (pc + 3) ls st2)) : W p l e R s m args below meth c H locs cells slots Q (F0 m pc ls st) := by
  have hPc := hP.sub is hCf
  have hDc := hD.sub is hnd hC
  exact muGo (As0 := .ref o :: As) (va_runV (As := As) (rest := rest) S (hM H.size) ⟨cbU S.2.2.2.2 L.1 L.2.2.2.1 L.2.2.2.2.1 L.2.2.2.2.2 hR, S.2.2.2.2 _ L.2.1, S.2.2.2.2 _ L.2.2.1⟩
    ⟨MuP.blind, va_recv hE.1 hPc hci h0, fun U hU hW => ⟨rfl, by rw [hU], EV.warm hW hE, by rw [hU]; exact hPc, hDc.weaken (fun _ _ _ _ => trivial)⟩⟩ rfl hk hsz hst (lv_room hrm) hdg hc) hP hD hS hA is hC hz hnw hadr h2 kk
theorem muS (S : CallFix p m c cc nL s args wsL_law own) (hE : EV D cI cC cZ s) (hM : Mu l y b n ret fr lo D cI cC cZ w w' As v) (L : LkS own idx y b n ret k) (hP : va_P D vwCl ws H) (hD : va_D A ws) (hS : va_S A H0 H locs) (hA : ∀ q, H0.size ≤ q → A q)
    (is : List Nat) (hC : is.map (fun i => ws[i]?) = w.map some) (hCf : is.filterMap (fun i => ws[i]?) = w) (hnd : va_nd is = true)
    (hk : As.length = k) (hsz : ls.size = nL) (hst : st = As.reverse ++ rest) (hrm : (rest.map fun v => v.category).sum ≤ 8) (hR : fr + 1 ≤ R.frames ∧ 8 + (n + 11) + lo ≤ R.locals) (hdg : decode cc pc = .ok (.invokestatic idx, 3)) (hc : cells ≤ R.cells ∧ slots ≤ R.slots)
    (hz : (is.zip w').map (·.1) = is) (hnw : setAll ws (is.zip w') = nw) (hadr : nw.map (·.1) = ws.map (·.1)) (h2 : v.toList ++ rest = st2)
    (kk : ∀ (H1 : Heap) (locs1 : List Loc), va_P D vwCl nw H1 → va_D A nw → va_S A H0 H1 locs1 → W p l e R s m args below meth c H1 locs1 cells slots Q (F0 m (pc + 3) ls st2)) : W p l e R s m args below meth c H locs cells slots Q (F0 m pc ls st) := by
  have hPc := hP.sub is hCf
  have hDc := hD.sub is hnd hC
  exact muGo (As0 := As) (va_runS (As := As) (rest := rest) S (hM H.size) ⟨cbU S.2.2.2.2 L.1 L.2.2.1 L.2.2.2.1 L.2.2.2.2 hR, S.2.2.2.2 _ L.2.1⟩
    ⟨MuP.blind, fun U hU hW => ⟨rfl, by rw [hU], EV.warm hW hE, by rw [hU]; exact hPc, hDc.weaken (fun _ _ _ _ => trivial)⟩⟩ rfl hk hsz hst (lv_room hrm) hdg hc) hP hD hS hA is hC hz hnw hadr h2 kk
/-- a method's start -/
theorem Rd.of (hy : plainName y.cls = true) (hn : (lg_sl As).length ≤ n) (lv : List (Nat × Value)) (hlv : lv_args 0 As = lv)
    (body : ∀ (p : Program) (e : Env) (s : State) (m : MethodId) (below : List Frame) (meth : Method) (c : Code) (ls : Array Slot), p.tables.exec = Jvm.exec → c.code = b → meth.sig.returnType = ret → c.maxLocals = n → s.vm.findClass y.cls = some m.cls → (∀ w ∈ wsL_law, w.before As.toArray s = true) → meth.locks = false → EV D cI cC cZ s → va_P D vwCl w s.heap → lv_has ls n lv →
      W p l e (RM fr lo) s m As.toArray below meth c s.heap [] 0 0 (MQ below (RdQ v) As.toArray s 0 0 (fun _ => False)) (F0 m 0 ls [])) : Rd l y b n ret fr lo D cI cC cZ w As v := by
  refine Met.ofW (cc := b) (maxL := n) (ret := ret) hy rfl ?_
  intro p e s m args below meth c s₁ B hml hv
  obtain ⟨rfl, hE, hP⟩ := hv
  have hts := atoms_spec (ws := .code y b n ret :: wsL_law) B.pre
  have hl := lv_entry As (n := n) hn
  rw [lg_entry_eq]
  rw [hlv] at hl
  exact body p e s m below meth c _ B.exec B.bytes B.returns hml (findClass_of_methodNamed B.named) (fun w h => hts w (List.mem_cons_of_mem _ h)) B.notSynchronized hE hP hl
theorem Mu.of (hy : plainName y.cls = true) (hn : (lg_sl As).length ≤ n) (lv : List (Nat × Value)) (hlv : lv_args 0 As = lv)
    (body : ∀ (p : Program) (e : Env) (s : State) (m : MethodId) (below : List Frame) (meth : Method) (c : Code) (ls : Array Slot) (A : Nat → Prop), p.tables.exec = Jvm.exec → c.code = b → meth.sig.returnType = ret → c.maxLocals = n → s.vm.findClass y.cls = some m.cls → (∀ w ∈ wsL_law, w.before As.toArray s = true) → meth.locks = false → EV D cI cC cZ s → va_P D vwCl w s.heap → va_D A w → va_S A s.heap s.heap [] → (∀ q : Nat, s.heap.size ≤ q → A q) → va_A w s.heap.size = A → lv_has ls n lv →
      W p l e (RM fr lo) s m As.toArray below meth c s.heap [] 0 0 (MQ below (MuQ D w w' s.heap.size v) As.toArray s 0 0 A) (F0 m 0 ls [])) : Mu l y b n ret fr lo D cI cC cZ w w' As v := by
  intro sz
  refine Met.ofW (cc := b) (maxL := n) (ret := ret) hy rfl ?_
  intro p e s m args below meth c s₁ B hml hv
  obtain ⟨rfl, rfl, hE, hP, hD⟩ := hv
  have hts := atoms_spec (ws := .code y b n ret :: wsL_law) B.pre
  have hl := lv_entry As (n := n) hn
  rw [lg_entry_eq]
  rw [hlv] at hl
  exact body p e s m below meth c _ (va_A w s.heap.size) B.exec B.bytes B.returns hml (findClass_of_methodNamed B.named) (fun w h => hts w (List.mem_cons_of_mem _ h)) B.notSynchronized hE hP hD.self va_S.rf (fun q h => Or.inr h) rfl hl
end KIT2
/-! pure words of the models -/
def b2i (b : Bool) : Int32 := if b = true then 1 else 0
theorem b2i_eq0 {b : Bool} : b2i b = 0 → ¬ b = true := by cases b <;> decide
theorem b2i_ne0 {b : Bool} : ¬ b2i b = 0 → b = true := by cases b <;> decide
theorem b2i_nar (b : Bool) : narrow .boolean (.int (b2i b)) = .int (b2i b) := by cases b <;> rfl
def inb (i : Int32) (n : Nat) : Bool := decide (¬ (i < 0 ∨ n ≤ i.toNatClampNeg))
theorem inb_vp {i : Int32} {n : Nat} (h : inb i n = true) : vp_in i n := by
  have h2 : ¬ (i < 0 ∨ n ≤ i.toNatClampNeg) := by unfold inb at h; simpa using h
  exact h2
def rd {α : Type} (f : Nat → Int32) (n : Nat) (i : Int32) (k : Int32 → Option α) : Option α := if inb i n = true then k (f i.toNatClampNeg) else none
def wr {α : Type} (f : Nat → Int32) (n : Nat) (i x : Int32) (k : (Nat → Int32) → Option α) : Option α := if inb i n = true then k (upd f i.toNatClampNeg x) else none
def dv {α : Type} (x y : Int32) (k : Int32 → Option α) : Option α := if y = 0 then none else k (x / y)
def rmd {α : Type} (x y : Int32) (k : Int32 → Option α) : Option α := if y = 0 then none else k (x - x / y * y)
def ldv {α : Type} (x y : Int64) (k : Int64 → Option α) : Option α := if y = 0 then none else k (x / y)
def lrm {α : Type} (x y : Int64) (k : Int64 → Option α) : Option α := if y = 0 then none else k (x - x / y * y)
def acp {α : Type} (f : Nat → Int32) (n0 : Nat) (sp : Int32) (g : Nat → Int32) (n1 : Nat) (dp n : Int32) (k : (Nat → Int32) → Option α) : Option α :=
  if ¬ sp < 0 ∧ ¬ dp < 0 ∧ ¬ n < 0 ∧ sp.toNatClampNeg + n.toNatClampNeg ≤ n0 ∧ dp.toNatClampNeg + n.toNatClampNeg ≤ n1 then k (va_cpy f g sp.toNatClampNeg dp.toNatClampNeg n.toNatClampNeg) else none
theorem rd_e {α : Type} {f : Nat → Int32} {n : Nat} {i : Int32} {k : Int32 → Option α} {r : α} (h : rd f n i k = some r) : vp_in i n ∧ k (f i.toNatClampNeg) = some r := by
  unfold rd at h
  split at h
  · next q => exact ⟨inb_vp q, h⟩
  · cases h
theorem wr_e {α : Type} {f : Nat → Int32} {n : Nat} {i x : Int32} {k : (Nat → Int32) → Option α} {r : α} (h : wr f n i x k = some r) : vp_in i n ∧ k (upd f i.toNatClampNeg x) = some r := by
  unfold wr at h
  split at h
  · next q => exact ⟨inb_vp q, h⟩
  · cases h
theorem dv_e {α : Type} {x y : Int32} {k : Int32 → Option α} {r : α} (h : dv x y k = some r) : ¬ y = 0 ∧ k (x / y) = some r := by
  unfold dv at h
  split at h
  · cases h
  · next q => exact ⟨q, h⟩
theorem rmd_e {α : Type} {x y : Int32} {k : Int32 → Option α} {r : α} (h : rmd x y k = some r) : ¬ y = 0 ∧ k (x - x / y * y) = some r := by
  unfold rmd at h
  split at h
  · cases h
  · next q => exact ⟨q, h⟩
theorem ldv_e {α : Type} {x y : Int64} {k : Int64 → Option α} {r : α} (h : ldv x y k = some r) : ¬ y = 0 ∧ k (x / y) = some r := by
  unfold ldv at h
  split at h
  · cases h
  · next q => exact ⟨q, h⟩
theorem lrm_e {α : Type} {x y : Int64} {k : Int64 → Option α} {r : α} (h : lrm x y k = some r) : ¬ y = 0 ∧ k (x - x / y * y) = some r := by
  unfold lrm at h
  split at h
  · cases h
  · next q => exact ⟨q, h⟩
theorem acp_e {α : Type} {f : Nat → Int32} {n0 : Nat} {sp : Int32} {g : Nat → Int32} {n1 : Nat} {dp n : Int32} {k : (Nat → Int32) → Option α} {r : α} (h : acp f n0 sp g n1 dp n k = some r) :
    (¬ sp < 0 ∧ ¬ dp < 0 ∧ ¬ n < 0 ∧ sp.toNatClampNeg + n.toNatClampNeg ≤ n0 ∧ dp.toNatClampNeg + n.toNatClampNeg ≤ n1) ∧ k (va_cpy f g sp.toNatClampNeg dp.toNatClampNeg n.toNatClampNeg) = some r := by
  unfold acp at h
  split at h
  · next q => exact ⟨q, h⟩
  · cases h
theorem ite_t {α : Type} {q : Prop} [hd : Decidable q] {a b r : α} (hq : q) (h : (if q then a else b) = r) : a = r := by rw [if_pos hq] at h; exact h
theorem ite_f {α : Type} {q : Prop} [hd : Decidable q] {a b r : α} (hq : ¬ q) (h : (if q then a else b) = r) : b = r := by rw [if_neg hq] at h; exact h
theorem bind_e {α β : Type} {o : Option α} {k : α → Option β} {r : β} (h : o.bind k = some r) : ∃ x, o = some x ∧ k x = some r := by
  cases o with
  | none => cases h
  | some x => exact ⟨x, rfl, h⟩
theorem sw_out {x : Int32} {lo hi : Int} (h : ∀ v : Int, lo ≤ v → v ≤ hi → x.toInt ≠ v) : x.toInt < lo ∨ hi < x.toInt := by
  rcases Int.lt_or_le x.toInt lo with q | q
  · exact Or.inl q
  · rcases Int.lt_or_le hi x.toInt with r | r
    · exact Or.inr r
    · exact absurd rfl (h x.toInt q r)
def FU : Nat := 1000000
abbrev I3 : Type := Int32 × Int32 × Int32
abbrev Ar : Type := Nat × (Nat → Int32)
end
section
section KIT3
variable {p : Program} {l : Launch} {D : va_G} {cI cC cZ : ClassId} {b : ByteArray} {n fr lo : Nat} {y : MethodName} {w w' : va_W} {As : List Value} {v : Option Value}
theorem Rd.ofI (hy : plainName y.cls = true) (hn : (lg_sl As).length ≤ n) (lv : List (Nat × Value)) (hlv : lv_args 0 As = lv)
    (body : ∀ (p : Program) (e : Env) (s : State) (m : MethodId) (args : Array Value) (below : List Frame) (meth : Method) (c : Code) (ls : Array Slot) (Q : State → Prop), p.tables.exec = Jvm.exec → c.code = b → c.maxLocals = n → s.vm.findClass y.cls = some m.cls → (∀ w ∈ wsL_law, w.before args s = true) → EV D cI cC cZ s → va_P D vwCl w s.heap →
      (∀ (r : Int32) (pc : Nat) (ls : Array Slot), decode b pc = .ok (.ireturn, 1) → some (Value.int r) = v → W p l e (RM fr lo) s m args below meth c s.heap [] 0 0 Q (F0 m pc ls [.int r])) → lv_has ls n lv → W p l e (RM fr lo) s m args below meth c s.heap [] 0 0 Q (F0 m 0 ls [])) : Rd l y b n (some .int) fr lo D cI cC cZ w As v :=
  Rd.of hy hn lv hlv (fun p e s m below meth c ls hx hb hr hml hown hU hlk hE hP hl => body p e s m As.toArray below meth c ls _ hx hb hml hown hU hE hP (fun r pc ls hd hv => W.iret hx hb hr (fun t ht hW => ⟨by rw [hv], ht⟩) (fun q hq => by cases hq) hd hlk) hl)
theorem Rd.ofZ (hy : plainName y.cls = true) (hn : (lg_sl As).length ≤ n) (lv : List (Nat × Value)) (hlv : lv_args 0 As = lv)
    (body : ∀ (p : Program) (e : Env) (s : State) (m : MethodId) (args : Array Value) (below : List Frame) (meth : Method) (c : Code) (ls : Array Slot) (Q : State → Prop), p.tables.exec = Jvm.exec → c.code = b → c.maxLocals = n → s.vm.findClass y.cls = some m.cls → (∀ w ∈ wsL_law, w.before args s = true) → EV D cI cC cZ s → va_P D vwCl w s.heap →
      (∀ (r : Bool) (pc : Nat) (ls : Array Slot), decode b pc = .ok (.ireturn, 1) → some (Value.int (b2i r)) = v → W p l e (RM fr lo) s m args below meth c s.heap [] 0 0 Q (F0 m pc ls [.int (b2i r)])) → lv_has ls n lv → W p l e (RM fr lo) s m args below meth c s.heap [] 0 0 Q (F0 m 0 ls [])) : Rd l y b n (some .boolean) fr lo D cI cC cZ w As v :=
  Rd.of hy hn lv hlv (fun p e s m below meth c ls hx hb hr hml hown hU hlk hE hP hl => body p e s m As.toArray below meth c ls _ hx hb hml hown hU hE hP (fun r pc ls hd hv => W.zret hx hb hr (b2i_nar r) (fun t ht hW => ⟨by rw [hv], ht⟩) (fun q hq => by cases hq) hd hlk) hl)
theorem Rd.ofJ (hy : plainName y.cls = true) (hn : (lg_sl As).length ≤ n) (lv : List (Nat × Value)) (hlv : lv_args 0 As = lv)
    (body : ∀ (p : Program) (e : Env) (s : State) (m : MethodId) (args : Array Value) (below : List Frame) (meth : Method) (c : Code) (ls : Array Slot) (Q : State → Prop), p.tables.exec = Jvm.exec → c.code = b → c.maxLocals = n → s.vm.findClass y.cls = some m.cls → (∀ w ∈ wsL_law, w.before args s = true) → EV D cI cC cZ s → va_P D vwCl w s.heap →
      (∀ (r : Int64) (pc : Nat) (ls : Array Slot), decode b pc = .ok (.lreturn, 1) → some (Value.long r) = v → W p l e (RM fr lo) s m args below meth c s.heap [] 0 0 Q (F0 m pc ls [.long r])) → lv_has ls n lv → W p l e (RM fr lo) s m args below meth c s.heap [] 0 0 Q (F0 m 0 ls [])) : Rd l y b n (some .long) fr lo D cI cC cZ w As v :=
  Rd.of hy hn lv hlv (fun p e s m below meth c ls hx hb hr hml hown hU hlk hE hP hl => body p e s m As.toArray below meth c ls _ hx hb hml hown hU hE hP (fun r pc ls hd hv => W.lret hx hb hr (fun t ht hW => ⟨by rw [hv], ht⟩) (fun q hq => by cases hq) hd hlk) hl)
theorem Rd.ofC (hy : plainName y.cls = true) (hn : (lg_sl As).length ≤ n) (lv : List (Nat × Value)) (hlv : lv_args 0 As = lv)
    (body : ∀ (p : Program) (e : Env) (s : State) (m : MethodId) (args : Array Value) (below : List Frame) (meth : Method) (c : Code) (ls : Array Slot) (Q : State → Prop), p.tables.exec = Jvm.exec → c.code = b → c.maxLocals = n → s.vm.findClass y.cls = some m.cls → (∀ w ∈ wsL_law, w.before args s = true) → EV D cI cC cZ s → va_P D vwCl w s.heap →
      (∀ (r : Int32) (pc : Nat) (ls : Array Slot), narrow .char (.int r) = .int r → decode b pc = .ok (.ireturn, 1) → some (Value.int r) = v → W p l e (RM fr lo) s m args below meth c s.heap [] 0 0 Q (F0 m pc ls [.int r])) → lv_has ls n lv → W p l e (RM fr lo) s m args below meth c s.heap [] 0 0 Q (F0 m 0 ls [])) : Rd l y b n (some .char) fr lo D cI cC cZ w As v :=
  Rd.of hy hn lv hlv (fun p e s m below meth c ls hx hb hr hml hown hU hlk hE hP hl => body p e s m As.toArray below meth c ls _ hx hb hml hown hU hE hP (fun r pc ls hn9 hd hv => W.zret hx hb hr hn9 (fun t ht hW => ⟨by rw [hv], ht⟩) (fun q hq => by cases hq) hd hlk) hl)
theorem Mu.ofI (hy : plainName y.cls = true) (hn : (lg_sl As).length ≤ n) (lv : List (Nat × Value)) (hlv : lv_args 0 As = lv)
    (body : ∀ (p : Program) (e : Env) (s : State) (m : MethodId) (args : Array Value) (below : List Frame) (meth : Method) (c : Code) (ls : Array Slot) (Q : State → Prop) (A : Nat → Prop), p.tables.exec = Jvm.exec → c.code = b → c.maxLocals = n → s.vm.findClass y.cls = some m.cls → (∀ w ∈ wsL_law, w.before args s = true) → EV D cI cC cZ s → va_P D vwCl w s.heap → va_D A w → va_S A s.heap s.heap [] → (∀ q : Nat, s.heap.size ≤ q → A q) →
      (∀ (r : Int32) (pc : Nat) (ls : Array Slot) (H : Heap) (locs : List Loc), va_P D vwCl w' H → va_S A s.heap H locs → decode b pc = .ok (.ireturn, 1) → some (Value.int r) = v → W p l e (RM fr lo) s m args below meth c H locs 0 0 Q (F0 m pc ls [.int r])) → lv_has ls n lv → W p l e (RM fr lo) s m args below meth c s.heap [] 0 0 Q (F0 m 0 ls [])) : Mu l y b n (some .int) fr lo D cI cC cZ w w' As v :=
  Mu.of hy hn lv hlv (fun p e s m below meth c ls A hx hb hr hml hown hU hlk hE hP hD hS hA hAe hl => body p e s m As.toArray below meth c ls _ A hx hb hml hown hU hE hP hD hS hA (fun r pc ls H locs hP1 hS1 hd hv => W.iret hx hb hr (fun t ht hW => ⟨by rw [hv], by rw [ht]; exact hP1, by rw [hAe]; exact hS1.F ht⟩) hS1.2.2 hd hlk) hl)
theorem Mu.ofZ (hy : plainName y.cls = true) (hn : (lg_sl As).length ≤ n) (lv : List (Nat × Value)) (hlv : lv_args 0 As = lv)
    (body : ∀ (p : Program) (e : Env) (s : State) (m : MethodId) (args : Array Value) (below : List Frame) (meth : Method) (c : Code) (ls : Array Slot) (Q : State → Prop) (A : Nat → Prop), p.tables.exec = Jvm.exec → c.code = b → c.maxLocals = n → s.vm.findClass y.cls = some m.cls → (∀ w ∈ wsL_law, w.before args s = true) → EV D cI cC cZ s → va_P D vwCl w s.heap → va_D A w → va_S A s.heap s.heap [] → (∀ q : Nat, s.heap.size ≤ q → A q) →
      (∀ (r : Bool) (pc : Nat) (ls : Array Slot) (H : Heap) (locs : List Loc), va_P D vwCl w' H → va_S A s.heap H locs → decode b pc = .ok (.ireturn, 1) → some (Value.int (b2i r)) = v → W p l e (RM fr lo) s m args below meth c H locs 0 0 Q (F0 m pc ls [.int (b2i r)])) → lv_has ls n lv → W p l e (RM fr lo) s m args below meth c s.heap [] 0 0 Q (F0 m 0 ls [])) : Mu l y b n (some .boolean) fr lo D cI cC cZ w w' As v :=
  Mu.of hy hn lv hlv (fun p e s m below meth c ls A hx hb hr hml hown hU hlk hE hP hD hS hA hAe hl => body p e s m As.toArray below meth c ls _ A hx hb hml hown hU hE hP hD hS hA (fun r pc ls H locs hP1 hS1 hd hv => W.zret hx hb hr (b2i_nar r) (fun t ht hW => ⟨by rw [hv], by rw [ht]; exact hP1, by rw [hAe]; exact hS1.F ht⟩) hS1.2.2 hd hlk) hl)
theorem Mu.ofJ (hy : plainName y.cls = true) (hn : (lg_sl As).length ≤ n) (lv : List (Nat × Value)) (hlv : lv_args 0 As = lv)
    (body : ∀ (p : Program) (e : Env) (s : State) (m : MethodId) (args : Array Value) (below : List Frame) (meth : Method) (c : Code) (ls : Array Slot) (Q : State → Prop) (A : Nat → Prop), p.tables.exec = Jvm.exec → c.code = b → c.maxLocals = n → s.vm.findClass y.cls = some m.cls → (∀ w ∈ wsL_law, w.before args s = true) → EV D cI cC cZ s → va_P D vwCl w s.heap → va_D A w → va_S A s.heap s.heap [] → (∀ q : Nat, s.heap.size ≤ q → A q) →
      (∀ (r : Int64) (pc : Nat) (ls : Array Slot) (H : Heap) (locs : List Loc), va_P D vwCl w' H → va_S A s.heap H locs → decode b pc = .ok (.lreturn, 1) → some (Value.long r) = v → W p l e (RM fr lo) s m args below meth c H locs 0 0 Q (F0 m pc ls [.long r])) → lv_has ls n lv → W p l e (RM fr lo) s m args below meth c s.heap [] 0 0 Q (F0 m 0 ls [])) : Mu l y b n (some .long) fr lo D cI cC cZ w w' As v :=
  Mu.of hy hn lv hlv (fun p e s m below meth c ls A hx hb hr hml hown hU hlk hE hP hD hS hA hAe hl => body p e s m As.toArray below meth c ls _ A hx hb hml hown hU hE hP hD hS hA (fun r pc ls H locs hP1 hS1 hd hv => W.lret hx hb hr (fun t ht hW => ⟨by rw [hv], by rw [ht]; exact hP1, by rw [hAe]; exact hS1.F ht⟩) hS1.2.2 hd hlk) hl)
theorem Mu.ofV (hy : plainName y.cls = true) (hn : (lg_sl As).length ≤ n) (lv : List (Nat × Value)) (hlv : lv_args 0 As = lv)
    (body : ∀ (p : Program) (e : Env) (s : State) (m : MethodId) (args : Array Value) (below : List Frame) (meth : Method) (c : Code) (ls : Array Slot) (Q : State → Prop) (A : Nat → Prop), p.tables.exec = Jvm.exec → c.code = b → c.maxLocals = n → s.vm.findClass y.cls = some m.cls → (∀ w ∈ wsL_law, w.before args s = true) → EV D cI cC cZ s → va_P D vwCl w s.heap → va_D A w → va_S A s.heap s.heap [] → (∀ q : Nat, s.heap.size ≤ q → A q) →
      (∀ (pc : Nat) (ls : Array Slot) (H : Heap) (locs : List Loc), va_P D vwCl w' H → va_S A s.heap H locs → decode b pc = .ok (.return_, 1) → none = v → W p l e (RM fr lo) s m args below meth c H locs 0 0 Q (F0 m pc ls [])) → lv_has ls n lv → W p l e (RM fr lo) s m args below meth c s.heap [] 0 0 Q (F0 m 0 ls [])) : Mu l y b n none fr lo D cI cC cZ w w' As v :=
  Mu.of hy hn lv hlv (fun p e s m below meth c ls A hx hb hr hml hown hU hlk hE hP hD hS hA hAe hl => body p e s m As.toArray below meth c ls _ A hx hb hml hown hU hE hP hD hS hA (fun pc ls H locs hP1 hS1 hd hv => W.vret hx hb hr (fun t ht hW => ⟨by rw [hv], by rw [ht]; exact hP1, by rw [hAe]; exact hS1.F ht⟩) hS1.2.2 hd hlk) hl)
end KIT3
end
section
theorem wI_in : ∀ w ∈ (wsL_law_r1 ++ (wsL_law_r2 ++ (wsL_law_r3 ++ (wsL_law_r4 ++ (wsL_law_r5 ++ (wsL_law_r6 ++ (wsL_law_r7 ++ (wsL_law_r8 ++ (wsL_law_r9 ++ (wsL_law_r10 ++ (wsL_law_r11 ++ (wsL_law_r12 ++ (wsL_law_r13 ++ (wsL_law_r14 ++ (wsL_law_r15 ++ (wsL_law_r16 ++ (wsL_law_r17 ++ (wsL_law_r18 ++ (wsL_law_r19 ++ (wsL_law_r20 ++ (wsL_law_r21 ++ (wsL_law_r22 ++ (wsL_law_r23 ++ (wsL_law_r24 ++ (wsL_law_r25 ++ (wsL_law_r26 ++ (wsL_law_r27 ++ (wsL_law_r28 ++ (wsL_law_r29 ++ (wsL_law_r30 ++ (wsL_law_r31 ++ wsL_law_r32))))))))))))))))))))))))))))))), w ∈ wsL_law := fun _ h => List.mem_append_left _ (List.mem_append_left _ (List.mem_append_left _ (List.mem_append_left _ (List.mem_append_left _ (List.mem_append_left _ h)))))
theorem wR_1 : ∀ w ∈ wsL_law_r1, w ∈ wsL_law := fun _ h => wI_in _ (List.mem_append_left _ h)
theorem wR_2 : ∀ w ∈ wsL_law_r2, w ∈ wsL_law := fun _ h => wI_in _ (List.mem_append_right _ (List.mem_append_left _ h))
theorem wR_3 : ∀ w ∈ wsL_law_r3, w ∈ wsL_law := fun _ h => wI_in _ (List.mem_append_right _ (List.mem_append_right _ (List.mem_append_left _ h)))
theorem wR_4 : ∀ w ∈ wsL_law_r4, w ∈ wsL_law := fun _ h => wI_in _ (List.mem_append_right _ (List.mem_append_right _ (List.mem_append_right _ (List.mem_append_left _ h))))
theorem wR_5 : ∀ w ∈ wsL_law_r5, w ∈ wsL_law := fun _ h => wI_in _ (List.mem_append_right _ (List.mem_append_right _ (List.mem_append_right _ (List.mem_append_right _ (List.mem_append_left _ h)))))
theorem wR_6 : ∀ w ∈ wsL_law_r6, w ∈ wsL_law := fun _ h => wI_in _ (List.mem_append_right _ (List.mem_append_right _ (List.mem_append_right _ (List.mem_append_right _ (List.mem_append_right _ (List.mem_append_left _ h))))))
theorem wR_7 : ∀ w ∈ wsL_law_r7, w ∈ wsL_law := fun _ h => wI_in _ (List.mem_append_right _ (List.mem_append_right _ (List.mem_append_right _ (List.mem_append_right _ (List.mem_append_right _ (List.mem_append_right _ (List.mem_append_left _ h)))))))
theorem wR_8 : ∀ w ∈ wsL_law_r8, w ∈ wsL_law := fun _ h => wI_in _ (List.mem_append_right _ (List.mem_append_right _ (List.mem_append_right _ (List.mem_append_right _ (List.mem_append_right _ (List.mem_append_right _ (List.mem_append_right _ (List.mem_append_left _ h))))))))
theorem wR_9 : ∀ w ∈ wsL_law_r9, w ∈ wsL_law := fun _ h => wI_in _ (List.mem_append_right _ (List.mem_append_right _ (List.mem_append_right _ (List.mem_append_right _ (List.mem_append_right _ (List.mem_append_right _ (List.mem_append_right _ (List.mem_append_right _ (List.mem_append_left _ h)))))))))
theorem wR_10 : ∀ w ∈ wsL_law_r10, w ∈ wsL_law := fun _ h => wI_in _ (List.mem_append_right _ (List.mem_append_right _ (List.mem_append_right _ (List.mem_append_right _ (List.mem_append_right _ (List.mem_append_right _ (List.mem_append_right _ (List.mem_append_right _ (List.mem_append_right _ (List.mem_append_left _ h))))))))))
theorem wR_11 : ∀ w ∈ wsL_law_r11, w ∈ wsL_law := fun _ h => wI_in _ (List.mem_append_right _ (List.mem_append_right _ (List.mem_append_right _ (List.mem_append_right _ (List.mem_append_right _ (List.mem_append_right _ (List.mem_append_right _ (List.mem_append_right _ (List.mem_append_right _ (List.mem_append_right _ (List.mem_append_left _ h)))))))))))
theorem wR_12 : ∀ w ∈ wsL_law_r12, w ∈ wsL_law := fun _ h => wI_in _ (List.mem_append_right _ (List.mem_append_right _ (List.mem_append_right _ (List.mem_append_right _ (List.mem_append_right _ (List.mem_append_right _ (List.mem_append_right _ (List.mem_append_right _ (List.mem_append_right _ (List.mem_append_right _ (List.mem_append_right _ (List.mem_append_left _ h))))))))))))
theorem wR_13 : ∀ w ∈ wsL_law_r13, w ∈ wsL_law := fun _ h => wI_in _ (List.mem_append_right _ (List.mem_append_right _ (List.mem_append_right _ (List.mem_append_right _ (List.mem_append_right _ (List.mem_append_right _ (List.mem_append_right _ (List.mem_append_right _ (List.mem_append_right _ (List.mem_append_right _ (List.mem_append_right _ (List.mem_append_right _ (List.mem_append_left _ h)))))))))))))
theorem wR_14 : ∀ w ∈ wsL_law_r14, w ∈ wsL_law := fun _ h => wI_in _ (List.mem_append_right _ (List.mem_append_right _ (List.mem_append_right _ (List.mem_append_right _ (List.mem_append_right _ (List.mem_append_right _ (List.mem_append_right _ (List.mem_append_right _ (List.mem_append_right _ (List.mem_append_right _ (List.mem_append_right _ (List.mem_append_right _ (List.mem_append_right _ (List.mem_append_left _ h))))))))))))))
theorem wR_15 : ∀ w ∈ wsL_law_r15, w ∈ wsL_law := fun _ h => wI_in _ (List.mem_append_right _ (List.mem_append_right _ (List.mem_append_right _ (List.mem_append_right _ (List.mem_append_right _ (List.mem_append_right _ (List.mem_append_right _ (List.mem_append_right _ (List.mem_append_right _ (List.mem_append_right _ (List.mem_append_right _ (List.mem_append_right _ (List.mem_append_right _ (List.mem_append_right _ (List.mem_append_left _ h)))))))))))))))
theorem wR_16 : ∀ w ∈ wsL_law_r16, w ∈ wsL_law := fun _ h => wI_in _ (List.mem_append_right _ (List.mem_append_right _ (List.mem_append_right _ (List.mem_append_right _ (List.mem_append_right _ (List.mem_append_right _ (List.mem_append_right _ (List.mem_append_right _ (List.mem_append_right _ (List.mem_append_right _ (List.mem_append_right _ (List.mem_append_right _ (List.mem_append_right _ (List.mem_append_right _ (List.mem_append_right _ (List.mem_append_left _ h))))))))))))))))
theorem wR_17 : ∀ w ∈ wsL_law_r17, w ∈ wsL_law := fun _ h => wI_in _ (List.mem_append_right _ (List.mem_append_right _ (List.mem_append_right _ (List.mem_append_right _ (List.mem_append_right _ (List.mem_append_right _ (List.mem_append_right _ (List.mem_append_right _ (List.mem_append_right _ (List.mem_append_right _ (List.mem_append_right _ (List.mem_append_right _ (List.mem_append_right _ (List.mem_append_right _ (List.mem_append_right _ (List.mem_append_right _ (List.mem_append_left _ h)))))))))))))))))
theorem wR_18 : ∀ w ∈ wsL_law_r18, w ∈ wsL_law := fun _ h => wI_in _ (List.mem_append_right _ (List.mem_append_right _ (List.mem_append_right _ (List.mem_append_right _ (List.mem_append_right _ (List.mem_append_right _ (List.mem_append_right _ (List.mem_append_right _ (List.mem_append_right _ (List.mem_append_right _ (List.mem_append_right _ (List.mem_append_right _ (List.mem_append_right _ (List.mem_append_right _ (List.mem_append_right _ (List.mem_append_right _ (List.mem_append_right _ (List.mem_append_left _ h))))))))))))))))))
theorem wR_19 : ∀ w ∈ wsL_law_r19, w ∈ wsL_law := fun _ h => wI_in _ (List.mem_append_right _ (List.mem_append_right _ (List.mem_append_right _ (List.mem_append_right _ (List.mem_append_right _ (List.mem_append_right _ (List.mem_append_right _ (List.mem_append_right _ (List.mem_append_right _ (List.mem_append_right _ (List.mem_append_right _ (List.mem_append_right _ (List.mem_append_right _ (List.mem_append_right _ (List.mem_append_right _ (List.mem_append_right _ (List.mem_append_right _ (List.mem_append_right _ (List.mem_append_left _ h)))))))))))))))))))
theorem wR_20 : ∀ w ∈ wsL_law_r20, w ∈ wsL_law := fun _ h => wI_in _ (List.mem_append_right _ (List.mem_append_right _ (List.mem_append_right _ (List.mem_append_right _ (List.mem_append_right _ (List.mem_append_right _ (List.mem_append_right _ (List.mem_append_right _ (List.mem_append_right _ (List.mem_append_right _ (List.mem_append_right _ (List.mem_append_right _ (List.mem_append_right _ (List.mem_append_right _ (List.mem_append_right _ (List.mem_append_right _ (List.mem_append_right _ (List.mem_append_right _ (List.mem_append_right _ (List.mem_append_left _ h))))))))))))))))))))
theorem wR_21 : ∀ w ∈ wsL_law_r21, w ∈ wsL_law := fun _ h => wI_in _ (List.mem_append_right _ (List.mem_append_right _ (List.mem_append_right _ (List.mem_append_right _ (List.mem_append_right _ (List.mem_append_right _ (List.mem_append_right _ (List.mem_append_right _ (List.mem_append_right _ (List.mem_append_right _ (List.mem_append_right _ (List.mem_append_right _ (List.mem_append_right _ (List.mem_append_right _ (List.mem_append_right _ (List.mem_append_right _ (List.mem_append_right _ (List.mem_append_right _ (List.mem_append_right _ (List.mem_append_right _ (List.mem_append_left _ h)))))))))))))))))))))
theorem wR_22 : ∀ w ∈ wsL_law_r22, w ∈ wsL_law := fun _ h => wI_in _ (List.mem_append_right _ (List.mem_append_right _ (List.mem_append_right _ (List.mem_append_right _ (List.mem_append_right _ (List.mem_append_right _ (List.mem_append_right _ (List.mem_append_right _ (List.mem_append_right _ (List.mem_append_right _ (List.mem_append_right _ (List.mem_append_right _ (List.mem_append_right _ (List.mem_append_right _ (List.mem_append_right _ (List.mem_append_right _ (List.mem_append_right _ (List.mem_append_right _ (List.mem_append_right _ (List.mem_append_right _ (List.mem_append_right _ (List.mem_append_left _ h))))))))))))))))))))))
theorem wR_23 : ∀ w ∈ wsL_law_r23, w ∈ wsL_law := fun _ h => wI_in _ (List.mem_append_right _ (List.mem_append_right _ (List.mem_append_right _ (List.mem_append_right _ (List.mem_append_right _ (List.mem_append_right _ (List.mem_append_right _ (List.mem_append_right _ (List.mem_append_right _ (List.mem_append_right _ (List.mem_append_right _ (List.mem_append_right _ (List.mem_append_right _ (List.mem_append_right _ (List.mem_append_right _ (List.mem_append_right _ (List.mem_append_right _ (List.mem_append_right _ (List.mem_append_right _ (List.mem_append_right _ (List.mem_append_right _ (List.mem_append_right _ (List.mem_append_left _ h)))))))))))))))))))))))
theorem wR_24 : ∀ w ∈ wsL_law_r24, w ∈ wsL_law := fun _ h => wI_in _ (List.mem_append_right _ (List.mem_append_right _ (List.mem_append_right _ (List.mem_append_right _ (List.mem_append_right _ (List.mem_append_right _ (List.mem_append_right _ (List.mem_append_right _ (List.mem_append_right _ (List.mem_append_right _ (List.mem_append_right _ (List.mem_append_right _ (List.mem_append_right _ (List.mem_append_right _ (List.mem_append_right _ (List.mem_append_right _ (List.mem_append_right _ (List.mem_append_right _ (List.mem_append_right _ (List.mem_append_right _ (List.mem_append_right _ (List.mem_append_right _ (List.mem_append_right _ (List.mem_append_left _ h))))))))))))))))))))))))
theorem wR_25 : ∀ w ∈ wsL_law_r25, w ∈ wsL_law := fun _ h => wI_in _ (List.mem_append_right _ (List.mem_append_right _ (List.mem_append_right _ (List.mem_append_right _ (List.mem_append_right _ (List.mem_append_right _ (List.mem_append_right _ (List.mem_append_right _ (List.mem_append_right _ (List.mem_append_right _ (List.mem_append_right _ (List.mem_append_right _ (List.mem_append_right _ (List.mem_append_right _ (List.mem_append_right _ (List.mem_append_right _ (List.mem_append_right _ (List.mem_append_right _ (List.mem_append_right _ (List.mem_append_right _ (List.mem_append_right _ (List.mem_append_right _ (List.mem_append_right _ (List.mem_append_right _ (List.mem_append_left _ h)))))))))))))))))))))))))
theorem wR_26 : ∀ w ∈ wsL_law_r26, w ∈ wsL_law := fun _ h => wI_in _ (List.mem_append_right _ (List.mem_append_right _ (List.mem_append_right _ (List.mem_append_right _ (List.mem_append_right _ (List.mem_append_right _ (List.mem_append_right _ (List.mem_append_right _ (List.mem_append_right _ (List.mem_append_right _ (List.mem_append_right _ (List.mem_append_right _ (List.mem_append_right _ (List.mem_append_right _ (List.mem_append_right _ (List.mem_append_right _ (List.mem_append_right _ (List.mem_append_right _ (List.mem_append_right _ (List.mem_append_right _ (List.mem_append_right _ (List.mem_append_right _ (List.mem_append_right _ (List.mem_append_right _ (List.mem_append_right _ (List.mem_append_left _ h))))))))))))))))))))))))))
theorem wR_27 : ∀ w ∈ wsL_law_r27, w ∈ wsL_law := fun _ h => wI_in _ (List.mem_append_right _ (List.mem_append_right _ (List.mem_append_right _ (List.mem_append_right _ (List.mem_append_right _ (List.mem_append_right _ (List.mem_append_right _ (List.mem_append_right _ (List.mem_append_right _ (List.mem_append_right _ (List.mem_append_right _ (List.mem_append_right _ (List.mem_append_right _ (List.mem_append_right _ (List.mem_append_right _ (List.mem_append_right _ (List.mem_append_right _ (List.mem_append_right _ (List.mem_append_right _ (List.mem_append_right _ (List.mem_append_right _ (List.mem_append_right _ (List.mem_append_right _ (List.mem_append_right _ (List.mem_append_right _ (List.mem_append_right _ (List.mem_append_left _ h)))))))))))))))))))))))))))
theorem wR_28 : ∀ w ∈ wsL_law_r28, w ∈ wsL_law := fun _ h => wI_in _ (List.mem_append_right _ (List.mem_append_right _ (List.mem_append_right _ (List.mem_append_right _ (List.mem_append_right _ (List.mem_append_right _ (List.mem_append_right _ (List.mem_append_right _ (List.mem_append_right _ (List.mem_append_right _ (List.mem_append_right _ (List.mem_append_right _ (List.mem_append_right _ (List.mem_append_right _ (List.mem_append_right _ (List.mem_append_right _ (List.mem_append_right _ (List.mem_append_right _ (List.mem_append_right _ (List.mem_append_right _ (List.mem_append_right _ (List.mem_append_right _ (List.mem_append_right _ (List.mem_append_right _ (List.mem_append_right _ (List.mem_append_right _ (List.mem_append_right _ (List.mem_append_left _ h))))))))))))))))))))))))))))
theorem wR_29 : ∀ w ∈ wsL_law_r29, w ∈ wsL_law := fun _ h => wI_in _ (List.mem_append_right _ (List.mem_append_right _ (List.mem_append_right _ (List.mem_append_right _ (List.mem_append_right _ (List.mem_append_right _ (List.mem_append_right _ (List.mem_append_right _ (List.mem_append_right _ (List.mem_append_right _ (List.mem_append_right _ (List.mem_append_right _ (List.mem_append_right _ (List.mem_append_right _ (List.mem_append_right _ (List.mem_append_right _ (List.mem_append_right _ (List.mem_append_right _ (List.mem_append_right _ (List.mem_append_right _ (List.mem_append_right _ (List.mem_append_right _ (List.mem_append_right _ (List.mem_append_right _ (List.mem_append_right _ (List.mem_append_right _ (List.mem_append_right _ (List.mem_append_right _ (List.mem_append_left _ h)))))))))))))))))))))))))))))
theorem wR_30 : ∀ w ∈ wsL_law_r30, w ∈ wsL_law := fun _ h => wI_in _ (List.mem_append_right _ (List.mem_append_right _ (List.mem_append_right _ (List.mem_append_right _ (List.mem_append_right _ (List.mem_append_right _ (List.mem_append_right _ (List.mem_append_right _ (List.mem_append_right _ (List.mem_append_right _ (List.mem_append_right _ (List.mem_append_right _ (List.mem_append_right _ (List.mem_append_right _ (List.mem_append_right _ (List.mem_append_right _ (List.mem_append_right _ (List.mem_append_right _ (List.mem_append_right _ (List.mem_append_right _ (List.mem_append_right _ (List.mem_append_right _ (List.mem_append_right _ (List.mem_append_right _ (List.mem_append_right _ (List.mem_append_right _ (List.mem_append_right _ (List.mem_append_right _ (List.mem_append_right _ (List.mem_append_left _ h))))))))))))))))))))))))))))))
theorem wR_31 : ∀ w ∈ wsL_law_r31, w ∈ wsL_law := fun _ h => wI_in _ (List.mem_append_right _ (List.mem_append_right _ (List.mem_append_right _ (List.mem_append_right _ (List.mem_append_right _ (List.mem_append_right _ (List.mem_append_right _ (List.mem_append_right _ (List.mem_append_right _ (List.mem_append_right _ (List.mem_append_right _ (List.mem_append_right _ (List.mem_append_right _ (List.mem_append_right _ (List.mem_append_right _ (List.mem_append_right _ (List.mem_append_right _ (List.mem_append_right _ (List.mem_append_right _ (List.mem_append_right _ (List.mem_append_right _ (List.mem_append_right _ (List.mem_append_right _ (List.mem_append_right _ (List.mem_append_right _ (List.mem_append_right _ (List.mem_append_right _ (List.mem_append_right _ (List.mem_append_right _ (List.mem_append_right _ (List.mem_append_left _ h)))))))))))))))))))))))))))))))
theorem wR_32 : ∀ w ∈ wsL_law_r32, w ∈ wsL_law := fun _ h => wI_in _ (List.mem_append_right _ (List.mem_append_right _ (List.mem_append_right _ (List.mem_append_right _ (List.mem_append_right _ (List.mem_append_right _ (List.mem_append_right _ (List.mem_append_right _ (List.mem_append_right _ (List.mem_append_right _ (List.mem_append_right _ (List.mem_append_right _ (List.mem_append_right _ (List.mem_append_right _ (List.mem_append_right _ (List.mem_append_right _ (List.mem_append_right _ (List.mem_append_right _ (List.mem_append_right _ (List.mem_append_right _ (List.mem_append_right _ (List.mem_append_right _ (List.mem_append_right _ (List.mem_append_right _ (List.mem_append_right _ (List.mem_append_right _ (List.mem_append_right _ (List.mem_append_right _ (List.mem_append_right _ (List.mem_append_right _ (List.mem_append_right _ (h))))))))))))))))))))))))))))))))
theorem u_1_0 : Cond.classLink RL 7 RX3 ∈ wsL_law := wR_1 _ (List.mem_of_getElem? (i := 0) rfl)
theorem u_1_1 : Cond.instantiable RX3 11 ∈ wsL_law := wR_1 _ (List.mem_of_getElem? (i := 1) rfl)
theorem u_1_2 : Cond.initialized RX3 ∈ wsL_law := wR_1 _ (List.mem_of_getElem? (i := 2) rfl)
theorem u_1_3 : Cond.classLink RL 10 RX4 ∈ wsL_law := wR_1 _ (List.mem_of_getElem? (i := 3) rfl)
theorem u_1_4 : Cond.instantiable RX4 21 ∈ wsL_law := wR_1 _ (List.mem_of_getElem? (i := 4) rfl)
theorem u_1_5 : Cond.initialized RX4 ∈ wsL_law := wR_1 _ (List.mem_of_getElem? (i := 5) rfl)
theorem u_1_6 : Cond.constantLong RL 98 (4294967295) ∈ wsL_law := wR_1 _ (List.mem_of_getElem? (i := 6) rfl)
theorem u_1_7 : Cond.methodLink RL 9 yX3_init ∈ wsL_law := wR_1 _ (List.mem_of_getElem? (i := 7) rfl)
theorem u_1_8 : Cond.instanceMethod yX3_init ∈ wsL_law := wR_1 _ (List.mem_of_getElem? (i := 8) rfl)
theorem u_1_9 : Cond.code yX3_init cX3_init 1 none ∈ wsL_law := wR_1 _ (List.mem_of_getElem? (i := 9) rfl)
theorem u_1_10 : Cond.methodLink RX3 3 objectInit ∈ wsL_law := wR_1 _ (List.mem_of_getElem? (i := 10) rfl)
theorem u_1_11 : Cond.instanceMethod objectInit ∈ wsL_law := wR_1 _ (List.mem_of_getElem? (i := 11) rfl)
theorem u_1_12 : Cond.code objectInit ⟨#[0xb1]⟩ 1 none ∈ wsL_law := wR_1 _ (List.mem_of_getElem? (i := 12) rfl)
theorem u_1_13 : Cond.classLink RX3 9 RX1 ∈ wsL_law := wR_1 _ (List.mem_of_getElem? (i := 13) rfl)
theorem u_1_14 : Cond.instantiable RX1 4 ∈ wsL_law := wR_1 _ (List.mem_of_getElem? (i := 14) rfl)
theorem u_1_15 : Cond.initialized RX1 ∈ wsL_law := wR_1 _ (List.mem_of_getElem? (i := 15) rfl)
theorem u_1_16 : Cond.fieldLink RX3 14 "RangePapers" "papers" "LRangePapers$Rows;" ∈ wsL_law := wR_1 _ (List.mem_of_getElem? (i := 16) rfl)
theorem u_1_17 : Cond.classLink RX3 18 RX0 ∈ wsL_law := wR_1 _ (List.mem_of_getElem? (i := 17) rfl)
theorem u_1_18 : Cond.instantiable RX0 6 ∈ wsL_law := wR_1 _ (List.mem_of_getElem? (i := 18) rfl)
theorem u_1_19 : Cond.initialized RX0 ∈ wsL_law := wR_1 _ (List.mem_of_getElem? (i := 19) rfl)
theorem u_1_20 : Cond.fieldLink RX3 23 "RangePapers" "now" "LRangePapers$Books;" ∈ wsL_law := wR_1 _ (List.mem_of_getElem? (i := 20) rfl)
theorem u_1_21 : Cond.fieldLink RX3 27 "RangePapers" "trial" "LRangePapers$Books;" ∈ wsL_law := wR_1 _ (List.mem_of_getElem? (i := 21) rfl)
theorem u_1_22 : Cond.fieldLink RX3 30 "RangePapers" "firstSlot" "LRangePapers$Books;" ∈ wsL_law := wR_1 _ (List.mem_of_getElem? (i := 22) rfl)
theorem u_1_23 : Cond.fieldLink RX3 33 "RangePapers" "secondSlot" "LRangePapers$Books;" ∈ wsL_law := wR_1 _ (List.mem_of_getElem? (i := 23) rfl)
theorem u_2_0 : Cond.fieldLink RX3 36 "RangePapers" "acts" "LRangePapers$Rows;" ∈ wsL_law := wR_2 _ (List.mem_of_getElem? (i := 0) rfl)
theorem u_2_1 : Cond.fieldLink RX3 39 "RangePapers" "seen" "LRangePapers$Rows;" ∈ wsL_law := wR_2 _ (List.mem_of_getElem? (i := 1) rfl)
theorem u_2_2 : Cond.classLink RX3 42 RX2 ∈ wsL_law := wR_2 _ (List.mem_of_getElem? (i := 2) rfl)
theorem u_2_3 : Cond.instantiable RX2 7 ∈ wsL_law := wR_2 _ (List.mem_of_getElem? (i := 3) rfl)
theorem u_2_4 : Cond.initialized RX2 ∈ wsL_law := wR_2 _ (List.mem_of_getElem? (i := 4) rfl)
theorem u_2_5 : Cond.fieldLink RX3 45 "RangePapers" "text" "LRangePapers$Text;" ∈ wsL_law := wR_2 _ (List.mem_of_getElem? (i := 5) rfl)
theorem u_2_6 : Cond.arrayClass .int ∈ wsL_law := wR_2 _ (List.mem_of_getElem? (i := 6) rfl)
theorem u_2_7 : Cond.fieldLink RX3 49 "RangePapers" "doings" "[I" ∈ wsL_law := wR_2 _ (List.mem_of_getElem? (i := 7) rfl)
theorem u_2_8 : Cond.methodLink RX3 11 yX1_init ∈ wsL_law := wR_2 _ (List.mem_of_getElem? (i := 8) rfl)
theorem u_2_9 : Cond.instanceMethod yX1_init ∈ wsL_law := wR_2 _ (List.mem_of_getElem? (i := 9) rfl)
theorem u_2_10 : Cond.code yX1_init cX1_init 3 none ∈ wsL_law := wR_2 _ (List.mem_of_getElem? (i := 10) rfl)
theorem u_2_11 : Cond.methodLink RX1 3 objectInit ∈ wsL_law := wR_2 _ (List.mem_of_getElem? (i := 11) rfl)
theorem u_2_12 : Cond.methodLink RX1 9 Lib.Math.max.name ∈ wsL_law := wR_2 _ (List.mem_of_getElem? (i := 12) rfl)
theorem u_2_13 : Cond.static Lib.Math.max.name ∈ wsL_law := wR_2 _ (List.mem_of_getElem? (i := 13) rfl)
theorem u_2_14 : Cond.initialized "java/lang/Math" ∈ wsL_law := wR_2 _ (List.mem_of_getElem? (i := 14) rfl)
theorem u_2_15 : Cond.code Lib.Math.max.name Lib.Math.max.code 2 (some .int) ∈ wsL_law := wR_2 _ (List.mem_of_getElem? (i := 15) rfl)
theorem u_2_16 : Cond.fieldLink RX1 15 "RangePapers$Rows" "limit" "I" ∈ wsL_law := wR_2 _ (List.mem_of_getElem? (i := 16) rfl)
theorem u_2_17 : Cond.fieldLink RX1 21 "RangePapers$Rows" "width" "I" ∈ wsL_law := wR_2 _ (List.mem_of_getElem? (i := 17) rfl)
theorem u_2_18 : Cond.fieldLink RX1 24 "RangePapers$Rows" "cells" "[I" ∈ wsL_law := wR_2 _ (List.mem_of_getElem? (i := 18) rfl)
theorem u_2_19 : Cond.methodLink RX3 20 yX0_init ∈ wsL_law := wR_2 _ (List.mem_of_getElem? (i := 19) rfl)
theorem u_2_20 : Cond.instanceMethod yX0_init ∈ wsL_law := wR_2 _ (List.mem_of_getElem? (i := 20) rfl)
theorem u_2_21 : Cond.code yX0_init cX0_init 2 none ∈ wsL_law := wR_2 _ (List.mem_of_getElem? (i := 21) rfl)
theorem u_2_22 : Cond.methodLink RX0 3 objectInit ∈ wsL_law := wR_2 _ (List.mem_of_getElem? (i := 22) rfl)
theorem u_2_23 : Cond.classLink RX0 9 RX1 ∈ wsL_law := wR_2 _ (List.mem_of_getElem? (i := 23) rfl)
theorem u_3_0 : Cond.fieldLink RX0 14 "RangePapers$Books" "grants" "LRangePapers$Rows;" ∈ wsL_law := wR_3 _ (List.mem_of_getElem? (i := 0) rfl)
theorem u_3_1 : Cond.fieldLink RX0 20 "RangePapers$Books" "routes" "LRangePapers$Rows;" ∈ wsL_law := wR_3 _ (List.mem_of_getElem? (i := 1) rfl)
theorem u_3_2 : Cond.fieldLink RX0 23 "RangePapers$Books" "papers" "LRangePapers$Rows;" ∈ wsL_law := wR_3 _ (List.mem_of_getElem? (i := 2) rfl)
theorem u_3_3 : Cond.methodLink RX0 11 yX1_init ∈ wsL_law := wR_3 _ (List.mem_of_getElem? (i := 3) rfl)
theorem u_3_4 : Cond.instanceMethod yX2_init ∈ wsL_law := wR_3 _ (List.mem_of_getElem? (i := 4) rfl)
theorem u_3_5 : Cond.code yX2_init cX2_init 1 none ∈ wsL_law := wR_3 _ (List.mem_of_getElem? (i := 5) rfl)
theorem u_3_6 : Cond.methodLink RX2 3 objectInit ∈ wsL_law := wR_3 _ (List.mem_of_getElem? (i := 6) rfl)
theorem u_3_7 : Cond.arrayClass .char ∈ wsL_law := wR_3 _ (List.mem_of_getElem? (i := 7) rfl)
theorem u_3_8 : Cond.fieldLink RX2 9 "RangePapers$Text" "letters" "[C" ∈ wsL_law := wR_3 _ (List.mem_of_getElem? (i := 8) rfl)
theorem u_3_9 : Cond.classLink RX2 15 RX1 ∈ wsL_law := wR_3 _ (List.mem_of_getElem? (i := 9) rfl)
theorem u_3_10 : Cond.fieldLink RX2 20 "RangePapers$Text" "papers" "LRangePapers$Rows;" ∈ wsL_law := wR_3 _ (List.mem_of_getElem? (i := 10) rfl)
theorem u_3_11 : Cond.fieldLink RX2 24 "RangePapers$Text" "grants" "LRangePapers$Rows;" ∈ wsL_law := wR_3 _ (List.mem_of_getElem? (i := 11) rfl)
theorem u_3_12 : Cond.fieldLink RX2 27 "RangePapers$Text" "routes" "LRangePapers$Rows;" ∈ wsL_law := wR_3 _ (List.mem_of_getElem? (i := 12) rfl)
theorem u_3_13 : Cond.methodLink RX2 17 yX1_init ∈ wsL_law := wR_3 _ (List.mem_of_getElem? (i := 13) rfl)
theorem u_3_14 : Cond.methodLink RX3 53 yX1_addRange ∈ wsL_law := wR_3 _ (List.mem_of_getElem? (i := 14) rfl)
theorem u_3_15 : Cond.instanceMethod yX1_addRange ∈ wsL_law := wR_3 _ (List.mem_of_getElem? (i := 15) rfl)
theorem u_3_16 : Cond.selects RX1 yX1_addRange yX1_addRange ∈ wsL_law := wR_3 _ (List.mem_of_getElem? (i := 16) rfl)
theorem u_3_17 : Cond.code yX1_addRange cX1_addRange 7 (some .int) ∈ wsL_law := wR_3 _ (List.mem_of_getElem? (i := 17) rfl)
theorem u_3_18 : Cond.fieldLink RX1 28 "RangePapers$Rows" "count" "I" ∈ wsL_law := wR_3 _ (List.mem_of_getElem? (i := 18) rfl)
theorem u_3_19 : Cond.methodLink RX1 31 yX1_openAt ∈ wsL_law := wR_3 _ (List.mem_of_getElem? (i := 19) rfl)
theorem u_3_20 : Cond.instanceMethod yX1_openAt ∈ wsL_law := wR_3 _ (List.mem_of_getElem? (i := 20) rfl)
theorem u_3_21 : Cond.selects RX1 yX1_openAt yX1_openAt ∈ wsL_law := wR_3 _ (List.mem_of_getElem? (i := 21) rfl)
theorem u_3_22 : Cond.code yX1_openAt cX1_openAt 2 none ∈ wsL_law := wR_3 _ (List.mem_of_getElem? (i := 22) rfl)
theorem u_3_23 : Cond.methodLink RX1 42 arraycopyName ∈ wsL_law := wR_3 _ (List.mem_of_getElem? (i := 23) rfl)
theorem u_4_0 : Cond.native arraycopyName ∈ wsL_law := wR_4 _ (List.mem_of_getElem? (i := 0) rfl)
theorem u_4_1 : Cond.static arraycopyName ∈ wsL_law := wR_4 _ (List.mem_of_getElem? (i := 1) rfl)
theorem u_4_2 : Cond.initialized "java/lang/System" ∈ wsL_law := wR_4 _ (List.mem_of_getElem? (i := 2) rfl)
theorem u_4_3 : Cond.methodLink RX1 35 yX1_put ∈ wsL_law := wR_4 _ (List.mem_of_getElem? (i := 3) rfl)
theorem u_4_4 : Cond.instanceMethod yX1_put ∈ wsL_law := wR_4 _ (List.mem_of_getElem? (i := 4) rfl)
theorem u_4_5 : Cond.selects RX1 yX1_put yX1_put ∈ wsL_law := wR_4 _ (List.mem_of_getElem? (i := 5) rfl)
theorem u_4_6 : Cond.code yX1_put cX1_put 4 none ∈ wsL_law := wR_4 _ (List.mem_of_getElem? (i := 6) rfl)
theorem u_4_7 : Cond.static yX3_coverOf ∈ wsL_law := wR_4 _ (List.mem_of_getElem? (i := 7) rfl)
theorem u_4_8 : Cond.code yX3_coverOf cX3_coverOf 2 (some .int) ∈ wsL_law := wR_4 _ (List.mem_of_getElem? (i := 8) rfl)
theorem u_4_9 : Cond.methodLink RL 12 yX4_init ∈ wsL_law := wR_4 _ (List.mem_of_getElem? (i := 9) rfl)
theorem u_4_10 : Cond.instanceMethod yX4_init ∈ wsL_law := wR_4 _ (List.mem_of_getElem? (i := 10) rfl)
theorem u_4_11 : Cond.code yX4_init cX4_init 1 none ∈ wsL_law := wR_4 _ (List.mem_of_getElem? (i := 11) rfl)
theorem u_4_12 : Cond.methodLink RX4 1 objectInit ∈ wsL_law := wR_4 _ (List.mem_of_getElem? (i := 12) rfl)
theorem u_4_13 : Cond.fieldLink RX4 7 "RangePapersModel" "text" "[I" ∈ wsL_law := wR_4 _ (List.mem_of_getElem? (i := 13) rfl)
theorem u_4_14 : Cond.fieldLink RX4 13 "RangePapersModel" "paper" "[I" ∈ wsL_law := wR_4 _ (List.mem_of_getElem? (i := 14) rfl)
theorem u_4_15 : Cond.fieldLink RX4 16 "RangePapersModel" "now" "[I" ∈ wsL_law := wR_4 _ (List.mem_of_getElem? (i := 15) rfl)
theorem u_4_16 : Cond.fieldLink RX4 19 "RangePapersModel" "trial" "[I" ∈ wsL_law := wR_4 _ (List.mem_of_getElem? (i := 16) rfl)
theorem u_4_17 : Cond.fieldLink RX4 22 "RangePapersModel" "diary" "[I" ∈ wsL_law := wR_4 _ (List.mem_of_getElem? (i := 17) rfl)
theorem u_4_18 : Cond.fieldLink RX4 25 "RangePapersModel" "kept" "[I" ∈ wsL_law := wR_4 _ (List.mem_of_getElem? (i := 18) rfl)
theorem u_4_19 : Cond.arrayClass .boolean ∈ wsL_law := wR_4 _ (List.mem_of_getElem? (i := 19) rfl)
theorem u_4_20 : Cond.fieldLink RX4 28 "RangePapersModel" "isKept" "[Z" ∈ wsL_law := wR_4 _ (List.mem_of_getElem? (i := 20) rfl)
theorem u_4_21 : Cond.fieldLink RX4 32 "RangePapersModel" "seenAt" "[I" ∈ wsL_law := wR_4 _ (List.mem_of_getElem? (i := 21) rfl)
theorem u_4_22 : Cond.fieldLink RX4 35 "RangePapersModel" "worth" "[I" ∈ wsL_law := wR_4 _ (List.mem_of_getElem? (i := 22) rfl)
theorem u_4_23 : Cond.fieldLink RX4 38 "RangePapersModel" "readPaper" "[I" ∈ wsL_law := wR_4 _ (List.mem_of_getElem? (i := 23) rfl)
theorem u_5_0 : Cond.fieldLink RX4 41 "RangePapersModel" "read" "[I" ∈ wsL_law := wR_5 _ (List.mem_of_getElem? (i := 0) rfl)
theorem u_5_1 : Cond.fieldLink RX4 44 "RangePapersModel" "papers" "I" ∈ wsL_law := wR_5 _ (List.mem_of_getElem? (i := 1) rfl)
theorem u_5_2 : Cond.methodLink RL 13 yX3_write ∈ wsL_law := wR_5 _ (List.mem_of_getElem? (i := 2) rfl)
theorem u_5_3 : Cond.instanceMethod yX3_write ∈ wsL_law := wR_5 _ (List.mem_of_getElem? (i := 3) rfl)
theorem u_5_4 : Cond.selects RX3 yX3_write yX3_write ∈ wsL_law := wR_5 _ (List.mem_of_getElem? (i := 4) rfl)
theorem u_5_5 : Cond.code yX3_write cX3_write 2 (some .int) ∈ wsL_law := wR_5 _ (List.mem_of_getElem? (i := 5) rfl)
theorem u_5_6 : Cond.fieldLink RX3 57 "RangePapers$Text" "length" "I" ∈ wsL_law := wR_5 _ (List.mem_of_getElem? (i := 6) rfl)
theorem u_5_7 : Cond.methodLink RX3 61 yX2_append ∈ wsL_law := wR_5 _ (List.mem_of_getElem? (i := 7) rfl)
theorem u_5_8 : Cond.instanceMethod yX2_append ∈ wsL_law := wR_5 _ (List.mem_of_getElem? (i := 8) rfl)
theorem u_5_9 : Cond.selects RX2 yX2_append yX2_append ∈ wsL_law := wR_5 _ (List.mem_of_getElem? (i := 9) rfl)
theorem u_5_10 : Cond.code yX2_append cX2_append 2 none ∈ wsL_law := wR_5 _ (List.mem_of_getElem? (i := 10) rfl)
theorem u_5_11 : Cond.fieldLink RX2 30 "RangePapers$Text" "length" "I" ∈ wsL_law := wR_5 _ (List.mem_of_getElem? (i := 11) rfl)
theorem u_5_12 : Cond.methodLink RL 17 yX4_write ∈ wsL_law := wR_5 _ (List.mem_of_getElem? (i := 12) rfl)
theorem u_5_13 : Cond.instanceMethod yX4_write ∈ wsL_law := wR_5 _ (List.mem_of_getElem? (i := 13) rfl)
theorem u_5_14 : Cond.selects RX4 yX4_write yX4_write ∈ wsL_law := wR_5 _ (List.mem_of_getElem? (i := 14) rfl)
theorem u_5_15 : Cond.code yX4_write cX4_write 2 (some .int) ∈ wsL_law := wR_5 _ (List.mem_of_getElem? (i := 15) rfl)
theorem u_5_16 : Cond.constantLong RX4 60 (255) ∈ wsL_law := wR_5 _ (List.mem_of_getElem? (i := 16) rfl)
theorem u_5_17 : Cond.fieldLink RX4 62 "RangePapersModel" "length" "I" ∈ wsL_law := wR_5 _ (List.mem_of_getElem? (i := 17) rfl)
theorem u_5_18 : Cond.methodLink RX4 50 yX4_in ∈ wsL_law := wR_5 _ (List.mem_of_getElem? (i := 18) rfl)
theorem u_5_19 : Cond.static yX4_in ∈ wsL_law := wR_5 _ (List.mem_of_getElem? (i := 19) rfl)
theorem u_5_20 : Cond.code yX4_in cX4_in 6 (some .boolean) ∈ wsL_law := wR_5 _ (List.mem_of_getElem? (i := 20) rfl)
theorem u_5_21 : Cond.methodLink RL 18 yX3_wipe ∈ wsL_law := wR_5 _ (List.mem_of_getElem? (i := 21) rfl)
theorem u_5_22 : Cond.instanceMethod yX3_wipe ∈ wsL_law := wR_5 _ (List.mem_of_getElem? (i := 22) rfl)
theorem u_5_23 : Cond.selects RX3 yX3_wipe yX3_wipe ∈ wsL_law := wR_5 _ (List.mem_of_getElem? (i := 23) rfl)
theorem u_6_0 : Cond.code yX3_wipe cX3_wipe 2 (some .int) ∈ wsL_law := wR_6 _ (List.mem_of_getElem? (i := 0) rfl)
theorem u_6_1 : Cond.methodLink RL 22 yX4_wipe ∈ wsL_law := wR_6 _ (List.mem_of_getElem? (i := 1) rfl)
theorem u_6_2 : Cond.instanceMethod yX4_wipe ∈ wsL_law := wR_6 _ (List.mem_of_getElem? (i := 2) rfl)
theorem u_6_3 : Cond.selects RX4 yX4_wipe yX4_wipe ∈ wsL_law := wR_6 _ (List.mem_of_getElem? (i := 3) rfl)
theorem u_6_4 : Cond.code yX4_wipe cX4_wipe 2 (some .int) ∈ wsL_law := wR_6 _ (List.mem_of_getElem? (i := 4) rfl)
theorem u_6_5 : Cond.methodLink RL 23 yX3_fault ∈ wsL_law := wR_6 _ (List.mem_of_getElem? (i := 5) rfl)
theorem u_6_6 : Cond.instanceMethod yX3_fault ∈ wsL_law := wR_6 _ (List.mem_of_getElem? (i := 6) rfl)
theorem u_6_7 : Cond.selects RX3 yX3_fault yX3_fault ∈ wsL_law := wR_6 _ (List.mem_of_getElem? (i := 7) rfl)
theorem u_6_8 : Cond.code yX3_fault cX3_fault 1 (some .int) ∈ wsL_law := wR_6 _ (List.mem_of_getElem? (i := 8) rfl)
theorem u_6_9 : Cond.methodLink RX3 65 yX2_readAll ∈ wsL_law := wR_6 _ (List.mem_of_getElem? (i := 9) rfl)
theorem u_6_10 : Cond.instanceMethod yX2_readAll ∈ wsL_law := wR_6 _ (List.mem_of_getElem? (i := 10) rfl)
theorem u_6_11 : Cond.selects RX2 yX2_readAll yX2_readAll ∈ wsL_law := wR_6 _ (List.mem_of_getElem? (i := 11) rfl)
theorem u_6_12 : Cond.code yX2_readAll cX2_readAll 2 (some .int) ∈ wsL_law := wR_6 _ (List.mem_of_getElem? (i := 12) rfl)
theorem u_6_13 : Cond.fieldLink RX2 34 "RangePapers$Rows" "count" "I" ∈ wsL_law := wR_6 _ (List.mem_of_getElem? (i := 13) rfl)
theorem u_6_14 : Cond.fieldLink RX2 41 "RangePapers$Text" "firstFault" "I" ∈ wsL_law := wR_6 _ (List.mem_of_getElem? (i := 14) rfl)
theorem u_6_15 : Cond.fieldLink RX2 48 "RangePapers$Text" "next" "I" ∈ wsL_law := wR_6 _ (List.mem_of_getElem? (i := 15) rfl)
theorem u_6_16 : Cond.methodLink RX2 37 yX1_addRange ∈ wsL_law := wR_6 _ (List.mem_of_getElem? (i := 16) rfl)
theorem u_6_17 : Cond.methodLink RX2 44 yX2_letterAt ∈ wsL_law := wR_6 _ (List.mem_of_getElem? (i := 17) rfl)
theorem u_6_18 : Cond.instanceMethod yX2_letterAt ∈ wsL_law := wR_6 _ (List.mem_of_getElem? (i := 18) rfl)
theorem u_6_19 : Cond.selects RX2 yX2_letterAt yX2_letterAt ∈ wsL_law := wR_6 _ (List.mem_of_getElem? (i := 19) rfl)
theorem u_6_20 : Cond.code yX2_letterAt cX2_letterAt 2 (some .char) ∈ wsL_law := wR_6 _ (List.mem_of_getElem? (i := 20) rfl)
theorem u_6_21 : Cond.methodLink RX2 51 yX2_readPart ∈ wsL_law := wR_6 _ (List.mem_of_getElem? (i := 21) rfl)
theorem u_6_22 : Cond.instanceMethod yX2_readPart ∈ wsL_law := wR_6 _ (List.mem_of_getElem? (i := 22) rfl)
theorem u_6_23 : Cond.selects RX2 yX2_readPart yX2_readPart ∈ wsL_law := wR_6 _ (List.mem_of_getElem? (i := 23) rfl)
theorem u_7_0 : Cond.code yX2_readPart cX2_readPart 2 none ∈ wsL_law := wR_7 _ (List.mem_of_getElem? (i := 0) rfl)
theorem u_7_1 : Cond.methodLink RX2 54 yX2_readPaper ∈ wsL_law := wR_7 _ (List.mem_of_getElem? (i := 1) rfl)
theorem u_7_2 : Cond.instanceMethod yX2_readPaper ∈ wsL_law := wR_7 _ (List.mem_of_getElem? (i := 2) rfl)
theorem u_7_3 : Cond.selects RX2 yX2_readPaper yX2_readPaper ∈ wsL_law := wR_7 _ (List.mem_of_getElem? (i := 3) rfl)
theorem u_7_4 : Cond.code yX2_readPaper cX2_readPaper 5 none ∈ wsL_law := wR_7 _ (List.mem_of_getElem? (i := 4) rfl)
theorem u_7_5 : Cond.methodLink RX2 63 yX2_readFigure ∈ wsL_law := wR_7 _ (List.mem_of_getElem? (i := 5) rfl)
theorem u_7_6 : Cond.instanceMethod yX2_readFigure ∈ wsL_law := wR_7 _ (List.mem_of_getElem? (i := 6) rfl)
theorem u_7_7 : Cond.selects RX2 yX2_readFigure yX2_readFigure ∈ wsL_law := wR_7 _ (List.mem_of_getElem? (i := 7) rfl)
theorem u_7_8 : Cond.code yX2_readFigure cX2_readFigure 4 (some .int) ∈ wsL_law := wR_7 _ (List.mem_of_getElem? (i := 8) rfl)
theorem u_7_9 : Cond.methodLink RX2 67 yX2_readStart ∈ wsL_law := wR_7 _ (List.mem_of_getElem? (i := 9) rfl)
theorem u_7_10 : Cond.instanceMethod yX2_readStart ∈ wsL_law := wR_7 _ (List.mem_of_getElem? (i := 10) rfl)
theorem u_7_11 : Cond.selects RX2 yX2_readStart yX2_readStart ∈ wsL_law := wR_7 _ (List.mem_of_getElem? (i := 11) rfl)
theorem u_7_12 : Cond.code yX2_readStart cX2_readStart 2 (some .int) ∈ wsL_law := wR_7 _ (List.mem_of_getElem? (i := 12) rfl)
theorem u_7_13 : Cond.methodLink RX2 71 yX2_readLength ∈ wsL_law := wR_7 _ (List.mem_of_getElem? (i := 13) rfl)
theorem u_7_14 : Cond.instanceMethod yX2_readLength ∈ wsL_law := wR_7 _ (List.mem_of_getElem? (i := 14) rfl)
theorem u_7_15 : Cond.selects RX2 yX2_readLength yX2_readLength ∈ wsL_law := wR_7 _ (List.mem_of_getElem? (i := 15) rfl)
theorem u_7_16 : Cond.code yX2_readLength cX2_readLength 3 (some .int) ∈ wsL_law := wR_7 _ (List.mem_of_getElem? (i := 16) rfl)
theorem u_7_17 : Cond.static yX3_leftBySize ∈ wsL_law := wR_7 _ (List.mem_of_getElem? (i := 17) rfl)
theorem u_7_18 : Cond.code yX3_leftBySize cX3_leftBySize 2 (some .int) ∈ wsL_law := wR_7 _ (List.mem_of_getElem? (i := 18) rfl)
theorem u_7_19 : Cond.methodLink RX2 57 yX2_readGrant ∈ wsL_law := wR_7 _ (List.mem_of_getElem? (i := 19) rfl)
theorem u_7_20 : Cond.instanceMethod yX2_readGrant ∈ wsL_law := wR_7 _ (List.mem_of_getElem? (i := 20) rfl)
theorem u_7_21 : Cond.selects RX2 yX2_readGrant yX2_readGrant ∈ wsL_law := wR_7 _ (List.mem_of_getElem? (i := 21) rfl)
theorem u_7_22 : Cond.code yX2_readGrant cX2_readGrant 6 none ∈ wsL_law := wR_7 _ (List.mem_of_getElem? (i := 22) rfl)
theorem u_7_23 : Cond.methodLink RX2 75 yX2_readHolder ∈ wsL_law := wR_7 _ (List.mem_of_getElem? (i := 23) rfl)
theorem u_8_0 : Cond.instanceMethod yX2_readHolder ∈ wsL_law := wR_8 _ (List.mem_of_getElem? (i := 0) rfl)
theorem u_8_1 : Cond.selects RX2 yX2_readHolder yX2_readHolder ∈ wsL_law := wR_8 _ (List.mem_of_getElem? (i := 1) rfl)
theorem u_8_2 : Cond.code yX2_readHolder cX2_readHolder 2 (some .int) ∈ wsL_law := wR_8 _ (List.mem_of_getElem? (i := 2) rfl)
theorem u_8_3 : Cond.methodLink RX2 60 yX2_readRoute ∈ wsL_law := wR_8 _ (List.mem_of_getElem? (i := 3) rfl)
theorem u_8_4 : Cond.instanceMethod yX2_readRoute ∈ wsL_law := wR_8 _ (List.mem_of_getElem? (i := 4) rfl)
theorem u_8_5 : Cond.selects RX2 yX2_readRoute yX2_readRoute ∈ wsL_law := wR_8 _ (List.mem_of_getElem? (i := 5) rfl)
theorem u_8_6 : Cond.code yX2_readRoute cX2_readRoute 4 none ∈ wsL_law := wR_8 _ (List.mem_of_getElem? (i := 6) rfl)
theorem u_8_7 : Cond.methodLink RL 26 yX4_fault ∈ wsL_law := wR_8 _ (List.mem_of_getElem? (i := 7) rfl)
theorem u_8_8 : Cond.instanceMethod yX4_fault ∈ wsL_law := wR_8 _ (List.mem_of_getElem? (i := 8) rfl)
theorem u_8_9 : Cond.selects RX4 yX4_fault yX4_fault ∈ wsL_law := wR_8 _ (List.mem_of_getElem? (i := 9) rfl)
theorem u_8_10 : Cond.code yX4_fault cX4_fault 1 (some .int) ∈ wsL_law := wR_8 _ (List.mem_of_getElem? (i := 10) rfl)
theorem u_8_11 : Cond.methodLink RX4 109 yX4_readText ∈ wsL_law := wR_8 _ (List.mem_of_getElem? (i := 11) rfl)
theorem u_8_12 : Cond.instanceMethod yX4_readText ∈ wsL_law := wR_8 _ (List.mem_of_getElem? (i := 12) rfl)
theorem u_8_13 : Cond.selects RX4 yX4_readText yX4_readText ∈ wsL_law := wR_8 _ (List.mem_of_getElem? (i := 13) rfl)
theorem u_8_14 : Cond.code yX4_readText cX4_readText 2 (some .int) ∈ wsL_law := wR_8 _ (List.mem_of_getElem? (i := 14) rfl)
theorem u_8_15 : Cond.fieldLink RX4 82 "RangePapersModel" "readPapers" "I" ∈ wsL_law := wR_8 _ (List.mem_of_getElem? (i := 15) rfl)
theorem u_8_16 : Cond.fieldLink RX4 65 "RangePapersModel" "place" "I" ∈ wsL_law := wR_8 _ (List.mem_of_getElem? (i := 16) rfl)
theorem u_8_17 : Cond.methodLink RX4 106 yX4_readPart ∈ wsL_law := wR_8 _ (List.mem_of_getElem? (i := 17) rfl)
theorem u_8_18 : Cond.instanceMethod yX4_readPart ∈ wsL_law := wR_8 _ (List.mem_of_getElem? (i := 18) rfl)
theorem u_8_19 : Cond.selects RX4 yX4_readPart yX4_readPart ∈ wsL_law := wR_8 _ (List.mem_of_getElem? (i := 19) rfl)
theorem u_8_20 : Cond.code yX4_readPart cX4_readPart 3 (some .boolean) ∈ wsL_law := wR_8 _ (List.mem_of_getElem? (i := 20) rfl)
theorem u_8_21 : Cond.methodLink RX4 97 yX4_readOnePaper ∈ wsL_law := wR_8 _ (List.mem_of_getElem? (i := 21) rfl)
theorem u_8_22 : Cond.instanceMethod yX4_readOnePaper ∈ wsL_law := wR_8 _ (List.mem_of_getElem? (i := 22) rfl)
theorem u_8_23 : Cond.selects RX4 yX4_readOnePaper yX4_readOnePaper ∈ wsL_law := wR_8 _ (List.mem_of_getElem? (i := 23) rfl)
theorem u_9_0 : Cond.code yX4_readOnePaper cX4_readOnePaper 4 (some .boolean) ∈ wsL_law := wR_9 _ (List.mem_of_getElem? (i := 0) rfl)
theorem u_9_1 : Cond.fieldLink RX4 72 "RangePapersModel" "readStart" "I" ∈ wsL_law := wR_9 _ (List.mem_of_getElem? (i := 1) rfl)
theorem u_9_2 : Cond.fieldLink RX4 79 "RangePapersModel" "readLength" "I" ∈ wsL_law := wR_9 _ (List.mem_of_getElem? (i := 2) rfl)
theorem u_9_3 : Cond.methodLink RX4 68 yX4_figure ∈ wsL_law := wR_9 _ (List.mem_of_getElem? (i := 3) rfl)
theorem u_9_4 : Cond.instanceMethod yX4_figure ∈ wsL_law := wR_9 _ (List.mem_of_getElem? (i := 4) rfl)
theorem u_9_5 : Cond.selects RX4 yX4_figure yX4_figure ∈ wsL_law := wR_9 _ (List.mem_of_getElem? (i := 5) rfl)
theorem u_9_6 : Cond.code yX4_figure cX4_figure 4 (some .int) ∈ wsL_law := wR_9 _ (List.mem_of_getElem? (i := 6) rfl)
theorem u_9_7 : Cond.methodLink RX4 85 yX4_readRange ∈ wsL_law := wR_9 _ (List.mem_of_getElem? (i := 7) rfl)
theorem u_9_8 : Cond.instanceMethod yX4_readRange ∈ wsL_law := wR_9 _ (List.mem_of_getElem? (i := 8) rfl)
theorem u_9_9 : Cond.selects RX4 yX4_readRange yX4_readRange ∈ wsL_law := wR_9 _ (List.mem_of_getElem? (i := 9) rfl)
theorem u_9_10 : Cond.code yX4_readRange cX4_readRange 4 (some .boolean) ∈ wsL_law := wR_9 _ (List.mem_of_getElem? (i := 10) rfl)
theorem u_9_11 : Cond.methodLink RX4 75 yX4_isRange ∈ wsL_law := wR_9 _ (List.mem_of_getElem? (i := 11) rfl)
theorem u_9_12 : Cond.static yX4_isRange ∈ wsL_law := wR_9 _ (List.mem_of_getElem? (i := 12) rfl)
theorem u_9_13 : Cond.code yX4_isRange cX4_isRange 2 (some .boolean) ∈ wsL_law := wR_9 _ (List.mem_of_getElem? (i := 13) rfl)
theorem u_9_14 : Cond.constantLong RX4 48 (5) ∈ wsL_law := wR_9 _ (List.mem_of_getElem? (i := 14) rfl)
theorem u_9_15 : Cond.constantLong RX4 54 (31) ∈ wsL_law := wR_9 _ (List.mem_of_getElem? (i := 15) rfl)
theorem u_9_16 : Cond.methodLink RX4 56 yX4_sizeOf ∈ wsL_law := wR_9 _ (List.mem_of_getElem? (i := 16) rfl)
theorem u_9_17 : Cond.static yX4_sizeOf ∈ wsL_law := wR_9 _ (List.mem_of_getElem? (i := 17) rfl)
theorem u_9_18 : Cond.code yX4_sizeOf cX4_sizeOf 1 (some .int) ∈ wsL_law := wR_9 _ (List.mem_of_getElem? (i := 18) rfl)
theorem u_9_19 : Cond.methodLink RX4 100 yX4_readOneGrant ∈ wsL_law := wR_9 _ (List.mem_of_getElem? (i := 19) rfl)
theorem u_9_20 : Cond.instanceMethod yX4_readOneGrant ∈ wsL_law := wR_9 _ (List.mem_of_getElem? (i := 20) rfl)
theorem u_9_21 : Cond.selects RX4 yX4_readOneGrant yX4_readOneGrant ∈ wsL_law := wR_9 _ (List.mem_of_getElem? (i := 21) rfl)
theorem u_9_22 : Cond.code yX4_readOneGrant cX4_readOneGrant 4 (some .boolean) ∈ wsL_law := wR_9 _ (List.mem_of_getElem? (i := 22) rfl)
theorem u_9_23 : Cond.methodLink RX4 89 yX4_addGrant ∈ wsL_law := wR_9 _ (List.mem_of_getElem? (i := 23) rfl)
theorem u_10_0 : Cond.static yX4_addGrant ∈ wsL_law := wR_10 _ (List.mem_of_getElem? (i := 0) rfl)
theorem u_10_1 : Cond.code yX4_addGrant cX4_addGrant 7 none ∈ wsL_law := wR_10 _ (List.mem_of_getElem? (i := 1) rfl)
theorem u_10_2 : Cond.methodLink RX4 103 yX4_readOneRoute ∈ wsL_law := wR_10 _ (List.mem_of_getElem? (i := 2) rfl)
theorem u_10_3 : Cond.instanceMethod yX4_readOneRoute ∈ wsL_law := wR_10 _ (List.mem_of_getElem? (i := 3) rfl)
theorem u_10_4 : Cond.selects RX4 yX4_readOneRoute yX4_readOneRoute ∈ wsL_law := wR_10 _ (List.mem_of_getElem? (i := 4) rfl)
theorem u_10_5 : Cond.code yX4_readOneRoute cX4_readOneRoute 2 (some .boolean) ∈ wsL_law := wR_10 _ (List.mem_of_getElem? (i := 5) rfl)
theorem u_10_6 : Cond.methodLink RX4 93 yX4_addRoute ∈ wsL_law := wR_10 _ (List.mem_of_getElem? (i := 6) rfl)
theorem u_10_7 : Cond.static yX4_addRoute ∈ wsL_law := wR_10 _ (List.mem_of_getElem? (i := 7) rfl)
theorem u_10_8 : Cond.code yX4_addRoute cX4_addRoute 5 none ∈ wsL_law := wR_10 _ (List.mem_of_getElem? (i := 8) rfl)
theorem u_10_9 : Cond.methodLink RL 27 yX3_tree ∈ wsL_law := wR_10 _ (List.mem_of_getElem? (i := 9) rfl)
theorem u_10_10 : Cond.instanceMethod yX3_tree ∈ wsL_law := wR_10 _ (List.mem_of_getElem? (i := 10) rfl)
theorem u_10_11 : Cond.selects RX3 yX3_tree yX3_tree ∈ wsL_law := wR_10 _ (List.mem_of_getElem? (i := 11) rfl)
theorem u_10_12 : Cond.code yX3_tree cX3_tree 1 (some .int) ∈ wsL_law := wR_10 _ (List.mem_of_getElem? (i := 12) rfl)
theorem u_10_13 : Cond.fieldLink RX3 69 "RangePapers$Text" "papers" "LRangePapers$Rows;" ∈ wsL_law := wR_10 _ (List.mem_of_getElem? (i := 13) rfl)
theorem u_10_14 : Cond.fieldLink RX3 73 "RangePapers$Text" "grants" "LRangePapers$Rows;" ∈ wsL_law := wR_10 _ (List.mem_of_getElem? (i := 14) rfl)
theorem u_10_15 : Cond.fieldLink RX3 76 "RangePapers$Text" "routes" "LRangePapers$Rows;" ∈ wsL_law := wR_10 _ (List.mem_of_getElem? (i := 15) rfl)
theorem u_10_16 : Cond.fieldLink RX3 83 "RangePapers$Rows" "count" "I" ∈ wsL_law := wR_10 _ (List.mem_of_getElem? (i := 16) rfl)
theorem u_10_17 : Cond.fieldLink RX3 86 "RangePapers" "keptSlots" "I" ∈ wsL_law := wR_10 _ (List.mem_of_getElem? (i := 17) rfl)
theorem u_10_18 : Cond.methodLink RX3 70 yX1_copyFrom ∈ wsL_law := wR_10 _ (List.mem_of_getElem? (i := 18) rfl)
theorem u_10_19 : Cond.instanceMethod yX1_copyFrom ∈ wsL_law := wR_10 _ (List.mem_of_getElem? (i := 19) rfl)
theorem u_10_20 : Cond.selects RX1 yX1_copyFrom yX1_copyFrom ∈ wsL_law := wR_10 _ (List.mem_of_getElem? (i := 20) rfl)
theorem u_10_21 : Cond.code yX1_copyFrom cX1_copyFrom 2 none ∈ wsL_law := wR_10 _ (List.mem_of_getElem? (i := 21) rfl)
theorem u_10_22 : Cond.methodLink RX3 79 yX0_begin ∈ wsL_law := wR_10 _ (List.mem_of_getElem? (i := 22) rfl)
theorem u_10_23 : Cond.instanceMethod yX0_begin ∈ wsL_law := wR_10 _ (List.mem_of_getElem? (i := 23) rfl)
theorem u_11_0 : Cond.selects RX0 yX0_begin yX0_begin ∈ wsL_law := wR_11 _ (List.mem_of_getElem? (i := 0) rfl)
theorem u_11_1 : Cond.code yX0_begin cX0_begin 3 none ∈ wsL_law := wR_11 _ (List.mem_of_getElem? (i := 1) rfl)
theorem u_11_2 : Cond.fieldLink RX0 30 "RangePapers$Books" "revoked" "I" ∈ wsL_law := wR_11 _ (List.mem_of_getElem? (i := 2) rfl)
theorem u_11_3 : Cond.fieldLink RX0 34 "RangePapers$Books" "aside" "I" ∈ wsL_law := wR_11 _ (List.mem_of_getElem? (i := 3) rfl)
theorem u_11_4 : Cond.fieldLink RX0 37 "RangePapers$Books" "day" "I" ∈ wsL_law := wR_11 _ (List.mem_of_getElem? (i := 4) rfl)
theorem u_11_5 : Cond.methodLink RX0 26 yX1_copyFrom ∈ wsL_law := wR_11 _ (List.mem_of_getElem? (i := 5) rfl)
theorem u_11_6 : Cond.methodLink RL 30 yX4_tree ∈ wsL_law := wR_11 _ (List.mem_of_getElem? (i := 6) rfl)
theorem u_11_7 : Cond.instanceMethod yX4_tree ∈ wsL_law := wR_11 _ (List.mem_of_getElem? (i := 7) rfl)
theorem u_11_8 : Cond.selects RX4 yX4_tree yX4_tree ∈ wsL_law := wR_11 _ (List.mem_of_getElem? (i := 8) rfl)
theorem u_11_9 : Cond.code yX4_tree cX4_tree 2 (some .int) ∈ wsL_law := wR_11 _ (List.mem_of_getElem? (i := 9) rfl)
theorem u_11_10 : Cond.fieldLink RX4 117 "RangePapersModel" "acts" "I" ∈ wsL_law := wR_11 _ (List.mem_of_getElem? (i := 10) rfl)
theorem u_11_11 : Cond.methodLink RX4 113 yX4_copy ∈ wsL_law := wR_11 _ (List.mem_of_getElem? (i := 11) rfl)
theorem u_11_12 : Cond.static yX4_copy ∈ wsL_law := wR_11 _ (List.mem_of_getElem? (i := 12) rfl)
theorem u_11_13 : Cond.code yX4_copy cX4_copy 3 none ∈ wsL_law := wR_11 _ (List.mem_of_getElem? (i := 13) rfl)
theorem u_11_14 : Cond.methodLink RL 31 yX3_about ∈ wsL_law := wR_11 _ (List.mem_of_getElem? (i := 14) rfl)
theorem u_11_15 : Cond.instanceMethod yX3_about ∈ wsL_law := wR_11 _ (List.mem_of_getElem? (i := 15) rfl)
theorem u_11_16 : Cond.selects RX3 yX3_about yX3_about ∈ wsL_law := wR_11 _ (List.mem_of_getElem? (i := 16) rfl)
theorem u_11_17 : Cond.code yX3_about cX3_about 2 (some .int) ∈ wsL_law := wR_11 _ (List.mem_of_getElem? (i := 17) rfl)
theorem u_11_18 : Cond.fieldLink RX3 89 "RangePapers$Books" "grants" "LRangePapers$Rows;" ∈ wsL_law := wR_11 _ (List.mem_of_getElem? (i := 18) rfl)
theorem u_11_19 : Cond.fieldLink RX3 90 "RangePapers$Books" "routes" "LRangePapers$Rows;" ∈ wsL_law := wR_11 _ (List.mem_of_getElem? (i := 19) rfl)
theorem u_11_20 : Cond.fieldLink RX3 91 "RangePapers$Books" "day" "I" ∈ wsL_law := wR_11 _ (List.mem_of_getElem? (i := 20) rfl)
theorem u_11_21 : Cond.fieldLink RX3 94 "RangePapers$Books" "revoked" "I" ∈ wsL_law := wR_11 _ (List.mem_of_getElem? (i := 21) rfl)
theorem u_11_22 : Cond.fieldLink RX3 101 "RangePapers$Books" "aside" "I" ∈ wsL_law := wR_11 _ (List.mem_of_getElem? (i := 22) rfl)
theorem u_11_23 : Cond.methodLink RX3 97 yX0_standing ∈ wsL_law := wR_11 _ (List.mem_of_getElem? (i := 23) rfl)
theorem u_12_0 : Cond.instanceMethod yX0_standing ∈ wsL_law := wR_12 _ (List.mem_of_getElem? (i := 0) rfl)
theorem u_12_1 : Cond.selects RX0 yX0_standing yX0_standing ∈ wsL_law := wR_12 _ (List.mem_of_getElem? (i := 1) rfl)
theorem u_12_2 : Cond.code yX0_standing cX0_standing 5 (some .int) ∈ wsL_law := wR_12 _ (List.mem_of_getElem? (i := 2) rfl)
theorem u_12_3 : Cond.fieldLink RX0 40 "RangePapers$Rows" "count" "I" ∈ wsL_law := wR_12 _ (List.mem_of_getElem? (i := 3) rfl)
theorem u_12_4 : Cond.methodLink RX0 43 yX1_at ∈ wsL_law := wR_12 _ (List.mem_of_getElem? (i := 4) rfl)
theorem u_12_5 : Cond.instanceMethod yX1_at ∈ wsL_law := wR_12 _ (List.mem_of_getElem? (i := 5) rfl)
theorem u_12_6 : Cond.selects RX1 yX1_at yX1_at ∈ wsL_law := wR_12 _ (List.mem_of_getElem? (i := 6) rfl)
theorem u_12_7 : Cond.code yX1_at cX1_at 3 (some .int) ∈ wsL_law := wR_12 _ (List.mem_of_getElem? (i := 7) rfl)
theorem u_12_8 : Cond.static yX3_bit ∈ wsL_law := wR_12 _ (List.mem_of_getElem? (i := 8) rfl)
theorem u_12_9 : Cond.code yX3_bit cX3_bit 2 (some .int) ∈ wsL_law := wR_12 _ (List.mem_of_getElem? (i := 9) rfl)
theorem u_12_10 : Cond.static yX3_isWithin ∈ wsL_law := wR_12 _ (List.mem_of_getElem? (i := 10) rfl)
theorem u_12_11 : Cond.code yX3_isWithin cX3_isWithin 2 (some .boolean) ∈ wsL_law := wR_12 _ (List.mem_of_getElem? (i := 11) rfl)
theorem u_12_12 : Cond.methodLink RX3 104 yX0_countingNow ∈ wsL_law := wR_12 _ (List.mem_of_getElem? (i := 12) rfl)
theorem u_12_13 : Cond.instanceMethod yX0_countingNow ∈ wsL_law := wR_12 _ (List.mem_of_getElem? (i := 13) rfl)
theorem u_12_14 : Cond.selects RX0 yX0_countingNow yX0_countingNow ∈ wsL_law := wR_12 _ (List.mem_of_getElem? (i := 14) rfl)
theorem u_12_15 : Cond.code yX0_countingNow cX0_countingNow 1 (some .int) ∈ wsL_law := wR_12 _ (List.mem_of_getElem? (i := 15) rfl)
theorem u_12_16 : Cond.methodLink RX0 54 yX0_standing ∈ wsL_law := wR_12 _ (List.mem_of_getElem? (i := 16) rfl)
theorem u_12_17 : Cond.methodLink RX0 58 yX0_counting ∈ wsL_law := wR_12 _ (List.mem_of_getElem? (i := 17) rfl)
theorem u_12_18 : Cond.instanceMethod yX0_counting ∈ wsL_law := wR_12 _ (List.mem_of_getElem? (i := 18) rfl)
theorem u_12_19 : Cond.selects RX0 yX0_counting yX0_counting ∈ wsL_law := wR_12 _ (List.mem_of_getElem? (i := 19) rfl)
theorem u_12_20 : Cond.code yX0_counting cX0_counting 5 (some .int) ∈ wsL_law := wR_12 _ (List.mem_of_getElem? (i := 20) rfl)
theorem u_12_21 : Cond.methodLink RX3 107 yX0_routesThatAre ∈ wsL_law := wR_12 _ (List.mem_of_getElem? (i := 21) rfl)
theorem u_12_22 : Cond.instanceMethod yX0_routesThatAre ∈ wsL_law := wR_12 _ (List.mem_of_getElem? (i := 22) rfl)
theorem u_12_23 : Cond.selects RX0 yX0_routesThatAre yX0_routesThatAre ∈ wsL_law := wR_12 _ (List.mem_of_getElem? (i := 23) rfl)
theorem u_13_0 : Cond.code yX0_routesThatAre cX0_routesThatAre 6 (some .int) ∈ wsL_law := wR_13 _ (List.mem_of_getElem? (i := 0) rfl)
theorem u_13_1 : Cond.methodLink RX0 61 yX0_stateOf ∈ wsL_law := wR_13 _ (List.mem_of_getElem? (i := 1) rfl)
theorem u_13_2 : Cond.instanceMethod yX0_stateOf ∈ wsL_law := wR_13 _ (List.mem_of_getElem? (i := 2) rfl)
theorem u_13_3 : Cond.selects RX0 yX0_stateOf yX0_stateOf ∈ wsL_law := wR_13 _ (List.mem_of_getElem? (i := 3) rfl)
theorem u_13_4 : Cond.code yX0_stateOf cX0_stateOf 7 (some .int) ∈ wsL_law := wR_13 _ (List.mem_of_getElem? (i := 4) rfl)
theorem u_13_5 : Cond.methodLink RX3 111 yX0_bare ∈ wsL_law := wR_13 _ (List.mem_of_getElem? (i := 5) rfl)
theorem u_13_6 : Cond.instanceMethod yX0_bare ∈ wsL_law := wR_13 _ (List.mem_of_getElem? (i := 6) rfl)
theorem u_13_7 : Cond.selects RX0 yX0_bare yX0_bare ∈ wsL_law := wR_13 _ (List.mem_of_getElem? (i := 7) rfl)
theorem u_13_8 : Cond.code yX0_bare cX0_bare 4 (some .int) ∈ wsL_law := wR_13 _ (List.mem_of_getElem? (i := 8) rfl)
theorem u_13_9 : Cond.methodLink RX0 68 yX0_countingNow ∈ wsL_law := wR_13 _ (List.mem_of_getElem? (i := 9) rfl)
theorem u_13_10 : Cond.methodLink RX0 72 yJ6_bitCount_0f7a4 ∈ wsL_law := wR_13 _ (List.mem_of_getElem? (i := 10) rfl)
theorem u_13_11 : Cond.static yJ6_bitCount_0f7a4 ∈ wsL_law := wR_13 _ (List.mem_of_getElem? (i := 11) rfl)
theorem u_13_12 : Cond.initialized RJ6 ∈ wsL_law := wR_13 _ (List.mem_of_getElem? (i := 12) rfl)
theorem u_13_13 : Cond.code yJ6_bitCount_0f7a4 cJ6_bitCount_0f7a4 1 (some .int) ∈ wsL_law := wR_13 _ (List.mem_of_getElem? (i := 13) rfl)
theorem u_13_14 : Cond.constant RJ6 265 (1431655765) ∈ wsL_law := wR_13 _ (List.mem_of_getElem? (i := 14) rfl)
theorem u_13_15 : Cond.constant RJ6 266 (858993459) ∈ wsL_law := wR_13 _ (List.mem_of_getElem? (i := 15) rfl)
theorem u_13_16 : Cond.constant RJ6 267 (252645135) ∈ wsL_law := wR_13 _ (List.mem_of_getElem? (i := 16) rfl)
theorem u_13_17 : Cond.methodLink RL 34 yX4_about ∈ wsL_law := wR_13 _ (List.mem_of_getElem? (i := 17) rfl)
theorem u_13_18 : Cond.instanceMethod yX4_about ∈ wsL_law := wR_13 _ (List.mem_of_getElem? (i := 18) rfl)
theorem u_13_19 : Cond.selects RX4 yX4_about yX4_about ∈ wsL_law := wR_13 _ (List.mem_of_getElem? (i := 19) rfl)
theorem u_13_20 : Cond.code yX4_about cX4_about 2 (some .int) ∈ wsL_law := wR_13 _ (List.mem_of_getElem? (i := 20) rfl)
theorem u_13_21 : Cond.fieldLink RX4 162 "RangePapersModel" "seen" "I" ∈ wsL_law := wR_13 _ (List.mem_of_getElem? (i := 21) rfl)
theorem u_13_22 : Cond.methodLink RX4 153 yX4_standing ∈ wsL_law := wR_13 _ (List.mem_of_getElem? (i := 22) rfl)
theorem u_13_23 : Cond.instanceMethod yX4_standing ∈ wsL_law := wR_13 _ (List.mem_of_getElem? (i := 23) rfl)
theorem u_14_0 : Cond.selects RX4 yX4_standing yX4_standing ∈ wsL_law := wR_14 _ (List.mem_of_getElem? (i := 0) rfl)
theorem u_14_1 : Cond.code yX4_standing cX4_standing 3 (some .int) ∈ wsL_law := wR_14 _ (List.mem_of_getElem? (i := 1) rfl)
theorem u_14_2 : Cond.methodLink RX4 127 yX4_stands ∈ wsL_law := wR_14 _ (List.mem_of_getElem? (i := 2) rfl)
theorem u_14_3 : Cond.instanceMethod yX4_stands ∈ wsL_law := wR_14 _ (List.mem_of_getElem? (i := 3) rfl)
theorem u_14_4 : Cond.selects RX4 yX4_stands yX4_stands ∈ wsL_law := wR_14 _ (List.mem_of_getElem? (i := 4) rfl)
theorem u_14_5 : Cond.code yX4_stands cX4_stands 7 (some .boolean) ∈ wsL_law := wR_14 _ (List.mem_of_getElem? (i := 5) rfl)
theorem u_14_6 : Cond.methodLink RX4 120 yX4_has ∈ wsL_law := wR_14 _ (List.mem_of_getElem? (i := 6) rfl)
theorem u_14_7 : Cond.static yX4_has ∈ wsL_law := wR_14 _ (List.mem_of_getElem? (i := 7) rfl)
theorem u_14_8 : Cond.code yX4_has cX4_has 2 (some .boolean) ∈ wsL_law := wR_14 _ (List.mem_of_getElem? (i := 8) rfl)
theorem u_14_9 : Cond.methodLink RX4 123 yX4_isWithin ∈ wsL_law := wR_14 _ (List.mem_of_getElem? (i := 9) rfl)
theorem u_14_10 : Cond.static yX4_isWithin ∈ wsL_law := wR_14 _ (List.mem_of_getElem? (i := 10) rfl)
theorem u_14_11 : Cond.code yX4_isWithin cX4_isWithin 4 (some .boolean) ∈ wsL_law := wR_14 _ (List.mem_of_getElem? (i := 11) rfl)
theorem u_14_12 : Cond.methodLink RX4 156 yX4_those ∈ wsL_law := wR_14 _ (List.mem_of_getElem? (i := 12) rfl)
theorem u_14_13 : Cond.instanceMethod yX4_those ∈ wsL_law := wR_14 _ (List.mem_of_getElem? (i := 13) rfl)
theorem u_14_14 : Cond.selects RX4 yX4_those yX4_those ∈ wsL_law := wR_14 _ (List.mem_of_getElem? (i := 14) rfl)
theorem u_14_15 : Cond.code yX4_those cX4_those 5 (some .int) ∈ wsL_law := wR_14 _ (List.mem_of_getElem? (i := 15) rfl)
theorem u_14_16 : Cond.methodLink RX4 142 yX4_routeState ∈ wsL_law := wR_14 _ (List.mem_of_getElem? (i := 16) rfl)
theorem u_14_17 : Cond.instanceMethod yX4_routeState ∈ wsL_law := wR_14 _ (List.mem_of_getElem? (i := 17) rfl)
theorem u_14_18 : Cond.selects RX4 yX4_routeState yX4_routeState ∈ wsL_law := wR_14 _ (List.mem_of_getElem? (i := 18) rfl)
theorem u_14_19 : Cond.code yX4_routeState cX4_routeState 4 (some .int) ∈ wsL_law := wR_14 _ (List.mem_of_getElem? (i := 19) rfl)
theorem u_14_20 : Cond.methodLink RX4 138 yX4_stateOf ∈ wsL_law := wR_14 _ (List.mem_of_getElem? (i := 20) rfl)
theorem u_14_21 : Cond.instanceMethod yX4_stateOf ∈ wsL_law := wR_14 _ (List.mem_of_getElem? (i := 21) rfl)
theorem u_14_22 : Cond.selects RX4 yX4_stateOf yX4_stateOf ∈ wsL_law := wR_14 _ (List.mem_of_getElem? (i := 22) rfl)
theorem u_14_23 : Cond.code yX4_stateOf cX4_stateOf 5 (some .int) ∈ wsL_law := wR_14 _ (List.mem_of_getElem? (i := 23) rfl)
theorem u_15_0 : Cond.methodLink RX4 134 yX4_stateBy ∈ wsL_law := wR_15 _ (List.mem_of_getElem? (i := 0) rfl)
theorem u_15_1 : Cond.instanceMethod yX4_stateBy ∈ wsL_law := wR_15 _ (List.mem_of_getElem? (i := 1) rfl)
theorem u_15_2 : Cond.selects RX4 yX4_stateBy yX4_stateBy ∈ wsL_law := wR_15 _ (List.mem_of_getElem? (i := 2) rfl)
theorem u_15_3 : Cond.code yX4_stateBy cX4_stateBy 9 (some .int) ∈ wsL_law := wR_15 _ (List.mem_of_getElem? (i := 3) rfl)
theorem u_15_4 : Cond.methodLink RX4 131 yX4_counts ∈ wsL_law := wR_15 _ (List.mem_of_getElem? (i := 4) rfl)
theorem u_15_5 : Cond.instanceMethod yX4_counts ∈ wsL_law := wR_15 _ (List.mem_of_getElem? (i := 5) rfl)
theorem u_15_6 : Cond.selects RX4 yX4_counts yX4_counts ∈ wsL_law := wR_15 _ (List.mem_of_getElem? (i := 6) rfl)
theorem u_15_7 : Cond.code yX4_counts cX4_counts 5 (some .boolean) ∈ wsL_law := wR_15 _ (List.mem_of_getElem? (i := 7) rfl)
theorem u_15_8 : Cond.methodLink RX4 159 yX4_bare ∈ wsL_law := wR_15 _ (List.mem_of_getElem? (i := 8) rfl)
theorem u_15_9 : Cond.instanceMethod yX4_bare ∈ wsL_law := wR_15 _ (List.mem_of_getElem? (i := 9) rfl)
theorem u_15_10 : Cond.selects RX4 yX4_bare yX4_bare ∈ wsL_law := wR_15 _ (List.mem_of_getElem? (i := 10) rfl)
theorem u_15_11 : Cond.code yX4_bare cX4_bare 6 (some .int) ∈ wsL_law := wR_15 _ (List.mem_of_getElem? (i := 11) rfl)
theorem u_15_12 : Cond.methodLink RL 35 yX3_paper ∈ wsL_law := wR_15 _ (List.mem_of_getElem? (i := 12) rfl)
theorem u_15_13 : Cond.instanceMethod yX3_paper ∈ wsL_law := wR_15 _ (List.mem_of_getElem? (i := 13) rfl)
theorem u_15_14 : Cond.selects RX3 yX3_paper yX3_paper ∈ wsL_law := wR_15 _ (List.mem_of_getElem? (i := 14) rfl)
theorem u_15_15 : Cond.code yX3_paper cX3_paper 3 (some .int) ∈ wsL_law := wR_15 _ (List.mem_of_getElem? (i := 15) rfl)
theorem u_15_16 : Cond.methodLink RX3 114 yX1_has ∈ wsL_law := wR_15 _ (List.mem_of_getElem? (i := 16) rfl)
theorem u_15_17 : Cond.instanceMethod yX1_has ∈ wsL_law := wR_15 _ (List.mem_of_getElem? (i := 17) rfl)
theorem u_15_18 : Cond.selects RX1 yX1_has yX1_has ∈ wsL_law := wR_15 _ (List.mem_of_getElem? (i := 18) rfl)
theorem u_15_19 : Cond.code yX1_has cX1_has 2 (some .boolean) ∈ wsL_law := wR_15 _ (List.mem_of_getElem? (i := 19) rfl)
theorem u_15_20 : Cond.methodLink RX3 118 yX1_at ∈ wsL_law := wR_15 _ (List.mem_of_getElem? (i := 20) rfl)
theorem u_15_21 : Cond.methodLink RX3 121 yX3_bit ∈ wsL_law := wR_15 _ (List.mem_of_getElem? (i := 21) rfl)
theorem u_15_22 : Cond.methodLink RL 39 yX4_paper ∈ wsL_law := wR_15 _ (List.mem_of_getElem? (i := 22) rfl)
theorem u_15_23 : Cond.instanceMethod yX4_paper ∈ wsL_law := wR_15 _ (List.mem_of_getElem? (i := 23) rfl)
theorem u_16_0 : Cond.selects RX4 yX4_paper yX4_paper ∈ wsL_law := wR_16 _ (List.mem_of_getElem? (i := 0) rfl)
theorem u_16_1 : Cond.code yX4_paper cX4_paper 3 (some .int) ∈ wsL_law := wR_16 _ (List.mem_of_getElem? (i := 1) rfl)
theorem u_16_2 : Cond.methodLink RX4 165 yX4_isPaper ∈ wsL_law := wR_16 _ (List.mem_of_getElem? (i := 2) rfl)
theorem u_16_3 : Cond.instanceMethod yX4_isPaper ∈ wsL_law := wR_16 _ (List.mem_of_getElem? (i := 3) rfl)
theorem u_16_4 : Cond.selects RX4 yX4_isPaper yX4_isPaper ∈ wsL_law := wR_16 _ (List.mem_of_getElem? (i := 4) rfl)
theorem u_16_5 : Cond.code yX4_isPaper cX4_isPaper 2 (some .boolean) ∈ wsL_law := wR_16 _ (List.mem_of_getElem? (i := 5) rfl)
theorem u_16_6 : Cond.methodLink RL 40 yX3_grant ∈ wsL_law := wR_16 _ (List.mem_of_getElem? (i := 6) rfl)
theorem u_16_7 : Cond.instanceMethod yX3_grant ∈ wsL_law := wR_16 _ (List.mem_of_getElem? (i := 7) rfl)
theorem u_16_8 : Cond.selects RX3 yX3_grant yX3_grant ∈ wsL_law := wR_16 _ (List.mem_of_getElem? (i := 8) rfl)
theorem u_16_9 : Cond.code yX3_grant cX3_grant 3 (some .int) ∈ wsL_law := wR_16 _ (List.mem_of_getElem? (i := 9) rfl)
theorem u_16_10 : Cond.methodLink RL 43 yX4_grant ∈ wsL_law := wR_16 _ (List.mem_of_getElem? (i := 10) rfl)
theorem u_16_11 : Cond.instanceMethod yX4_grant ∈ wsL_law := wR_16 _ (List.mem_of_getElem? (i := 11) rfl)
theorem u_16_12 : Cond.selects RX4 yX4_grant yX4_grant ∈ wsL_law := wR_16 _ (List.mem_of_getElem? (i := 12) rfl)
theorem u_16_13 : Cond.code yX4_grant cX4_grant 3 (some .int) ∈ wsL_law := wR_16 _ (List.mem_of_getElem? (i := 13) rfl)
theorem u_16_14 : Cond.constantLong RX4 172 (4) ∈ wsL_law := wR_16 _ (List.mem_of_getElem? (i := 14) rfl)
theorem u_16_15 : Cond.methodLink RX4 169 yX4_isGrant ∈ wsL_law := wR_16 _ (List.mem_of_getElem? (i := 15) rfl)
theorem u_16_16 : Cond.instanceMethod yX4_isGrant ∈ wsL_law := wR_16 _ (List.mem_of_getElem? (i := 16) rfl)
theorem u_16_17 : Cond.selects RX4 yX4_isGrant yX4_isGrant ∈ wsL_law := wR_16 _ (List.mem_of_getElem? (i := 17) rfl)
theorem u_16_18 : Cond.code yX4_isGrant cX4_isGrant 2 (some .boolean) ∈ wsL_law := wR_16 _ (List.mem_of_getElem? (i := 18) rfl)
theorem u_16_19 : Cond.methodLink RL 44 yX3_route ∈ wsL_law := wR_16 _ (List.mem_of_getElem? (i := 19) rfl)
theorem u_16_20 : Cond.instanceMethod yX3_route ∈ wsL_law := wR_16 _ (List.mem_of_getElem? (i := 20) rfl)
theorem u_16_21 : Cond.selects RX3 yX3_route yX3_route ∈ wsL_law := wR_16 _ (List.mem_of_getElem? (i := 21) rfl)
theorem u_16_22 : Cond.code yX3_route cX3_route 3 (some .int) ∈ wsL_law := wR_16 _ (List.mem_of_getElem? (i := 22) rfl)
theorem u_16_23 : Cond.methodLink RX3 124 yX0_stateOf ∈ wsL_law := wR_16 _ (List.mem_of_getElem? (i := 23) rfl)
theorem u_17_0 : Cond.methodLink RX3 128 yX0_makerOf ∈ wsL_law := wR_17 _ (List.mem_of_getElem? (i := 0) rfl)
theorem u_17_1 : Cond.instanceMethod yX0_makerOf ∈ wsL_law := wR_17 _ (List.mem_of_getElem? (i := 1) rfl)
theorem u_17_2 : Cond.selects RX0 yX0_makerOf yX0_makerOf ∈ wsL_law := wR_17 _ (List.mem_of_getElem? (i := 2) rfl)
theorem u_17_3 : Cond.code yX0_makerOf cX0_makerOf 5 (some .int) ∈ wsL_law := wR_17 _ (List.mem_of_getElem? (i := 3) rfl)
theorem u_17_4 : Cond.methodLink RL 47 yX4_route ∈ wsL_law := wR_17 _ (List.mem_of_getElem? (i := 4) rfl)
theorem u_17_5 : Cond.instanceMethod yX4_route ∈ wsL_law := wR_17 _ (List.mem_of_getElem? (i := 5) rfl)
theorem u_17_6 : Cond.selects RX4 yX4_route yX4_route ∈ wsL_law := wR_17 _ (List.mem_of_getElem? (i := 6) rfl)
theorem u_17_7 : Cond.code yX4_route cX4_route 3 (some .int) ∈ wsL_law := wR_17 _ (List.mem_of_getElem? (i := 7) rfl)
theorem u_17_8 : Cond.constantLong RX4 180 (2) ∈ wsL_law := wR_17 _ (List.mem_of_getElem? (i := 8) rfl)
theorem u_17_9 : Cond.methodLink RX4 174 yX4_isRoute ∈ wsL_law := wR_17 _ (List.mem_of_getElem? (i := 9) rfl)
theorem u_17_10 : Cond.instanceMethod yX4_isRoute ∈ wsL_law := wR_17 _ (List.mem_of_getElem? (i := 10) rfl)
theorem u_17_11 : Cond.selects RX4 yX4_isRoute yX4_isRoute ∈ wsL_law := wR_17 _ (List.mem_of_getElem? (i := 11) rfl)
theorem u_17_12 : Cond.code yX4_isRoute cX4_isRoute 2 (some .boolean) ∈ wsL_law := wR_17 _ (List.mem_of_getElem? (i := 12) rfl)
theorem u_17_13 : Cond.methodLink RX4 177 yX4_makerOf ∈ wsL_law := wR_17 _ (List.mem_of_getElem? (i := 13) rfl)
theorem u_17_14 : Cond.instanceMethod yX4_makerOf ∈ wsL_law := wR_17 _ (List.mem_of_getElem? (i := 14) rfl)
theorem u_17_15 : Cond.selects RX4 yX4_makerOf yX4_makerOf ∈ wsL_law := wR_17 _ (List.mem_of_getElem? (i := 15) rfl)
theorem u_17_16 : Cond.code yX4_makerOf cX4_makerOf 6 (some .int) ∈ wsL_law := wR_17 _ (List.mem_of_getElem? (i := 16) rfl)
theorem u_17_17 : Cond.methodLink RL 48 yX3_announce ∈ wsL_law := wR_17 _ (List.mem_of_getElem? (i := 17) rfl)
theorem u_17_18 : Cond.instanceMethod yX3_announce ∈ wsL_law := wR_17 _ (List.mem_of_getElem? (i := 18) rfl)
theorem u_17_19 : Cond.selects RX3 yX3_announce yX3_announce ∈ wsL_law := wR_17 _ (List.mem_of_getElem? (i := 19) rfl)
theorem u_17_20 : Cond.code yX3_announce cX3_announce 5 (some .int) ∈ wsL_law := wR_17 _ (List.mem_of_getElem? (i := 20) rfl)
theorem u_17_21 : Cond.methodLink RX3 131 yX3_isRange ∈ wsL_law := wR_17 _ (List.mem_of_getElem? (i := 21) rfl)
theorem u_17_22 : Cond.static yX3_isRange ∈ wsL_law := wR_17 _ (List.mem_of_getElem? (i := 22) rfl)
theorem u_17_23 : Cond.code yX3_isRange cX3_isRange 2 (some .boolean) ∈ wsL_law := wR_17 _ (List.mem_of_getElem? (i := 23) rfl)
theorem u_18_0 : Cond.methodLink RX3 154 yX3_isPlace ∈ wsL_law := wR_18 _ (List.mem_of_getElem? (i := 0) rfl)
theorem u_18_1 : Cond.static yX3_isPlace ∈ wsL_law := wR_18 _ (List.mem_of_getElem? (i := 1) rfl)
theorem u_18_2 : Cond.code yX3_isPlace cX3_isPlace 1 (some .boolean) ∈ wsL_law := wR_18 _ (List.mem_of_getElem? (i := 2) rfl)
theorem u_18_3 : Cond.methodLink RX3 166 yX3_leftBySize ∈ wsL_law := wR_18 _ (List.mem_of_getElem? (i := 3) rfl)
theorem u_18_4 : Cond.methodLink RX3 135 yX3_isOrigin ∈ wsL_law := wR_18 _ (List.mem_of_getElem? (i := 4) rfl)
theorem u_18_5 : Cond.static yX3_isOrigin ∈ wsL_law := wR_18 _ (List.mem_of_getElem? (i := 5) rfl)
theorem u_18_6 : Cond.code yX3_isOrigin cX3_isOrigin 1 (some .boolean) ∈ wsL_law := wR_18 _ (List.mem_of_getElem? (i := 6) rfl)
theorem u_18_7 : Cond.methodLink RX3 138 yX3_remember ∈ wsL_law := wR_18 _ (List.mem_of_getElem? (i := 7) rfl)
theorem u_18_8 : Cond.instanceMethod yX3_remember ∈ wsL_law := wR_18 _ (List.mem_of_getElem? (i := 8) rfl)
theorem u_18_9 : Cond.selects RX3 yX3_remember yX3_remember ∈ wsL_law := wR_18 _ (List.mem_of_getElem? (i := 9) rfl)
theorem u_18_10 : Cond.code yX3_remember cX3_remember 4 (some .int) ∈ wsL_law := wR_18 _ (List.mem_of_getElem? (i := 10) rfl)
theorem u_18_11 : Cond.methodLink RX3 145 yX1_closeAt ∈ wsL_law := wR_18 _ (List.mem_of_getElem? (i := 11) rfl)
theorem u_18_12 : Cond.instanceMethod yX1_closeAt ∈ wsL_law := wR_18 _ (List.mem_of_getElem? (i := 12) rfl)
theorem u_18_13 : Cond.selects RX1 yX1_closeAt yX1_closeAt ∈ wsL_law := wR_18 _ (List.mem_of_getElem? (i := 13) rfl)
theorem u_18_14 : Cond.code yX1_closeAt cX1_closeAt 2 none ∈ wsL_law := wR_18 _ (List.mem_of_getElem? (i := 14) rfl)
theorem u_18_15 : Cond.methodLink RX3 214 yX1_openAt ∈ wsL_law := wR_18 _ (List.mem_of_getElem? (i := 15) rfl)
theorem u_18_16 : Cond.methodLink RX3 179 yX1_put ∈ wsL_law := wR_18 _ (List.mem_of_getElem? (i := 16) rfl)
theorem u_18_17 : Cond.methodLink RL 52 yX4_announce ∈ wsL_law := wR_18 _ (List.mem_of_getElem? (i := 17) rfl)
theorem u_18_18 : Cond.instanceMethod yX4_announce ∈ wsL_law := wR_18 _ (List.mem_of_getElem? (i := 18) rfl)
theorem u_18_19 : Cond.selects RX4 yX4_announce yX4_announce ∈ wsL_law := wR_18 _ (List.mem_of_getElem? (i := 19) rfl)
theorem u_18_20 : Cond.code yX4_announce cX4_announce 4 (some .int) ∈ wsL_law := wR_18 _ (List.mem_of_getElem? (i := 20) rfl)
theorem u_18_21 : Cond.methodLink RX4 185 yX4_isOrigin ∈ wsL_law := wR_18 _ (List.mem_of_getElem? (i := 21) rfl)
theorem u_18_22 : Cond.static yX4_isOrigin ∈ wsL_law := wR_18 _ (List.mem_of_getElem? (i := 22) rfl)
theorem u_18_23 : Cond.code yX4_isOrigin cX4_isOrigin 1 (some .boolean) ∈ wsL_law := wR_18 _ (List.mem_of_getElem? (i := 23) rfl)
theorem u_19_0 : Cond.methodLink RX4 188 yX4_note ∈ wsL_law := wR_19 _ (List.mem_of_getElem? (i := 0) rfl)
theorem u_19_1 : Cond.instanceMethod yX4_note ∈ wsL_law := wR_19 _ (List.mem_of_getElem? (i := 1) rfl)
theorem u_19_2 : Cond.selects RX4 yX4_note yX4_note ∈ wsL_law := wR_19 _ (List.mem_of_getElem? (i := 2) rfl)
theorem u_19_3 : Cond.code yX4_note cX4_note 2 none ∈ wsL_law := wR_19 _ (List.mem_of_getElem? (i := 3) rfl)
theorem u_19_4 : Cond.fieldLink RX4 182 "RangePapersModel" "next" "I" ∈ wsL_law := wR_19 _ (List.mem_of_getElem? (i := 4) rfl)
theorem u_19_5 : Cond.methodLink RL 53 yX3_withdraw ∈ wsL_law := wR_19 _ (List.mem_of_getElem? (i := 5) rfl)
theorem u_19_6 : Cond.instanceMethod yX3_withdraw ∈ wsL_law := wR_19 _ (List.mem_of_getElem? (i := 6) rfl)
theorem u_19_7 : Cond.selects RX3 yX3_withdraw yX3_withdraw ∈ wsL_law := wR_19 _ (List.mem_of_getElem? (i := 7) rfl)
theorem u_19_8 : Cond.code yX3_withdraw cX3_withdraw 2 (some .int) ∈ wsL_law := wR_19 _ (List.mem_of_getElem? (i := 8) rfl)
theorem u_19_9 : Cond.methodLink RX3 141 yX3_rememberRow ∈ wsL_law := wR_19 _ (List.mem_of_getElem? (i := 9) rfl)
theorem u_19_10 : Cond.instanceMethod yX3_rememberRow ∈ wsL_law := wR_19 _ (List.mem_of_getElem? (i := 10) rfl)
theorem u_19_11 : Cond.selects RX3 yX3_rememberRow yX3_rememberRow ∈ wsL_law := wR_19 _ (List.mem_of_getElem? (i := 11) rfl)
theorem u_19_12 : Cond.code yX3_rememberRow cX3_rememberRow 6 none ∈ wsL_law := wR_19 _ (List.mem_of_getElem? (i := 12) rfl)
theorem u_19_13 : Cond.fieldLink RX3 217 "RangePapers$Rows" "width" "I" ∈ wsL_law := wR_19 _ (List.mem_of_getElem? (i := 13) rfl)
theorem u_19_14 : Cond.methodLink RL 56 yX4_withdraw ∈ wsL_law := wR_19 _ (List.mem_of_getElem? (i := 14) rfl)
theorem u_19_15 : Cond.instanceMethod yX4_withdraw ∈ wsL_law := wR_19 _ (List.mem_of_getElem? (i := 15) rfl)
theorem u_19_16 : Cond.selects RX4 yX4_withdraw yX4_withdraw ∈ wsL_law := wR_19 _ (List.mem_of_getElem? (i := 16) rfl)
theorem u_19_17 : Cond.code yX4_withdraw cX4_withdraw 2 (some .int) ∈ wsL_law := wR_19 _ (List.mem_of_getElem? (i := 17) rfl)
theorem u_19_18 : Cond.methodLink RX4 191 yX4_takeRoute ∈ wsL_law := wR_19 _ (List.mem_of_getElem? (i := 18) rfl)
theorem u_19_19 : Cond.static yX4_takeRoute ∈ wsL_law := wR_19 _ (List.mem_of_getElem? (i := 19) rfl)
theorem u_19_20 : Cond.code yX4_takeRoute cX4_takeRoute 3 none ∈ wsL_law := wR_19 _ (List.mem_of_getElem? (i := 20) rfl)
theorem u_19_21 : Cond.methodLink RL 57 yX3_allow ∈ wsL_law := wR_19 _ (List.mem_of_getElem? (i := 21) rfl)
theorem u_19_22 : Cond.instanceMethod yX3_allow ∈ wsL_law := wR_19 _ (List.mem_of_getElem? (i := 22) rfl)
theorem u_19_23 : Cond.selects RX3 yX3_allow yX3_allow ∈ wsL_law := wR_19 _ (List.mem_of_getElem? (i := 23) rfl)
theorem u_20_0 : Cond.code yX3_allow cX3_allow 7 (some .int) ∈ wsL_law := wR_20 _ (List.mem_of_getElem? (i := 0) rfl)
theorem u_20_1 : Cond.methodLink RL 61 yX4_allow ∈ wsL_law := wR_20 _ (List.mem_of_getElem? (i := 1) rfl)
theorem u_20_2 : Cond.instanceMethod yX4_allow ∈ wsL_law := wR_20 _ (List.mem_of_getElem? (i := 2) rfl)
theorem u_20_3 : Cond.selects RX4 yX4_allow yX4_allow ∈ wsL_law := wR_20 _ (List.mem_of_getElem? (i := 3) rfl)
theorem u_20_4 : Cond.code yX4_allow cX4_allow 6 (some .int) ∈ wsL_law := wR_20 _ (List.mem_of_getElem? (i := 4) rfl)
theorem u_20_5 : Cond.methodLink RL 62 yX3_tear ∈ wsL_law := wR_20 _ (List.mem_of_getElem? (i := 5) rfl)
theorem u_20_6 : Cond.instanceMethod yX3_tear ∈ wsL_law := wR_20 _ (List.mem_of_getElem? (i := 6) rfl)
theorem u_20_7 : Cond.selects RX3 yX3_tear yX3_tear ∈ wsL_law := wR_20 _ (List.mem_of_getElem? (i := 7) rfl)
theorem u_20_8 : Cond.code yX3_tear cX3_tear 2 (some .int) ∈ wsL_law := wR_20 _ (List.mem_of_getElem? (i := 8) rfl)
theorem u_20_9 : Cond.methodLink RL 65 yX4_tear ∈ wsL_law := wR_20 _ (List.mem_of_getElem? (i := 9) rfl)
theorem u_20_10 : Cond.instanceMethod yX4_tear ∈ wsL_law := wR_20 _ (List.mem_of_getElem? (i := 10) rfl)
theorem u_20_11 : Cond.selects RX4 yX4_tear yX4_tear ∈ wsL_law := wR_20 _ (List.mem_of_getElem? (i := 11) rfl)
theorem u_20_12 : Cond.code yX4_tear cX4_tear 2 (some .int) ∈ wsL_law := wR_20 _ (List.mem_of_getElem? (i := 12) rfl)
theorem u_20_13 : Cond.methodLink RX4 195 yX4_takeGrant ∈ wsL_law := wR_20 _ (List.mem_of_getElem? (i := 13) rfl)
theorem u_20_14 : Cond.static yX4_takeGrant ∈ wsL_law := wR_20 _ (List.mem_of_getElem? (i := 14) rfl)
theorem u_20_15 : Cond.code yX4_takeGrant cX4_takeGrant 3 none ∈ wsL_law := wR_20 _ (List.mem_of_getElem? (i := 15) rfl)
theorem u_20_16 : Cond.methodLink RL 66 yX3_revoke ∈ wsL_law := wR_20 _ (List.mem_of_getElem? (i := 16) rfl)
theorem u_20_17 : Cond.instanceMethod yX3_revoke ∈ wsL_law := wR_20 _ (List.mem_of_getElem? (i := 17) rfl)
theorem u_20_18 : Cond.selects RX3 yX3_revoke yX3_revoke ∈ wsL_law := wR_20 _ (List.mem_of_getElem? (i := 18) rfl)
theorem u_20_19 : Cond.code yX3_revoke cX3_revoke 2 (some .int) ∈ wsL_law := wR_20 _ (List.mem_of_getElem? (i := 19) rfl)
theorem u_20_20 : Cond.methodLink RL 69 yX4_revoke ∈ wsL_law := wR_20 _ (List.mem_of_getElem? (i := 20) rfl)
theorem u_20_21 : Cond.instanceMethod yX4_revoke ∈ wsL_law := wR_20 _ (List.mem_of_getElem? (i := 21) rfl)
theorem u_20_22 : Cond.selects RX4 yX4_revoke yX4_revoke ∈ wsL_law := wR_20 _ (List.mem_of_getElem? (i := 22) rfl)
theorem u_20_23 : Cond.code yX4_revoke cX4_revoke 2 (some .int) ∈ wsL_law := wR_20 _ (List.mem_of_getElem? (i := 23) rfl)
theorem u_21_0 : Cond.methodLink RL 70 yX3_night ∈ wsL_law := wR_21 _ (List.mem_of_getElem? (i := 0) rfl)
theorem u_21_1 : Cond.instanceMethod yX3_night ∈ wsL_law := wR_21 _ (List.mem_of_getElem? (i := 1) rfl)
theorem u_21_2 : Cond.selects RX3 yX3_night yX3_night ∈ wsL_law := wR_21 _ (List.mem_of_getElem? (i := 2) rfl)
theorem u_21_3 : Cond.code yX3_night cX3_night 1 (some .int) ∈ wsL_law := wR_21 _ (List.mem_of_getElem? (i := 3) rfl)
theorem u_21_4 : Cond.methodLink RL 73 yX4_night ∈ wsL_law := wR_21 _ (List.mem_of_getElem? (i := 4) rfl)
theorem u_21_5 : Cond.instanceMethod yX4_night ∈ wsL_law := wR_21 _ (List.mem_of_getElem? (i := 5) rfl)
theorem u_21_6 : Cond.selects RX4 yX4_night yX4_night ∈ wsL_law := wR_21 _ (List.mem_of_getElem? (i := 6) rfl)
theorem u_21_7 : Cond.code yX4_night cX4_night 1 (some .int) ∈ wsL_law := wR_21 _ (List.mem_of_getElem? (i := 7) rfl)
theorem u_21_8 : Cond.methodLink RL 74 yX3_setAside ∈ wsL_law := wR_21 _ (List.mem_of_getElem? (i := 8) rfl)
theorem u_21_9 : Cond.instanceMethod yX3_setAside ∈ wsL_law := wR_21 _ (List.mem_of_getElem? (i := 9) rfl)
theorem u_21_10 : Cond.selects RX3 yX3_setAside yX3_setAside ∈ wsL_law := wR_21 _ (List.mem_of_getElem? (i := 10) rfl)
theorem u_21_11 : Cond.code yX3_setAside cX3_setAside 2 (some .int) ∈ wsL_law := wR_21 _ (List.mem_of_getElem? (i := 11) rfl)
theorem u_21_12 : Cond.methodLink RL 77 yX4_setAside ∈ wsL_law := wR_21 _ (List.mem_of_getElem? (i := 12) rfl)
theorem u_21_13 : Cond.instanceMethod yX4_setAside ∈ wsL_law := wR_21 _ (List.mem_of_getElem? (i := 13) rfl)
theorem u_21_14 : Cond.selects RX4 yX4_setAside yX4_setAside ∈ wsL_law := wR_21 _ (List.mem_of_getElem? (i := 14) rfl)
theorem u_21_15 : Cond.code yX4_setAside cX4_setAside 2 (some .int) ∈ wsL_law := wR_21 _ (List.mem_of_getElem? (i := 15) rfl)
theorem u_21_16 : Cond.methodLink RL 78 yX3_undo ∈ wsL_law := wR_21 _ (List.mem_of_getElem? (i := 16) rfl)
theorem u_21_17 : Cond.instanceMethod yX3_undo ∈ wsL_law := wR_21 _ (List.mem_of_getElem? (i := 17) rfl)
theorem u_21_18 : Cond.selects RX3 yX3_undo yX3_undo ∈ wsL_law := wR_21 _ (List.mem_of_getElem? (i := 18) rfl)
theorem u_21_19 : Cond.code yX3_undo cX3_undo 2 (some .int) ∈ wsL_law := wR_21 _ (List.mem_of_getElem? (i := 19) rfl)
theorem u_21_20 : Cond.methodLink RX3 148 yX3_takeBack ∈ wsL_law := wR_21 _ (List.mem_of_getElem? (i := 20) rfl)
theorem u_21_21 : Cond.instanceMethod yX3_takeBack ∈ wsL_law := wR_21 _ (List.mem_of_getElem? (i := 21) rfl)
theorem u_21_22 : Cond.selects RX3 yX3_takeBack yX3_takeBack ∈ wsL_law := wR_21 _ (List.mem_of_getElem? (i := 22) rfl)
theorem u_21_23 : Cond.code yX3_takeBack cX3_takeBack 3 none ∈ wsL_law := wR_21 _ (List.mem_of_getElem? (i := 23) rfl)
theorem u_22_0 : Cond.methodLink RX3 220 yX3_putBack ∈ wsL_law := wR_22 _ (List.mem_of_getElem? (i := 0) rfl)
theorem u_22_1 : Cond.instanceMethod yX3_putBack ∈ wsL_law := wR_22 _ (List.mem_of_getElem? (i := 1) rfl)
theorem u_22_2 : Cond.selects RX3 yX3_putBack yX3_putBack ∈ wsL_law := wR_22 _ (List.mem_of_getElem? (i := 2) rfl)
theorem u_22_3 : Cond.code yX3_putBack cX3_putBack 5 none ∈ wsL_law := wR_22 _ (List.mem_of_getElem? (i := 3) rfl)
theorem u_22_4 : Cond.methodLink RL 81 yX4_undo ∈ wsL_law := wR_22 _ (List.mem_of_getElem? (i := 4) rfl)
theorem u_22_5 : Cond.instanceMethod yX4_undo ∈ wsL_law := wR_22 _ (List.mem_of_getElem? (i := 5) rfl)
theorem u_22_6 : Cond.selects RX4 yX4_undo yX4_undo ∈ wsL_law := wR_22 _ (List.mem_of_getElem? (i := 6) rfl)
theorem u_22_7 : Cond.code yX4_undo cX4_undo 2 (some .int) ∈ wsL_law := wR_22 _ (List.mem_of_getElem? (i := 7) rfl)
theorem u_22_8 : Cond.methodLink RL 82 yX3_state ∈ wsL_law := wR_22 _ (List.mem_of_getElem? (i := 8) rfl)
theorem u_22_9 : Cond.instanceMethod yX3_state ∈ wsL_law := wR_22 _ (List.mem_of_getElem? (i := 9) rfl)
theorem u_22_10 : Cond.selects RX3 yX3_state yX3_state ∈ wsL_law := wR_22 _ (List.mem_of_getElem? (i := 10) rfl)
theorem u_22_11 : Cond.code yX3_state cX3_state 4 (some .int) ∈ wsL_law := wR_22 _ (List.mem_of_getElem? (i := 11) rfl)
theorem u_22_12 : Cond.methodLink RX3 151 yX3_coverOf ∈ wsL_law := wR_22 _ (List.mem_of_getElem? (i := 12) rfl)
theorem u_22_13 : Cond.methodLink RL 85 yX4_state ∈ wsL_law := wR_22 _ (List.mem_of_getElem? (i := 13) rfl)
theorem u_22_14 : Cond.instanceMethod yX4_state ∈ wsL_law := wR_22 _ (List.mem_of_getElem? (i := 14) rfl)
theorem u_22_15 : Cond.selects RX4 yX4_state yX4_state ∈ wsL_law := wR_22 _ (List.mem_of_getElem? (i := 15) rfl)
theorem u_22_16 : Cond.code yX4_state cX4_state 4 (some .int) ∈ wsL_law := wR_22 _ (List.mem_of_getElem? (i := 16) rfl)
theorem u_22_17 : Cond.methodLink RL 86 yX3_goes ∈ wsL_law := wR_22 _ (List.mem_of_getElem? (i := 17) rfl)
theorem u_22_18 : Cond.instanceMethod yX3_goes ∈ wsL_law := wR_22 _ (List.mem_of_getElem? (i := 18) rfl)
theorem u_22_19 : Cond.selects RX3 yX3_goes yX3_goes ∈ wsL_law := wR_22 _ (List.mem_of_getElem? (i := 19) rfl)
theorem u_22_20 : Cond.code yX3_goes cX3_goes 3 (some .int) ∈ wsL_law := wR_22 _ (List.mem_of_getElem? (i := 20) rfl)
theorem u_22_21 : Cond.methodLink RX3 157 yX3_isLaw ∈ wsL_law := wR_22 _ (List.mem_of_getElem? (i := 21) rfl)
theorem u_22_22 : Cond.static yX3_isLaw ∈ wsL_law := wR_22 _ (List.mem_of_getElem? (i := 22) rfl)
theorem u_22_23 : Cond.code yX3_isLaw cX3_isLaw 1 (some .boolean) ∈ wsL_law := wR_22 _ (List.mem_of_getElem? (i := 23) rfl)
theorem u_23_0 : Cond.methodLink RX3 160 yX0_routeTo ∈ wsL_law := wR_23 _ (List.mem_of_getElem? (i := 0) rfl)
theorem u_23_1 : Cond.instanceMethod yX0_routeTo ∈ wsL_law := wR_23 _ (List.mem_of_getElem? (i := 1) rfl)
theorem u_23_2 : Cond.selects RX0 yX0_routeTo yX0_routeTo ∈ wsL_law := wR_23 _ (List.mem_of_getElem? (i := 2) rfl)
theorem u_23_3 : Cond.code yX0_routeTo cX0_routeTo 6 (some .int) ∈ wsL_law := wR_23 _ (List.mem_of_getElem? (i := 3) rfl)
theorem u_23_4 : Cond.methodLink RX0 80 yX0_letIn ∈ wsL_law := wR_23 _ (List.mem_of_getElem? (i := 4) rfl)
theorem u_23_5 : Cond.instanceMethod yX0_letIn ∈ wsL_law := wR_23 _ (List.mem_of_getElem? (i := 5) rfl)
theorem u_23_6 : Cond.selects RX0 yX0_letIn yX0_letIn ∈ wsL_law := wR_23 _ (List.mem_of_getElem? (i := 6) rfl)
theorem u_23_7 : Cond.code yX0_letIn cX0_letIn 6 (some .int) ∈ wsL_law := wR_23 _ (List.mem_of_getElem? (i := 7) rfl)
theorem u_23_8 : Cond.methodLink RX0 65 yX0_routesThatAre ∈ wsL_law := wR_23 _ (List.mem_of_getElem? (i := 8) rfl)
theorem u_23_9 : Cond.methodLink RX0 77 yX0_apartFrom ∈ wsL_law := wR_23 _ (List.mem_of_getElem? (i := 9) rfl)
theorem u_23_10 : Cond.instanceMethod yX0_apartFrom ∈ wsL_law := wR_23 _ (List.mem_of_getElem? (i := 10) rfl)
theorem u_23_11 : Cond.selects RX0 yX0_apartFrom yX0_apartFrom ∈ wsL_law := wR_23 _ (List.mem_of_getElem? (i := 11) rfl)
theorem u_23_12 : Cond.code yX0_apartFrom cX0_apartFrom 6 (some .int) ∈ wsL_law := wR_23 _ (List.mem_of_getElem? (i := 12) rfl)
theorem u_23_13 : Cond.methodLink RL 89 yX4_goes ∈ wsL_law := wR_23 _ (List.mem_of_getElem? (i := 13) rfl)
theorem u_23_14 : Cond.instanceMethod yX4_goes ∈ wsL_law := wR_23 _ (List.mem_of_getElem? (i := 14) rfl)
theorem u_23_15 : Cond.selects RX4 yX4_goes yX4_goes ∈ wsL_law := wR_23 _ (List.mem_of_getElem? (i := 15) rfl)
theorem u_23_16 : Cond.code yX4_goes cX4_goes 3 (some .int) ∈ wsL_law := wR_23 _ (List.mem_of_getElem? (i := 16) rfl)
theorem u_23_17 : Cond.methodLink RX4 200 yX4_isLaw ∈ wsL_law := wR_23 _ (List.mem_of_getElem? (i := 17) rfl)
theorem u_23_18 : Cond.static yX4_isLaw ∈ wsL_law := wR_23 _ (List.mem_of_getElem? (i := 18) rfl)
theorem u_23_19 : Cond.code yX4_isLaw cX4_isLaw 1 (some .boolean) ∈ wsL_law := wR_23 _ (List.mem_of_getElem? (i := 19) rfl)
theorem u_23_20 : Cond.constantLong RX4 198 (3) ∈ wsL_law := wR_23 _ (List.mem_of_getElem? (i := 20) rfl)
theorem u_23_21 : Cond.methodLink RX4 203 yX4_goesOf ∈ wsL_law := wR_23 _ (List.mem_of_getElem? (i := 21) rfl)
theorem u_23_22 : Cond.instanceMethod yX4_goesOf ∈ wsL_law := wR_23 _ (List.mem_of_getElem? (i := 22) rfl)
theorem u_23_23 : Cond.selects RX4 yX4_goesOf yX4_goesOf ∈ wsL_law := wR_23 _ (List.mem_of_getElem? (i := 23) rfl)
theorem u_24_0 : Cond.code yX4_goesOf cX4_goesOf 8 (some .int) ∈ wsL_law := wR_24 _ (List.mem_of_getElem? (i := 0) rfl)
theorem u_24_1 : Cond.methodLink RX4 150 yX4_isIn ∈ wsL_law := wR_24 _ (List.mem_of_getElem? (i := 1) rfl)
theorem u_24_2 : Cond.instanceMethod yX4_isIn ∈ wsL_law := wR_24 _ (List.mem_of_getElem? (i := 2) rfl)
theorem u_24_3 : Cond.selects RX4 yX4_isIn yX4_isIn ∈ wsL_law := wR_24 _ (List.mem_of_getElem? (i := 3) rfl)
theorem u_24_4 : Cond.code yX4_isIn cX4_isIn 7 (some .boolean) ∈ wsL_law := wR_24 _ (List.mem_of_getElem? (i := 4) rfl)
theorem u_24_5 : Cond.methodLink RX4 146 yX4_meet ∈ wsL_law := wR_24 _ (List.mem_of_getElem? (i := 5) rfl)
theorem u_24_6 : Cond.static yX4_meet ∈ wsL_law := wR_24 _ (List.mem_of_getElem? (i := 6) rfl)
theorem u_24_7 : Cond.code yX4_meet cX4_meet 5 (some .boolean) ∈ wsL_law := wR_24 _ (List.mem_of_getElem? (i := 7) rfl)
theorem u_24_8 : Cond.methodLink RL 90 yX3_theft ∈ wsL_law := wR_24 _ (List.mem_of_getElem? (i := 8) rfl)
theorem u_24_9 : Cond.instanceMethod yX3_theft ∈ wsL_law := wR_24 _ (List.mem_of_getElem? (i := 9) rfl)
theorem u_24_10 : Cond.selects RX3 yX3_theft yX3_theft ∈ wsL_law := wR_24 _ (List.mem_of_getElem? (i := 10) rfl)
theorem u_24_11 : Cond.code yX3_theft cX3_theft 7 (some .int) ∈ wsL_law := wR_24 _ (List.mem_of_getElem? (i := 11) rfl)
theorem u_24_12 : Cond.methodLink RX3 163 yX0_copyFrom ∈ wsL_law := wR_24 _ (List.mem_of_getElem? (i := 12) rfl)
theorem u_24_13 : Cond.instanceMethod yX0_copyFrom ∈ wsL_law := wR_24 _ (List.mem_of_getElem? (i := 13) rfl)
theorem u_24_14 : Cond.selects RX0 yX0_copyFrom yX0_copyFrom ∈ wsL_law := wR_24 _ (List.mem_of_getElem? (i := 14) rfl)
theorem u_24_15 : Cond.code yX0_copyFrom cX0_copyFrom 2 none ∈ wsL_law := wR_24 _ (List.mem_of_getElem? (i := 15) rfl)
theorem u_24_16 : Cond.methodLink RL 93 yX4_theft ∈ wsL_law := wR_24 _ (List.mem_of_getElem? (i := 16) rfl)
theorem u_24_17 : Cond.instanceMethod yX4_theft ∈ wsL_law := wR_24 _ (List.mem_of_getElem? (i := 17) rfl)
theorem u_24_18 : Cond.selects RX4 yX4_theft yX4_theft ∈ wsL_law := wR_24 _ (List.mem_of_getElem? (i := 18) rfl)
theorem u_24_19 : Cond.code yX4_theft cX4_theft 5 (some .int) ∈ wsL_law := wR_24 _ (List.mem_of_getElem? (i := 19) rfl)
theorem u_24_20 : Cond.methodLink RL 94 yX3_lost ∈ wsL_law := wR_24 _ (List.mem_of_getElem? (i := 20) rfl)
theorem u_24_21 : Cond.instanceMethod yX3_lost ∈ wsL_law := wR_24 _ (List.mem_of_getElem? (i := 21) rfl)
theorem u_24_22 : Cond.selects RX3 yX3_lost yX3_lost ∈ wsL_law := wR_24 _ (List.mem_of_getElem? (i := 22) rfl)
theorem u_24_23 : Cond.code yX3_lost cX3_lost 3 (some .int) ∈ wsL_law := wR_24 _ (List.mem_of_getElem? (i := 23) rfl)
theorem u_25_0 : Cond.methodLink RX3 169 yX0_counting ∈ wsL_law := wR_25 _ (List.mem_of_getElem? (i := 0) rfl)
theorem u_25_1 : Cond.methodLink RL 97 yX4_lost ∈ wsL_law := wR_25 _ (List.mem_of_getElem? (i := 1) rfl)
theorem u_25_2 : Cond.instanceMethod yX4_lost ∈ wsL_law := wR_25 _ (List.mem_of_getElem? (i := 2) rfl)
theorem u_25_3 : Cond.selects RX4 yX4_lost yX4_lost ∈ wsL_law := wR_25 _ (List.mem_of_getElem? (i := 3) rfl)
theorem u_25_4 : Cond.code yX4_lost cX4_lost 2 (some .int) ∈ wsL_law := wR_25 _ (List.mem_of_getElem? (i := 4) rfl)
theorem u_25_5 : Cond.methodLink RL 100 yX3_judge ∈ wsL_law := wR_25 _ (List.mem_of_getElem? (i := 5) rfl)
theorem u_25_6 : Cond.instanceMethod yX3_judge ∈ wsL_law := wR_25 _ (List.mem_of_getElem? (i := 6) rfl)
theorem u_25_7 : Cond.selects RX3 yX3_judge yX3_judge ∈ wsL_law := wR_25 _ (List.mem_of_getElem? (i := 7) rfl)
theorem u_25_8 : Cond.code yX3_judge cX3_judge 5 (some .int) ∈ wsL_law := wR_25 _ (List.mem_of_getElem? (i := 8) rfl)
theorem u_25_9 : Cond.methodLink RX3 172 yX3_splitDoings ∈ wsL_law := wR_25 _ (List.mem_of_getElem? (i := 9) rfl)
theorem u_25_10 : Cond.instanceMethod yX3_splitDoings ∈ wsL_law := wR_25 _ (List.mem_of_getElem? (i := 10) rfl)
theorem u_25_11 : Cond.selects RX3 yX3_splitDoings yX3_splitDoings ∈ wsL_law := wR_25 _ (List.mem_of_getElem? (i := 11) rfl)
theorem u_25_12 : Cond.code yX3_splitDoings cX3_splitDoings 7 (some .boolean) ∈ wsL_law := wR_25 _ (List.mem_of_getElem? (i := 12) rfl)
theorem u_25_13 : Cond.methodLink RX3 223 Lib.Math.min.name ∈ wsL_law := wR_25 _ (List.mem_of_getElem? (i := 13) rfl)
theorem u_25_14 : Cond.static Lib.Math.min.name ∈ wsL_law := wR_25 _ (List.mem_of_getElem? (i := 14) rfl)
theorem u_25_15 : Cond.code Lib.Math.min.name Lib.Math.min.code 2 (some .int) ∈ wsL_law := wR_25 _ (List.mem_of_getElem? (i := 15) rfl)
theorem u_25_16 : Cond.constantLong RX3 228 (10000) ∈ wsL_law := wR_25 _ (List.mem_of_getElem? (i := 16) rfl)
theorem u_25_17 : Cond.methodLink RX3 176 yX0_canBe ∈ wsL_law := wR_25 _ (List.mem_of_getElem? (i := 17) rfl)
theorem u_25_18 : Cond.instanceMethod yX0_canBe ∈ wsL_law := wR_25 _ (List.mem_of_getElem? (i := 18) rfl)
theorem u_25_19 : Cond.selects RX0 yX0_canBe yX0_canBe ∈ wsL_law := wR_25 _ (List.mem_of_getElem? (i := 19) rfl)
theorem u_25_20 : Cond.code yX0_canBe cX0_canBe 5 (some .boolean) ∈ wsL_law := wR_25 _ (List.mem_of_getElem? (i := 20) rfl)
theorem u_25_21 : Cond.methodLink RX0 83 yX0_canRevoke ∈ wsL_law := wR_25 _ (List.mem_of_getElem? (i := 21) rfl)
theorem u_25_22 : Cond.instanceMethod yX0_canRevoke ∈ wsL_law := wR_25 _ (List.mem_of_getElem? (i := 22) rfl)
theorem u_25_23 : Cond.selects RX0 yX0_canRevoke yX0_canRevoke ∈ wsL_law := wR_25 _ (List.mem_of_getElem? (i := 23) rfl)
theorem u_26_0 : Cond.code yX0_canRevoke cX0_canRevoke 2 (some .boolean) ∈ wsL_law := wR_26 _ (List.mem_of_getElem? (i := 0) rfl)
theorem u_26_1 : Cond.methodLink RX0 94 yX1_has ∈ wsL_law := wR_26 _ (List.mem_of_getElem? (i := 1) rfl)
theorem u_26_2 : Cond.methodLink RX0 87 yX0_canPassNight ∈ wsL_law := wR_26 _ (List.mem_of_getElem? (i := 2) rfl)
theorem u_26_3 : Cond.instanceMethod yX0_canPassNight ∈ wsL_law := wR_26 _ (List.mem_of_getElem? (i := 3) rfl)
theorem u_26_4 : Cond.selects RX0 yX0_canPassNight yX0_canPassNight ∈ wsL_law := wR_26 _ (List.mem_of_getElem? (i := 4) rfl)
theorem u_26_5 : Cond.code yX0_canPassNight cX0_canPassNight 1 (some .boolean) ∈ wsL_law := wR_26 _ (List.mem_of_getElem? (i := 5) rfl)
theorem u_26_6 : Cond.methodLink RX0 91 yX0_canSetAside ∈ wsL_law := wR_26 _ (List.mem_of_getElem? (i := 6) rfl)
theorem u_26_7 : Cond.instanceMethod yX0_canSetAside ∈ wsL_law := wR_26 _ (List.mem_of_getElem? (i := 7) rfl)
theorem u_26_8 : Cond.selects RX0 yX0_canSetAside yX0_canSetAside ∈ wsL_law := wR_26 _ (List.mem_of_getElem? (i := 8) rfl)
theorem u_26_9 : Cond.code yX0_canSetAside cX0_canSetAside 2 (some .boolean) ∈ wsL_law := wR_26 _ (List.mem_of_getElem? (i := 9) rfl)
theorem u_26_10 : Cond.methodLink RX0 103 yX0_routeTo ∈ wsL_law := wR_26 _ (List.mem_of_getElem? (i := 10) rfl)
theorem u_26_11 : Cond.methodLink RX0 106 yX0_canWithdraw ∈ wsL_law := wR_26 _ (List.mem_of_getElem? (i := 11) rfl)
theorem u_26_12 : Cond.instanceMethod yX0_canWithdraw ∈ wsL_law := wR_26 _ (List.mem_of_getElem? (i := 12) rfl)
theorem u_26_13 : Cond.selects RX0 yX0_canWithdraw yX0_canWithdraw ∈ wsL_law := wR_26 _ (List.mem_of_getElem? (i := 13) rfl)
theorem u_26_14 : Cond.code yX0_canWithdraw cX0_canWithdraw 2 (some .boolean) ∈ wsL_law := wR_26 _ (List.mem_of_getElem? (i := 14) rfl)
theorem u_26_15 : Cond.methodLink RX0 112 yX1_closeAt ∈ wsL_law := wR_26 _ (List.mem_of_getElem? (i := 15) rfl)
theorem u_26_16 : Cond.methodLink RL 104 yX4_judge ∈ wsL_law := wR_26 _ (List.mem_of_getElem? (i := 16) rfl)
theorem u_26_17 : Cond.instanceMethod yX4_judge ∈ wsL_law := wR_26 _ (List.mem_of_getElem? (i := 17) rfl)
theorem u_26_18 : Cond.selects RX4 yX4_judge yX4_judge ∈ wsL_law := wR_26 _ (List.mem_of_getElem? (i := 18) rfl)
theorem u_26_19 : Cond.code yX4_judge cX4_judge 6 (some .int) ∈ wsL_law := wR_26 _ (List.mem_of_getElem? (i := 19) rfl)
theorem u_26_20 : Cond.constantLong RX4 207 (10000) ∈ wsL_law := wR_26 _ (List.mem_of_getElem? (i := 20) rfl)
theorem u_26_21 : Cond.methodLink RX4 209 yX4_tenThousands ∈ wsL_law := wR_26 _ (List.mem_of_getElem? (i := 21) rfl)
theorem u_26_22 : Cond.static yX4_tenThousands ∈ wsL_law := wR_26 _ (List.mem_of_getElem? (i := 22) rfl)
theorem u_26_23 : Cond.code yX4_tenThousands cX4_tenThousands 4 (some .long) ∈ wsL_law := wR_26 _ (List.mem_of_getElem? (i := 23) rfl)
theorem u_27_0 : Cond.methodLink RX4 213 yX4_judged ∈ wsL_law := wR_27 _ (List.mem_of_getElem? (i := 0) rfl)
theorem u_27_1 : Cond.instanceMethod yX4_judged ∈ wsL_law := wR_27 _ (List.mem_of_getElem? (i := 1) rfl)
theorem u_27_2 : Cond.selects RX4 yX4_judged yX4_judged ∈ wsL_law := wR_27 _ (List.mem_of_getElem? (i := 2) rfl)
theorem u_27_3 : Cond.code yX4_judged cX4_judged 6 (some .boolean) ∈ wsL_law := wR_27 _ (List.mem_of_getElem? (i := 3) rfl)
theorem u_27_4 : Cond.methodLink RL 105 yX3_see ∈ wsL_law := wR_27 _ (List.mem_of_getElem? (i := 4) rfl)
theorem u_27_5 : Cond.instanceMethod yX3_see ∈ wsL_law := wR_27 _ (List.mem_of_getElem? (i := 5) rfl)
theorem u_27_6 : Cond.selects RX3 yX3_see yX3_see ∈ wsL_law := wR_27 _ (List.mem_of_getElem? (i := 6) rfl)
theorem u_27_7 : Cond.code yX3_see cX3_see 5 (some .int) ∈ wsL_law := wR_27 _ (List.mem_of_getElem? (i := 7) rfl)
theorem u_27_8 : Cond.methodLink RL 109 yX4_see ∈ wsL_law := wR_27 _ (List.mem_of_getElem? (i := 8) rfl)
theorem u_27_9 : Cond.instanceMethod yX4_see ∈ wsL_law := wR_27 _ (List.mem_of_getElem? (i := 9) rfl)
theorem u_27_10 : Cond.selects RX4 yX4_see yX4_see ∈ wsL_law := wR_27 _ (List.mem_of_getElem? (i := 10) rfl)
theorem u_27_11 : Cond.code yX4_see cX4_see 5 (some .int) ∈ wsL_law := wR_27 _ (List.mem_of_getElem? (i := 11) rfl)
theorem u_27_12 : Cond.methodLink RL 110 yX3_unsee ∈ wsL_law := wR_27 _ (List.mem_of_getElem? (i := 12) rfl)
theorem u_27_13 : Cond.instanceMethod yX3_unsee ∈ wsL_law := wR_27 _ (List.mem_of_getElem? (i := 13) rfl)
theorem u_27_14 : Cond.selects RX3 yX3_unsee yX3_unsee ∈ wsL_law := wR_27 _ (List.mem_of_getElem? (i := 14) rfl)
theorem u_27_15 : Cond.code yX3_unsee cX3_unsee 2 (some .int) ∈ wsL_law := wR_27 _ (List.mem_of_getElem? (i := 15) rfl)
theorem u_27_16 : Cond.methodLink RL 113 yX4_unsee ∈ wsL_law := wR_27 _ (List.mem_of_getElem? (i := 16) rfl)
theorem u_27_17 : Cond.instanceMethod yX4_unsee ∈ wsL_law := wR_27 _ (List.mem_of_getElem? (i := 17) rfl)
theorem u_27_18 : Cond.selects RX4 yX4_unsee yX4_unsee ∈ wsL_law := wR_27 _ (List.mem_of_getElem? (i := 18) rfl)
theorem u_27_19 : Cond.code yX4_unsee cX4_unsee 2 (some .int) ∈ wsL_law := wR_27 _ (List.mem_of_getElem? (i := 19) rfl)
theorem u_27_20 : Cond.methodLink RL 114 yX3_which ∈ wsL_law := wR_27 _ (List.mem_of_getElem? (i := 20) rfl)
theorem u_27_21 : Cond.instanceMethod yX3_which ∈ wsL_law := wR_27 _ (List.mem_of_getElem? (i := 21) rfl)
theorem u_27_22 : Cond.selects RX3 yX3_which yX3_which ∈ wsL_law := wR_27 _ (List.mem_of_getElem? (i := 22) rfl)
theorem u_27_23 : Cond.code yX3_which cX3_which 4 (some .int) ∈ wsL_law := wR_27 _ (List.mem_of_getElem? (i := 23) rfl)
theorem u_28_0 : Cond.methodLink RX3 183 yX0_agreesWith ∈ wsL_law := wR_28 _ (List.mem_of_getElem? (i := 0) rfl)
theorem u_28_1 : Cond.instanceMethod yX0_agreesWith ∈ wsL_law := wR_28 _ (List.mem_of_getElem? (i := 1) rfl)
theorem u_28_2 : Cond.selects RX0 yX0_agreesWith yX0_agreesWith ∈ wsL_law := wR_28 _ (List.mem_of_getElem? (i := 2) rfl)
theorem u_28_3 : Cond.code yX0_agreesWith cX0_agreesWith 5 (some .boolean) ∈ wsL_law := wR_28 _ (List.mem_of_getElem? (i := 3) rfl)
theorem u_28_4 : Cond.methodLink RL 117 yX4_which ∈ wsL_law := wR_28 _ (List.mem_of_getElem? (i := 4) rfl)
theorem u_28_5 : Cond.instanceMethod yX4_which ∈ wsL_law := wR_28 _ (List.mem_of_getElem? (i := 5) rfl)
theorem u_28_6 : Cond.selects RX4 yX4_which yX4_which ∈ wsL_law := wR_28 _ (List.mem_of_getElem? (i := 6) rfl)
theorem u_28_7 : Cond.code yX4_which cX4_which 6 (some .int) ∈ wsL_law := wR_28 _ (List.mem_of_getElem? (i := 7) rfl)
theorem u_28_8 : Cond.methodLink RL 118 yX3_share ∈ wsL_law := wR_28 _ (List.mem_of_getElem? (i := 8) rfl)
theorem u_28_9 : Cond.instanceMethod yX3_share ∈ wsL_law := wR_28 _ (List.mem_of_getElem? (i := 9) rfl)
theorem u_28_10 : Cond.selects RX3 yX3_share yX3_share ∈ wsL_law := wR_28 _ (List.mem_of_getElem? (i := 10) rfl)
theorem u_28_11 : Cond.code yX3_share cX3_share 8 (some .int) ∈ wsL_law := wR_28 _ (List.mem_of_getElem? (i := 11) rfl)
theorem u_28_12 : Cond.methodLink RX3 187 yX0_grantsThatMakeRight ∈ wsL_law := wR_28 _ (List.mem_of_getElem? (i := 12) rfl)
theorem u_28_13 : Cond.instanceMethod yX0_grantsThatMakeRight ∈ wsL_law := wR_28 _ (List.mem_of_getElem? (i := 13) rfl)
theorem u_28_14 : Cond.selects RX0 yX0_grantsThatMakeRight yX0_grantsThatMakeRight ∈ wsL_law := wR_28 _ (List.mem_of_getElem? (i := 14) rfl)
theorem u_28_15 : Cond.code yX0_grantsThatMakeRight cX0_grantsThatMakeRight 6 (some .int) ∈ wsL_law := wR_28 _ (List.mem_of_getElem? (i := 15) rfl)
theorem u_28_16 : Cond.methodLink RX3 190 yJ6_bitCount_0f7a4 ∈ wsL_law := wR_28 _ (List.mem_of_getElem? (i := 16) rfl)
theorem u_28_17 : Cond.methodLink RX3 195 yX3_fraction ∈ wsL_law := wR_28 _ (List.mem_of_getElem? (i := 17) rfl)
theorem u_28_18 : Cond.static yX3_fraction ∈ wsL_law := wR_28 _ (List.mem_of_getElem? (i := 18) rfl)
theorem u_28_19 : Cond.code yX3_fraction cX3_fraction 7 (some .int) ∈ wsL_law := wR_28 _ (List.mem_of_getElem? (i := 19) rfl)
theorem u_28_20 : Cond.methodLink RL 122 yX4_share ∈ wsL_law := wR_28 _ (List.mem_of_getElem? (i := 20) rfl)
theorem u_28_21 : Cond.instanceMethod yX4_share ∈ wsL_law := wR_28 _ (List.mem_of_getElem? (i := 21) rfl)
theorem u_28_22 : Cond.selects RX4 yX4_share yX4_share ∈ wsL_law := wR_28 _ (List.mem_of_getElem? (i := 22) rfl)
theorem u_28_23 : Cond.code yX4_share cX4_share 7 (some .int) ∈ wsL_law := wR_28 _ (List.mem_of_getElem? (i := 23) rfl)
theorem u_29_0 : Cond.methodLink RX4 216 yX4_rightBy ∈ wsL_law := wR_29 _ (List.mem_of_getElem? (i := 0) rfl)
theorem u_29_1 : Cond.instanceMethod yX4_rightBy ∈ wsL_law := wR_29 _ (List.mem_of_getElem? (i := 1) rfl)
theorem u_29_2 : Cond.selects RX4 yX4_rightBy yX4_rightBy ∈ wsL_law := wR_29 _ (List.mem_of_getElem? (i := 2) rfl)
theorem u_29_3 : Cond.code yX4_rightBy cX4_rightBy 5 (some .int) ∈ wsL_law := wR_29 _ (List.mem_of_getElem? (i := 3) rfl)
theorem u_29_4 : Cond.methodLink RX4 219 yX4_ones ∈ wsL_law := wR_29 _ (List.mem_of_getElem? (i := 4) rfl)
theorem u_29_5 : Cond.static yX4_ones ∈ wsL_law := wR_29 _ (List.mem_of_getElem? (i := 5) rfl)
theorem u_29_6 : Cond.code yX4_ones cX4_ones 3 (some .int) ∈ wsL_law := wR_29 _ (List.mem_of_getElem? (i := 6) rfl)
theorem u_29_7 : Cond.methodLink RX4 222 yX4_factorial ∈ wsL_law := wR_29 _ (List.mem_of_getElem? (i := 7) rfl)
theorem u_29_8 : Cond.static yX4_factorial ∈ wsL_law := wR_29 _ (List.mem_of_getElem? (i := 8) rfl)
theorem u_29_9 : Cond.code yX4_factorial cX4_factorial 3 (some .int) ∈ wsL_law := wR_29 _ (List.mem_of_getElem? (i := 9) rfl)
theorem u_29_10 : Cond.methodLink RX4 225 yX4_fraction ∈ wsL_law := wR_29 _ (List.mem_of_getElem? (i := 10) rfl)
theorem u_29_11 : Cond.static yX4_fraction ∈ wsL_law := wR_29 _ (List.mem_of_getElem? (i := 11) rfl)
theorem u_29_12 : Cond.code yX4_fraction cX4_fraction 6 (some .int) ∈ wsL_law := wR_29 _ (List.mem_of_getElem? (i := 12) rfl)
theorem u_29_13 : Cond.methodLink RL 123 yX3_chance ∈ wsL_law := wR_29 _ (List.mem_of_getElem? (i := 13) rfl)
theorem u_29_14 : Cond.instanceMethod yX3_chance ∈ wsL_law := wR_29 _ (List.mem_of_getElem? (i := 14) rfl)
theorem u_29_15 : Cond.selects RX3 yX3_chance yX3_chance ∈ wsL_law := wR_29 _ (List.mem_of_getElem? (i := 15) rfl)
theorem u_29_16 : Cond.code yX3_chance cX3_chance 10 (some .int) ∈ wsL_law := wR_29 _ (List.mem_of_getElem? (i := 16) rfl)
theorem u_29_17 : Cond.methodLink RX3 199 yX3_weightOf ∈ wsL_law := wR_29 _ (List.mem_of_getElem? (i := 17) rfl)
theorem u_29_18 : Cond.instanceMethod yX3_weightOf ∈ wsL_law := wR_29 _ (List.mem_of_getElem? (i := 18) rfl)
theorem u_29_19 : Cond.selects RX3 yX3_weightOf yX3_weightOf ∈ wsL_law := wR_29 _ (List.mem_of_getElem? (i := 19) rfl)
theorem u_29_20 : Cond.code yX3_weightOf cX3_weightOf 5 (some .int) ∈ wsL_law := wR_29 _ (List.mem_of_getElem? (i := 20) rfl)
theorem u_29_21 : Cond.methodLink RL 127 yX4_chance ∈ wsL_law := wR_29 _ (List.mem_of_getElem? (i := 21) rfl)
theorem u_29_22 : Cond.instanceMethod yX4_chance ∈ wsL_law := wR_29 _ (List.mem_of_getElem? (i := 22) rfl)
theorem u_29_23 : Cond.selects RX4 yX4_chance yX4_chance ∈ wsL_law := wR_29 _ (List.mem_of_getElem? (i := 23) rfl)
theorem u_30_0 : Cond.code yX4_chance cX4_chance 8 (some .int) ∈ wsL_law := wR_30 _ (List.mem_of_getElem? (i := 0) rfl)
theorem u_30_1 : Cond.constantLong RX4 229 (6) ∈ wsL_law := wR_30 _ (List.mem_of_getElem? (i := 1) rfl)
theorem u_30_2 : Cond.constantLong RX4 231 (10) ∈ wsL_law := wR_30 _ (List.mem_of_getElem? (i := 2) rfl)
theorem u_30_3 : Cond.methodLink RX4 233 yX4_power ∈ wsL_law := wR_30 _ (List.mem_of_getElem? (i := 3) rfl)
theorem u_30_4 : Cond.static yX4_power ∈ wsL_law := wR_30 _ (List.mem_of_getElem? (i := 4) rfl)
theorem u_30_5 : Cond.code yX4_power cX4_power 4 (some .int) ∈ wsL_law := wR_30 _ (List.mem_of_getElem? (i := 5) rfl)
theorem u_30_6 : Cond.methodLink RL 128 yX3_seed ∈ wsL_law := wR_30 _ (List.mem_of_getElem? (i := 6) rfl)
theorem u_30_7 : Cond.instanceMethod yX3_seed ∈ wsL_law := wR_30 _ (List.mem_of_getElem? (i := 7) rfl)
theorem u_30_8 : Cond.selects RX3 yX3_seed yX3_seed ∈ wsL_law := wR_30 _ (List.mem_of_getElem? (i := 8) rfl)
theorem u_30_9 : Cond.code yX3_seed cX3_seed 5 (some .long) ∈ wsL_law := wR_30 _ (List.mem_of_getElem? (i := 9) rfl)
theorem u_30_10 : Cond.fieldLink RX3 202 "RangePapers" "seedNow" "J" ∈ wsL_law := wR_30 _ (List.mem_of_getElem? (i := 10) rfl)
theorem u_30_11 : Cond.methodLink RL 132 yX4_seed ∈ wsL_law := wR_30 _ (List.mem_of_getElem? (i := 11) rfl)
theorem u_30_12 : Cond.instanceMethod yX4_seed ∈ wsL_law := wR_30 _ (List.mem_of_getElem? (i := 12) rfl)
theorem u_30_13 : Cond.selects RX4 yX4_seed yX4_seed ∈ wsL_law := wR_30 _ (List.mem_of_getElem? (i := 13) rfl)
theorem u_30_14 : Cond.code yX4_seed cX4_seed 5 (some .long) ∈ wsL_law := wR_30 _ (List.mem_of_getElem? (i := 14) rfl)
theorem u_30_15 : Cond.fieldLink RX4 236 "RangePapersModel" "seed" "J" ∈ wsL_law := wR_30 _ (List.mem_of_getElem? (i := 15) rfl)
theorem u_30_16 : Cond.methodLink RL 133 yX3_drawn ∈ wsL_law := wR_30 _ (List.mem_of_getElem? (i := 16) rfl)
theorem u_30_17 : Cond.instanceMethod yX3_drawn ∈ wsL_law := wR_30 _ (List.mem_of_getElem? (i := 17) rfl)
theorem u_30_18 : Cond.selects RX3 yX3_drawn yX3_drawn ∈ wsL_law := wR_30 _ (List.mem_of_getElem? (i := 18) rfl)
theorem u_30_19 : Cond.code yX3_drawn cX3_drawn 9 (some .int) ∈ wsL_law := wR_30 _ (List.mem_of_getElem? (i := 19) rfl)
theorem u_30_20 : Cond.constantLong RX3 206 (6364136223846793005) ∈ wsL_law := wR_30 _ (List.mem_of_getElem? (i := 20) rfl)
theorem u_30_21 : Cond.constantLong RX3 208 (1442695040888963407) ∈ wsL_law := wR_30 _ (List.mem_of_getElem? (i := 21) rfl)
theorem u_30_22 : Cond.methodLink RL 136 yX4_drawn ∈ wsL_law := wR_30 _ (List.mem_of_getElem? (i := 22) rfl)
theorem u_30_23 : Cond.instanceMethod yX4_drawn ∈ wsL_law := wR_30 _ (List.mem_of_getElem? (i := 23) rfl)
theorem u_31_0 : Cond.selects RX4 yX4_drawn yX4_drawn ∈ wsL_law := wR_31 _ (List.mem_of_getElem? (i := 0) rfl)
theorem u_31_1 : Cond.code yX4_drawn cX4_drawn 7 (some .int) ∈ wsL_law := wR_31 _ (List.mem_of_getElem? (i := 1) rfl)
theorem u_31_2 : Cond.constantLong RX4 240 (40) ∈ wsL_law := wR_31 _ (List.mem_of_getElem? (i := 2) rfl)
theorem u_31_3 : Cond.constantLong RX4 242 (6364136223846793005) ∈ wsL_law := wR_31 _ (List.mem_of_getElem? (i := 3) rfl)
theorem u_31_4 : Cond.constantLong RX4 244 (1442695040888963407) ∈ wsL_law := wR_31 _ (List.mem_of_getElem? (i := 4) rfl)
theorem u_31_5 : Cond.methodLink RL 137 yX3_keep ∈ wsL_law := wR_31 _ (List.mem_of_getElem? (i := 5) rfl)
theorem u_31_6 : Cond.instanceMethod yX3_keep ∈ wsL_law := wR_31 _ (List.mem_of_getElem? (i := 6) rfl)
theorem u_31_7 : Cond.selects RX3 yX3_keep yX3_keep ∈ wsL_law := wR_31 _ (List.mem_of_getElem? (i := 7) rfl)
theorem u_31_8 : Cond.code yX3_keep cX3_keep 2 (some .int) ∈ wsL_law := wR_31 _ (List.mem_of_getElem? (i := 8) rfl)
theorem u_31_9 : Cond.methodLink RX3 210 yX3_slotBooks ∈ wsL_law := wR_31 _ (List.mem_of_getElem? (i := 9) rfl)
theorem u_31_10 : Cond.instanceMethod yX3_slotBooks ∈ wsL_law := wR_31 _ (List.mem_of_getElem? (i := 10) rfl)
theorem u_31_11 : Cond.selects RX3 yX3_slotBooks yX3_slotBooks ∈ wsL_law := wR_31 _ (List.mem_of_getElem? (i := 11) rfl)
theorem u_31_12 : Cond.code yX3_slotBooks cX3_slotBooks 2 (some (.object "RangePapers$Books")) ∈ wsL_law := wR_31 _ (List.mem_of_getElem? (i := 12) rfl)
theorem u_31_13 : Cond.methodLink RL 140 yX4_keep ∈ wsL_law := wR_31 _ (List.mem_of_getElem? (i := 13) rfl)
theorem u_31_14 : Cond.instanceMethod yX4_keep ∈ wsL_law := wR_31 _ (List.mem_of_getElem? (i := 14) rfl)
theorem u_31_15 : Cond.selects RX4 yX4_keep yX4_keep ∈ wsL_law := wR_31 _ (List.mem_of_getElem? (i := 15) rfl)
theorem u_31_16 : Cond.code yX4_keep cX4_keep 3 (some .int) ∈ wsL_law := wR_31 _ (List.mem_of_getElem? (i := 16) rfl)
theorem u_31_17 : Cond.methodLink RL 141 yX3_again ∈ wsL_law := wR_31 _ (List.mem_of_getElem? (i := 17) rfl)
theorem u_31_18 : Cond.instanceMethod yX3_again ∈ wsL_law := wR_31 _ (List.mem_of_getElem? (i := 18) rfl)
theorem u_31_19 : Cond.selects RX3 yX3_again yX3_again ∈ wsL_law := wR_31 _ (List.mem_of_getElem? (i := 19) rfl)
theorem u_31_20 : Cond.code yX3_again cX3_again 2 (some .int) ∈ wsL_law := wR_31 _ (List.mem_of_getElem? (i := 20) rfl)
theorem u_31_21 : Cond.methodLink RL 144 yX4_again ∈ wsL_law := wR_31 _ (List.mem_of_getElem? (i := 21) rfl)
theorem u_31_22 : Cond.instanceMethod yX4_again ∈ wsL_law := wR_31 _ (List.mem_of_getElem? (i := 22) rfl)
theorem u_31_23 : Cond.selects RX4 yX4_again yX4_again ∈ wsL_law := wR_31 _ (List.mem_of_getElem? (i := 23) rfl)
theorem u_32_0 : Cond.code yX4_again cX4_again 3 (some .int) ∈ wsL_law := wR_32 _ (List.mem_of_getElem? (i := 0) rfl)
theorem lk_L_13 : LkV RL 13 RX3 yX3_write cX3_write 2 (some .int) 1 := ⟨u_5_2, u_5_3, u_5_4, u_1_2, u_5_5, ⟨by decide, by decide, by decide⟩⟩
theorem lk_L_17 : LkV RL 17 RX4 yX4_write cX4_write 2 (some .int) 1 := ⟨u_5_12, u_5_13, u_5_14, u_1_5, u_5_15, ⟨by decide, by decide, by decide⟩⟩
theorem lk_L_18 : LkV RL 18 RX3 yX3_wipe cX3_wipe 2 (some .int) 0 := ⟨u_5_21, u_5_22, u_5_23, u_1_2, u_6_0, ⟨by decide, by decide, by decide⟩⟩
theorem lk_L_22 : LkV RL 22 RX4 yX4_wipe cX4_wipe 2 (some .int) 0 := ⟨u_6_1, u_6_2, u_6_3, u_1_5, u_6_4, ⟨by decide, by decide, by decide⟩⟩
theorem lk_L_23 : LkV RL 23 RX3 yX3_fault cX3_fault 1 (some .int) 0 := ⟨u_6_5, u_6_6, u_6_7, u_1_2, u_6_8, ⟨by decide, by decide, by decide⟩⟩
theorem lk_L_26 : LkV RL 26 RX4 yX4_fault cX4_fault 1 (some .int) 0 := ⟨u_8_7, u_8_8, u_8_9, u_1_5, u_8_10, ⟨by decide, by decide, by decide⟩⟩
theorem lk_L_27 : LkV RL 27 RX3 yX3_tree cX3_tree 1 (some .int) 0 := ⟨u_10_9, u_10_10, u_10_11, u_1_2, u_10_12, ⟨by decide, by decide, by decide⟩⟩
theorem lk_L_30 : LkV RL 30 RX4 yX4_tree cX4_tree 2 (some .int) 0 := ⟨u_11_6, u_11_7, u_11_8, u_1_5, u_11_9, ⟨by decide, by decide, by decide⟩⟩
theorem lk_L_31 : LkV RL 31 RX3 yX3_about cX3_about 2 (some .int) 1 := ⟨u_11_14, u_11_15, u_11_16, u_1_2, u_11_17, ⟨by decide, by decide, by decide⟩⟩
theorem lk_L_34 : LkV RL 34 RX4 yX4_about cX4_about 2 (some .int) 1 := ⟨u_13_17, u_13_18, u_13_19, u_1_5, u_13_20, ⟨by decide, by decide, by decide⟩⟩
theorem lk_L_35 : LkV RL 35 RX3 yX3_paper cX3_paper 3 (some .int) 2 := ⟨u_15_12, u_15_13, u_15_14, u_1_2, u_15_15, ⟨by decide, by decide, by decide⟩⟩
theorem lk_L_39 : LkV RL 39 RX4 yX4_paper cX4_paper 3 (some .int) 2 := ⟨u_15_22, u_15_23, u_16_0, u_1_5, u_16_1, ⟨by decide, by decide, by decide⟩⟩
theorem lk_L_40 : LkV RL 40 RX3 yX3_grant cX3_grant 3 (some .int) 2 := ⟨u_16_6, u_16_7, u_16_8, u_1_2, u_16_9, ⟨by decide, by decide, by decide⟩⟩
theorem lk_L_43 : LkV RL 43 RX4 yX4_grant cX4_grant 3 (some .int) 2 := ⟨u_16_10, u_16_11, u_16_12, u_1_5, u_16_13, ⟨by decide, by decide, by decide⟩⟩
theorem lk_L_44 : LkV RL 44 RX3 yX3_route cX3_route 3 (some .int) 2 := ⟨u_16_19, u_16_20, u_16_21, u_1_2, u_16_22, ⟨by decide, by decide, by decide⟩⟩
theorem lk_L_47 : LkV RL 47 RX4 yX4_route cX4_route 3 (some .int) 2 := ⟨u_17_4, u_17_5, u_17_6, u_1_5, u_17_7, ⟨by decide, by decide, by decide⟩⟩
theorem lk_L_48 : LkV RL 48 RX3 yX3_announce cX3_announce 5 (some .int) 3 := ⟨u_17_17, u_17_18, u_17_19, u_1_2, u_17_20, ⟨by decide, by decide, by decide⟩⟩
theorem lk_L_52 : LkV RL 52 RX4 yX4_announce cX4_announce 4 (some .int) 3 := ⟨u_18_17, u_18_18, u_18_19, u_1_5, u_18_20, ⟨by decide, by decide, by decide⟩⟩
theorem lk_L_53 : LkV RL 53 RX3 yX3_withdraw cX3_withdraw 2 (some .int) 1 := ⟨u_19_5, u_19_6, u_19_7, u_1_2, u_19_8, ⟨by decide, by decide, by decide⟩⟩
theorem lk_L_56 : LkV RL 56 RX4 yX4_withdraw cX4_withdraw 2 (some .int) 1 := ⟨u_19_14, u_19_15, u_19_16, u_1_5, u_19_17, ⟨by decide, by decide, by decide⟩⟩
theorem lk_L_57 : LkV RL 57 RX3 yX3_allow cX3_allow 7 (some .int) 5 := ⟨u_19_21, u_19_22, u_19_23, u_1_2, u_20_0, ⟨by decide, by decide, by decide⟩⟩
theorem lk_L_61 : LkV RL 61 RX4 yX4_allow cX4_allow 6 (some .int) 5 := ⟨u_20_1, u_20_2, u_20_3, u_1_5, u_20_4, ⟨by decide, by decide, by decide⟩⟩
theorem lk_L_62 : LkV RL 62 RX3 yX3_tear cX3_tear 2 (some .int) 1 := ⟨u_20_5, u_20_6, u_20_7, u_1_2, u_20_8, ⟨by decide, by decide, by decide⟩⟩
theorem lk_L_65 : LkV RL 65 RX4 yX4_tear cX4_tear 2 (some .int) 1 := ⟨u_20_9, u_20_10, u_20_11, u_1_5, u_20_12, ⟨by decide, by decide, by decide⟩⟩
theorem lk_L_66 : LkV RL 66 RX3 yX3_revoke cX3_revoke 2 (some .int) 1 := ⟨u_20_16, u_20_17, u_20_18, u_1_2, u_20_19, ⟨by decide, by decide, by decide⟩⟩
theorem lk_L_69 : LkV RL 69 RX4 yX4_revoke cX4_revoke 2 (some .int) 1 := ⟨u_20_20, u_20_21, u_20_22, u_1_5, u_20_23, ⟨by decide, by decide, by decide⟩⟩
theorem lk_L_70 : LkV RL 70 RX3 yX3_night cX3_night 1 (some .int) 0 := ⟨u_21_0, u_21_1, u_21_2, u_1_2, u_21_3, ⟨by decide, by decide, by decide⟩⟩
theorem lk_L_73 : LkV RL 73 RX4 yX4_night cX4_night 1 (some .int) 0 := ⟨u_21_4, u_21_5, u_21_6, u_1_5, u_21_7, ⟨by decide, by decide, by decide⟩⟩
theorem lk_L_74 : LkV RL 74 RX3 yX3_setAside cX3_setAside 2 (some .int) 1 := ⟨u_21_8, u_21_9, u_21_10, u_1_2, u_21_11, ⟨by decide, by decide, by decide⟩⟩
theorem lk_L_77 : LkV RL 77 RX4 yX4_setAside cX4_setAside 2 (some .int) 1 := ⟨u_21_12, u_21_13, u_21_14, u_1_5, u_21_15, ⟨by decide, by decide, by decide⟩⟩
theorem lk_L_78 : LkV RL 78 RX3 yX3_undo cX3_undo 2 (some .int) 0 := ⟨u_21_16, u_21_17, u_21_18, u_1_2, u_21_19, ⟨by decide, by decide, by decide⟩⟩
theorem lk_L_81 : LkV RL 81 RX4 yX4_undo cX4_undo 2 (some .int) 0 := ⟨u_22_4, u_22_5, u_22_6, u_1_5, u_22_7, ⟨by decide, by decide, by decide⟩⟩
theorem lk_L_82 : LkV RL 82 RX3 yX3_state cX3_state 4 (some .int) 3 := ⟨u_22_8, u_22_9, u_22_10, u_1_2, u_22_11, ⟨by decide, by decide, by decide⟩⟩
theorem lk_L_85 : LkV RL 85 RX4 yX4_state cX4_state 4 (some .int) 3 := ⟨u_22_13, u_22_14, u_22_15, u_1_5, u_22_16, ⟨by decide, by decide, by decide⟩⟩
theorem lk_L_86 : LkV RL 86 RX3 yX3_goes cX3_goes 3 (some .int) 2 := ⟨u_22_17, u_22_18, u_22_19, u_1_2, u_22_20, ⟨by decide, by decide, by decide⟩⟩
theorem lk_L_89 : LkV RL 89 RX4 yX4_goes cX4_goes 3 (some .int) 2 := ⟨u_23_13, u_23_14, u_23_15, u_1_5, u_23_16, ⟨by decide, by decide, by decide⟩⟩
theorem lk_L_90 : LkV RL 90 RX3 yX3_theft cX3_theft 7 (some .int) 3 := ⟨u_24_8, u_24_9, u_24_10, u_1_2, u_24_11, ⟨by decide, by decide, by decide⟩⟩
theorem lk_L_93 : LkV RL 93 RX4 yX4_theft cX4_theft 5 (some .int) 3 := ⟨u_24_16, u_24_17, u_24_18, u_1_5, u_24_19, ⟨by decide, by decide, by decide⟩⟩
theorem lk_L_94 : LkV RL 94 RX3 yX3_lost cX3_lost 3 (some .int) 1 := ⟨u_24_20, u_24_21, u_24_22, u_1_2, u_24_23, ⟨by decide, by decide, by decide⟩⟩
theorem lk_L_97 : LkV RL 97 RX4 yX4_lost cX4_lost 2 (some .int) 1 := ⟨u_25_1, u_25_2, u_25_3, u_1_5, u_25_4, ⟨by decide, by decide, by decide⟩⟩
theorem lk_L_100 : LkV RL 100 RX3 yX3_judge cX3_judge 5 (some .int) 2 := ⟨u_25_5, u_25_6, u_25_7, u_1_2, u_25_8, ⟨by decide, by decide, by decide⟩⟩
theorem lk_L_104 : LkV RL 104 RX4 yX4_judge cX4_judge 6 (some .int) 2 := ⟨u_26_16, u_26_17, u_26_18, u_1_5, u_26_19, ⟨by decide, by decide, by decide⟩⟩
theorem lk_L_105 : LkV RL 105 RX3 yX3_see cX3_see 5 (some .int) 4 := ⟨u_27_4, u_27_5, u_27_6, u_1_2, u_27_7, ⟨by decide, by decide, by decide⟩⟩
theorem lk_L_109 : LkV RL 109 RX4 yX4_see cX4_see 5 (some .int) 4 := ⟨u_27_8, u_27_9, u_27_10, u_1_5, u_27_11, ⟨by decide, by decide, by decide⟩⟩
theorem lk_L_110 : LkV RL 110 RX3 yX3_unsee cX3_unsee 2 (some .int) 0 := ⟨u_27_12, u_27_13, u_27_14, u_1_2, u_27_15, ⟨by decide, by decide, by decide⟩⟩
theorem lk_L_113 : LkV RL 113 RX4 yX4_unsee cX4_unsee 2 (some .int) 0 := ⟨u_27_16, u_27_17, u_27_18, u_1_5, u_27_19, ⟨by decide, by decide, by decide⟩⟩
theorem lk_L_114 : LkV RL 114 RX3 yX3_which cX3_which 4 (some .int) 1 := ⟨u_27_20, u_27_21, u_27_22, u_1_2, u_27_23, ⟨by decide, by decide, by decide⟩⟩
theorem lk_L_117 : LkV RL 117 RX4 yX4_which cX4_which 6 (some .int) 1 := ⟨u_28_4, u_28_5, u_28_6, u_1_5, u_28_7, ⟨by decide, by decide, by decide⟩⟩
theorem lk_L_118 : LkV RL 118 RX3 yX3_share cX3_share 8 (some .int) 2 := ⟨u_28_8, u_28_9, u_28_10, u_1_2, u_28_11, ⟨by decide, by decide, by decide⟩⟩
theorem lk_L_122 : LkV RL 122 RX4 yX4_share cX4_share 7 (some .int) 2 := ⟨u_28_20, u_28_21, u_28_22, u_1_5, u_28_23, ⟨by decide, by decide, by decide⟩⟩
theorem lk_L_123 : LkV RL 123 RX3 yX3_chance cX3_chance 10 (some .int) 3 := ⟨u_29_13, u_29_14, u_29_15, u_1_2, u_29_16, ⟨by decide, by decide, by decide⟩⟩
theorem lk_L_127 : LkV RL 127 RX4 yX4_chance cX4_chance 8 (some .int) 3 := ⟨u_29_21, u_29_22, u_29_23, u_1_5, u_30_0, ⟨by decide, by decide, by decide⟩⟩
theorem lk_L_128 : LkV RL 128 RX3 yX3_seed cX3_seed 5 (some .long) 1 := ⟨u_30_6, u_30_7, u_30_8, u_1_2, u_30_9, ⟨by decide, by decide, by decide⟩⟩
theorem lk_L_132 : LkV RL 132 RX4 yX4_seed cX4_seed 5 (some .long) 1 := ⟨u_30_11, u_30_12, u_30_13, u_1_5, u_30_14, ⟨by decide, by decide, by decide⟩⟩
theorem lk_L_133 : LkV RL 133 RX3 yX3_drawn cX3_drawn 9 (some .int) 1 := ⟨u_30_16, u_30_17, u_30_18, u_1_2, u_30_19, ⟨by decide, by decide, by decide⟩⟩
theorem lk_L_136 : LkV RL 136 RX4 yX4_drawn cX4_drawn 7 (some .int) 1 := ⟨u_30_22, u_30_23, u_31_0, u_1_5, u_31_1, ⟨by decide, by decide, by decide⟩⟩
theorem lk_L_137 : LkV RL 137 RX3 yX3_keep cX3_keep 2 (some .int) 1 := ⟨u_31_5, u_31_6, u_31_7, u_1_2, u_31_8, ⟨by decide, by decide, by decide⟩⟩
theorem lk_L_140 : LkV RL 140 RX4 yX4_keep cX4_keep 3 (some .int) 1 := ⟨u_31_13, u_31_14, u_31_15, u_1_5, u_31_16, ⟨by decide, by decide, by decide⟩⟩
theorem lk_L_141 : LkV RL 141 RX3 yX3_again cX3_again 2 (some .int) 1 := ⟨u_31_17, u_31_18, u_31_19, u_1_2, u_31_20, ⟨by decide, by decide, by decide⟩⟩
theorem lk_L_144 : LkV RL 144 RX4 yX4_again cX4_again 3 (some .int) 1 := ⟨u_31_21, u_31_22, u_31_23, u_1_5, u_32_0, ⟨by decide, by decide, by decide⟩⟩
theorem lk_X0_26 : LkV RX0 26 RX1 yX1_copyFrom cX1_copyFrom 2 none 1 := ⟨u_11_5, u_10_19, u_10_20, u_1_15, u_10_21, ⟨by decide, by decide, by decide⟩⟩
theorem lk_X0_43 : LkV RX0 43 RX1 yX1_at cX1_at 3 (some .int) 2 := ⟨u_12_4, u_12_5, u_12_6, u_1_15, u_12_7, ⟨by decide, by decide, by decide⟩⟩
theorem lk_X0_54 : LkV RX0 54 RX0 yX0_standing cX0_standing 5 (some .int) 1 := ⟨u_12_16, u_12_0, u_12_1, u_1_19, u_12_2, ⟨by decide, by decide, by decide⟩⟩
theorem lk_X0_58 : LkV RX0 58 RX0 yX0_counting cX0_counting 5 (some .int) 1 := ⟨u_12_17, u_12_18, u_12_19, u_1_19, u_12_20, ⟨by decide, by decide, by decide⟩⟩
theorem lk_X0_61 : LkV RX0 61 RX0 yX0_stateOf cX0_stateOf 7 (some .int) 4 := ⟨u_13_1, u_13_2, u_13_3, u_1_19, u_13_4, ⟨by decide, by decide, by decide⟩⟩
theorem lk_X0_65 : LkV RX0 65 RX0 yX0_routesThatAre cX0_routesThatAre 6 (some .int) 2 := ⟨u_23_8, u_12_22, u_12_23, u_1_19, u_13_0, ⟨by decide, by decide, by decide⟩⟩
theorem lk_X0_68 : LkV RX0 68 RX0 yX0_countingNow cX0_countingNow 1 (some .int) 0 := ⟨u_13_9, u_12_13, u_12_14, u_1_19, u_12_15, ⟨by decide, by decide, by decide⟩⟩
theorem lk_X0_72 : LkS RX0 72 yJ6_bitCount_0f7a4 cJ6_bitCount_0f7a4 1 (some .int) 1 := ⟨u_13_10, u_13_11, u_13_12, u_13_13, ⟨by decide, by decide, by decide⟩⟩
theorem lk_X0_77 : LkV RX0 77 RX0 yX0_apartFrom cX0_apartFrom 6 (some .int) 2 := ⟨u_23_9, u_23_10, u_23_11, u_1_19, u_23_12, ⟨by decide, by decide, by decide⟩⟩
theorem lk_X0_80 : LkV RX0 80 RX0 yX0_letIn cX0_letIn 6 (some .int) 1 := ⟨u_23_4, u_23_5, u_23_6, u_1_19, u_23_7, ⟨by decide, by decide, by decide⟩⟩
theorem lk_X0_83 : LkV RX0 83 RX0 yX0_canRevoke cX0_canRevoke 2 (some .boolean) 1 := ⟨u_25_21, u_25_22, u_25_23, u_1_19, u_26_0, ⟨by decide, by decide, by decide⟩⟩
theorem lk_X0_87 : LkV RX0 87 RX0 yX0_canPassNight cX0_canPassNight 1 (some .boolean) 0 := ⟨u_26_2, u_26_3, u_26_4, u_1_19, u_26_5, ⟨by decide, by decide, by decide⟩⟩
theorem lk_X0_91 : LkV RX0 91 RX0 yX0_canSetAside cX0_canSetAside 2 (some .boolean) 1 := ⟨u_26_6, u_26_7, u_26_8, u_1_19, u_26_9, ⟨by decide, by decide, by decide⟩⟩
theorem lk_X0_94 : LkV RX0 94 RX1 yX1_has cX1_has 2 (some .boolean) 1 := ⟨u_26_1, u_15_17, u_15_18, u_1_15, u_15_19, ⟨by decide, by decide, by decide⟩⟩
theorem lk_X0_103 : LkV RX0 103 RX0 yX0_routeTo cX0_routeTo 6 (some .int) 2 := ⟨u_26_10, u_23_1, u_23_2, u_1_19, u_23_3, ⟨by decide, by decide, by decide⟩⟩
theorem lk_X0_106 : LkV RX0 106 RX0 yX0_canWithdraw cX0_canWithdraw 2 (some .boolean) 1 := ⟨u_26_11, u_26_12, u_26_13, u_1_19, u_26_14, ⟨by decide, by decide, by decide⟩⟩
theorem lk_X0_112 : LkV RX0 112 RX1 yX1_closeAt cX1_closeAt 2 none 1 := ⟨u_26_15, u_18_12, u_18_13, u_1_15, u_18_14, ⟨by decide, by decide, by decide⟩⟩
theorem lk_X1_31 : LkV RX1 31 RX1 yX1_openAt cX1_openAt 2 none 1 := ⟨u_3_19, u_3_20, u_3_21, u_1_15, u_3_22, ⟨by decide, by decide, by decide⟩⟩
theorem lk_X1_35 : LkV RX1 35 RX1 yX1_put cX1_put 4 none 3 := ⟨u_4_3, u_4_4, u_4_5, u_1_15, u_4_6, ⟨by decide, by decide, by decide⟩⟩
theorem lk_X2_37 : LkV RX2 37 RX1 yX1_addRange cX1_addRange 7 (some .int) 5 := ⟨u_6_16, u_3_15, u_3_16, u_1_15, u_3_17, ⟨by decide, by decide, by decide⟩⟩
theorem lk_X2_44 : LkV RX2 44 RX2 yX2_letterAt cX2_letterAt 2 (some .char) 1 := ⟨u_6_17, u_6_18, u_6_19, u_2_4, u_6_20, ⟨by decide, by decide, by decide⟩⟩
theorem lk_X2_51 : LkV RX2 51 RX2 yX2_readPart cX2_readPart 2 none 0 := ⟨u_6_21, u_6_22, u_6_23, u_2_4, u_7_0, ⟨by decide, by decide, by decide⟩⟩
theorem lk_X2_54 : LkV RX2 54 RX2 yX2_readPaper cX2_readPaper 5 none 0 := ⟨u_7_1, u_7_2, u_7_3, u_2_4, u_7_4, ⟨by decide, by decide, by decide⟩⟩
theorem lk_X2_57 : LkV RX2 57 RX2 yX2_readGrant cX2_readGrant 6 none 0 := ⟨u_7_19, u_7_20, u_7_21, u_2_4, u_7_22, ⟨by decide, by decide, by decide⟩⟩
theorem lk_X2_60 : LkV RX2 60 RX2 yX2_readRoute cX2_readRoute 4 none 0 := ⟨u_8_3, u_8_4, u_8_5, u_2_4, u_8_6, ⟨by decide, by decide, by decide⟩⟩
theorem lk_X2_63 : LkV RX2 63 RX2 yX2_readFigure cX2_readFigure 4 (some .int) 2 := ⟨u_7_5, u_7_6, u_7_7, u_2_4, u_7_8, ⟨by decide, by decide, by decide⟩⟩
theorem lk_X2_67 : LkV RX2 67 RX2 yX2_readStart cX2_readStart 2 (some .int) 0 := ⟨u_7_9, u_7_10, u_7_11, u_2_4, u_7_12, ⟨by decide, by decide, by decide⟩⟩
theorem lk_X2_71 : LkV RX2 71 RX2 yX2_readLength cX2_readLength 3 (some .int) 1 := ⟨u_7_13, u_7_14, u_7_15, u_2_4, u_7_16, ⟨by decide, by decide, by decide⟩⟩
theorem lk_X2_75 : LkV RX2 75 RX2 yX2_readHolder cX2_readHolder 2 (some .int) 0 := ⟨u_7_23, u_8_0, u_8_1, u_2_4, u_8_2, ⟨by decide, by decide, by decide⟩⟩
theorem lk_X3_53 : LkV RX3 53 RX1 yX1_addRange cX1_addRange 7 (some .int) 5 := ⟨u_3_14, u_3_15, u_3_16, u_1_15, u_3_17, ⟨by decide, by decide, by decide⟩⟩
theorem lk_X3_61 : LkV RX3 61 RX2 yX2_append cX2_append 2 none 1 := ⟨u_5_7, u_5_8, u_5_9, u_2_4, u_5_10, ⟨by decide, by decide, by decide⟩⟩
theorem lk_X3_65 : LkV RX3 65 RX2 yX2_readAll cX2_readAll 2 (some .int) 0 := ⟨u_6_9, u_6_10, u_6_11, u_2_4, u_6_12, ⟨by decide, by decide, by decide⟩⟩
theorem lk_X3_70 : LkV RX3 70 RX1 yX1_copyFrom cX1_copyFrom 2 none 1 := ⟨u_10_18, u_10_19, u_10_20, u_1_15, u_10_21, ⟨by decide, by decide, by decide⟩⟩
theorem lk_X3_79 : LkV RX3 79 RX0 yX0_begin cX0_begin 3 none 2 := ⟨u_10_22, u_10_23, u_11_0, u_1_19, u_11_1, ⟨by decide, by decide, by decide⟩⟩
theorem lk_X3_97 : LkV RX3 97 RX0 yX0_standing cX0_standing 5 (some .int) 1 := ⟨u_11_23, u_12_0, u_12_1, u_1_19, u_12_2, ⟨by decide, by decide, by decide⟩⟩
theorem lk_X3_104 : LkV RX3 104 RX0 yX0_countingNow cX0_countingNow 1 (some .int) 0 := ⟨u_12_12, u_12_13, u_12_14, u_1_19, u_12_15, ⟨by decide, by decide, by decide⟩⟩
theorem lk_X3_107 : LkV RX3 107 RX0 yX0_routesThatAre cX0_routesThatAre 6 (some .int) 2 := ⟨u_12_21, u_12_22, u_12_23, u_1_19, u_13_0, ⟨by decide, by decide, by decide⟩⟩
theorem lk_X3_111 : LkV RX3 111 RX0 yX0_bare cX0_bare 4 (some .int) 0 := ⟨u_13_5, u_13_6, u_13_7, u_1_19, u_13_8, ⟨by decide, by decide, by decide⟩⟩
theorem lk_X3_114 : LkV RX3 114 RX1 yX1_has cX1_has 2 (some .boolean) 1 := ⟨u_15_16, u_15_17, u_15_18, u_1_15, u_15_19, ⟨by decide, by decide, by decide⟩⟩
theorem lk_X3_118 : LkV RX3 118 RX1 yX1_at cX1_at 3 (some .int) 2 := ⟨u_15_20, u_12_5, u_12_6, u_1_15, u_12_7, ⟨by decide, by decide, by decide⟩⟩
theorem lk_X3_121 : LkS RX3 121 yX3_bit cX3_bit 2 (some .int) 2 := ⟨u_15_21, u_12_8, u_1_2, u_12_9, ⟨by decide, by decide, by decide⟩⟩
theorem lk_X3_124 : LkV RX3 124 RX0 yX0_stateOf cX0_stateOf 7 (some .int) 4 := ⟨u_16_23, u_13_2, u_13_3, u_1_19, u_13_4, ⟨by decide, by decide, by decide⟩⟩
theorem lk_X3_128 : LkV RX3 128 RX0 yX0_makerOf cX0_makerOf 5 (some .int) 1 := ⟨u_17_0, u_17_1, u_17_2, u_1_19, u_17_3, ⟨by decide, by decide, by decide⟩⟩
theorem lk_X3_131 : LkS RX3 131 yX3_isRange cX3_isRange 2 (some .boolean) 2 := ⟨u_17_21, u_17_22, u_1_2, u_17_23, ⟨by decide, by decide, by decide⟩⟩
theorem lk_X3_135 : LkS RX3 135 yX3_isOrigin cX3_isOrigin 1 (some .boolean) 1 := ⟨u_18_4, u_18_5, u_1_2, u_18_6, ⟨by decide, by decide, by decide⟩⟩
theorem lk_X3_138 : LkV RX3 138 RX3 yX3_remember cX3_remember 4 (some .int) 2 := ⟨u_18_7, u_18_8, u_18_9, u_1_2, u_18_10, ⟨by decide, by decide, by decide⟩⟩
theorem lk_X3_141 : LkV RX3 141 RX3 yX3_rememberRow cX3_rememberRow 6 none 3 := ⟨u_19_9, u_19_10, u_19_11, u_1_2, u_19_12, ⟨by decide, by decide, by decide⟩⟩
theorem lk_X3_145 : LkV RX3 145 RX1 yX1_closeAt cX1_closeAt 2 none 1 := ⟨u_18_11, u_18_12, u_18_13, u_1_15, u_18_14, ⟨by decide, by decide, by decide⟩⟩
theorem lk_X3_148 : LkV RX3 148 RX3 yX3_takeBack cX3_takeBack 3 none 1 := ⟨u_21_20, u_21_21, u_21_22, u_1_2, u_21_23, ⟨by decide, by decide, by decide⟩⟩
theorem lk_X3_151 : LkS RX3 151 yX3_coverOf cX3_coverOf 2 (some .int) 2 := ⟨u_22_12, u_4_7, u_1_2, u_4_8, ⟨by decide, by decide, by decide⟩⟩
theorem lk_X3_154 : LkS RX3 154 yX3_isPlace cX3_isPlace 1 (some .boolean) 1 := ⟨u_18_0, u_18_1, u_1_2, u_18_2, ⟨by decide, by decide, by decide⟩⟩
theorem lk_X3_157 : LkS RX3 157 yX3_isLaw cX3_isLaw 1 (some .boolean) 1 := ⟨u_22_21, u_22_22, u_1_2, u_22_23, ⟨by decide, by decide, by decide⟩⟩
theorem lk_X3_160 : LkV RX3 160 RX0 yX0_routeTo cX0_routeTo 6 (some .int) 2 := ⟨u_23_0, u_23_1, u_23_2, u_1_19, u_23_3, ⟨by decide, by decide, by decide⟩⟩
theorem lk_X3_163 : LkV RX3 163 RX0 yX0_copyFrom cX0_copyFrom 2 none 1 := ⟨u_24_12, u_24_13, u_24_14, u_1_19, u_24_15, ⟨by decide, by decide, by decide⟩⟩
theorem lk_X3_166 : LkS RX3 166 yX3_leftBySize cX3_leftBySize 2 (some .int) 2 := ⟨u_18_3, u_7_17, u_1_2, u_7_18, ⟨by decide, by decide, by decide⟩⟩
theorem lk_X3_169 : LkV RX3 169 RX0 yX0_counting cX0_counting 5 (some .int) 1 := ⟨u_25_0, u_12_18, u_12_19, u_1_19, u_12_20, ⟨by decide, by decide, by decide⟩⟩
theorem lk_X3_172 : LkV RX3 172 RX3 yX3_splitDoings cX3_splitDoings 7 (some .boolean) 2 := ⟨u_25_9, u_25_10, u_25_11, u_1_2, u_25_12, ⟨by decide, by decide, by decide⟩⟩
theorem lk_X3_176 : LkV RX3 176 RX0 yX0_canBe cX0_canBe 5 (some .boolean) 1 := ⟨u_25_17, u_25_18, u_25_19, u_1_19, u_25_20, ⟨by decide, by decide, by decide⟩⟩
theorem lk_X3_179 : LkV RX3 179 RX1 yX1_put cX1_put 4 none 3 := ⟨u_18_16, u_4_4, u_4_5, u_1_15, u_4_6, ⟨by decide, by decide, by decide⟩⟩
theorem lk_X3_183 : LkV RX3 183 RX0 yX0_agreesWith cX0_agreesWith 5 (some .boolean) 1 := ⟨u_28_0, u_28_1, u_28_2, u_1_19, u_28_3, ⟨by decide, by decide, by decide⟩⟩
theorem lk_X3_187 : LkV RX3 187 RX0 yX0_grantsThatMakeRight cX0_grantsThatMakeRight 6 (some .int) 2 := ⟨u_28_12, u_28_13, u_28_14, u_1_19, u_28_15, ⟨by decide, by decide, by decide⟩⟩
theorem lk_X3_190 : LkS RX3 190 yJ6_bitCount_0f7a4 cJ6_bitCount_0f7a4 1 (some .int) 1 := ⟨u_28_16, u_13_11, u_13_12, u_13_13, ⟨by decide, by decide, by decide⟩⟩
theorem lk_X3_195 : LkS RX3 195 yX3_fraction cX3_fraction 7 (some .int) 3 := ⟨u_28_17, u_28_18, u_1_2, u_28_19, ⟨by decide, by decide, by decide⟩⟩
theorem lk_X3_199 : LkV RX3 199 RX3 yX3_weightOf cX3_weightOf 5 (some .int) 2 := ⟨u_29_17, u_29_18, u_29_19, u_1_2, u_29_20, ⟨by decide, by decide, by decide⟩⟩
theorem lk_X3_210 : LkV RX3 210 RX3 yX3_slotBooks cX3_slotBooks 2 (some (.object "RangePapers$Books")) 1 := ⟨u_31_9, u_31_10, u_31_11, u_1_2, u_31_12, ⟨by decide, by decide, by decide⟩⟩
theorem lk_X3_214 : LkV RX3 214 RX1 yX1_openAt cX1_openAt 2 none 1 := ⟨u_18_15, u_3_20, u_3_21, u_1_15, u_3_22, ⟨by decide, by decide, by decide⟩⟩
theorem lk_X3_220 : LkV RX3 220 RX3 yX3_putBack cX3_putBack 5 none 3 := ⟨u_22_0, u_22_1, u_22_2, u_1_2, u_22_3, ⟨by decide, by decide, by decide⟩⟩
theorem lk_X4_50 : LkS RX4 50 yX4_in cX4_in 6 (some .boolean) 3 := ⟨u_5_18, u_5_19, u_1_5, u_5_20, ⟨by decide, by decide, by decide⟩⟩
theorem lk_X4_56 : LkS RX4 56 yX4_sizeOf cX4_sizeOf 1 (some .int) 1 := ⟨u_9_16, u_9_17, u_1_5, u_9_18, ⟨by decide, by decide, by decide⟩⟩
theorem lk_X4_68 : LkV RX4 68 RX4 yX4_figure cX4_figure 4 (some .int) 2 := ⟨u_9_3, u_9_4, u_9_5, u_1_5, u_9_6, ⟨by decide, by decide, by decide⟩⟩
theorem lk_X4_75 : LkS RX4 75 yX4_isRange cX4_isRange 2 (some .boolean) 2 := ⟨u_9_11, u_9_12, u_1_5, u_9_13, ⟨by decide, by decide, by decide⟩⟩
theorem lk_X4_85 : LkV RX4 85 RX4 yX4_readRange cX4_readRange 4 (some .boolean) 0 := ⟨u_9_7, u_9_8, u_9_9, u_1_5, u_9_10, ⟨by decide, by decide, by decide⟩⟩
theorem lk_X4_89 : LkS RX4 89 yX4_addGrant cX4_addGrant 7 none 6 := ⟨u_9_23, u_10_0, u_1_5, u_10_1, ⟨by decide, by decide, by decide⟩⟩
theorem lk_X4_93 : LkS RX4 93 yX4_addRoute cX4_addRoute 5 none 4 := ⟨u_10_6, u_10_7, u_1_5, u_10_8, ⟨by decide, by decide, by decide⟩⟩
theorem lk_X4_97 : LkV RX4 97 RX4 yX4_readOnePaper cX4_readOnePaper 4 (some .boolean) 0 := ⟨u_8_21, u_8_22, u_8_23, u_1_5, u_9_0, ⟨by decide, by decide, by decide⟩⟩
theorem lk_X4_100 : LkV RX4 100 RX4 yX4_readOneGrant cX4_readOneGrant 4 (some .boolean) 0 := ⟨u_9_19, u_9_20, u_9_21, u_1_5, u_9_22, ⟨by decide, by decide, by decide⟩⟩
theorem lk_X4_103 : LkV RX4 103 RX4 yX4_readOneRoute cX4_readOneRoute 2 (some .boolean) 0 := ⟨u_10_2, u_10_3, u_10_4, u_1_5, u_10_5, ⟨by decide, by decide, by decide⟩⟩
theorem lk_X4_106 : LkV RX4 106 RX4 yX4_readPart cX4_readPart 3 (some .boolean) 0 := ⟨u_8_17, u_8_18, u_8_19, u_1_5, u_8_20, ⟨by decide, by decide, by decide⟩⟩
theorem lk_X4_109 : LkV RX4 109 RX4 yX4_readText cX4_readText 2 (some .int) 0 := ⟨u_8_11, u_8_12, u_8_13, u_1_5, u_8_14, ⟨by decide, by decide, by decide⟩⟩
theorem lk_X4_113 : LkS RX4 113 yX4_copy cX4_copy 3 none 2 := ⟨u_11_11, u_11_12, u_1_5, u_11_13, ⟨by decide, by decide, by decide⟩⟩
theorem lk_X4_120 : LkS RX4 120 yX4_has cX4_has 2 (some .boolean) 2 := ⟨u_14_6, u_14_7, u_1_5, u_14_8, ⟨by decide, by decide, by decide⟩⟩
theorem lk_X4_123 : LkS RX4 123 yX4_isWithin cX4_isWithin 4 (some .boolean) 4 := ⟨u_14_9, u_14_10, u_1_5, u_14_11, ⟨by decide, by decide, by decide⟩⟩
theorem lk_X4_127 : LkV RX4 127 RX4 yX4_stands cX4_stands 7 (some .boolean) 2 := ⟨u_14_2, u_14_3, u_14_4, u_1_5, u_14_5, ⟨by decide, by decide, by decide⟩⟩
theorem lk_X4_131 : LkV RX4 131 RX4 yX4_counts cX4_counts 5 (some .boolean) 2 := ⟨u_15_4, u_15_5, u_15_6, u_1_5, u_15_7, ⟨by decide, by decide, by decide⟩⟩
theorem lk_X4_134 : LkV RX4 134 RX4 yX4_stateBy cX4_stateBy 9 (some .int) 5 := ⟨u_15_0, u_15_1, u_15_2, u_1_5, u_15_3, ⟨by decide, by decide, by decide⟩⟩
theorem lk_X4_138 : LkV RX4 138 RX4 yX4_stateOf cX4_stateOf 5 (some .int) 4 := ⟨u_14_20, u_14_21, u_14_22, u_1_5, u_14_23, ⟨by decide, by decide, by decide⟩⟩
theorem lk_X4_142 : LkV RX4 142 RX4 yX4_routeState cX4_routeState 4 (some .int) 2 := ⟨u_14_16, u_14_17, u_14_18, u_1_5, u_14_19, ⟨by decide, by decide, by decide⟩⟩
theorem lk_X4_146 : LkS RX4 146 yX4_meet cX4_meet 5 (some .boolean) 3 := ⟨u_24_5, u_24_6, u_1_5, u_24_7, ⟨by decide, by decide, by decide⟩⟩
theorem lk_X4_150 : LkV RX4 150 RX4 yX4_isIn cX4_isIn 7 (some .boolean) 3 := ⟨u_24_1, u_24_2, u_24_3, u_1_5, u_24_4, ⟨by decide, by decide, by decide⟩⟩
theorem lk_X4_153 : LkV RX4 153 RX4 yX4_standing cX4_standing 3 (some .int) 0 := ⟨u_13_22, u_13_23, u_14_0, u_1_5, u_14_1, ⟨by decide, by decide, by decide⟩⟩
theorem lk_X4_156 : LkV RX4 156 RX4 yX4_those cX4_those 5 (some .int) 2 := ⟨u_14_12, u_14_13, u_14_14, u_1_5, u_14_15, ⟨by decide, by decide, by decide⟩⟩
theorem lk_X4_159 : LkV RX4 159 RX4 yX4_bare cX4_bare 6 (some .int) 0 := ⟨u_15_8, u_15_9, u_15_10, u_1_5, u_15_11, ⟨by decide, by decide, by decide⟩⟩
theorem lk_X4_165 : LkV RX4 165 RX4 yX4_isPaper cX4_isPaper 2 (some .boolean) 1 := ⟨u_16_2, u_16_3, u_16_4, u_1_5, u_16_5, ⟨by decide, by decide, by decide⟩⟩
theorem lk_X4_169 : LkV RX4 169 RX4 yX4_isGrant cX4_isGrant 2 (some .boolean) 1 := ⟨u_16_15, u_16_16, u_16_17, u_1_5, u_16_18, ⟨by decide, by decide, by decide⟩⟩
theorem lk_X4_174 : LkV RX4 174 RX4 yX4_isRoute cX4_isRoute 2 (some .boolean) 1 := ⟨u_17_9, u_17_10, u_17_11, u_1_5, u_17_12, ⟨by decide, by decide, by decide⟩⟩
theorem lk_X4_177 : LkV RX4 177 RX4 yX4_makerOf cX4_makerOf 6 (some .int) 1 := ⟨u_17_13, u_17_14, u_17_15, u_1_5, u_17_16, ⟨by decide, by decide, by decide⟩⟩
theorem lk_X4_185 : LkS RX4 185 yX4_isOrigin cX4_isOrigin 1 (some .boolean) 1 := ⟨u_18_21, u_18_22, u_1_5, u_18_23, ⟨by decide, by decide, by decide⟩⟩
theorem lk_X4_188 : LkV RX4 188 RX4 yX4_note cX4_note 2 none 0 := ⟨u_19_0, u_19_1, u_19_2, u_1_5, u_19_3, ⟨by decide, by decide, by decide⟩⟩
theorem lk_X4_191 : LkS RX4 191 yX4_takeRoute cX4_takeRoute 3 none 2 := ⟨u_19_18, u_19_19, u_1_5, u_19_20, ⟨by decide, by decide, by decide⟩⟩
theorem lk_X4_195 : LkS RX4 195 yX4_takeGrant cX4_takeGrant 3 none 2 := ⟨u_20_13, u_20_14, u_1_5, u_20_15, ⟨by decide, by decide, by decide⟩⟩
theorem lk_X4_200 : LkS RX4 200 yX4_isLaw cX4_isLaw 1 (some .boolean) 1 := ⟨u_23_17, u_23_18, u_1_5, u_23_19, ⟨by decide, by decide, by decide⟩⟩
theorem lk_X4_203 : LkV RX4 203 RX4 yX4_goesOf cX4_goesOf 8 (some .int) 3 := ⟨u_23_21, u_23_22, u_23_23, u_1_5, u_24_0, ⟨by decide, by decide, by decide⟩⟩
theorem lk_X4_209 : LkS RX4 209 yX4_tenThousands cX4_tenThousands 4 (some .long) 1 := ⟨u_26_21, u_26_22, u_1_5, u_26_23, ⟨by decide, by decide, by decide⟩⟩
theorem lk_X4_213 : LkV RX4 213 RX4 yX4_judged cX4_judged 6 (some .boolean) 4 := ⟨u_27_0, u_27_1, u_27_2, u_1_5, u_27_3, ⟨by decide, by decide, by decide⟩⟩
theorem lk_X4_216 : LkV RX4 216 RX4 yX4_rightBy cX4_rightBy 5 (some .int) 1 := ⟨u_29_0, u_29_1, u_29_2, u_1_5, u_29_3, ⟨by decide, by decide, by decide⟩⟩
theorem lk_X4_219 : LkS RX4 219 yX4_ones cX4_ones 3 (some .int) 1 := ⟨u_29_4, u_29_5, u_1_5, u_29_6, ⟨by decide, by decide, by decide⟩⟩
theorem lk_X4_222 : LkS RX4 222 yX4_factorial cX4_factorial 3 (some .int) 1 := ⟨u_29_7, u_29_8, u_1_5, u_29_9, ⟨by decide, by decide, by decide⟩⟩
theorem lk_X4_225 : LkS RX4 225 yX4_fraction cX4_fraction 6 (some .int) 3 := ⟨u_29_10, u_29_11, u_1_5, u_29_12, ⟨by decide, by decide, by decide⟩⟩
theorem lk_X4_233 : LkS RX4 233 yX4_power cX4_power 4 (some .int) 2 := ⟨u_30_3, u_30_4, u_1_5, u_30_5, ⟨by decide, by decide, by decide⟩⟩
theorem kn_X3_coverOf : LkN yX3_coverOf cX3_coverOf 2 (some .int) 2 := ⟨u_4_7, u_1_2, u_4_8, ⟨by decide, by decide, by decide⟩⟩
theorem kn_X3_leftBySize : LkN yX3_leftBySize cX3_leftBySize 2 (some .int) 2 := ⟨u_7_17, u_1_2, u_7_18, ⟨by decide, by decide, by decide⟩⟩
theorem kn_X3_bit : LkN yX3_bit cX3_bit 2 (some .int) 2 := ⟨u_12_8, u_1_2, u_12_9, ⟨by decide, by decide, by decide⟩⟩
theorem kn_X3_isWithin : LkN yX3_isWithin cX3_isWithin 2 (some .boolean) 2 := ⟨u_12_10, u_1_2, u_12_11, ⟨by decide, by decide, by decide⟩⟩
theorem kn_X3_isOrigin : LkN yX3_isOrigin cX3_isOrigin 1 (some .boolean) 1 := ⟨u_18_5, u_1_2, u_18_6, ⟨by decide, by decide, by decide⟩⟩
theorem kn_X3_isLaw : LkN yX3_isLaw cX3_isLaw 1 (some .boolean) 1 := ⟨u_22_22, u_1_2, u_22_23, ⟨by decide, by decide, by decide⟩⟩
theorem kn_X3_isPlace : LkN yX3_isPlace cX3_isPlace 1 (some .boolean) 1 := ⟨u_18_1, u_1_2, u_18_2, ⟨by decide, by decide, by decide⟩⟩
end
section
def mX3_bit (v0 : Int32) (v1 : Int32) : Option (Int32) := some (((v0 >>> (v1 &&& 31)) &&& (1 : Int32)))
set_option maxHeartbeats 4000000 in
set_option maxRecDepth 100000 in
theorem okX3_bit {l : Launch} {dC : Nat → ClassId} {dI : Nat → Nat → Nat} {cI cC cZ : ClassId} (v0 : Int32) (v1 : Int32) (res : Int32) (hM : mX3_bit v0 v1 = some res) : Rd l yX3_bit cX3_bit 2 (some .int) 0 0 (dC, dI) cI cC cZ [] [.int v0, .int v1] (some (.int res)) := by
  refine Rd.ofI (by decide) (Nat.le_of_ble_eq_true rfl) [(0, .int v0), (1, .int v1)] rfl ?_
  intro p e s m args below meth c ls Q hx hb hml hown hU hE hP rt hl
  have hown : s.vm.findClass RX3 = some m.cls := hown
  unfold mX3_bit at hM
  refine lv_iload_n hx hb dX3_bit_0 rfl (lv_at hl 0 rfl) ?_
  refine lv_iload_n hx hb dX3_bit_1 rfl (lv_at hl 1 rfl) ?_
  refine lv_ishr hx hb dX3_bit_2 ?_
  refine lv_iconst (v := (1 : Int32)) hx hb dX3_bit_3 (by decide) ?_
  refine lv_iand hx hb dX3_bit_4 ?_
  cases hM
  exact rt ((v0 >>> (v1 &&& 31)) &&& (1 : Int32)) _ _ dX3_bit_5 rfl
def mX3_isPlace (v0 : Int32) : Option (Bool) := (if v0 < 0 then some (false) else (if (32 : Int32) ≤ v0 then some (false) else some (true)))
set_option maxHeartbeats 4000000 in
set_option maxRecDepth 100000 in
theorem okX3_isPlace {l : Launch} {dC : Nat → ClassId} {dI : Nat → Nat → Nat} {cI cC cZ : ClassId} (v0 : Int32) (res : Bool) (hM : mX3_isPlace v0 = some res) : Rd l yX3_isPlace cX3_isPlace 1 (some .boolean) 0 0 (dC, dI) cI cC cZ [] [.int v0] (some (.int (b2i res))) := by
  refine Rd.ofZ (by decide) (Nat.le_of_ble_eq_true rfl) [(0, .int v0)] rfl ?_
  intro p e s m args below meth c ls Q hx hb hml hown hU hE hP rt hl
  have hown : s.vm.findClass RX3 = some m.cls := hown
  unfold mX3_isPlace at hM
  refine lv_iload_n hx hb dX3_isPlace_0 rfl (lv_at hl 0 rfl) ?_
  refine lv_if_lt (tgt := 14) hx hb dX3_isPlace_1 (by decide) (fun c1 => ?_) (fun c1 => ?_)
  · have hM := ite_t c1 hM
    refine lv_iconst (v := (0 : Int32)) hx hb dX3_isPlace_14 (by decide) ?_
    cases hM
    exact rt false _ _ dX3_isPlace_15 rfl
  · have hM := ite_f c1 hM
    refine lv_iload_n hx hb dX3_isPlace_4 rfl (lv_at hl 0 rfl) ?_
    refine lv_bipush (v := (32 : Int32)) hx hb dX3_isPlace_5 (by decide) ?_
    refine lv_icmp_ge (tgt := 14) hx hb dX3_isPlace_7 (by decide) (fun c7 => ?_) (fun c7 => ?_)
    · have hM := ite_t c7 hM
      refine lv_iconst (v := (0 : Int32)) hx hb dX3_isPlace_14 (by decide) ?_
      cases hM
      exact rt false _ _ dX3_isPlace_15 rfl
    · have hM := ite_f c7 hM
      refine lv_iconst (v := (1 : Int32)) hx hb dX3_isPlace_10 (by decide) ?_
      refine lv_goto (tgt := 15) hx hb dX3_isPlace_11 (by decide) ?_
      cases hM
      exact rt true _ _ dX3_isPlace_15 rfl
def mX3_leftBySize (v0 : Int32) (v1 : Int32) : Option (Int32) := some ((v0 &&& (((32 : Int32) >>> (v1 &&& 31)) - (1 : Int32))))
set_option maxHeartbeats 4000000 in
set_option maxRecDepth 100000 in
theorem okX3_leftBySize {l : Launch} {dC : Nat → ClassId} {dI : Nat → Nat → Nat} {cI cC cZ : ClassId} (v0 : Int32) (v1 : Int32) (res : Int32) (hM : mX3_leftBySize v0 v1 = some res) : Rd l yX3_leftBySize cX3_leftBySize 2 (some .int) 0 0 (dC, dI) cI cC cZ [] [.int v0, .int v1] (some (.int res)) := by
  refine Rd.ofI (by decide) (Nat.le_of_ble_eq_true rfl) [(0, .int v0), (1, .int v1)] rfl ?_
  intro p e s m args below meth c ls Q hx hb hml hown hU hE hP rt hl
  have hown : s.vm.findClass RX3 = some m.cls := hown
  unfold mX3_leftBySize at hM
  refine lv_iload_n hx hb dX3_leftBySize_0 rfl (lv_at hl 0 rfl) ?_
  refine lv_bipush (v := (32 : Int32)) hx hb dX3_leftBySize_1 (by decide) ?_
  refine lv_iload_n hx hb dX3_leftBySize_3 rfl (lv_at hl 1 rfl) ?_
  refine lv_ishr hx hb dX3_leftBySize_4 ?_
  refine lv_iconst (v := (1 : Int32)) hx hb dX3_leftBySize_5 (by decide) ?_
  refine lv_isub hx hb dX3_leftBySize_6 ?_
  refine lv_iand hx hb dX3_leftBySize_7 ?_
  cases hM
  exact rt (v0 &&& (((32 : Int32) >>> (v1 &&& 31)) - (1 : Int32))) _ _ dX3_leftBySize_8 rfl
def mX3_isWithin (v0 : Int32) (v1 : Int32) : Option (Bool) := (if (v0 &&& (v1 ^^^ (-1 : Int32))) = 0 then some (true) else some (false))
set_option maxHeartbeats 4000000 in
set_option maxRecDepth 100000 in
theorem okX3_isWithin {l : Launch} {dC : Nat → ClassId} {dI : Nat → Nat → Nat} {cI cC cZ : ClassId} (v0 : Int32) (v1 : Int32) (res : Bool) (hM : mX3_isWithin v0 v1 = some res) : Rd l yX3_isWithin cX3_isWithin 2 (some .boolean) 0 0 (dC, dI) cI cC cZ [] [.int v0, .int v1] (some (.int (b2i res))) := by
  refine Rd.ofZ (by decide) (Nat.le_of_ble_eq_true rfl) [(0, .int v0), (1, .int v1)] rfl ?_
  intro p e s m args below meth c ls Q hx hb hml hown hU hE hP rt hl
  have hown : s.vm.findClass RX3 = some m.cls := hown
  unfold mX3_isWithin at hM
  refine lv_iload_n hx hb dX3_isWithin_0 rfl (lv_at hl 0 rfl) ?_
  refine lv_iload_n hx hb dX3_isWithin_1 rfl (lv_at hl 1 rfl) ?_
  refine lv_iconst (v := (-1 : Int32)) hx hb dX3_isWithin_2 (by decide) ?_
  refine lv_ixor hx hb dX3_isWithin_3 ?_
  refine lv_iand hx hb dX3_isWithin_4 ?_
  refine lv_if_ne (tgt := 12) hx hb dX3_isWithin_5 (by decide) (fun c5 => ?_) (fun c5 => ?_)
  · have hM := ite_f c5 hM
    refine lv_iconst (v := (0 : Int32)) hx hb dX3_isWithin_12 (by decide) ?_
    cases hM
    exact rt false _ _ dX3_isWithin_13 rfl
  · have hM := ite_t c5 hM
    refine lv_iconst (v := (1 : Int32)) hx hb dX3_isWithin_8 (by decide) ?_
    refine lv_goto (tgt := 13) hx hb dX3_isWithin_9 (by decide) ?_
    cases hM
    exact rt true _ _ dX3_isWithin_13 rfl
def mX3_coverOf (v0 : Int32) (v1 : Int32) : Option (Int32) := (if v1 = 0 then some ((-1 : Int32)) else some (((((1 : Int32) <<< (((32 : Int32) >>> (v1 &&& 31)) &&& 31)) - (1 : Int32)) <<< (v0 &&& 31))))
set_option maxHeartbeats 4000000 in
set_option maxRecDepth 100000 in
theorem okX3_coverOf {l : Launch} {dC : Nat → ClassId} {dI : Nat → Nat → Nat} {cI cC cZ : ClassId} (v0 : Int32) (v1 : Int32) (res : Int32) (hM : mX3_coverOf v0 v1 = some res) : Rd l yX3_coverOf cX3_coverOf 2 (some .int) 0 0 (dC, dI) cI cC cZ [] [.int v0, .int v1] (some (.int res)) := by
  refine Rd.ofI (by decide) (Nat.le_of_ble_eq_true rfl) [(0, .int v0), (1, .int v1)] rfl ?_
  intro p e s m args below meth c ls Q hx hb hml hown hU hE hP rt hl
  have hown : s.vm.findClass RX3 = some m.cls := hown
  unfold mX3_coverOf at hM
  refine lv_iload_n hx hb dX3_coverOf_0 rfl (lv_at hl 1 rfl) ?_
  refine lv_if_ne (tgt := 8) hx hb dX3_coverOf_1 (by decide) (fun c1 => ?_) (fun c1 => ?_)
  · have hM := ite_f c1 hM
    refine lv_iconst (v := (1 : Int32)) hx hb dX3_coverOf_8 (by decide) ?_
    refine lv_bipush (v := (32 : Int32)) hx hb dX3_coverOf_9 (by decide) ?_
    refine lv_iload_n hx hb dX3_coverOf_11 rfl (lv_at hl 1 rfl) ?_
    refine lv_ishr hx hb dX3_coverOf_12 ?_
    refine lv_ishl hx hb dX3_coverOf_13 ?_
    refine lv_iconst (v := (1 : Int32)) hx hb dX3_coverOf_14 (by decide) ?_
    refine lv_isub hx hb dX3_coverOf_15 ?_
    refine lv_iload_n hx hb dX3_coverOf_16 rfl (lv_at hl 0 rfl) ?_
    refine lv_ishl hx hb dX3_coverOf_17 ?_
    cases hM
    exact rt ((((1 : Int32) <<< (((32 : Int32) >>> (v1 &&& 31)) &&& 31)) - (1 : Int32)) <<< (v0 &&& 31)) _ _ dX3_coverOf_18 rfl
  · have hM := ite_t c1 hM
    refine lv_iconst (v := (-1 : Int32)) hx hb dX3_coverOf_4 (by decide) ?_
    refine lv_goto (tgt := 18) hx hb dX3_coverOf_5 (by decide) ?_
    cases hM
    exact rt (-1 : Int32) _ _ dX3_coverOf_18 rfl
def mX1_has (s_t : Int32 × Int32 × Int32) (v1 : Int32) : Option (Bool) := (if v1 < 0 then some (false) else (if s_t.2.2 ≤ v1 then some (false) else some (true)))
set_option maxHeartbeats 4000000 in
set_option maxRecDepth 100000 in
theorem okX1_has {l : Launch} {dC : Nat → ClassId} {dI : Nat → Nat → Nat} {cI cC cZ : ClassId} (a_t a_t_cells : Nat) (s_t : Int32 × Int32 × Int32) (v1 : Int32) (res : Bool) (hM : mX1_has s_t v1 = some res) : Rd l yX1_has cX1_has 2 (some .boolean) 0 0 (dC, dI) cI cC cZ [(a_t, .inr (1, [.int s_t.1, .int s_t.2.1, .ref a_t_cells, .int s_t.2.2]))] [.ref a_t, .int v1] (some (.int (b2i res))) := by
  refine Rd.ofZ (by decide) (Nat.le_of_ble_eq_true rfl) [(0, .ref a_t), (1, .int v1)] rfl ?_
  intro p e s m args below meth c ls Q hx hb hml hown hU hE hP rt hl
  have hown : s.vm.findClass RX1 = some m.cls := hown
  unfold mX1_has at hM
  refine lv_iload_n hx hb dX1_has_0 rfl (lv_at hl 1 rfl) ?_
  refine lv_if_lt (tgt := 16) hx hb dX1_has_1 (by decide) (fun c1 => ?_) (fun c1 => ?_)
  · have hM := ite_t c1 hM
    refine lv_iconst (v := (0 : Int32)) hx hb dX1_has_16 (by decide) ?_
    cases hM
    exact rt false _ _ dX1_has_17 rfl
  · have hM := ite_f c1 hM
    refine lv_iload_n hx hb dX1_has_4 rfl (lv_at hl 1 rfl) ?_
    refine lv_aload_n hx hb dX1_has_5 rfl (lv_at hl 0 rfl) ?_
    refine va_get (D := (dC, dI)) (ci := 1) (v := .int s_t.2.2) (C := RX1) (T := TX1) (N := 4) hx hb hU inlX1 hown hE.1 hP 0 rfl rfl 3 (by decide) (hU _ u_3_18) (fun _ h9 => h9) rfl dX1_has_6 ?_
    refine lv_icmp_ge (tgt := 16) hx hb dX1_has_9 (by decide) (fun c9 => ?_) (fun c9 => ?_)
    · have hM := ite_t c9 hM
      refine lv_iconst (v := (0 : Int32)) hx hb dX1_has_16 (by decide) ?_
      cases hM
      exact rt false _ _ dX1_has_17 rfl
    · have hM := ite_f c9 hM
      refine lv_iconst (v := (1 : Int32)) hx hb dX1_has_12 (by decide) ?_
      refine lv_goto (tgt := 17) hx hb dX1_has_13 (by decide) ?_
      cases hM
      exact rt true _ _ dX1_has_17 rfl
def mX1_at (s_t : Int32 × Int32 × Int32) (s_t_cells : Ar) (v1 : Int32) (v2 : Int32) : Option (Int32) := (if v1 < 0 then some ((0 : Int32)) else (if s_t.2.2 ≤ v1 then some ((0 : Int32)) else (if v2 < 0 then some ((0 : Int32)) else (if v2 < s_t.2.1 then rd s_t_cells.2 s_t_cells.1 ((v1 * s_t.2.1) + v2) (fun x38 => some (x38)) else some ((0 : Int32))))))
set_option maxHeartbeats 4000000 in
set_option maxRecDepth 100000 in
theorem okX1_at {l : Launch} {dC : Nat → ClassId} {dI : Nat → Nat → Nat} {cI cC cZ : ClassId} (a_t a_t_cells : Nat) (s_t : Int32 × Int32 × Int32) (s_t_cells : Ar) (v1 : Int32) (v2 : Int32) (res : Int32) (hM : mX1_at s_t s_t_cells v1 v2 = some res) : Rd l yX1_at cX1_at 3 (some .int) 0 0 (dC, dI) cI cC cZ [(a_t, .inr (1, [.int s_t.1, .int s_t.2.1, .ref a_t_cells, .int s_t.2.2])), (a_t_cells, .inl (cI, s_t_cells.1, .inl s_t_cells.2))] [.ref a_t, .int v1, .int v2] (some (.int res)) := by
  refine Rd.ofI (by decide) (Nat.le_of_ble_eq_true rfl) [(0, .ref a_t), (1, .int v1), (2, .int v2)] rfl ?_
  intro p e s m args below meth c ls Q hx hb hml hown hU hE hP rt hl
  have hown : s.vm.findClass RX1 = some m.cls := hown
  unfold mX1_at at hM
  refine lv_iload_n hx hb dX1_at_0 rfl (lv_at hl 1 rfl) ?_
  refine lv_if_lt (tgt := 24) hx hb dX1_at_1 (by decide) (fun c1 => ?_) (fun c1 => ?_)
  · have hM := ite_t c1 hM
    refine lv_iconst (v := (0 : Int32)) hx hb dX1_at_24 (by decide) ?_
    cases hM
    exact rt (0 : Int32) _ _ dX1_at_25 rfl
  · have hM := ite_f c1 hM
    refine lv_iload_n hx hb dX1_at_4 rfl (lv_at hl 1 rfl) ?_
    refine lv_aload_n hx hb dX1_at_5 rfl (lv_at hl 0 rfl) ?_
    refine va_get (D := (dC, dI)) (ci := 1) (v := .int s_t.2.2) (C := RX1) (T := TX1) (N := 4) hx hb hU inlX1 hown hE.1 hP 0 rfl rfl 3 (by decide) (hU _ u_3_18) (fun _ h9 => h9) rfl dX1_at_6 ?_
    refine lv_icmp_ge (tgt := 24) hx hb dX1_at_9 (by decide) (fun c9 => ?_) (fun c9 => ?_)
    · have hM := ite_t c9 hM
      refine lv_iconst (v := (0 : Int32)) hx hb dX1_at_24 (by decide) ?_
      cases hM
      exact rt (0 : Int32) _ _ dX1_at_25 rfl
    · have hM := ite_f c9 hM
      refine lv_iload_n hx hb dX1_at_12 rfl (lv_at hl 2 rfl) ?_
      refine lv_if_lt (tgt := 24) hx hb dX1_at_13 (by decide) (fun c13 => ?_) (fun c13 => ?_)
      · have hM := ite_t c13 hM
        refine lv_iconst (v := (0 : Int32)) hx hb dX1_at_24 (by decide) ?_
        cases hM
        exact rt (0 : Int32) _ _ dX1_at_25 rfl
      · have hM := ite_f c13 hM
        refine lv_iload_n hx hb dX1_at_16 rfl (lv_at hl 2 rfl) ?_
        refine lv_aload_n hx hb dX1_at_17 rfl (lv_at hl 0 rfl) ?_
        refine va_get (D := (dC, dI)) (ci := 1) (v := .int s_t.2.1) (C := RX1) (T := TX1) (N := 4) hx hb hU inlX1 hown hE.1 hP 0 rfl rfl 1 (by decide) (hU _ u_2_17) (fun _ h9 => h9) rfl dX1_at_18 ?_
        refine lv_icmp_lt (tgt := 26) hx hb dX1_at_21 (by decide) (fun c21 => ?_) (fun c21 => ?_)
        · have hM := ite_t c21 hM
          refine lv_aload_n hx hb dX1_at_26 rfl (lv_at hl 0 rfl) ?_
          refine va_get (D := (dC, dI)) (ci := 1) (v := .ref a_t_cells) (C := RX1) (T := TX1) (N := 4) hx hb hU inlX1 hown hE.1 hP 0 rfl rfl 2 (by decide) (hU _ u_2_18) (fun _ h9 => h9) rfl dX1_at_27 ?_
          refine lv_iload_n hx hb dX1_at_30 rfl (lv_at hl 1 rfl) ?_
          refine lv_aload_n hx hb dX1_at_31 rfl (lv_at hl 0 rfl) ?_
          refine va_get (D := (dC, dI)) (ci := 1) (v := .int s_t.2.1) (C := RX1) (T := TX1) (N := 4) hx hb hU inlX1 hown hE.1 hP 0 rfl rfl 1 (by decide) (hU _ u_2_17) (fun _ h9 => h9) rfl dX1_at_32 ?_
          refine lv_imul hx hb dX1_at_35 ?_
          refine lv_iload_n hx hb dX1_at_36 rfl (lv_at hl 2 rfl) ?_
          refine lv_iadd hx hb dX1_at_37 ?_
          obtain ⟨g38, hM⟩ := rd_e hM
          refine va_iald hx hb hE.1 hP 1 0 rfl rfl g38 dX1_at_38 ?_
          cases hM
          exact rt (s_t_cells.2 ((v1 * s_t.2.1) + v2).toNatClampNeg) _ _ dX1_at_39 rfl
        · have hM := ite_f c21 hM
          refine lv_iconst (v := (0 : Int32)) hx hb dX1_at_24 (by decide) ?_
          cases hM
          exact rt (0 : Int32) _ _ dX1_at_25 rfl
def mX1_put (s_t : Int32 × Int32 × Int32) (s_t_cells : Ar) (v1 : Int32) (v2 : Int32) (v3 : Int32) : Option (Ar) := (if v1 < 0 then some (s_t_cells) else (if s_t.2.2 ≤ v1 then some (s_t_cells) else (if v2 < 0 then some (s_t_cells) else (if s_t.2.1 ≤ v2 then some (s_t_cells) else wr s_t_cells.2 s_t_cells.1 ((v1 * s_t.2.1) + v2) v3 (fun x37 => some ((s_t_cells.1, x37)))))))
set_option maxHeartbeats 4000000 in
set_option maxRecDepth 100000 in
theorem okX1_put {l : Launch} {dC : Nat → ClassId} {dI : Nat → Nat → Nat} {cI cC cZ : ClassId} (a_t a_t_cells : Nat) (s_t : Int32 × Int32 × Int32) (s_t_cells : Ar) (v1 : Int32) (v2 : Int32) (v3 : Int32) (res : Ar) (hM : mX1_put s_t s_t_cells v1 v2 v3 = some res) : Mu l yX1_put cX1_put 4 none 0 0 (dC, dI) cI cC cZ [(a_t, .inr (1, [.int s_t.1, .int s_t.2.1, .ref a_t_cells, .int s_t.2.2])), (a_t_cells, .inl (cI, s_t_cells.1, .inl s_t_cells.2))] [(a_t, .inr (1, [.int s_t.1, .int s_t.2.1, .ref a_t_cells, .int s_t.2.2])), (a_t_cells, .inl (cI, res.1, .inl res.2))] [.ref a_t, .int v1, .int v2, .int v3] none := by
  refine Mu.ofV (by decide) (Nat.le_of_ble_eq_true rfl) [(0, .ref a_t), (1, .int v1), (2, .int v2), (3, .int v3)] rfl ?_
  intro p e s m args below meth c ls Q A hx hb hml hown hU hE hP hD hS hA rt hl
  have hown : s.vm.findClass RX1 = some m.cls := hown
  unfold mX1_put at hM
  refine lv_iload_n hx hb dX1_put_0 rfl (lv_at hl 1 rfl) ?_
  refine lv_if_lt (tgt := 38) hx hb dX1_put_1 (by decide) (fun c1 => ?_) (fun c1 => ?_)
  · have hM := ite_t c1 hM
    cases hM
    exact rt _ _ _ _ hP hS dX1_put_38 rfl
  · have hM := ite_f c1 hM
    refine lv_iload_n hx hb dX1_put_4 rfl (lv_at hl 1 rfl) ?_
    refine lv_aload_n hx hb dX1_put_5 rfl (lv_at hl 0 rfl) ?_
    refine va_get (D := (dC, dI)) (ci := 1) (v := .int s_t.2.2) (C := RX1) (T := TX1) (N := 4) hx hb hU inlX1 hown hE.1 hP 0 rfl rfl 3 (by decide) (hU _ u_3_18) (fun _ h9 => h9) rfl dX1_put_6 ?_
    refine lv_icmp_ge (tgt := 38) hx hb dX1_put_9 (by decide) (fun c9 => ?_) (fun c9 => ?_)
    · have hM := ite_t c9 hM
      cases hM
      exact rt _ _ _ _ hP hS dX1_put_38 rfl
    · have hM := ite_f c9 hM
      refine lv_iload_n hx hb dX1_put_12 rfl (lv_at hl 2 rfl) ?_
      refine lv_if_lt (tgt := 38) hx hb dX1_put_13 (by decide) (fun c13 => ?_) (fun c13 => ?_)
      · have hM := ite_t c13 hM
        cases hM
        exact rt _ _ _ _ hP hS dX1_put_38 rfl
      · have hM := ite_f c13 hM
        refine lv_iload_n hx hb dX1_put_16 rfl (lv_at hl 2 rfl) ?_
        refine lv_aload_n hx hb dX1_put_17 rfl (lv_at hl 0 rfl) ?_
        refine va_get (D := (dC, dI)) (ci := 1) (v := .int s_t.2.1) (C := RX1) (T := TX1) (N := 4) hx hb hU inlX1 hown hE.1 hP 0 rfl rfl 1 (by decide) (hU _ u_2_17) (fun _ h9 => h9) rfl dX1_put_18 ?_
        refine lv_icmp_ge (tgt := 38) hx hb dX1_put_21 (by decide) (fun c21 => ?_) (fun c21 => ?_)
        · have hM := ite_t c21 hM
          cases hM
          exact rt _ _ _ _ hP hS dX1_put_38 rfl
        · have hM := ite_f c21 hM
          refine lv_aload_n hx hb dX1_put_24 rfl (lv_at hl 0 rfl) ?_
          refine va_get (D := (dC, dI)) (ci := 1) (v := .ref a_t_cells) (C := RX1) (T := TX1) (N := 4) hx hb hU inlX1 hown hE.1 hP 0 rfl rfl 2 (by decide) (hU _ u_2_18) (fun _ h9 => h9) rfl dX1_put_25 ?_
          refine lv_iload_n hx hb dX1_put_28 rfl (lv_at hl 1 rfl) ?_
          refine lv_aload_n hx hb dX1_put_29 rfl (lv_at hl 0 rfl) ?_
          refine va_get (D := (dC, dI)) (ci := 1) (v := .int s_t.2.1) (C := RX1) (T := TX1) (N := 4) hx hb hU inlX1 hown hE.1 hP 0 rfl rfl 1 (by decide) (hU _ u_2_17) (fun _ h9 => h9) rfl dX1_put_30 ?_
          refine lv_imul hx hb dX1_put_33 ?_
          refine lv_iload_n hx hb dX1_put_34 rfl (lv_at hl 2 rfl) ?_
          refine lv_iadd hx hb dX1_put_35 ?_
          refine lv_iload_n hx hb dX1_put_36 rfl (lv_at hl 3 rfl) ?_
          obtain ⟨g37, hM⟩ := wr_e hM
          refine va_iast hx hb hE.1 hP hD hS 1 0 rfl rfl g37 dX1_put_37 (fun H locs hP hD hS => ?_)
          have hP : va_P (dC, dI) vwCl [(a_t, .inr (1, [.int s_t.1, .int s_t.2.1, .ref a_t_cells, .int s_t.2.2])), (a_t_cells, .inl (cI, s_t_cells.1, .inl (upd s_t_cells.2 ((v1 * s_t.2.1) + v2).toNatClampNeg v3)))] H := hP
          have hD : va_D A [(a_t, .inr (1, [.int s_t.1, .int s_t.2.1, .ref a_t_cells, .int s_t.2.2])), (a_t_cells, .inl (cI, s_t_cells.1, .inl (upd s_t_cells.2 ((v1 * s_t.2.1) + v2).toNatClampNeg v3)))] := hD
          cases hM
          exact rt _ _ _ _ hP hS dX1_put_38 rfl
def mX1_openAt (s_t : Int32 × Int32 × Int32) (s_t_cells : Ar) (v1 : Int32) : Option ((Int32 × Int32 × Int32) × Ar) := (if v1 < 0 then some (s_t, s_t_cells) else (if s_t.2.2 < v1 then some (s_t, s_t_cells) else (if s_t.2.2 < s_t.1 then acp s_t_cells.2 s_t_cells.1 (v1 * s_t.2.1) s_t_cells.2 s_t_cells.1 ((v1 + (1 : Int32)) * s_t.2.1) ((s_t.2.2 - v1) * s_t.2.1) (fun x57 => some ((s_t.1, s_t.2.1, (s_t.2.2 + (1 : Int32))), (s_t_cells.1, x57))) else some (s_t, s_t_cells))))
set_option maxHeartbeats 4000000 in
set_option maxRecDepth 100000 in
theorem okX1_openAt {l : Launch} {dC : Nat → ClassId} {dI : Nat → Nat → Nat} {cI cC cZ : ClassId} (a_t a_t_cells : Nat) (s_t : Int32 × Int32 × Int32) (s_t_cells : Ar) (v1 : Int32) (res : (Int32 × Int32 × Int32) × Ar) (hM : mX1_openAt s_t s_t_cells v1 = some res) : Mu l yX1_openAt cX1_openAt 2 none 1 40 (dC, dI) cI cC cZ [(a_t, .inr (1, [.int s_t.1, .int s_t.2.1, .ref a_t_cells, .int s_t.2.2])), (a_t_cells, .inl (cI, s_t_cells.1, .inl s_t_cells.2))] [(a_t, .inr (1, [.int res.1.1, .int res.1.2.1, .ref a_t_cells, .int res.1.2.2])), (a_t_cells, .inl (cI, res.2.1, .inl res.2.2))] [.ref a_t, .int v1] none := by
  refine Mu.ofV (by decide) (Nat.le_of_ble_eq_true rfl) [(0, .ref a_t), (1, .int v1)] rfl ?_
  intro p e s m args below meth c ls Q A hx hb hml hown hU hE hP hD hS hA rt hl
  have hown : s.vm.findClass RX1 = some m.cls := hown
  unfold mX1_openAt at hM
  refine lv_iload_n hx hb dX1_openAt_0 rfl (lv_at hl 1 rfl) ?_
  refine lv_if_lt (tgt := 23) hx hb dX1_openAt_1 (by decide) (fun c1 => ?_) (fun c1 => ?_)
  · have hM := ite_t c1 hM
    cases hM
    exact rt _ _ _ _ hP hS dX1_openAt_23 rfl
  · have hM := ite_f c1 hM
    refine lv_iload_n hx hb dX1_openAt_4 rfl (lv_at hl 1 rfl) ?_
    refine lv_aload_n hx hb dX1_openAt_5 rfl (lv_at hl 0 rfl) ?_
    refine va_get (D := (dC, dI)) (ci := 1) (v := .int s_t.2.2) (C := RX1) (T := TX1) (N := 4) hx hb hU inlX1 hown hE.1 hP 0 rfl rfl 3 (by decide) (hU _ u_3_18) (fun _ h9 => h9) rfl dX1_openAt_6 ?_
    refine lv_icmp_gt (tgt := 23) hx hb dX1_openAt_9 (by decide) (fun c9 => ?_) (fun c9 => ?_)
    · have hM := ite_t c9 hM
      cases hM
      exact rt _ _ _ _ hP hS dX1_openAt_23 rfl
    · have hM := ite_f c9 hM
      refine lv_aload_n hx hb dX1_openAt_12 rfl (lv_at hl 0 rfl) ?_
      refine va_get (D := (dC, dI)) (ci := 1) (v := .int s_t.2.2) (C := RX1) (T := TX1) (N := 4) hx hb hU inlX1 hown hE.1 hP 0 rfl rfl 3 (by decide) (hU _ u_3_18) (fun _ h9 => h9) rfl dX1_openAt_13 ?_
      refine lv_aload_n hx hb dX1_openAt_16 rfl (lv_at hl 0 rfl) ?_
      refine va_get (D := (dC, dI)) (ci := 1) (v := .int s_t.1) (C := RX1) (T := TX1) (N := 4) hx hb hU inlX1 hown hE.1 hP 0 rfl rfl 0 (by decide) (hU _ u_2_16) (fun _ h9 => h9) rfl dX1_openAt_17 ?_
      refine lv_icmp_lt (tgt := 24) hx hb dX1_openAt_20 (by decide) (fun c20 => ?_) (fun c20 => ?_)
      · have hM := ite_t c20 hM
        refine lv_aload_n hx hb dX1_openAt_24 rfl (lv_at hl 0 rfl) ?_
        refine va_get (D := (dC, dI)) (ci := 1) (v := .ref a_t_cells) (C := RX1) (T := TX1) (N := 4) hx hb hU inlX1 hown hE.1 hP 0 rfl rfl 2 (by decide) (hU _ u_2_18) (fun _ h9 => h9) rfl dX1_openAt_25 ?_
        refine lv_iload_n hx hb dX1_openAt_28 rfl (lv_at hl 1 rfl) ?_
        refine lv_aload_n hx hb dX1_openAt_29 rfl (lv_at hl 0 rfl) ?_
        refine va_get (D := (dC, dI)) (ci := 1) (v := .int s_t.2.1) (C := RX1) (T := TX1) (N := 4) hx hb hU inlX1 hown hE.1 hP 0 rfl rfl 1 (by decide) (hU _ u_2_17) (fun _ h9 => h9) rfl dX1_openAt_30 ?_
        refine lv_imul hx hb dX1_openAt_33 ?_
        refine lv_aload_n hx hb dX1_openAt_34 rfl (lv_at hl 0 rfl) ?_
        refine va_get (D := (dC, dI)) (ci := 1) (v := .ref a_t_cells) (C := RX1) (T := TX1) (N := 4) hx hb hU inlX1 hown hE.1 hP 0 rfl rfl 2 (by decide) (hU _ u_2_18) (fun _ h9 => h9) rfl dX1_openAt_35 ?_
        refine lv_iload_n hx hb dX1_openAt_38 rfl (lv_at hl 1 rfl) ?_
        refine lv_iconst (v := (1 : Int32)) hx hb dX1_openAt_39 (by decide) ?_
        refine lv_iadd hx hb dX1_openAt_40 ?_
        refine lv_aload_n hx hb dX1_openAt_41 rfl (lv_at hl 0 rfl) ?_
        refine va_get (D := (dC, dI)) (ci := 1) (v := .int s_t.2.1) (C := RX1) (T := TX1) (N := 4) hx hb hU inlX1 hown hE.1 hP 0 rfl rfl 1 (by decide) (hU _ u_2_17) (fun _ h9 => h9) rfl dX1_openAt_42 ?_
        refine lv_imul hx hb dX1_openAt_45 ?_
        refine lv_aload_n hx hb dX1_openAt_46 rfl (lv_at hl 0 rfl) ?_
        refine va_get (D := (dC, dI)) (ci := 1) (v := .int s_t.2.2) (C := RX1) (T := TX1) (N := 4) hx hb hU inlX1 hown hE.1 hP 0 rfl rfl 3 (by decide) (hU _ u_3_18) (fun _ h9 => h9) rfl dX1_openAt_47 ?_
        refine lv_iload_n hx hb dX1_openAt_50 rfl (lv_at hl 1 rfl) ?_
        refine lv_isub hx hb dX1_openAt_51 ?_
        refine lv_aload_n hx hb dX1_openAt_52 rfl (lv_at hl 0 rfl) ?_
        refine va_get (D := (dC, dI)) (ci := 1) (v := .int s_t.2.1) (C := RX1) (T := TX1) (N := 4) hx hb hU inlX1 hown hE.1 hP 0 rfl rfl 1 (by decide) (hU _ u_2_17) (fun _ h9 => h9) rfl dX1_openAt_53 ?_
        refine lv_imul hx hb dX1_openAt_56 ?_
        obtain ⟨g57, hM⟩ := acp_e hM
        refine va_copyi hx hb (hml.trans hl.1.symm) hown (hU _ u_3_23) (hU _ u_4_0) (hU _ u_4_1) (hU _ u_4_2) hE.1 hP hD hS 1 1 0 0 rfl rfl rfl rfl rfl g57.1 g57.2.1 g57.2.2.1 g57.2.2.2.1 g57.2.2.2.2 (fun _ _ => rfl) (Nat.le_of_ble_eq_true rfl) (Nat.le_of_ble_eq_true rfl) dX1_openAt_57 (fun H locs hP hD hS => ?_)
        have hP : va_P (dC, dI) vwCl [(a_t, .inr (1, [.int s_t.1, .int s_t.2.1, .ref a_t_cells, .int s_t.2.2])), (a_t_cells, .inl (cI, s_t_cells.1, .inl (va_cpy s_t_cells.2 s_t_cells.2 (v1 * s_t.2.1).toNatClampNeg ((v1 + (1 : Int32)) * s_t.2.1).toNatClampNeg ((s_t.2.2 - v1) * s_t.2.1).toNatClampNeg)))] H := hP
        have hD : va_D A [(a_t, .inr (1, [.int s_t.1, .int s_t.2.1, .ref a_t_cells, .int s_t.2.2])), (a_t_cells, .inl (cI, s_t_cells.1, .inl (va_cpy s_t_cells.2 s_t_cells.2 (v1 * s_t.2.1).toNatClampNeg ((v1 + (1 : Int32)) * s_t.2.1).toNatClampNeg ((s_t.2.2 - v1) * s_t.2.1).toNatClampNeg)))] := hD
        refine lv_aload_n hx hb dX1_openAt_60 rfl (lv_at hl 0 rfl) ?_
        refine lv_dup hx hb dX1_openAt_61 rfl ?_
        refine va_get (D := (dC, dI)) (ci := 1) (v := .int s_t.2.2) (C := RX1) (T := TX1) (N := 4) hx hb hU inlX1 hown hE.1 hP 0 rfl rfl 3 (by decide) (hU _ u_3_18) (fun _ h9 => h9) rfl dX1_openAt_62 ?_
        refine lv_iconst (v := (1 : Int32)) hx hb dX1_openAt_65 (by decide) ?_
        refine lv_iadd hx hb dX1_openAt_66 ?_
        refine va_put (D := (dC, dI)) (ci := 1) (v := .int (s_t.2.2 + (1 : Int32))) (ty := .int) (C := RX1) (T := TX1) (N := 4) hx hb hU inlX1 tyX1 tyX1_ok nmX1 hown hE.1 hP hD hS 0 rfl rfl 3 (by decide) (hU _ u_3_18) (fun _ h9 => h9) rfl (tyX1_ok 3 (by decide)) rfl rfl (Nat.le_of_ble_eq_true rfl) dX1_openAt_67 (fun H locs hP hD hS => ?_)
        have hP : va_P (dC, dI) vwCl [(a_t, .inr (1, [.int s_t.1, .int s_t.2.1, .ref a_t_cells, .int (s_t.2.2 + (1 : Int32))])), (a_t_cells, .inl (cI, s_t_cells.1, .inl (va_cpy s_t_cells.2 s_t_cells.2 (v1 * s_t.2.1).toNatClampNeg ((v1 + (1 : Int32)) * s_t.2.1).toNatClampNeg ((s_t.2.2 - v1) * s_t.2.1).toNatClampNeg)))] H := hP
        have hD : va_D A [(a_t, .inr (1, [.int s_t.1, .int s_t.2.1, .ref a_t_cells, .int (s_t.2.2 + (1 : Int32))])), (a_t_cells, .inl (cI, s_t_cells.1, .inl (va_cpy s_t_cells.2 s_t_cells.2 (v1 * s_t.2.1).toNatClampNeg ((v1 + (1 : Int32)) * s_t.2.1).toNatClampNeg ((s_t.2.2 - v1) * s_t.2.1).toNatClampNeg)))] := hD
        cases hM
        exact rt _ _ _ _ hP hS dX1_openAt_70 rfl
      · have hM := ite_f c20 hM
        cases hM
        exact rt _ _ _ _ hP hS dX1_openAt_23 rfl
def mX1_addRange (s_t : Int32 × Int32 × Int32) (s_t_cells : Ar) (v1 : Int32) (v2 : Int32) (v3 : Int32) (v4 : Int32) (v5 : Int32) : Option (Int32 × (Int32 × Int32 × Int32) × Ar) := (mX1_openAt s_t s_t_cells s_t.2.2).bind (fun x9 => (mX1_put x9.1 x9.2 s_t.2.2 (0 : Int32) v1).bind (fun x17 => (mX1_put x9.1 x17 s_t.2.2 (1 : Int32) v2).bind (fun x25 => (mX3_coverOf v1 v2).bind (fun x34 => (mX1_put x9.1 x25 s_t.2.2 (2 : Int32) x34).bind (fun x37 => (mX1_put x9.1 x37 s_t.2.2 (3 : Int32) v3).bind (fun x45 => (mX1_put x9.1 x45 s_t.2.2 (4 : Int32) v4).bind (fun x54 => (mX1_put x9.1 x54 s_t.2.2 (5 : Int32) v5).bind (fun x63 => some (s_t.2.2, x9.1, x63)))))))))
set_option maxHeartbeats 4000000 in
set_option maxRecDepth 100000 in
theorem okX1_addRange {l : Launch} {dC : Nat → ClassId} {dI : Nat → Nat → Nat} {cI cC cZ : ClassId} (a_t a_t_cells : Nat) (s_t : Int32 × Int32 × Int32) (s_t_cells : Ar) (v1 : Int32) (v2 : Int32) (v3 : Int32) (v4 : Int32) (v5 : Int32) (res : Int32 × (Int32 × Int32 × Int32) × Ar) (hM : mX1_addRange s_t s_t_cells v1 v2 v3 v4 v5 = some res) : Mu l yX1_addRange cX1_addRange 7 (some .int) 2 61 (dC, dI) cI cC cZ [(a_t, .inr (1, [.int s_t.1, .int s_t.2.1, .ref a_t_cells, .int s_t.2.2])), (a_t_cells, .inl (cI, s_t_cells.1, .inl s_t_cells.2))] [(a_t, .inr (1, [.int res.2.1.1, .int res.2.1.2.1, .ref a_t_cells, .int res.2.1.2.2])), (a_t_cells, .inl (cI, res.2.2.1, .inl res.2.2.2))] [.ref a_t, .int v1, .int v2, .int v3, .int v4, .int v5] (some (.int res.1)) := by
  refine Mu.ofI (by decide) (Nat.le_of_ble_eq_true rfl) [(0, .ref a_t), (1, .int v1), (2, .int v2), (3, .int v3), (4, .int v4), (5, .int v5)] rfl ?_
  intro p e s m args below meth c ls Q A hx hb hml hown hU hE hP hD hS hA rt hl
  have hown : s.vm.findClass RX1 = some m.cls := hown
  unfold mX1_addRange at hM
  refine lv_aload_n hx hb dX1_addRange_0 rfl (lv_at hl 0 rfl) ?_
  refine va_get (D := (dC, dI)) (ci := 1) (v := .int s_t.2.2) (C := RX1) (T := TX1) (N := 4) hx hb hU inlX1 hown hE.1 hP 0 rfl rfl 3 (by decide) (hU _ u_3_18) (fun _ h9 => h9) rfl dX1_addRange_1 ?_
  refine lv_istore (lv' := [(6, .int s_t.2.2), (0, .ref a_t), (1, .int v1), (2, .int v2), (3, .int v3), (4, .int v4), (5, .int v5)]) hx hb dX1_addRange_4 hl (by decide) rfl (fun ls hl => ?_)
  refine lv_aload_n hx hb dX1_addRange_6 rfl (lv_at hl 1 rfl) ?_
  refine lv_iload hx hb dX1_addRange_7 (lv_at hl 0 rfl) ?_
  obtain ⟨x9, h9, hM⟩ := bind_e hM
  refine muV (As := [.int s_t.2.2]) (rest := []) (st2 := []) (nw := [(a_t, .inr (1, [.int x9.1.1, .int x9.1.2.1, .ref a_t_cells, .int x9.1.2.2])), (a_t_cells, .inl (cI, x9.2.1, .inl x9.2.2))]) ⟨hx, hb, hml, hown, hU⟩ hE (okX1_openAt a_t a_t_cells s_t s_t_cells s_t.2.2 x9 h9) lk_X1_31 hP hD hS hA [0, 1] rfl rfl rfl rfl rfl rfl hl.1 rfl (Nat.le_of_ble_eq_true rfl) ⟨Nat.le_of_ble_eq_true rfl, Nat.le_of_ble_eq_true rfl⟩ dX1_addRange_9 ⟨Nat.le_refl _, Nat.le_refl _⟩ rfl rfl rfl rfl (fun H locs hP hD hS => ?_)
  refine lv_aload_n hx hb dX1_addRange_12 rfl (lv_at hl 1 rfl) ?_
  refine lv_iload hx hb dX1_addRange_13 (lv_at hl 0 rfl) ?_
  refine lv_iconst (v := (0 : Int32)) hx hb dX1_addRange_15 (by decide) ?_
  refine lv_iload_n hx hb dX1_addRange_16 rfl (lv_at hl 2 rfl) ?_
  obtain ⟨x17, h17, hM⟩ := bind_e hM
  refine muV (As := [.int s_t.2.2, .int (0 : Int32), .int v1]) (rest := []) (st2 := []) (nw := [(a_t, .inr (1, [.int x9.1.1, .int x9.1.2.1, .ref a_t_cells, .int x9.1.2.2])), (a_t_cells, .inl (cI, x17.1, .inl x17.2))]) ⟨hx, hb, hml, hown, hU⟩ hE (okX1_put a_t a_t_cells x9.1 x9.2 s_t.2.2 (0 : Int32) v1 x17 h17) lk_X1_35 hP hD hS hA [0, 1] rfl rfl rfl rfl rfl rfl hl.1 rfl (Nat.le_of_ble_eq_true rfl) ⟨Nat.le_of_ble_eq_true rfl, Nat.le_of_ble_eq_true rfl⟩ dX1_addRange_17 ⟨Nat.le_refl _, Nat.le_refl _⟩ rfl rfl rfl rfl (fun H locs hP hD hS => ?_)
  refine lv_aload_n hx hb dX1_addRange_20 rfl (lv_at hl 1 rfl) ?_
  refine lv_iload hx hb dX1_addRange_21 (lv_at hl 0 rfl) ?_
  refine lv_iconst (v := (1 : Int32)) hx hb dX1_addRange_23 (by decide) ?_
  refine lv_iload_n hx hb dX1_addRange_24 rfl (lv_at hl 3 rfl) ?_
  obtain ⟨x25, h25, hM⟩ := bind_e hM
  refine muV (As := [.int s_t.2.2, .int (1 : Int32), .int v2]) (rest := []) (st2 := []) (nw := [(a_t, .inr (1, [.int x9.1.1, .int x9.1.2.1, .ref a_t_cells, .int x9.1.2.2])), (a_t_cells, .inl (cI, x25.1, .inl x25.2))]) ⟨hx, hb, hml, hown, hU⟩ hE (okX1_put a_t a_t_cells x9.1 x17 s_t.2.2 (1 : Int32) v2 x25 h25) lk_X1_35 hP hD hS hA [0, 1] rfl rfl rfl rfl rfl rfl hl.1 rfl (Nat.le_of_ble_eq_true rfl) ⟨Nat.le_of_ble_eq_true rfl, Nat.le_of_ble_eq_true rfl⟩ dX1_addRange_25 ⟨Nat.le_refl _, Nat.le_refl _⟩ rfl rfl rfl rfl (fun H locs hP hD hS => ?_)
  refine lv_aload_n hx hb dX1_addRange_28 rfl (lv_at hl 1 rfl) ?_
  refine lv_iload hx hb dX1_addRange_29 (lv_at hl 0 rfl) ?_
  refine lv_iconst (v := (2 : Int32)) hx hb dX1_addRange_31 (by decide) ?_
  refine lv_iload_n hx hb dX1_addRange_32 rfl (lv_at hl 2 rfl) ?_
  refine lv_iload_n hx hb dX1_addRange_33 rfl (lv_at hl 3 rfl) ?_
  obtain ⟨x34, h34, hM⟩ := bind_e hM
  refine rdN (As := [.int v1, .int v2]) (rest := [.int (2 : Int32), .int s_t.2.2, .ref a_t]) (st2 := [.int x34, .int (2 : Int32), .int s_t.2.2, .ref a_t]) ⟨hx, hb, hml, hown, hU⟩ hE hE.2.2.1 (okX3_coverOf v1 v2 x34 h34) kn_X3_coverOf (hP.sub [] rfl) rfl hl.1 rfl (Nat.le_of_ble_eq_true rfl) ⟨Nat.le_of_ble_eq_true rfl, Nat.le_of_ble_eq_true rfl⟩ dX1_addRange_34 ⟨Nat.le_refl _, Nat.le_refl _⟩ rfl ?_
  obtain ⟨x37, h37, hM⟩ := bind_e hM
  refine muV (As := [.int s_t.2.2, .int (2 : Int32), .int x34]) (rest := []) (st2 := []) (nw := [(a_t, .inr (1, [.int x9.1.1, .int x9.1.2.1, .ref a_t_cells, .int x9.1.2.2])), (a_t_cells, .inl (cI, x37.1, .inl x37.2))]) ⟨hx, hb, hml, hown, hU⟩ hE (okX1_put a_t a_t_cells x9.1 x25 s_t.2.2 (2 : Int32) x34 x37 h37) lk_X1_35 hP hD hS hA [0, 1] rfl rfl rfl rfl rfl rfl hl.1 rfl (Nat.le_of_ble_eq_true rfl) ⟨Nat.le_of_ble_eq_true rfl, Nat.le_of_ble_eq_true rfl⟩ dX1_addRange_37 ⟨Nat.le_refl _, Nat.le_refl _⟩ rfl rfl rfl rfl (fun H locs hP hD hS => ?_)
  refine lv_aload_n hx hb dX1_addRange_40 rfl (lv_at hl 1 rfl) ?_
  refine lv_iload hx hb dX1_addRange_41 (lv_at hl 0 rfl) ?_
  refine lv_iconst (v := (3 : Int32)) hx hb dX1_addRange_43 (by decide) ?_
  refine lv_iload_n hx hb dX1_addRange_44 rfl (lv_at hl 4 rfl) ?_
  obtain ⟨x45, h45, hM⟩ := bind_e hM
  refine muV (As := [.int s_t.2.2, .int (3 : Int32), .int v3]) (rest := []) (st2 := []) (nw := [(a_t, .inr (1, [.int x9.1.1, .int x9.1.2.1, .ref a_t_cells, .int x9.1.2.2])), (a_t_cells, .inl (cI, x45.1, .inl x45.2))]) ⟨hx, hb, hml, hown, hU⟩ hE (okX1_put a_t a_t_cells x9.1 x37 s_t.2.2 (3 : Int32) v3 x45 h45) lk_X1_35 hP hD hS hA [0, 1] rfl rfl rfl rfl rfl rfl hl.1 rfl (Nat.le_of_ble_eq_true rfl) ⟨Nat.le_of_ble_eq_true rfl, Nat.le_of_ble_eq_true rfl⟩ dX1_addRange_45 ⟨Nat.le_refl _, Nat.le_refl _⟩ rfl rfl rfl rfl (fun H locs hP hD hS => ?_)
  refine lv_aload_n hx hb dX1_addRange_48 rfl (lv_at hl 1 rfl) ?_
  refine lv_iload hx hb dX1_addRange_49 (lv_at hl 0 rfl) ?_
  refine lv_iconst (v := (4 : Int32)) hx hb dX1_addRange_51 (by decide) ?_
  refine lv_iload hx hb dX1_addRange_52 (lv_at hl 5 rfl) ?_
  obtain ⟨x54, h54, hM⟩ := bind_e hM
  refine muV (As := [.int s_t.2.2, .int (4 : Int32), .int v4]) (rest := []) (st2 := []) (nw := [(a_t, .inr (1, [.int x9.1.1, .int x9.1.2.1, .ref a_t_cells, .int x9.1.2.2])), (a_t_cells, .inl (cI, x54.1, .inl x54.2))]) ⟨hx, hb, hml, hown, hU⟩ hE (okX1_put a_t a_t_cells x9.1 x45 s_t.2.2 (4 : Int32) v4 x54 h54) lk_X1_35 hP hD hS hA [0, 1] rfl rfl rfl rfl rfl rfl hl.1 rfl (Nat.le_of_ble_eq_true rfl) ⟨Nat.le_of_ble_eq_true rfl, Nat.le_of_ble_eq_true rfl⟩ dX1_addRange_54 ⟨Nat.le_refl _, Nat.le_refl _⟩ rfl rfl rfl rfl (fun H locs hP hD hS => ?_)
  refine lv_aload_n hx hb dX1_addRange_57 rfl (lv_at hl 1 rfl) ?_
  refine lv_iload hx hb dX1_addRange_58 (lv_at hl 0 rfl) ?_
  refine lv_iconst (v := (5 : Int32)) hx hb dX1_addRange_60 (by decide) ?_
  refine lv_iload hx hb dX1_addRange_61 (lv_at hl 6 rfl) ?_
  obtain ⟨x63, h63, hM⟩ := bind_e hM
  refine muV (As := [.int s_t.2.2, .int (5 : Int32), .int v5]) (rest := []) (st2 := []) (nw := [(a_t, .inr (1, [.int x9.1.1, .int x9.1.2.1, .ref a_t_cells, .int x9.1.2.2])), (a_t_cells, .inl (cI, x63.1, .inl x63.2))]) ⟨hx, hb, hml, hown, hU⟩ hE (okX1_put a_t a_t_cells x9.1 x54 s_t.2.2 (5 : Int32) v5 x63 h63) lk_X1_35 hP hD hS hA [0, 1] rfl rfl rfl rfl rfl rfl hl.1 rfl (Nat.le_of_ble_eq_true rfl) ⟨Nat.le_of_ble_eq_true rfl, Nat.le_of_ble_eq_true rfl⟩ dX1_addRange_63 ⟨Nat.le_refl _, Nat.le_refl _⟩ rfl rfl rfl rfl (fun H locs hP hD hS => ?_)
  refine lv_iload hx hb dX1_addRange_66 (lv_at hl 0 rfl) ?_
  cases hM
  exact rt s_t.2.2 _ _ _ _ hP hS dX1_addRange_68 rfl
end
section
theorem zz_last : True := trivial
end
