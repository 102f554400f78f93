section
-- ===== PART A: goes FIRST, ahead of the names: the tables' words, and 'selects' of the private methods out of them =====
/-- a private method of a class that the tables say can be made, by its rows of tables_1 -/
def lw_okq (q : MethodName × Nat) : Prop := (q.1.cls ≠ "java/lang/invoke/MethodHandle" ∧ q.1.cls ≠ "java/lang/invoke/VarHandle") ∧ Cond.instantiable q.1.cls q.2 ∈ tables_1 ∧ Cond.privateMethod q.1 ∈ tables_1 ∧ Cond.instanceMethod q.1 ∈ tables_1
theorem lw_p0 : lw_okq (⟨"PracticeSheets$History", "dropOldest", "()V"⟩, 2) := ⟨⟨by decide +kernel, by decide +kernel⟩, List.mem_of_getElem? (i := 122) (by decide +kernel), List.mem_of_getElem? (i := 240) (by decide +kernel), List.mem_of_getElem? (i := 241) (by decide +kernel)⟩
theorem lw_p1 : lw_okq (⟨"PracticeSheets$Word", "addPart", "(I)V"⟩, 4) := ⟨⟨by decide +kernel, by decide +kernel⟩, List.mem_of_getElem? (i := 49) (by decide +kernel), List.mem_of_getElem? (i := 321) (by decide +kernel), List.mem_of_getElem? (i := 322) (by decide +kernel)⟩
theorem lw_p2 : lw_okq (⟨"PracticeSheets$Sheet", "chooseLine", "(LPracticeSheets$State;)Z"⟩, 5) := ⟨⟨by decide +kernel, by decide +kernel⟩, List.mem_of_getElem? (i := 159) (by decide +kernel), List.mem_of_getElem? (i := 365) (by decide +kernel), List.mem_of_getElem? (i := 366) (by decide +kernel)⟩
theorem lw_p3 : lw_okq (⟨"PracticeSheets$Sheet", "addLine", "(IILPracticeSheets$Word;)V"⟩, 5) := ⟨⟨by decide +kernel, by decide +kernel⟩, List.mem_of_getElem? (i := 159) (by decide +kernel), List.mem_of_getElem? (i := 393) (by decide +kernel), List.mem_of_getElem? (i := 394) (by decide +kernel)⟩
theorem lw_p4 : lw_okq (⟨"PracticeSheets", "toldOfPart", "(II)I"⟩, 8) := ⟨⟨by decide +kernel, by decide +kernel⟩, List.mem_of_getElem? (i := 14) (by decide +kernel), List.mem_of_getElem? (i := 443) (by decide +kernel), List.mem_of_getElem? (i := 444) (by decide +kernel)⟩
theorem lw_p5 : lw_okq (⟨"PracticeSheets$Ranking", "countNeeds", "(LPracticeSheets$Practice;II)V"⟩, 1) := ⟨⟨by decide +kernel, by decide +kernel⟩, List.mem_of_getElem? (i := 187) (by decide +kernel), List.mem_of_getElem? (i := 514) (by decide +kernel), List.mem_of_getElem? (i := 515) (by decide +kernel)⟩
theorem lw_p6 : lw_okq (⟨"PracticeSheetsModel", "faultOfWriting", "()I"⟩, 19) := ⟨⟨by decide +kernel, by decide +kernel⟩, List.mem_of_getElem? (i := 551) (by decide +kernel), List.mem_of_getElem? (i := 627) (by decide +kernel), List.mem_of_getElem? (i := 628) (by decide +kernel)⟩
theorem lw_p7 : lw_okq (⟨"PracticeSheetsModel", "isLetter", "(I)Z"⟩, 19) := ⟨⟨by decide +kernel, by decide +kernel⟩, List.mem_of_getElem? (i := 551) (by decide +kernel), List.mem_of_getElem? (i := 631) (by decide +kernel), List.mem_of_getElem? (i := 632) (by decide +kernel)⟩
theorem lw_p8 : lw_okq (⟨"PracticeSheetsModel", "isThere", "(II)Z"⟩, 19) := ⟨⟨by decide +kernel, by decide +kernel⟩, List.mem_of_getElem? (i := 551) (by decide +kernel), List.mem_of_getElem? (i := 640) (by decide +kernel), List.mem_of_getElem? (i := 641) (by decide +kernel)⟩
theorem lw_p9 : lw_okq (⟨"PracticeSheetsModel", "remember", "()V"⟩, 19) := ⟨⟨by decide +kernel, by decide +kernel⟩, List.mem_of_getElem? (i := 551) (by decide +kernel), List.mem_of_getElem? (i := 644) (by decide +kernel), List.mem_of_getElem? (i := 645) (by decide +kernel)⟩
theorem lw_p10 : lw_okq (⟨"PracticeSheetsModel", "tries", "(II)V"⟩, 19) := ⟨⟨by decide +kernel, by decide +kernel⟩, List.mem_of_getElem? (i := 551) (by decide +kernel), List.mem_of_getElem? (i := 651) (by decide +kernel), List.mem_of_getElem? (i := 652) (by decide +kernel)⟩
theorem lw_p11 : lw_okq (⟨"PracticeSheetsModel", "acted", "(I)I"⟩, 19) := ⟨⟨by decide +kernel, by decide +kernel⟩, List.mem_of_getElem? (i := 551) (by decide +kernel), List.mem_of_getElem? (i := 658) (by decide +kernel), List.mem_of_getElem? (i := 659) (by decide +kernel)⟩
theorem lw_p12 : lw_okq (⟨"PracticeSheetsModel", "faultOfWords", "()I"⟩, 19) := ⟨⟨by decide +kernel, by decide +kernel⟩, List.mem_of_getElem? (i := 551) (by decide +kernel), List.mem_of_getElem? (i := 676) (by decide +kernel), List.mem_of_getElem? (i := 677) (by decide +kernel)⟩
theorem lw_p13 : lw_okq (⟨"PracticeSheetsModel", "addsAll", "()Z"⟩, 19) := ⟨⟨by decide +kernel, by decide +kernel⟩, List.mem_of_getElem? (i := 551) (by decide +kernel), List.mem_of_getElem? (i := 680) (by decide +kernel), List.mem_of_getElem? (i := 681) (by decide +kernel)⟩
theorem lw_p14 : lw_okq (⟨"PracticeSheetsModel", "isOnList", "(II)Z"⟩, 19) := ⟨⟨by decide +kernel, by decide +kernel⟩, List.mem_of_getElem? (i := 551) (by decide +kernel), List.mem_of_getElem? (i := 684) (by decide +kernel), List.mem_of_getElem? (i := 685) (by decide +kernel)⟩
theorem lw_p15 : lw_okq (⟨"PracticeSheetsModel", "sizeOf", "(I)I"⟩, 19) := ⟨⟨by decide +kernel, by decide +kernel⟩, List.mem_of_getElem? (i := 551) (by decide +kernel), List.mem_of_getElem? (i := 688) (by decide +kernel), List.mem_of_getElem? (i := 689) (by decide +kernel)⟩
def lw_privs_1 : List (MethodName × Nat) := [(⟨"PracticeSheets$History", "dropOldest", "()V"⟩, 2), (⟨"PracticeSheets$Word", "addPart", "(I)V"⟩, 4), (⟨"PracticeSheets$Sheet", "chooseLine", "(LPracticeSheets$State;)Z"⟩, 5), (⟨"PracticeSheets$Sheet", "addLine", "(IILPracticeSheets$Word;)V"⟩, 5), (⟨"PracticeSheets", "toldOfPart", "(II)I"⟩, 8), (⟨"PracticeSheets$Ranking", "countNeeds", "(LPracticeSheets$Practice;II)V"⟩, 1), (⟨"PracticeSheetsModel", "faultOfWriting", "()I"⟩, 19), (⟨"PracticeSheetsModel", "isLetter", "(I)Z"⟩, 19), (⟨"PracticeSheetsModel", "isThere", "(II)Z"⟩, 19), (⟨"PracticeSheetsModel", "remember", "()V"⟩, 19), (⟨"PracticeSheetsModel", "tries", "(II)V"⟩, 19), (⟨"PracticeSheetsModel", "acted", "(I)I"⟩, 19), (⟨"PracticeSheetsModel", "faultOfWords", "()I"⟩, 19), (⟨"PracticeSheetsModel", "addsAll", "()Z"⟩, 19), (⟨"PracticeSheetsModel", "isOnList", "(II)Z"⟩, 19), (⟨"PracticeSheetsModel", "sizeOf", "(I)I"⟩, 19)]
theorem lw_r1 : ∀ q ∈ lw_privs_1, lw_okq q := List.forall_mem_cons.mpr ⟨lw_p0, List.forall_mem_cons.mpr ⟨lw_p1, List.forall_mem_cons.mpr ⟨lw_p2, List.forall_mem_cons.mpr ⟨lw_p3, List.forall_mem_cons.mpr ⟨lw_p4, List.forall_mem_cons.mpr ⟨lw_p5, List.forall_mem_cons.mpr ⟨lw_p6, List.forall_mem_cons.mpr ⟨lw_p7, List.forall_mem_cons.mpr ⟨lw_p8, List.forall_mem_cons.mpr ⟨lw_p9, List.forall_mem_cons.mpr ⟨lw_p10, List.forall_mem_cons.mpr ⟨lw_p11, List.forall_mem_cons.mpr ⟨lw_p12, List.forall_mem_cons.mpr ⟨lw_p13, List.forall_mem_cons.mpr ⟨lw_p14, List.forall_mem_cons.mpr ⟨lw_p15, fun _ h => absurd h List.not_mem_nil⟩⟩⟩⟩⟩⟩⟩⟩⟩⟩⟩⟩⟩⟩⟩⟩
theorem lw_p16 : lw_okq (⟨"PracticeSheetsModel", "letterAt", "(II)I"⟩, 19) := ⟨⟨by decide +kernel, by decide +kernel⟩, List.mem_of_getElem? (i := 551) (by decide +kernel), List.mem_of_getElem? (i := 692) (by decide +kernel), List.mem_of_getElem? (i := 693) (by decide +kernel)⟩
theorem lw_p17 : lw_okq (⟨"PracticeSheetsModel", "isWord", "(I)Z"⟩, 19) := ⟨⟨by decide +kernel, by decide +kernel⟩, List.mem_of_getElem? (i := 551) (by decide +kernel), List.mem_of_getElem? (i := 700) (by decide +kernel), List.mem_of_getElem? (i := 701) (by decide +kernel)⟩
theorem lw_p18 : lw_okq (⟨"PracticeSheetsModel", "makesSheet", "(I)V"⟩, 19) := ⟨⟨by decide +kernel, by decide +kernel⟩, List.mem_of_getElem? (i := 551) (by decide +kernel), List.mem_of_getElem? (i := 712) (by decide +kernel), List.mem_of_getElem? (i := 713) (by decide +kernel)⟩
theorem lw_p19 : lw_okq (⟨"PracticeSheetsModel", "coversNone", "()V"⟩, 19) := ⟨⟨by decide +kernel, by decide +kernel⟩, List.mem_of_getElem? (i := 551) (by decide +kernel), List.mem_of_getElem? (i := 716) (by decide +kernel), List.mem_of_getElem? (i := 717) (by decide +kernel)⟩
theorem lw_p20 : lw_okq (⟨"PracticeSheetsModel", "nextWord", "()I"⟩, 19) := ⟨⟨by decide +kernel, by decide +kernel⟩, List.mem_of_getElem? (i := 551) (by decide +kernel), List.mem_of_getElem? (i := 720) (by decide +kernel), List.mem_of_getElem? (i := 721) (by decide +kernel)⟩
theorem lw_p21 : lw_okq (⟨"PracticeSheetsModel", "isOnSheet", "(I)Z"⟩, 19) := ⟨⟨by decide +kernel, by decide +kernel⟩, List.mem_of_getElem? (i := 551) (by decide +kernel), List.mem_of_getElem? (i := 724) (by decide +kernel), List.mem_of_getElem? (i := 725) (by decide +kernel)⟩
theorem lw_p22 : lw_okq (⟨"PracticeSheetsModel", "gainOf", "(I)I"⟩, 19) := ⟨⟨by decide +kernel, by decide +kernel⟩, List.mem_of_getElem? (i := 551) (by decide +kernel), List.mem_of_getElem? (i := 728) (by decide +kernel), List.mem_of_getElem? (i := 729) (by decide +kernel)⟩
theorem lw_p23 : lw_okq (⟨"PracticeSheetsModel", "findsParts", "(I)V"⟩, 19) := ⟨⟨by decide +kernel, by decide +kernel⟩, List.mem_of_getElem? (i := 551) (by decide +kernel), List.mem_of_getElem? (i := 732) (by decide +kernel), List.mem_of_getElem? (i := 733) (by decide +kernel)⟩
theorem lw_p24 : lw_okq (⟨"PracticeSheetsModel", "addsPart", "(I)V"⟩, 19) := ⟨⟨by decide +kernel, by decide +kernel⟩, List.mem_of_getElem? (i := 551) (by decide +kernel), List.mem_of_getElem? (i := 736) (by decide +kernel), List.mem_of_getElem? (i := 737) (by decide +kernel)⟩
theorem lw_p25 : lw_okq (⟨"PracticeSheetsModel", "isUntried", "(I)Z"⟩, 19) := ⟨⟨by decide +kernel, by decide +kernel⟩, List.mem_of_getElem? (i := 551) (by decide +kernel), List.mem_of_getElem? (i := 740) (by decide +kernel), List.mem_of_getElem? (i := 741) (by decide +kernel)⟩
theorem lw_p26 : lw_okq (⟨"PracticeSheetsModel", "needOf", "(I)I"⟩, 19) := ⟨⟨by decide +kernel, by decide +kernel⟩, List.mem_of_getElem? (i := 551) (by decide +kernel), List.mem_of_getElem? (i := 744) (by decide +kernel), List.mem_of_getElem? (i := 745) (by decide +kernel)⟩
theorem lw_p27 : lw_okq (⟨"PracticeSheetsModel", "writesSheet", "()V"⟩, 19) := ⟨⟨by decide +kernel, by decide +kernel⟩, List.mem_of_getElem? (i := 551) (by decide +kernel), List.mem_of_getElem? (i := 748) (by decide +kernel), List.mem_of_getElem? (i := 749) (by decide +kernel)⟩
theorem lw_p28 : lw_okq (⟨"PracticeSheetsModel", "ofPart", "(II)I"⟩, 19) := ⟨⟨by decide +kernel, by decide +kernel⟩, List.mem_of_getElem? (i := 551) (by decide +kernel), List.mem_of_getElem? (i := 768) (by decide +kernel), List.mem_of_getElem? (i := 769) (by decide +kernel)⟩
theorem lw_p29 : lw_okq (⟨"PracticeSheetsModel", "wordsWith", "(I)I"⟩, 19) := ⟨⟨by decide +kernel, by decide +kernel⟩, List.mem_of_getElem? (i := 551) (by decide +kernel), List.mem_of_getElem? (i := 772) (by decide +kernel), List.mem_of_getElem? (i := 773) (by decide +kernel)⟩
theorem lw_p30 : lw_okq (⟨"PracticeSheetsModel", "hasPart", "(II)Z"⟩, 19) := ⟨⟨by decide +kernel, by decide +kernel⟩, List.mem_of_getElem? (i := 551) (by decide +kernel), List.mem_of_getElem? (i := 776) (by decide +kernel), List.mem_of_getElem? (i := 777) (by decide +kernel)⟩
theorem lw_p31 : lw_okq (⟨"PracticeSheetsModel", "needOfWord", "(I)I"⟩, 19) := ⟨⟨by decide +kernel, by decide +kernel⟩, List.mem_of_getElem? (i := 551) (by decide +kernel), List.mem_of_getElem? (i := 788) (by decide +kernel), List.mem_of_getElem? (i := 789) (by decide +kernel)⟩
def lw_privs_2 : List (MethodName × Nat) := [(⟨"PracticeSheetsModel", "letterAt", "(II)I"⟩, 19), (⟨"PracticeSheetsModel", "isWord", "(I)Z"⟩, 19), (⟨"PracticeSheetsModel", "makesSheet", "(I)V"⟩, 19), (⟨"PracticeSheetsModel", "coversNone", "()V"⟩, 19), (⟨"PracticeSheetsModel", "nextWord", "()I"⟩, 19), (⟨"PracticeSheetsModel", "isOnSheet", "(I)Z"⟩, 19), (⟨"PracticeSheetsModel", "gainOf", "(I)I"⟩, 19), (⟨"PracticeSheetsModel", "findsParts", "(I)V"⟩, 19), (⟨"PracticeSheetsModel", "addsPart", "(I)V"⟩, 19), (⟨"PracticeSheetsModel", "isUntried", "(I)Z"⟩, 19), (⟨"PracticeSheetsModel", "needOf", "(I)I"⟩, 19), (⟨"PracticeSheetsModel", "writesSheet", "()V"⟩, 19), (⟨"PracticeSheetsModel", "ofPart", "(II)I"⟩, 19), (⟨"PracticeSheetsModel", "wordsWith", "(I)I"⟩, 19), (⟨"PracticeSheetsModel", "hasPart", "(II)Z"⟩, 19), (⟨"PracticeSheetsModel", "needOfWord", "(I)I"⟩, 19)]
theorem lw_r2 : ∀ q ∈ lw_privs_2, lw_okq q := List.forall_mem_cons.mpr ⟨lw_p16, List.forall_mem_cons.mpr ⟨lw_p17, List.forall_mem_cons.mpr ⟨lw_p18, List.forall_mem_cons.mpr ⟨lw_p19, List.forall_mem_cons.mpr ⟨lw_p20, List.forall_mem_cons.mpr ⟨lw_p21, List.forall_mem_cons.mpr ⟨lw_p22, List.forall_mem_cons.mpr ⟨lw_p23, List.forall_mem_cons.mpr ⟨lw_p24, List.forall_mem_cons.mpr ⟨lw_p25, List.forall_mem_cons.mpr ⟨lw_p26, List.forall_mem_cons.mpr ⟨lw_p27, List.forall_mem_cons.mpr ⟨lw_p28, List.forall_mem_cons.mpr ⟨lw_p29, List.forall_mem_cons.mpr ⟨lw_p30, List.forall_mem_cons.mpr ⟨lw_p31, fun _ h => absurd h List.not_mem_nil⟩⟩⟩⟩⟩⟩⟩⟩⟩⟩⟩⟩⟩⟩⟩⟩
theorem lw_p32 : lw_okq (⟨"PracticeSheetsModel", "partsOf", "(IZ)I"⟩, 19) := ⟨⟨by decide +kernel, by decide +kernel⟩, List.mem_of_getElem? (i := 551) (by decide +kernel), List.mem_of_getElem? (i := 792) (by decide +kernel), List.mem_of_getElem? (i := 793) (by decide +kernel)⟩
theorem lw_p33 : lw_okq (⟨"PracticeSheetsModel", "firstGain", "(I)I"⟩, 19) := ⟨⟨by decide +kernel, by decide +kernel⟩, List.mem_of_getElem? (i := 551) (by decide +kernel), List.mem_of_getElem? (i := 796) (by decide +kernel), List.mem_of_getElem? (i := 797) (by decide +kernel)⟩
theorem lw_p34 : lw_okq (⟨"PracticeSheetsModel", "coveredIn", "(II)I"⟩, 19) := ⟨⟨by decide +kernel, by decide +kernel⟩, List.mem_of_getElem? (i := 551) (by decide +kernel), List.mem_of_getElem? (i := 813) (by decide +kernel), List.mem_of_getElem? (i := 814) (by decide +kernel)⟩
theorem lw_p35 : lw_okq (⟨"PracticeSheetsModel", "coveredNeeds", "()I"⟩, 19) := ⟨⟨by decide +kernel, by decide +kernel⟩, List.mem_of_getElem? (i := 551) (by decide +kernel), List.mem_of_getElem? (i := 817) (by decide +kernel), List.mem_of_getElem? (i := 818) (by decide +kernel)⟩
theorem lw_p36 : lw_okq (⟨"PracticeSheetsModel", "gains", "()I"⟩, 19) := ⟨⟨by decide +kernel, by decide +kernel⟩, List.mem_of_getElem? (i := 551) (by decide +kernel), List.mem_of_getElem? (i := 821) (by decide +kernel), List.mem_of_getElem? (i := 822) (by decide +kernel)⟩
theorem lw_p37 : lw_okq (⟨"PracticeSheetsModel", "greatestOfWords", "()I"⟩, 19) := ⟨⟨by decide +kernel, by decide +kernel⟩, List.mem_of_getElem? (i := 551) (by decide +kernel), List.mem_of_getElem? (i := 837) (by decide +kernel), List.mem_of_getElem? (i := 838) (by decide +kernel)⟩
theorem lw_p38 : lw_okq (⟨"PracticeSheetsModel", "untriedIn", "(II)I"⟩, 19) := ⟨⟨by decide +kernel, by decide +kernel⟩, List.mem_of_getElem? (i := 551) (by decide +kernel), List.mem_of_getElem? (i := 845) (by decide +kernel), List.mem_of_getElem? (i := 846) (by decide +kernel)⟩
theorem lw_p39 : lw_okq (⟨"PracticeSheetsModel", "greatestNeed", "(II)I"⟩, 19) := ⟨⟨by decide +kernel, by decide +kernel⟩, List.mem_of_getElem? (i := 551) (by decide +kernel), List.mem_of_getElem? (i := 849) (by decide +kernel), List.mem_of_getElem? (i := 850) (by decide +kernel)⟩
def lw_privs_3 : List (MethodName × Nat) := [(⟨"PracticeSheetsModel", "partsOf", "(IZ)I"⟩, 19), (⟨"PracticeSheetsModel", "firstGain", "(I)I"⟩, 19), (⟨"PracticeSheetsModel", "coveredIn", "(II)I"⟩, 19), (⟨"PracticeSheetsModel", "coveredNeeds", "()I"⟩, 19), (⟨"PracticeSheetsModel", "gains", "()I"⟩, 19), (⟨"PracticeSheetsModel", "greatestOfWords", "()I"⟩, 19), (⟨"PracticeSheetsModel", "untriedIn", "(II)I"⟩, 19), (⟨"PracticeSheetsModel", "greatestNeed", "(II)I"⟩, 19)]
theorem lw_r3 : ∀ q ∈ lw_privs_3, lw_okq q := List.forall_mem_cons.mpr ⟨lw_p32, List.forall_mem_cons.mpr ⟨lw_p33, List.forall_mem_cons.mpr ⟨lw_p34, List.forall_mem_cons.mpr ⟨lw_p35, List.forall_mem_cons.mpr ⟨lw_p36, List.forall_mem_cons.mpr ⟨lw_p37, List.forall_mem_cons.mpr ⟨lw_p38, List.forall_mem_cons.mpr ⟨lw_p39, fun _ h => absurd h List.not_mem_nil⟩⟩⟩⟩⟩⟩⟩⟩
def lw_privs : List (MethodName × Nat) := lw_privs_1 ++ (lw_privs_2 ++ (lw_privs_3))
def lw_tbl : List Cond := k2_sels lw_privs ++ tables_1
theorem lw_privs_ok : ∀ q ∈ lw_privs, lw_okq q := by
  show ∀ q ∈ lw_privs_1 ++ (lw_privs_2 ++ (lw_privs_3)), lw_okq q
  exact List.forall_mem_append.mpr ⟨lw_r1, List.forall_mem_append.mpr ⟨lw_r2, lw_r3⟩⟩
-- ===== end of PART A; then your names; then what follows =====
end
section
/-! ===== BEGIN words of one list among another's, by their places ===== -/
theorem goodIn_r {big : List Cond} (ws : List Cond) (ps : List Nat) (hp : ws = ps.filterMap (fun i => big[i]?)) (h : ws.all goodWord = true) : GoodIn big ws := by
  intro w hw
  have h1 := List.all_eq_true.mp h w hw
  rw [hp] at hw
  obtain ⟨i, -, hi⟩ := List.mem_filterMap.mp hw
  have hm : w ∈ big := by first | exact List.mem_of_getElem? hi | exact List.getElem?_mem hi
  exact ⟨hm, good_of_word h1⟩
theorem goodIn_app {big a b : List Cond} (ha : GoodIn big a) (hb : GoodIn big b) : GoodIn big (a ++ b) := fun w h => (List.mem_append.mp h).elim (ha w) (hb w)
theorem goodIn_ca {big a b : List Cond} {c : Cond} (ha : GoodIn big (c :: a)) (hb : GoodIn big b) : GoodIn big (c :: (a ++ b)) := fun w h => (List.mem_cons.mp h).elim (fun e => ha w (List.mem_cons.mpr (Or.inl e))) (fun h => (List.mem_append.mp h).elim (fun h => ha w (List.mem_cons.mpr (Or.inr h))) (hb w))
theorem goodIn_sub {big ws : List Cond} (hm : ∀ w ∈ ws, w ∈ big) (h : ws.all goodWord = true) : GoodIn big ws := fun w hw => ⟨hm w hw, good_of_word (List.all_eq_true.mp h w hw)⟩
/-! ===== END ===== -/

/-! ===== BEGIN printed: names, fields, word lists, decode rows ===== -/
def RX0 : String := "PracticeSheets$History"
def TX0 : u_T := fun k => match k with
  | 0 => ("PracticeSheets$History", "states", "[LPracticeSheets$State;", true)
  | _ => ("PracticeSheets$History", "size", "I", false)
def tyX0 : Nat → FieldType := fun k => match k with
  | 0 => .array (.object "PracticeSheets$State")
  | _ => .int
abbrev wsX00 : List Cond := u_ws RX0 TX0 2
theorem nmX0 : ∀ a, a < 2 → ∀ b, b < 2 → a ≠ b → (TX0 a).2.1 ≠ (TX0 b).2.1 := by decide +kernel
theorem tyX0_ok : ∀ k, k < 2 → parseFieldDescriptor (TX0 k).2.2.1 = some (tyX0 k) := by decide +kernel
abbrev cX0_init : ByteArray := prog_2_method_1_code
def yX0_init : MethodName := ⟨RX0, "<init>", "()V"⟩
abbrev cX0_remember : ByteArray := prog_2_method_2_code
def yX0_remember : MethodName := ⟨RX0, "remember", "(LPracticeSheets$State;)V"⟩
abbrev cX0_dropOldest : ByteArray := prog_2_method_3_code
def yX0_dropOldest : MethodName := ⟨RX0, "dropOldest", "()V"⟩
abbrev cX0_takeBack : ByteArray := prog_2_method_4_code
def yX0_takeBack : MethodName := ⟨RX0, "takeBack", "(LPracticeSheets$State;)Z"⟩
def RX1 : String := "PracticeSheets$Practice"
def TX1 : u_T := fun k => match k with
  | 0 => ("PracticeSheets$Practice", "tries", "[I", true)
  | _ => ("PracticeSheets$Practice", "slips", "[I", true)
def tyX1 : Nat → FieldType := fun k => match k with
  | 0 => .array .int
  | _ => .array .int
abbrev wsX10 : List Cond := u_ws RX1 TX1 2
theorem nmX1 : ∀ a, a < 2 → ∀ b, b < 2 → a ≠ b → (TX1 a).2.1 ≠ (TX1 b).2.1 := by decide +kernel
theorem tyX1_ok : ∀ k, k < 2 → parseFieldDescriptor (TX1 k).2.2.1 = some (tyX1 k) := by decide +kernel
abbrev cX1_init : ByteArray := prog_3_method_1_code
def yX1_init : MethodName := ⟨RX1, "<init>", "()V"⟩
abbrev cX1_triesOf : ByteArray := prog_3_method_2_code
def yX1_triesOf : MethodName := ⟨RX1, "triesOf", "(I)I"⟩
abbrev cX1_slipsOf : ByteArray := prog_3_method_3_code
def yX1_slipsOf : MethodName := ⟨RX1, "slipsOf", "(I)I"⟩
abbrev cX1_needOf : ByteArray := prog_3_method_4_code
def yX1_needOf : MethodName := ⟨RX1, "needOf", "(I)I"⟩
abbrev cX1_isUntried : ByteArray := prog_3_method_5_code
def yX1_isUntried : MethodName := ⟨RX1, "isUntried", "(I)Z"⟩
abbrev cX1_addTry : ByteArray := prog_3_method_6_code
def yX1_addTry : MethodName := ⟨RX1, "addTry", "(I)V"⟩
abbrev cX1_addSlip : ByteArray := prog_3_method_7_code
def yX1_addSlip : MethodName := ⟨RX1, "addSlip", "(I)V"⟩
abbrev cX1_addTriesOf : ByteArray := prog_3_method_8_code
def yX1_addTriesOf : MethodName := ⟨RX1, "addTriesOf", "(LPracticeSheets$Word;)V"⟩
abbrev cX1_fade : ByteArray := prog_3_method_9_code
def yX1_fade : MethodName := ⟨RX1, "fade", "(I)I"⟩
abbrev cX1_needOfAll : ByteArray := prog_3_method_10_code
def yX1_needOfAll : MethodName := ⟨RX1, "needOfAll", "(LPracticeSheets$Word;)I"⟩
abbrev cX1_untriedOf : ByteArray := prog_3_method_11_code
def yX1_untriedOf : MethodName := ⟨RX1, "untriedOf", "(LPracticeSheets$Word;)I"⟩
abbrev cX1_greatestNeedOf : ByteArray := prog_3_method_12_code
def yX1_greatestNeedOf : MethodName := ⟨RX1, "greatestNeedOf", "(LPracticeSheets$Word;)I"⟩
abbrev cX1_greatestNeedFrom : ByteArray := prog_3_method_13_code
def yX1_greatestNeedFrom : MethodName := ⟨RX1, "greatestNeedFrom", "(II)I"⟩
abbrev cX1_triedFrom : ByteArray := prog_3_method_14_code
def yX1_triedFrom : MethodName := ⟨RX1, "triedFrom", "(II)I"⟩
abbrev cX1_copyFrom : ByteArray := prog_3_method_15_code
def yX1_copyFrom : MethodName := ⟨RX1, "copyFrom", "(LPracticeSheets$Practice;)V"⟩
def RX2 : String := "PracticeSheets$Ranking"
def TX2 : u_T := fun k => match k with
  | _ => ("PracticeSheets$Ranking", "howMany", "[I", true)
def tyX2 : Nat → FieldType := fun k => match k with
  | _ => .array .int
abbrev wsX20 : List Cond := u_ws RX2 TX2 1
theorem nmX2 : ∀ a, a < 1 → ∀ b, b < 1 → a ≠ b → (TX2 a).2.1 ≠ (TX2 b).2.1 := by decide +kernel
theorem tyX2_ok : ∀ k, k < 1 → parseFieldDescriptor (TX2 k).2.2.1 = some (tyX2 k) := by decide +kernel
abbrev cX2_init : ByteArray := prog_4_method_1_code
def yX2_init : MethodName := ⟨RX2, "<init>", "()V"⟩
abbrev cX2_partAt : ByteArray := prog_4_method_2_code
def yX2_partAt : MethodName := ⟨RX2, "partAt", "(LPracticeSheets$Practice;III)I"⟩
abbrev cX2_countNeeds : ByteArray := prog_4_method_3_code
def yX2_countNeeds : MethodName := ⟨RX2, "countNeeds", "(LPracticeSheets$Practice;II)V"⟩
abbrev cX2_partWithNeed : ByteArray := prog_4_method_4_code
def yX2_partWithNeed : MethodName := ⟨RX2, "partWithNeed", "(LPracticeSheets$Practice;IIII)I"⟩
def RX3 : String := "PracticeSheets$Sheet"
def TX3 : u_T := fun k => match k with
  | 0 => ("PracticeSheets$Sheet", "words", "[I", true)
  | 1 => ("PracticeSheets$Sheet", "gains", "[I", true)
  | 2 => ("PracticeSheets$Sheet", "isCovered", "[Z", true)
  | 3 => ("PracticeSheets$Sheet", "isTaken", "[Z", true)
  | _ => ("PracticeSheets$Sheet", "size", "I", false)
def tyX3 : Nat → FieldType := fun k => match k with
  | 0 => .array .int
  | 1 => .array .int
  | 2 => .array .boolean
  | 3 => .array .boolean
  | _ => .int
abbrev wsX30 : List Cond := u_ws RX3 TX3 5
theorem nmX3 : ∀ a, a < 5 → ∀ b, b < 5 → a ≠ b → (TX3 a).2.1 ≠ (TX3 b).2.1 := by decide +kernel
theorem tyX3_ok : ∀ k, k < 5 → parseFieldDescriptor (TX3 k).2.2.1 = some (tyX3 k) := by decide +kernel
abbrev cX3_init : ByteArray := prog_5_method_1_code
def yX3_init : MethodName := ⟨RX3, "<init>", "()V"⟩
abbrev cX3_clear : ByteArray := prog_5_method_2_code
def yX3_clear : MethodName := ⟨RX3, "clear", "()V"⟩
abbrev cX3_choose : ByteArray := prog_5_method_3_code
def yX3_choose : MethodName := ⟨RX3, "choose", "(LPracticeSheets$State;I)V"⟩
abbrev cX3_chooseLine : ByteArray := prog_5_method_4_code
def yX3_chooseLine : MethodName := ⟨RX3, "chooseLine", "(LPracticeSheets$State;)Z"⟩
abbrev cX3_addLine : ByteArray := prog_5_method_5_code
def yX3_addLine : MethodName := ⟨RX3, "addLine", "(IILPracticeSheets$Word;)V"⟩
abbrev cX3_gainOf : ByteArray := prog_5_method_6_code
def yX3_gainOf : MethodName := ⟨RX3, "gainOf", "(LPracticeSheets$Word;LPracticeSheets$State;)I"⟩
abbrev cX3_coveredFrom : ByteArray := prog_5_method_7_code
def yX3_coveredFrom : MethodName := ⟨RX3, "coveredFrom", "(II)I"⟩
abbrev cX3_needCovered : ByteArray := prog_5_method_8_code
def yX3_needCovered : MethodName := ⟨RX3, "needCovered", "(LPracticeSheets$Practice;)I"⟩
abbrev cX3_sumOfGains : ByteArray := prog_5_method_9_code
def yX3_sumOfGains : MethodName := ⟨RX3, "sumOfGains", "()I"⟩
def RX4 : String := "PracticeSheets$State"
def TX4 : u_T := fun k => match k with
  | 0 => ("PracticeSheets$State", "practice", "LPracticeSheets$Practice;", true)
  | 1 => ("PracticeSheets$State", "words", "LPracticeSheets$WordList;", true)
  | 2 => ("PracticeSheets$State", "weeks", "I", false)
  | 3 => ("PracticeSheets$State", "untried", "I", false)
  | 4 => ("PracticeSheets$State", "written", "I", false)
  | 5 => ("PracticeSheets$State", "slips", "I", false)
  | _ => ("PracticeSheets$State", "sheets", "I", false)
def tyX4 : Nat → FieldType := fun k => match k with
  | 0 => .object "PracticeSheets$Practice"
  | 1 => .object "PracticeSheets$WordList"
  | 2 => .int
  | 3 => .int
  | 4 => .int
  | 5 => .int
  | _ => .int
abbrev wsX40 : List Cond := u_ws RX4 TX4 7
theorem nmX4 : ∀ a, a < 7 → ∀ b, b < 7 → a ≠ b → (TX4 a).2.1 ≠ (TX4 b).2.1 := by decide +kernel
theorem tyX4_ok : ∀ k, k < 7 → parseFieldDescriptor (TX4 k).2.2.1 = some (tyX4 k) := by decide +kernel
abbrev cX4_init : ByteArray := prog_6_method_1_code
def yX4_init : MethodName := ⟨RX4, "<init>", "()V"⟩
abbrev cX4_practise : ByteArray := prog_6_method_2_code
def yX4_practise : MethodName := ⟨RX4, "practise", "(LPracticeSheets$Sheet;)V"⟩
abbrev cX4_greatestNeedOfWords : ByteArray := prog_6_method_3_code
def yX4_greatestNeedOfWords : MethodName := ⟨RX4, "greatestNeedOfWords", "()I"⟩
abbrev cX4_copyFrom : ByteArray := prog_6_method_4_code
def yX4_copyFrom : MethodName := ⟨RX4, "copyFrom", "(LPracticeSheets$State;)V"⟩
def RX5 : String := "PracticeSheets$Text"
def TX5 : u_T := fun k => match k with
  | 0 => ("PracticeSheets$Text", "signs", "[C", true)
  | 1 => ("PracticeSheets$Text", "spelled", "LPracticeSheets$Word;", true)
  | _ => ("PracticeSheets$Text", "length", "I", false)
def tyX5 : Nat → FieldType := fun k => match k with
  | 0 => .array .char
  | 1 => .object "PracticeSheets$Word"
  | _ => .int
abbrev wsX50 : List Cond := u_ws RX5 TX5 3
theorem nmX5 : ∀ a, a < 3 → ∀ b, b < 3 → a ≠ b → (TX5 a).2.1 ≠ (TX5 b).2.1 := by decide +kernel
theorem tyX5_ok : ∀ k, k < 3 → parseFieldDescriptor (TX5 k).2.2.1 = some (tyX5 k) := by decide +kernel
abbrev cX5_init : ByteArray := prog_7_method_1_code
def yX5_init : MethodName := ⟨RX5, "<init>", "()V"⟩
abbrev cX5_append : ByteArray := prog_7_method_2_code
def yX5_append : MethodName := ⟨RX5, "append", "(C)Z"⟩
abbrev cX5_faultAsWritten : ByteArray := prog_7_method_3_code
def yX5_faultAsWritten : MethodName := ⟨RX5, "faultAsWritten", "()I"⟩
abbrev cX5_mayBeWritten : ByteArray := prog_7_method_4_code
def yX5_mayBeWritten : MethodName := ⟨RX5, "mayBeWritten", "(CCI)Z"⟩
abbrev cX5_faultAsWords : ByteArray := prog_7_method_5_code
def yX5_faultAsWords : MethodName := ⟨RX5, "faultAsWords", "()I"⟩
abbrev cX5_practiseIn : ByteArray := prog_7_method_6_code
def yX5_practiseIn : MethodName := ⟨RX5, "practiseIn", "(LPracticeSheets$Practice;)I"⟩
abbrev cX5_tryJoin : ByteArray := prog_7_method_7_code
def yX5_tryJoin : MethodName := ⟨RX5, "tryJoin", "(LPracticeSheets$Practice;IZ)V"⟩
abbrev cX5_spellInto : ByteArray := prog_7_method_8_code
def yX5_spellInto : MethodName := ⟨RX5, "spellInto", "(LPracticeSheets$WordList;)Z"⟩
def RX6 : String := "PracticeSheets$Word"
def TX6 : u_T := fun k => match k with
  | 0 => ("PracticeSheets$Word", "letters", "[I", true)
  | 1 => ("PracticeSheets$Word", "parts", "[I", true)
  | 2 => ("PracticeSheets$Word", "length", "I", false)
  | _ => ("PracticeSheets$Word", "partCount", "I", false)
def tyX6 : Nat → FieldType := fun k => match k with
  | 0 => .array .int
  | 1 => .array .int
  | 2 => .int
  | _ => .int
abbrev wsX60 : List Cond := u_ws RX6 TX6 4
theorem nmX6 : ∀ a, a < 4 → ∀ b, b < 4 → a ≠ b → (TX6 a).2.1 ≠ (TX6 b).2.1 := by decide +kernel
theorem tyX6_ok : ∀ k, k < 4 → parseFieldDescriptor (TX6 k).2.2.1 = some (tyX6 k) := by decide +kernel
abbrev cX6_init : ByteArray := prog_8_method_1_code
def yX6_init : MethodName := ⟨RX6, "<init>", "()V"⟩
abbrev cX6_clear : ByteArray := prog_8_method_2_code
def yX6_clear : MethodName := ⟨RX6, "clear", "()V"⟩
abbrev cX6_append : ByteArray := prog_8_method_3_code
def yX6_append : MethodName := ⟨RX6, "append", "(I)V"⟩
abbrev cX6_addPart : ByteArray := prog_8_method_4_code
def yX6_addPart : MethodName := ⟨RX6, "addPart", "(I)V"⟩
abbrev cX6_has : ByteArray := prog_8_method_5_code
def yX6_has : MethodName := ⟨RX6, "has", "(I)Z"⟩
abbrev cX6_isSpelledAs : ByteArray := prog_8_method_6_code
def yX6_isSpelledAs : MethodName := ⟨RX6, "isSpelledAs", "(LPracticeSheets$Word;)Z"⟩
abbrev cX6_copyFrom : ByteArray := prog_8_method_7_code
def yX6_copyFrom : MethodName := ⟨RX6, "copyFrom", "(LPracticeSheets$Word;)V"⟩
def RX7 : String := "PracticeSheets$WordList"
def TX7 : u_T := fun k => match k with
  | 0 => ("PracticeSheets$WordList", "words", "[LPracticeSheets$Word;", true)
  | _ => ("PracticeSheets$WordList", "size", "I", false)
def tyX7 : Nat → FieldType := fun k => match k with
  | 0 => .array (.object "PracticeSheets$Word")
  | _ => .int
abbrev wsX70 : List Cond := u_ws RX7 TX7 2
theorem nmX7 : ∀ a, a < 2 → ∀ b, b < 2 → a ≠ b → (TX7 a).2.1 ≠ (TX7 b).2.1 := by decide +kernel
theorem tyX7_ok : ∀ k, k < 2 → parseFieldDescriptor (TX7 k).2.2.1 = some (tyX7 k) := by decide +kernel
abbrev cX7_init : ByteArray := prog_9_method_1_code
def yX7_init : MethodName := ⟨RX7, "<init>", "()V"⟩
abbrev cX7_at : ByteArray := prog_9_method_2_code
def yX7_at : MethodName := ⟨RX7, "at", "(I)LPracticeSheets$Word;"⟩
abbrev cX7_take : ByteArray := prog_9_method_3_code
def yX7_take : MethodName := ⟨RX7, "take", "(LPracticeSheets$Word;)Z"⟩
abbrev cX7_drop : ByteArray := prog_9_method_4_code
def yX7_drop : MethodName := ⟨RX7, "drop", "(I)V"⟩
abbrev cX7_howManyHave : ByteArray := prog_9_method_5_code
def yX7_howManyHave : MethodName := ⟨RX7, "howManyHave", "(I)I"⟩
abbrev cX7_copyFrom : ByteArray := prog_9_method_6_code
def yX7_copyFrom : MethodName := ⟨RX7, "copyFrom", "(LPracticeSheets$WordList;)V"⟩
def RX8 : String := "PracticeSheets"
def TX8 : u_T := fun k => match k with
  | 0 => ("PracticeSheets", "now", "LPracticeSheets$State;", true)
  | 1 => ("PracticeSheets", "snapshot", "LPracticeSheets$State;", true)
  | 2 => ("PracticeSheets", "trial", "LPracticeSheets$State;", true)
  | 3 => ("PracticeSheets", "history", "LPracticeSheets$History;", true)
  | 4 => ("PracticeSheets", "text", "LPracticeSheets$Text;", true)
  | 5 => ("PracticeSheets", "plan", "LPracticeSheets$Sheet;", true)
  | 6 => ("PracticeSheets", "ranking", "LPracticeSheets$Ranking;", true)
  | _ => ("PracticeSheets", "hasSnapshot", "Z", false)
def tyX8 : Nat → FieldType := fun k => match k with
  | 0 => .object "PracticeSheets$State"
  | 1 => .object "PracticeSheets$State"
  | 2 => .object "PracticeSheets$State"
  | 3 => .object "PracticeSheets$History"
  | 4 => .object "PracticeSheets$Text"
  | 5 => .object "PracticeSheets$Sheet"
  | 6 => .object "PracticeSheets$Ranking"
  | _ => .boolean
abbrev wsX80 : List Cond := u_ws RX8 TX8 8
theorem nmX8 : ∀ a, a < 8 → ∀ b, b < 8 → a ≠ b → (TX8 a).2.1 ≠ (TX8 b).2.1 := by decide +kernel
theorem tyX8_ok : ∀ k, k < 8 → parseFieldDescriptor (TX8 k).2.2.1 = some (tyX8 k) := by decide +kernel
abbrev cX8_init : ByteArray := prog_1_method_1_code
def yX8_init : MethodName := ⟨RX8, "<init>", "()V"⟩
abbrev cX8_write : ByteArray := prog_1_method_2_code
def yX8_write : MethodName := ⟨RX8, "write", "()I"⟩
abbrev cX8_pass : ByteArray := prog_1_method_3_code
def yX8_pass : MethodName := ⟨RX8, "pass", "(I)I"⟩
abbrev cX8_setUntried : ByteArray := prog_1_method_4_code
def yX8_setUntried : MethodName := ⟨RX8, "setUntried", "(I)I"⟩
abbrev cX8_addWords : ByteArray := prog_1_method_5_code
def yX8_addWords : MethodName := ⟨RX8, "addWords", "()I"⟩
abbrev cX8_removeWord : ByteArray := prog_1_method_6_code
def yX8_removeWord : MethodName := ⟨RX8, "removeWord", "(I)I"⟩
abbrev cX8_doSheet : ByteArray := prog_1_method_7_code
def yX8_doSheet : MethodName := ⟨RX8, "doSheet", "(I)I"⟩
abbrev cX8_type : ByteArray := prog_1_method_8_code
def yX8_type : MethodName := ⟨RX8, "type", "(C)I"⟩
abbrev cX8_clearText : ByteArray := prog_1_method_9_code
def yX8_clearText : MethodName := ⟨RX8, "clearText", "()I"⟩
abbrev cX8_undo : ByteArray := prog_1_method_10_code
def yX8_undo : MethodName := ⟨RX8, "undo", "()I"⟩
abbrev cX8_keep : ByteArray := prog_1_method_11_code
def yX8_keep : MethodName := ⟨RX8, "keep", "()I"⟩
abbrev cX8_restore : ByteArray := prog_1_method_12_code
def yX8_restore : MethodName := ⟨RX8, "restore", "()I"⟩
abbrev cX8_letter : ByteArray := prog_1_method_13_code
def yX8_letter : MethodName := ⟨RX8, "letter", "(CI)I"⟩
abbrev cX8_join : ByteArray := prog_1_method_14_code
def yX8_join : MethodName := ⟨RX8, "join", "(CCI)I"⟩
abbrev cX8_word : ByteArray := prog_1_method_15_code
def yX8_word : MethodName := ⟨RX8, "word", "(II)I"⟩
abbrev cX8_letterOf : ByteArray := prog_1_method_16_code
def yX8_letterOf : MethodName := ⟨RX8, "letterOf", "(II)I"⟩
abbrev cX8_sheet : ByteArray := prog_1_method_17_code
def yX8_sheet : MethodName := ⟨RX8, "sheet", "(III)I"⟩
abbrev cX8_covers : ByteArray := prog_1_method_18_code
def yX8_covers : MethodName := ⟨RX8, "covers", "(II)I"⟩
abbrev cX8_worst : ByteArray := prog_1_method_19_code
def yX8_worst : MethodName := ⟨RX8, "worst", "(ZI)I"⟩
abbrev cX8_missing : ByteArray := prog_1_method_20_code
def yX8_missing : MethodName := ⟨RX8, "missing", "(Z)I"⟩
abbrev cX8_sheetsTo : ByteArray := prog_1_method_21_code
def yX8_sheetsTo : MethodName := ⟨RX8, "sheetsTo", "(II)I"⟩
abbrev cX8_count : ByteArray := prog_1_method_22_code
def yX8_count : MethodName := ⟨RX8, "count", "(I)I"⟩
abbrev cX8_toldOfPart : ByteArray := prog_1_method_23_code
def yX8_toldOfPart : MethodName := ⟨RX8, "toldOfPart", "(II)I"⟩
abbrev cX8_areLines : ByteArray := prog_1_method_24_code
def yX8_areLines : MethodName := ⟨RX8, "areLines", "(I)Z"⟩
abbrev cX8_isLetter : ByteArray := prog_1_method_25_code
def yX8_isLetter : MethodName := ⟨RX8, "isLetter", "(C)Z"⟩
abbrev cX8_letterNumber : ByteArray := prog_1_method_26_code
def yX8_letterNumber : MethodName := ⟨RX8, "letterNumber", "(C)I"⟩
abbrev cX8_joinPart : ByteArray := prog_1_method_27_code
def yX8_joinPart : MethodName := ⟨RX8, "joinPart", "(II)I"⟩
abbrev cX8_isPart : ByteArray := prog_1_method_28_code
def yX8_isPart : MethodName := ⟨RX8, "isPart", "(I)Z"⟩
abbrev cX8_firstPart : ByteArray := prog_1_method_29_code
def yX8_firstPart : MethodName := ⟨RX8, "firstPart", "(Z)I"⟩
abbrev cX8_endOfParts : ByteArray := prog_1_method_30_code
def yX8_endOfParts : MethodName := ⟨RX8, "endOfParts", "(Z)I"⟩
def RX9 : String := "PracticeSheetsModel"
def TX9 : u_T := fun k => match k with
  | 0 => ("PracticeSheetsModel", "all", "[I", true)
  | 1 => ("PracticeSheetsModel", "kept", "[I", true)
  | 2 => ("PracticeSheetsModel", "tried", "[I", true)
  | 3 => ("PracticeSheetsModel", "history", "[I", true)
  | 4 => ("PracticeSheetsModel", "historyLong", "I", false)
  | 5 => ("PracticeSheetsModel", "snapshot", "[I", true)
  | 6 => ("PracticeSheetsModel", "isTaken", "I", false)
  | 7 => ("PracticeSheetsModel", "part", "[I", true)
  | 8 => ("PracticeSheetsModel", "parts", "I", false)
  | 9 => ("PracticeSheetsModel", "lineWord", "[I", true)
  | 10 => ("PracticeSheetsModel", "lineGain", "[I", true)
  | 11 => ("PracticeSheetsModel", "lines", "I", false)
  | 12 => ("PracticeSheetsModel", "isCovered", "[I", true)
  | 13 => ("PracticeSheetsModel", "text", "[I", true)
  | 14 => ("PracticeSheetsModel", "textLong", "I", false)
  | 15 => ("PracticeSheetsModel", "read", "[I", true)
  | 16 => ("PracticeSheetsModel", "isMarked", "[I", true)
  | 17 => ("PracticeSheetsModel", "isJoinMarked", "[I", true)
  | _ => ("PracticeSheetsModel", "readLong", "I", false)
def tyX9 : Nat → FieldType := fun k => match k with
  | 0 => .array .int
  | 1 => .array .int
  | 2 => .array .int
  | 3 => .array .int
  | 4 => .int
  | 5 => .array .int
  | 6 => .int
  | 7 => .array .int
  | 8 => .int
  | 9 => .array .int
  | 10 => .array .int
  | 11 => .int
  | 12 => .array .int
  | 13 => .array .int
  | 14 => .int
  | 15 => .array .int
  | 16 => .array .int
  | 17 => .array .int
  | _ => .int
abbrev wsX90 : List Cond := u_ws RX9 TX9 19
theorem nmX9 : ∀ a, a < 19 → ∀ b, b < 19 → a ≠ b → (TX9 a).2.1 ≠ (TX9 b).2.1 := by decide +kernel
theorem tyX9_ok : ∀ k, k < 19 → parseFieldDescriptor (TX9 k).2.2.1 = some (tyX9 k) := by decide +kernel
abbrev cX9_init : ByteArray := prog_11_method_1_code
def yX9_init : MethodName := ⟨RX9, "<init>", "()V"⟩
abbrev cX9_in : ByteArray := prog_11_method_3_code
def yX9_in : MethodName := ⟨RX9, "in", "(JJJ)Z"⟩
abbrev cX9_copy : ByteArray := prog_11_method_4_code
def yX9_copy : MethodName := ⟨RX9, "copy", "([I[I)V"⟩
abbrev cX9_remember : ByteArray := prog_11_method_5_code
def yX9_remember : MethodName := ⟨RX9, "remember", "()V"⟩
abbrev cX9_acted : ByteArray := prog_11_method_6_code
def yX9_acted : MethodName := ⟨RX9, "acted", "(I)I"⟩
abbrev cX9_needOf : ByteArray := prog_11_method_7_code
def yX9_needOf : MethodName := ⟨RX9, "needOf", "(I)I"⟩
abbrev cX9_isUntried : ByteArray := prog_11_method_8_code
def yX9_isUntried : MethodName := ⟨RX9, "isUntried", "(I)Z"⟩
abbrev cX9_tries : ByteArray := prog_11_method_9_code
def yX9_tries : MethodName := ⟨RX9, "tries", "(II)V"⟩
abbrev cX9_joinOf : ByteArray := prog_11_method_10_code
def yX9_joinOf : MethodName := ⟨RX9, "joinOf", "(II)I"⟩
abbrev cX9_isWord : ByteArray := prog_11_method_11_code
def yX9_isWord : MethodName := ⟨RX9, "isWord", "(I)Z"⟩
abbrev cX9_sizeOf : ByteArray := prog_11_method_12_code
def yX9_sizeOf : MethodName := ⟨RX9, "sizeOf", "(I)I"⟩
abbrev cX9_letterAt : ByteArray := prog_11_method_13_code
def yX9_letterAt : MethodName := ⟨RX9, "letterAt", "(II)I"⟩
abbrev cX9_addsPart : ByteArray := prog_11_method_14_code
def yX9_addsPart : MethodName := ⟨RX9, "addsPart", "(I)V"⟩
abbrev cX9_findsParts : ByteArray := prog_11_method_15_code
def yX9_findsParts : MethodName := ⟨RX9, "findsParts", "(I)V"⟩
abbrev cX9_hasPart : ByteArray := prog_11_method_16_code
def yX9_hasPart : MethodName := ⟨RX9, "hasPart", "(II)Z"⟩
abbrev cX9_wordsWith : ByteArray := prog_11_method_17_code
def yX9_wordsWith : MethodName := ⟨RX9, "wordsWith", "(I)I"⟩
abbrev cX9_gainOf : ByteArray := prog_11_method_18_code
def yX9_gainOf : MethodName := ⟨RX9, "gainOf", "(I)I"⟩
abbrev cX9_coversNone : ByteArray := prog_11_method_19_code
def yX9_coversNone : MethodName := ⟨RX9, "coversNone", "()V"⟩
abbrev cX9_isOnSheet : ByteArray := prog_11_method_20_code
def yX9_isOnSheet : MethodName := ⟨RX9, "isOnSheet", "(I)Z"⟩
abbrev cX9_nextWord : ByteArray := prog_11_method_21_code
def yX9_nextWord : MethodName := ⟨RX9, "nextWord", "()I"⟩
abbrev cX9_makesSheet : ByteArray := prog_11_method_22_code
def yX9_makesSheet : MethodName := ⟨RX9, "makesSheet", "(I)V"⟩
abbrev cX9_writesSheet : ByteArray := prog_11_method_23_code
def yX9_writesSheet : MethodName := ⟨RX9, "writesSheet", "()V"⟩
abbrev cX9_type : ByteArray := prog_11_method_24_code
def yX9_type : MethodName := ⟨RX9, "type", "(C)I"⟩
abbrev cX9_clearText : ByteArray := prog_11_method_25_code
def yX9_clearText : MethodName := ⟨RX9, "clearText", "()I"⟩
abbrev cX9_isLetter : ByteArray := prog_11_method_26_code
def yX9_isLetter : MethodName := ⟨RX9, "isLetter", "(I)Z"⟩
abbrev cX9_isThere : ByteArray := prog_11_method_27_code
def yX9_isThere : MethodName := ⟨RX9, "isThere", "(II)Z"⟩
abbrev cX9_faultOfWriting : ByteArray := prog_11_method_28_code
def yX9_faultOfWriting : MethodName := ⟨RX9, "faultOfWriting", "()I"⟩
abbrev cX9_faultOfWords : ByteArray := prog_11_method_29_code
def yX9_faultOfWords : MethodName := ⟨RX9, "faultOfWords", "()I"⟩
abbrev cX9_write : ByteArray := prog_11_method_30_code
def yX9_write : MethodName := ⟨RX9, "write", "()I"⟩
abbrev cX9_pass : ByteArray := prog_11_method_31_code
def yX9_pass : MethodName := ⟨RX9, "pass", "(I)I"⟩
abbrev cX9_setUntried : ByteArray := prog_11_method_32_code
def yX9_setUntried : MethodName := ⟨RX9, "setUntried", "(I)I"⟩
abbrev cX9_isOnList : ByteArray := prog_11_method_33_code
def yX9_isOnList : MethodName := ⟨RX9, "isOnList", "(II)Z"⟩
abbrev cX9_addsAll : ByteArray := prog_11_method_34_code
def yX9_addsAll : MethodName := ⟨RX9, "addsAll", "()Z"⟩
abbrev cX9_addWords : ByteArray := prog_11_method_35_code
def yX9_addWords : MethodName := ⟨RX9, "addWords", "()I"⟩
abbrev cX9_removeWord : ByteArray := prog_11_method_36_code
def yX9_removeWord : MethodName := ⟨RX9, "removeWord", "(I)I"⟩
abbrev cX9_isLines : ByteArray := prog_11_method_37_code
def yX9_isLines : MethodName := ⟨RX9, "isLines", "(I)Z"⟩
abbrev cX9_doSheet : ByteArray := prog_11_method_38_code
def yX9_doSheet : MethodName := ⟨RX9, "doSheet", "(I)I"⟩
abbrev cX9_undo : ByteArray := prog_11_method_39_code
def yX9_undo : MethodName := ⟨RX9, "undo", "()I"⟩
abbrev cX9_keep : ByteArray := prog_11_method_40_code
def yX9_keep : MethodName := ⟨RX9, "keep", "()I"⟩
abbrev cX9_restore : ByteArray := prog_11_method_41_code
def yX9_restore : MethodName := ⟨RX9, "restore", "()I"⟩
abbrev cX9_ofPart : ByteArray := prog_11_method_42_code
def yX9_ofPart : MethodName := ⟨RX9, "ofPart", "(II)I"⟩
abbrev cX9_letter : ByteArray := prog_11_method_43_code
def yX9_letter : MethodName := ⟨RX9, "letter", "(CI)I"⟩
abbrev cX9_join : ByteArray := prog_11_method_44_code
def yX9_join : MethodName := ⟨RX9, "join", "(CCI)I"⟩
abbrev cX9_needOfWord : ByteArray := prog_11_method_45_code
def yX9_needOfWord : MethodName := ⟨RX9, "needOfWord", "(I)I"⟩
abbrev cX9_partsOf : ByteArray := prog_11_method_46_code
def yX9_partsOf : MethodName := ⟨RX9, "partsOf", "(IZ)I"⟩
abbrev cX9_firstGain : ByteArray := prog_11_method_47_code
def yX9_firstGain : MethodName := ⟨RX9, "firstGain", "(I)I"⟩
abbrev cX9_word : ByteArray := prog_11_method_48_code
def yX9_word : MethodName := ⟨RX9, "word", "(II)I"⟩
abbrev cX9_letterOf : ByteArray := prog_11_method_49_code
def yX9_letterOf : MethodName := ⟨RX9, "letterOf", "(II)I"⟩
abbrev cX9_sheet : ByteArray := prog_11_method_50_code
def yX9_sheet : MethodName := ⟨RX9, "sheet", "(III)I"⟩
abbrev cX9_coveredIn : ByteArray := prog_11_method_51_code
def yX9_coveredIn : MethodName := ⟨RX9, "coveredIn", "(II)I"⟩
abbrev cX9_coveredNeeds : ByteArray := prog_11_method_52_code
def yX9_coveredNeeds : MethodName := ⟨RX9, "coveredNeeds", "()I"⟩
abbrev cX9_gains : ByteArray := prog_11_method_53_code
def yX9_gains : MethodName := ⟨RX9, "gains", "()I"⟩
abbrev cX9_covers : ByteArray := prog_11_method_54_code
def yX9_covers : MethodName := ⟨RX9, "covers", "(II)I"⟩
abbrev cX9_worst : ByteArray := prog_11_method_55_code
def yX9_worst : MethodName := ⟨RX9, "worst", "(ZI)I"⟩
abbrev cX9_missing : ByteArray := prog_11_method_56_code
def yX9_missing : MethodName := ⟨RX9, "missing", "(Z)I"⟩
abbrev cX9_greatestOfWords : ByteArray := prog_11_method_57_code
def yX9_greatestOfWords : MethodName := ⟨RX9, "greatestOfWords", "()I"⟩
abbrev cX9_sheetsTo : ByteArray := prog_11_method_58_code
def yX9_sheetsTo : MethodName := ⟨RX9, "sheetsTo", "(II)I"⟩
abbrev cX9_greatestNeed : ByteArray := prog_11_method_59_code
def yX9_greatestNeed : MethodName := ⟨RX9, "greatestNeed", "(II)I"⟩
abbrev cX9_untriedIn : ByteArray := prog_11_method_60_code
def yX9_untriedIn : MethodName := ⟨RX9, "untriedIn", "(II)I"⟩
abbrev cX9_count : ByteArray := prog_11_method_61_code
def yX9_count : MethodName := ⟨RX9, "count", "(I)I"⟩
def RJ9 : String := "java/lang/Math"
def TJ9 : u_T := fun k => match k with
  | _ => ("", "", "", false)
def tyJ9 : Nat → FieldType := fun k => match k with
  | _ => .int
abbrev wsJ90 : List Cond := u_ws RJ9 TJ9 0
theorem nmJ9 : ∀ a, a < 0 → ∀ b, b < 0 → a ≠ b → (TJ9 a).2.1 ≠ (TJ9 b).2.1 := by decide +kernel
theorem tyJ9_ok : ∀ k, k < 0 → parseFieldDescriptor (TJ9 k).2.2.1 = some (tyJ9 k) := by decide +kernel
abbrev cJ9_max_7cf53 : ByteArray := prog_12_method_65_code
def yJ9_max_7cf53 : MethodName := ⟨RJ9, "max", "(II)I"⟩
def RJ10 : String := "java/lang/System"
def TJ10 : u_T := fun k => match k with
  | _ => ("", "", "", false)
def tyJ10 : Nat → FieldType := fun k => match k with
  | _ => .int
abbrev wsJ100 : List Cond := u_ws RJ10 TJ10 0
theorem nmJ10 : ∀ a, a < 0 → ∀ b, b < 0 → a ≠ b → (TJ10 a).2.1 ≠ (TJ10 b).2.1 := by decide +kernel
theorem tyJ10_ok : ∀ k, k < 0 → parseFieldDescriptor (TJ10 k).2.2.1 = some (tyJ10 k) := by decide +kernel
def RL : String := "PracticeSheetsLaw"
abbrev cL_law : ByteArray := code
def yL_law : MethodName := ⟨RL, "law", "([I)Z"⟩
def wsX1_init : List Cond := .code yX1_init cX1_init 1 none :: ([.methodLink RX1 3 objectInit, .instanceMethod objectInit, .code objectInit ⟨#[0xb1]⟩ 1 none, .arrayClass .int, .fieldLink RX1 9 "PracticeSheets$Practice" "tries" "[I", .fieldLink RX1 15 "PracticeSheets$Practice" "slips" "[I"] ++ wsX10)
def wsX6_init : List Cond := .code yX6_init cX6_init 1 none :: ([.methodLink RX6 3 objectInit, .instanceMethod objectInit, .code objectInit ⟨#[0xb1]⟩ 1 none, .arrayClass .int, .fieldLink RX6 9 "PracticeSheets$Word" "letters" "[I", .fieldLink RX6 15 "PracticeSheets$Word" "parts" "[I", .fieldLink RX6 18 "PracticeSheets$Word" "length" "I", .fieldLink RX6 22 "PracticeSheets$Word" "partCount" "I"] ++ wsX60)
def wsX7_init : List Cond := .code yX7_init cX7_init 2 none :: ([.methodLink RX7 3 objectInit, .instanceMethod objectInit, .code objectInit ⟨#[0xb1]⟩ 1 none, .classLink RX7 9 RX6, .fieldLink RX7 11 "PracticeSheets$WordList" "words" "[LPracticeSheets$Word;", .instantiable RX6 4, .initialized RX6, .fieldLink RX7 18 "PracticeSheets$WordList" "size" "I", .methodLink RX7 17 yX6_init, .instanceMethod yX6_init, .code yX6_init cX6_init 1 none, .methodLink RX6 3 objectInit, .arrayClass .int, .fieldLink RX6 9 "PracticeSheets$Word" "letters" "[I", .fieldLink RX6 15 "PracticeSheets$Word" "parts" "[I", .fieldLink RX6 18 "PracticeSheets$Word" "length" "I", .fieldLink RX6 22 "PracticeSheets$Word" "partCount" "I"] ++ wsX70 ++ wsX60)
def wsX4_init_r1 : List Cond := [Cond.methodLink RX4 3 objectInit, Cond.instanceMethod objectInit, Cond.code objectInit ⟨#[0xb1]⟩ 1 none, Cond.classLink RX4 9 RX1, Cond.instantiable RX1 2, Cond.initialized RX1, Cond.fieldLink RX4 12 "PracticeSheets$State" "practice" "LPracticeSheets$Practice;", Cond.classLink RX4 18 RX7, Cond.instantiable RX7 2, Cond.initialized RX7, Cond.fieldLink RX4 21 "PracticeSheets$State" "words" "LPracticeSheets$WordList;", Cond.fieldLink RX4 25 "PracticeSheets$State" "weeks" "I", Cond.fieldLink RX4 29 "PracticeSheets$State" "untried" "I", Cond.fieldLink RX4 32 "PracticeSheets$State" "written" "I", Cond.fieldLink RX4 35 "PracticeSheets$State" "slips" "I", Cond.fieldLink RX4 38 "PracticeSheets$State" "sheets" "I", Cond.methodLink RX4 11 yX1_init, Cond.instanceMethod yX1_init, Cond.code yX1_init cX1_init 1 none, Cond.methodLink RX1 3 objectInit, Cond.arrayClass .int, Cond.fieldLink RX1 9 "PracticeSheets$Practice" "tries" "[I", Cond.fieldLink RX1 15 "PracticeSheets$Practice" "slips" "[I", Cond.methodLink RX4 20 yX7_init]
def wsX4_init_r2 : List Cond := [Cond.instanceMethod yX7_init, Cond.code yX7_init cX7_init 2 none, Cond.methodLink RX7 3 objectInit, Cond.classLink RX7 9 RX6, Cond.fieldLink RX7 11 "PracticeSheets$WordList" "words" "[LPracticeSheets$Word;", Cond.instantiable RX6 4, Cond.initialized RX6, Cond.fieldLink RX7 18 "PracticeSheets$WordList" "size" "I", Cond.methodLink RX7 17 yX6_init, Cond.instanceMethod yX6_init, Cond.code yX6_init cX6_init 1 none, Cond.methodLink RX6 3 objectInit, Cond.fieldLink RX6 9 "PracticeSheets$Word" "letters" "[I", Cond.fieldLink RX6 15 "PracticeSheets$Word" "parts" "[I", Cond.fieldLink RX6 18 "PracticeSheets$Word" "length" "I", Cond.fieldLink RX6 22 "PracticeSheets$Word" "partCount" "I"]
def wsX4_init : List Cond := .code yX4_init cX4_init 1 none :: ((wsX4_init_r1 ++ wsX4_init_r2) ++ wsX10 ++ wsX40 ++ wsX70 ++ wsX60)
def wsX0_init_r1 : List Cond := [Cond.methodLink RX0 3 objectInit, Cond.instanceMethod objectInit, Cond.code objectInit ⟨#[0xb1]⟩ 1 none, Cond.classLink RX0 9 RX4, Cond.fieldLink RX0 11 "PracticeSheets$History" "states" "[LPracticeSheets$State;", Cond.instantiable RX4 7, Cond.initialized RX4, Cond.fieldLink RX0 18 "PracticeSheets$History" "size" "I", Cond.methodLink RX0 17 yX4_init, Cond.instanceMethod yX4_init, Cond.code yX4_init cX4_init 1 none, Cond.methodLink RX4 3 objectInit, Cond.classLink RX4 9 RX1, Cond.instantiable RX1 2, Cond.initialized RX1, Cond.fieldLink RX4 12 "PracticeSheets$State" "practice" "LPracticeSheets$Practice;", Cond.classLink RX4 18 RX7, Cond.instantiable RX7 2, Cond.initialized RX7, Cond.fieldLink RX4 21 "PracticeSheets$State" "words" "LPracticeSheets$WordList;", Cond.fieldLink RX4 25 "PracticeSheets$State" "weeks" "I", Cond.fieldLink RX4 29 "PracticeSheets$State" "untried" "I", Cond.fieldLink RX4 32 "PracticeSheets$State" "written" "I", Cond.fieldLink RX4 35 "PracticeSheets$State" "slips" "I"]
def wsX0_init_r2 : List Cond := [Cond.fieldLink RX4 38 "PracticeSheets$State" "sheets" "I", Cond.methodLink RX4 11 yX1_init, Cond.instanceMethod yX1_init, Cond.code yX1_init cX1_init 1 none, Cond.methodLink RX1 3 objectInit, Cond.arrayClass .int, Cond.fieldLink RX1 9 "PracticeSheets$Practice" "tries" "[I", Cond.fieldLink RX1 15 "PracticeSheets$Practice" "slips" "[I", Cond.methodLink RX4 20 yX7_init, Cond.instanceMethod yX7_init, Cond.code yX7_init cX7_init 2 none, Cond.methodLink RX7 3 objectInit, Cond.classLink RX7 9 RX6, Cond.fieldLink RX7 11 "PracticeSheets$WordList" "words" "[LPracticeSheets$Word;", Cond.instantiable RX6 4, Cond.initialized RX6, Cond.fieldLink RX7 18 "PracticeSheets$WordList" "size" "I", Cond.methodLink RX7 17 yX6_init, Cond.instanceMethod yX6_init, Cond.code yX6_init cX6_init 1 none, Cond.methodLink RX6 3 objectInit, Cond.fieldLink RX6 9 "PracticeSheets$Word" "letters" "[I", Cond.fieldLink RX6 15 "PracticeSheets$Word" "parts" "[I", Cond.fieldLink RX6 18 "PracticeSheets$Word" "length" "I"]
def wsX0_init_r3 : List Cond := [Cond.fieldLink RX6 22 "PracticeSheets$Word" "partCount" "I"]
def wsX0_init : List Cond := .code yX0_init cX0_init 2 none :: ((wsX0_init_r1 ++ (wsX0_init_r2 ++ wsX0_init_r3)) ++ wsX00 ++ wsX40 ++ wsX10 ++ wsX70 ++ wsX60)
def wsX0_dropOldest : List Cond := .code yX0_dropOldest cX0_dropOldest 3 none :: ([.fieldLink RX0 11 "PracticeSheets$History" "states" "[LPracticeSheets$State;", .fieldLink RX0 18 "PracticeSheets$History" "size" "I"] ++ wsX00)
def wsX1_copyFrom : List Cond := .code yX1_copyFrom cX1_copyFrom 2 none :: ([.fieldLink RX1 9 "PracticeSheets$Practice" "tries" "[I", .methodLink RX1 63 arraycopyName, .native arraycopyName, .static arraycopyName, .initialized "java/lang/System", .fieldLink RX1 15 "PracticeSheets$Practice" "slips" "[I"] ++ wsX10)
def wsX6_copyFrom : List Cond := .code yX6_copyFrom cX6_copyFrom 2 none :: ([.fieldLink RX6 9 "PracticeSheets$Word" "letters" "[I", .methodLink RX6 37 arraycopyName, .native arraycopyName, .static arraycopyName, .initialized "java/lang/System", .fieldLink RX6 15 "PracticeSheets$Word" "parts" "[I", .fieldLink RX6 18 "PracticeSheets$Word" "length" "I", .fieldLink RX6 22 "PracticeSheets$Word" "partCount" "I"] ++ wsX60)
def wsX7_copyFrom : List Cond := .code yX7_copyFrom cX7_copyFrom 3 none :: ([.fieldLink RX7 18 "PracticeSheets$WordList" "size" "I", .fieldLink RX7 11 "PracticeSheets$WordList" "words" "[LPracticeSheets$Word;", .methodLink RX7 26 yX6_copyFrom, .instanceMethod yX6_copyFrom, .selects RX6 yX6_copyFrom yX6_copyFrom, .initialized RX6, .code yX6_copyFrom cX6_copyFrom 2 none, .fieldLink RX6 9 "PracticeSheets$Word" "letters" "[I", .methodLink RX6 37 arraycopyName, .native arraycopyName, .static arraycopyName, .initialized "java/lang/System", .fieldLink RX6 15 "PracticeSheets$Word" "parts" "[I", .fieldLink RX6 18 "PracticeSheets$Word" "length" "I", .fieldLink RX6 22 "PracticeSheets$Word" "partCount" "I"] ++ wsX70 ++ wsX60)
def wsX4_copyFrom_r1 : List Cond := [Cond.fieldLink RX4 12 "PracticeSheets$State" "practice" "LPracticeSheets$Practice;", Cond.fieldLink RX4 21 "PracticeSheets$State" "words" "LPracticeSheets$WordList;", Cond.fieldLink RX4 25 "PracticeSheets$State" "weeks" "I", Cond.fieldLink RX4 29 "PracticeSheets$State" "untried" "I", Cond.fieldLink RX4 32 "PracticeSheets$State" "written" "I", Cond.fieldLink RX4 35 "PracticeSheets$State" "slips" "I", Cond.fieldLink RX4 38 "PracticeSheets$State" "sheets" "I", Cond.methodLink RX4 71 yX1_copyFrom, Cond.instanceMethod yX1_copyFrom, Cond.selects RX1 yX1_copyFrom yX1_copyFrom, Cond.initialized RX1, Cond.code yX1_copyFrom cX1_copyFrom 2 none, Cond.fieldLink RX1 9 "PracticeSheets$Practice" "tries" "[I", Cond.methodLink RX1 63 arraycopyName, Cond.native arraycopyName, Cond.static arraycopyName, Cond.initialized "java/lang/System", Cond.fieldLink RX1 15 "PracticeSheets$Practice" "slips" "[I", Cond.methodLink RX4 75 yX7_copyFrom, Cond.instanceMethod yX7_copyFrom, Cond.selects RX7 yX7_copyFrom yX7_copyFrom, Cond.initialized RX7, Cond.code yX7_copyFrom cX7_copyFrom 3 none, Cond.fieldLink RX7 18 "PracticeSheets$WordList" "size" "I"]
def wsX4_copyFrom_r2 : List Cond := [Cond.fieldLink RX7 11 "PracticeSheets$WordList" "words" "[LPracticeSheets$Word;", Cond.methodLink RX7 26 yX6_copyFrom, Cond.instanceMethod yX6_copyFrom, Cond.selects RX6 yX6_copyFrom yX6_copyFrom, Cond.initialized RX6, Cond.code yX6_copyFrom cX6_copyFrom 2 none, Cond.fieldLink RX6 9 "PracticeSheets$Word" "letters" "[I", Cond.methodLink RX6 37 arraycopyName, Cond.fieldLink RX6 15 "PracticeSheets$Word" "parts" "[I", Cond.fieldLink RX6 18 "PracticeSheets$Word" "length" "I", Cond.fieldLink RX6 22 "PracticeSheets$Word" "partCount" "I"]
def wsX4_copyFrom : List Cond := .code yX4_copyFrom cX4_copyFrom 2 none :: ((wsX4_copyFrom_r1 ++ wsX4_copyFrom_r2) ++ wsX40 ++ wsX10 ++ wsX70 ++ wsX60)
def wsX0_remember_r1 : List Cond := [Cond.fieldLink RX0 18 "PracticeSheets$History" "size" "I", Cond.fieldLink RX0 11 "PracticeSheets$History" "states" "[LPracticeSheets$State;", Cond.methodLink RX0 22 yX0_dropOldest, Cond.instanceMethod yX0_dropOldest, Cond.selects RX0 yX0_dropOldest yX0_dropOldest, Cond.initialized RX0, Cond.code yX0_dropOldest cX0_dropOldest 3 none, Cond.methodLink RX0 25 yX4_copyFrom, Cond.instanceMethod yX4_copyFrom, Cond.selects RX4 yX4_copyFrom yX4_copyFrom, Cond.initialized RX4, Cond.code yX4_copyFrom cX4_copyFrom 2 none, Cond.fieldLink RX4 12 "PracticeSheets$State" "practice" "LPracticeSheets$Practice;", Cond.fieldLink RX4 21 "PracticeSheets$State" "words" "LPracticeSheets$WordList;", Cond.fieldLink RX4 25 "PracticeSheets$State" "weeks" "I", Cond.fieldLink RX4 29 "PracticeSheets$State" "untried" "I", Cond.fieldLink RX4 32 "PracticeSheets$State" "written" "I", Cond.fieldLink RX4 35 "PracticeSheets$State" "slips" "I", Cond.fieldLink RX4 38 "PracticeSheets$State" "sheets" "I", Cond.methodLink RX4 71 yX1_copyFrom, Cond.instanceMethod yX1_copyFrom, Cond.selects RX1 yX1_copyFrom yX1_copyFrom, Cond.initialized RX1, Cond.code yX1_copyFrom cX1_copyFrom 2 none]
def wsX0_remember_r2 : List Cond := [Cond.fieldLink RX1 9 "PracticeSheets$Practice" "tries" "[I", Cond.methodLink RX1 63 arraycopyName, Cond.native arraycopyName, Cond.static arraycopyName, Cond.initialized "java/lang/System", Cond.fieldLink RX1 15 "PracticeSheets$Practice" "slips" "[I", Cond.methodLink RX4 75 yX7_copyFrom, Cond.instanceMethod yX7_copyFrom, Cond.selects RX7 yX7_copyFrom yX7_copyFrom, Cond.initialized RX7, Cond.code yX7_copyFrom cX7_copyFrom 3 none, Cond.fieldLink RX7 18 "PracticeSheets$WordList" "size" "I", Cond.fieldLink RX7 11 "PracticeSheets$WordList" "words" "[LPracticeSheets$Word;", Cond.methodLink RX7 26 yX6_copyFrom, Cond.instanceMethod yX6_copyFrom, Cond.selects RX6 yX6_copyFrom yX6_copyFrom, Cond.initialized RX6, Cond.code yX6_copyFrom cX6_copyFrom 2 none, Cond.fieldLink RX6 9 "PracticeSheets$Word" "letters" "[I", Cond.methodLink RX6 37 arraycopyName, Cond.fieldLink RX6 15 "PracticeSheets$Word" "parts" "[I", Cond.fieldLink RX6 18 "PracticeSheets$Word" "length" "I", Cond.fieldLink RX6 22 "PracticeSheets$Word" "partCount" "I"]
def wsX0_remember : List Cond := .code yX0_remember cX0_remember 2 none :: ((wsX0_remember_r1 ++ wsX0_remember_r2) ++ wsX00 ++ wsX40 ++ wsX10 ++ wsX70 ++ wsX60)
def wsX0_takeBack_r1 : List Cond := [Cond.fieldLink RX0 18 "PracticeSheets$History" "size" "I", Cond.fieldLink RX0 11 "PracticeSheets$History" "states" "[LPracticeSheets$State;", Cond.methodLink RX0 25 yX4_copyFrom, Cond.instanceMethod yX4_copyFrom, Cond.selects RX4 yX4_copyFrom yX4_copyFrom, Cond.initialized RX4, Cond.code yX4_copyFrom cX4_copyFrom 2 none, Cond.fieldLink RX4 12 "PracticeSheets$State" "practice" "LPracticeSheets$Practice;", Cond.fieldLink RX4 21 "PracticeSheets$State" "words" "LPracticeSheets$WordList;", Cond.fieldLink RX4 25 "PracticeSheets$State" "weeks" "I", Cond.fieldLink RX4 29 "PracticeSheets$State" "untried" "I", Cond.fieldLink RX4 32 "PracticeSheets$State" "written" "I", Cond.fieldLink RX4 35 "PracticeSheets$State" "slips" "I", Cond.fieldLink RX4 38 "PracticeSheets$State" "sheets" "I", Cond.methodLink RX4 71 yX1_copyFrom, Cond.instanceMethod yX1_copyFrom, Cond.selects RX1 yX1_copyFrom yX1_copyFrom, Cond.initialized RX1, Cond.code yX1_copyFrom cX1_copyFrom 2 none, Cond.fieldLink RX1 9 "PracticeSheets$Practice" "tries" "[I", Cond.methodLink RX1 63 arraycopyName, Cond.native arraycopyName, Cond.static arraycopyName, Cond.initialized "java/lang/System"]
def wsX0_takeBack_r2 : List Cond := [Cond.fieldLink RX1 15 "PracticeSheets$Practice" "slips" "[I", Cond.methodLink RX4 75 yX7_copyFrom, Cond.instanceMethod yX7_copyFrom, Cond.selects RX7 yX7_copyFrom yX7_copyFrom, Cond.initialized RX7, Cond.code yX7_copyFrom cX7_copyFrom 3 none, Cond.fieldLink RX7 18 "PracticeSheets$WordList" "size" "I", Cond.fieldLink RX7 11 "PracticeSheets$WordList" "words" "[LPracticeSheets$Word;", Cond.methodLink RX7 26 yX6_copyFrom, Cond.instanceMethod yX6_copyFrom, Cond.selects RX6 yX6_copyFrom yX6_copyFrom, Cond.initialized RX6, Cond.code yX6_copyFrom cX6_copyFrom 2 none, Cond.fieldLink RX6 9 "PracticeSheets$Word" "letters" "[I", Cond.methodLink RX6 37 arraycopyName, Cond.fieldLink RX6 15 "PracticeSheets$Word" "parts" "[I", Cond.fieldLink RX6 18 "PracticeSheets$Word" "length" "I", Cond.fieldLink RX6 22 "PracticeSheets$Word" "partCount" "I"]
def wsX0_takeBack : List Cond := .code yX0_takeBack cX0_takeBack 2 (some .boolean) :: ((wsX0_takeBack_r1 ++ wsX0_takeBack_r2) ++ wsX00 ++ wsX40 ++ wsX10 ++ wsX70 ++ wsX60)
def wsX8_isPart : List Cond := .code yX8_isPart cX8_isPart 1 (some .boolean) :: ([])
def wsX1_triesOf : List Cond := .code yX1_triesOf cX1_triesOf 2 (some .int) :: ([.fieldLink RX1 9 "PracticeSheets$Practice" "tries" "[I", .static yX8_isPart, .initialized RX8, .code yX8_isPart cX8_isPart 1 (some .boolean)] ++ wsX10)
def wsX1_slipsOf : List Cond := .code yX1_slipsOf cX1_slipsOf 2 (some .int) :: ([.fieldLink RX1 15 "PracticeSheets$Practice" "slips" "[I", .static yX8_isPart, .initialized RX8, .code yX8_isPart cX8_isPart 1 (some .boolean)] ++ wsX10)
def wsX1_needOf : List Cond := .code yX1_needOf cX1_needOf 2 (some .int) :: ([.methodLink RX1 29 Lib.Math.max.name, .static Lib.Math.max.name, .initialized "java/lang/Math", .code Lib.Math.max.name Lib.Math.max.code 2 (some .int), .methodLink RX1 22 yX1_slipsOf, .instanceMethod yX1_slipsOf, .selects RX1 yX1_slipsOf yX1_slipsOf, .initialized RX1, .code yX1_slipsOf cX1_slipsOf 2 (some .int), .fieldLink RX1 15 "PracticeSheets$Practice" "slips" "[I", .static yX8_isPart, .initialized RX8, .code yX8_isPart cX8_isPart 1 (some .boolean), .methodLink RX1 26 yX1_triesOf, .instanceMethod yX1_triesOf, .selects RX1 yX1_triesOf yX1_triesOf, .code yX1_triesOf cX1_triesOf 2 (some .int), .fieldLink RX1 9 "PracticeSheets$Practice" "tries" "[I"] ++ wsX10)
def wsX1_isUntried : List Cond := .code yX1_isUntried cX1_isUntried 2 (some .boolean) :: ([.methodLink RX1 26 yX1_triesOf, .instanceMethod yX1_triesOf, .selects RX1 yX1_triesOf yX1_triesOf, .initialized RX1, .code yX1_triesOf cX1_triesOf 2 (some .int), .fieldLink RX1 9 "PracticeSheets$Practice" "tries" "[I", .static yX8_isPart, .initialized RX8, .code yX8_isPart cX8_isPart 1 (some .boolean)] ++ wsX10)
def wsX1_addTry : List Cond := .code yX1_addTry cX1_addTry 2 none :: ([.fieldLink RX1 9 "PracticeSheets$Practice" "tries" "[I", .static yX8_isPart, .initialized RX8, .code yX8_isPart cX8_isPart 1 (some .boolean)] ++ wsX10)
def wsX1_addSlip : List Cond := .code yX1_addSlip cX1_addSlip 2 none :: ([.fieldLink RX1 15 "PracticeSheets$Practice" "slips" "[I", .static yX8_isPart, .initialized RX8, .code yX8_isPart cX8_isPart 1 (some .boolean)] ++ wsX10)
def wsX8_joinPart : List Cond := .code yX8_joinPart cX8_joinPart 2 (some .int) :: ([])
def wsX1_addTriesOf : List Cond := .code yX1_addTriesOf cX1_addTriesOf 3 none :: ([.methodLink RX1 44 yX1_addTry, .instanceMethod yX1_addTry, .selects RX1 yX1_addTry yX1_addTry, .initialized RX1, .code yX1_addTry cX1_addTry 2 none, .fieldLink RX1 9 "PracticeSheets$Practice" "tries" "[I", .static yX8_isPart, .initialized RX8, .code yX8_isPart cX8_isPart 1 (some .boolean), .static yX8_joinPart, .code yX8_joinPart cX8_joinPart 2 (some .int)] ++ wsX60 ++ wsX10)
def wsX1_fade : List Cond := .code yX1_fade cX1_fade 5 (some .int) :: ([.fieldLink RX1 9 "PracticeSheets$Practice" "tries" "[I", .fieldLink RX1 15 "PracticeSheets$Practice" "slips" "[I"] ++ wsX10)
def wsX1_needOfAll : List Cond := .code yX1_needOfAll cX1_needOfAll 4 (some .int) :: ([.methodLink RX1 57 yX1_needOf, .instanceMethod yX1_needOf, .selects RX1 yX1_needOf yX1_needOf, .initialized RX1, .code yX1_needOf cX1_needOf 2 (some .int), .methodLink RX1 29 Lib.Math.max.name, .static Lib.Math.max.name, .initialized "java/lang/Math", .code Lib.Math.max.name Lib.Math.max.code 2 (some .int), .methodLink RX1 22 yX1_slipsOf, .instanceMethod yX1_slipsOf, .selects RX1 yX1_slipsOf yX1_slipsOf, .code yX1_slipsOf cX1_slipsOf 2 (some .int), .fieldLink RX1 15 "PracticeSheets$Practice" "slips" "[I", .static yX8_isPart, .initialized RX8, .code yX8_isPart cX8_isPart 1 (some .boolean), .methodLink RX1 26 yX1_triesOf, .instanceMethod yX1_triesOf, .selects RX1 yX1_triesOf yX1_triesOf, .code yX1_triesOf cX1_triesOf 2 (some .int), .fieldLink RX1 9 "PracticeSheets$Practice" "tries" "[I"] ++ wsX60 ++ wsX10)
def wsX1_untriedOf : List Cond := .code yX1_untriedOf cX1_untriedOf 4 (some .int) :: ([.methodLink RX1 60 yX1_isUntried, .instanceMethod yX1_isUntried, .selects RX1 yX1_isUntried yX1_isUntried, .initialized RX1, .code yX1_isUntried cX1_isUntried 2 (some .boolean), .methodLink RX1 26 yX1_triesOf, .instanceMethod yX1_triesOf, .selects RX1 yX1_triesOf yX1_triesOf, .code yX1_triesOf cX1_triesOf 2 (some .int), .fieldLink RX1 9 "PracticeSheets$Practice" "tries" "[I", .static yX8_isPart, .initialized RX8, .code yX8_isPart cX8_isPart 1 (some .boolean)] ++ wsX60 ++ wsX10)
def wsX1_greatestNeedOf : List Cond := .code yX1_greatestNeedOf cX1_greatestNeedOf 4 (some .int) :: ([.methodLink RX1 29 Lib.Math.max.name, .static Lib.Math.max.name, .initialized "java/lang/Math", .code Lib.Math.max.name Lib.Math.max.code 2 (some .int), .methodLink RX1 57 yX1_needOf, .instanceMethod yX1_needOf, .selects RX1 yX1_needOf yX1_needOf, .initialized RX1, .code yX1_needOf cX1_needOf 2 (some .int), .methodLink RX1 22 yX1_slipsOf, .instanceMethod yX1_slipsOf, .selects RX1 yX1_slipsOf yX1_slipsOf, .code yX1_slipsOf cX1_slipsOf 2 (some .int), .fieldLink RX1 15 "PracticeSheets$Practice" "slips" "[I", .static yX8_isPart, .initialized RX8, .code yX8_isPart cX8_isPart 1 (some .boolean), .methodLink RX1 26 yX1_triesOf, .instanceMethod yX1_triesOf, .selects RX1 yX1_triesOf yX1_triesOf, .code yX1_triesOf cX1_triesOf 2 (some .int), .fieldLink RX1 9 "PracticeSheets$Practice" "tries" "[I"] ++ wsX60 ++ wsX10)
def wsX1_greatestNeedFrom : List Cond := .code yX1_greatestNeedFrom cX1_greatestNeedFrom 5 (some .int) :: ([.methodLink RX1 29 Lib.Math.max.name, .static Lib.Math.max.name, .initialized "java/lang/Math", .code Lib.Math.max.name Lib.Math.max.code 2 (some .int), .methodLink RX1 57 yX1_needOf, .instanceMethod yX1_needOf, .selects RX1 yX1_needOf yX1_needOf, .initialized RX1, .code yX1_needOf cX1_needOf 2 (some .int), .methodLink RX1 22 yX1_slipsOf, .instanceMethod yX1_slipsOf, .selects RX1 yX1_slipsOf yX1_slipsOf, .code yX1_slipsOf cX1_slipsOf 2 (some .int), .fieldLink RX1 15 "PracticeSheets$Practice" "slips" "[I", .static yX8_isPart, .initialized RX8, .code yX8_isPart cX8_isPart 1 (some .boolean), .methodLink RX1 26 yX1_triesOf, .instanceMethod yX1_triesOf, .selects RX1 yX1_triesOf yX1_triesOf, .code yX1_triesOf cX1_triesOf 2 (some .int), .fieldLink RX1 9 "PracticeSheets$Practice" "tries" "[I"] ++ wsX10)
def wsX1_triedFrom : List Cond := .code yX1_triedFrom cX1_triedFrom 5 (some .int) :: ([.methodLink RX1 60 yX1_isUntried, .instanceMethod yX1_isUntried, .selects RX1 yX1_isUntried yX1_isUntried, .initialized RX1, .code yX1_isUntried cX1_isUntried 2 (some .boolean), .methodLink RX1 26 yX1_triesOf, .instanceMethod yX1_triesOf, .selects RX1 yX1_triesOf yX1_triesOf, .code yX1_triesOf cX1_triesOf 2 (some .int), .fieldLink RX1 9 "PracticeSheets$Practice" "tries" "[I", .static yX8_isPart, .initialized RX8, .code yX8_isPart cX8_isPart 1 (some .boolean)] ++ wsX10)
def wsX2_init : List Cond := .code yX2_init cX2_init 1 none :: ([.methodLink RX2 3 objectInit, .instanceMethod objectInit, .code objectInit ⟨#[0xb1]⟩ 1 none, .arrayClass .int, .fieldLink RX2 9 "PracticeSheets$Ranking" "howMany" "[I"] ++ wsX20)
def wsX2_countNeeds : List Cond := .code yX2_countNeeds cX2_countNeeds 6 none :: ([.fieldLink RX2 9 "PracticeSheets$Ranking" "howMany" "[I", .methodLink RX2 23 yX1_needOf, .instanceMethod yX1_needOf, .selects RX1 yX1_needOf yX1_needOf, .initialized RX1, .code yX1_needOf cX1_needOf 2 (some .int), .methodLink RX1 29 Lib.Math.max.name, .static Lib.Math.max.name, .initialized "java/lang/Math", .code Lib.Math.max.name Lib.Math.max.code 2 (some .int), .methodLink RX1 22 yX1_slipsOf, .instanceMethod yX1_slipsOf, .selects RX1 yX1_slipsOf yX1_slipsOf, .code yX1_slipsOf cX1_slipsOf 2 (some .int), .fieldLink RX1 15 "PracticeSheets$Practice" "slips" "[I", .static yX8_isPart, .initialized RX8, .code yX8_isPart cX8_isPart 1 (some .boolean), .methodLink RX1 26 yX1_triesOf, .instanceMethod yX1_triesOf, .selects RX1 yX1_triesOf yX1_triesOf, .code yX1_triesOf cX1_triesOf 2 (some .int), .fieldLink RX1 9 "PracticeSheets$Practice" "tries" "[I"] ++ wsX20 ++ wsX10)
def wsX2_partWithNeed : List Cond := .code yX2_partWithNeed cX2_partWithNeed 7 (some .int) :: ([.methodLink RX2 23 yX1_needOf, .instanceMethod yX1_needOf, .selects RX1 yX1_needOf yX1_needOf, .initialized RX1, .code yX1_needOf cX1_needOf 2 (some .int), .methodLink RX1 29 Lib.Math.max.name, .static Lib.Math.max.name, .initialized "java/lang/Math", .code Lib.Math.max.name Lib.Math.max.code 2 (some .int), .methodLink RX1 22 yX1_slipsOf, .instanceMethod yX1_slipsOf, .selects RX1 yX1_slipsOf yX1_slipsOf, .code yX1_slipsOf cX1_slipsOf 2 (some .int), .fieldLink RX1 15 "PracticeSheets$Practice" "slips" "[I", .static yX8_isPart, .initialized RX8, .code yX8_isPart cX8_isPart 1 (some .boolean), .methodLink RX1 26 yX1_triesOf, .instanceMethod yX1_triesOf, .selects RX1 yX1_triesOf yX1_triesOf, .code yX1_triesOf cX1_triesOf 2 (some .int), .fieldLink RX1 9 "PracticeSheets$Practice" "tries" "[I"] ++ wsX10)
def wsX2_partAt_r1 : List Cond := [Cond.fieldLink RX2 9 "PracticeSheets$Ranking" "howMany" "[I", Cond.methodLink RX2 15 yX2_countNeeds, Cond.instanceMethod yX2_countNeeds, Cond.selects RX2 yX2_countNeeds yX2_countNeeds, Cond.initialized RX2, Cond.code yX2_countNeeds cX2_countNeeds 6 none, Cond.methodLink RX2 23 yX1_needOf, Cond.instanceMethod yX1_needOf, Cond.selects RX1 yX1_needOf yX1_needOf, Cond.initialized RX1, Cond.code yX1_needOf cX1_needOf 2 (some .int), Cond.methodLink RX1 29 Lib.Math.max.name, Cond.static Lib.Math.max.name, Cond.initialized "java/lang/Math", Cond.code Lib.Math.max.name Lib.Math.max.code 2 (some .int), Cond.methodLink RX1 22 yX1_slipsOf, Cond.instanceMethod yX1_slipsOf, Cond.selects RX1 yX1_slipsOf yX1_slipsOf, Cond.code yX1_slipsOf cX1_slipsOf 2 (some .int), Cond.fieldLink RX1 15 "PracticeSheets$Practice" "slips" "[I", Cond.static yX8_isPart, Cond.initialized RX8, Cond.code yX8_isPart cX8_isPart 1 (some .boolean), Cond.methodLink RX1 26 yX1_triesOf]
def wsX2_partAt_r2 : List Cond := [Cond.instanceMethod yX1_triesOf, Cond.selects RX1 yX1_triesOf yX1_triesOf, Cond.code yX1_triesOf cX1_triesOf 2 (some .int), Cond.fieldLink RX1 9 "PracticeSheets$Practice" "tries" "[I", Cond.methodLink RX2 19 yX2_partWithNeed, Cond.static yX2_partWithNeed, Cond.code yX2_partWithNeed cX2_partWithNeed 7 (some .int)]
def wsX2_partAt : List Cond := .code yX2_partAt cX2_partAt 7 (some .int) :: ((wsX2_partAt_r1 ++ wsX2_partAt_r2) ++ wsX20 ++ wsX10)
def wsX3_init : List Cond := .code yX3_init cX3_init 1 none :: ([.methodLink RX3 3 objectInit, .instanceMethod objectInit, .code objectInit ⟨#[0xb1]⟩ 1 none, .arrayClass .int, .fieldLink RX3 9 "PracticeSheets$Sheet" "words" "[I", .fieldLink RX3 15 "PracticeSheets$Sheet" "gains" "[I", .arrayClass .boolean, .fieldLink RX3 18 "PracticeSheets$Sheet" "isCovered" "[Z", .fieldLink RX3 22 "PracticeSheets$Sheet" "isTaken" "[Z", .fieldLink RX3 25 "PracticeSheets$Sheet" "size" "I"] ++ wsX30)
def wsX3_clear : List Cond := .code yX3_clear cX3_clear 2 none :: ([.fieldLink RX3 18 "PracticeSheets$Sheet" "isCovered" "[Z", .fieldLink RX3 22 "PracticeSheets$Sheet" "isTaken" "[Z", .fieldLink RX3 25 "PracticeSheets$Sheet" "size" "I"] ++ wsX30)
def wsX3_gainOf_r1 : List Cond := [Cond.fieldLink RX3 18 "PracticeSheets$Sheet" "isCovered" "[Z", Cond.methodLink RX3 74 yX1_isUntried, Cond.instanceMethod yX1_isUntried, Cond.selects RX1 yX1_isUntried yX1_isUntried, Cond.initialized RX1, Cond.code yX1_isUntried cX1_isUntried 2 (some .boolean), Cond.methodLink RX1 26 yX1_triesOf, Cond.instanceMethod yX1_triesOf, Cond.selects RX1 yX1_triesOf yX1_triesOf, Cond.code yX1_triesOf cX1_triesOf 2 (some .int), Cond.fieldLink RX1 9 "PracticeSheets$Practice" "tries" "[I", Cond.static yX8_isPart, Cond.initialized RX8, Cond.code yX8_isPart cX8_isPart 1 (some .boolean), Cond.methodLink RX3 82 yX1_needOf, Cond.instanceMethod yX1_needOf, Cond.selects RX1 yX1_needOf yX1_needOf, Cond.code yX1_needOf cX1_needOf 2 (some .int), Cond.methodLink RX1 29 Lib.Math.max.name, Cond.static Lib.Math.max.name, Cond.initialized "java/lang/Math", Cond.code Lib.Math.max.name Lib.Math.max.code 2 (some .int), Cond.methodLink RX1 22 yX1_slipsOf, Cond.instanceMethod yX1_slipsOf]
def wsX3_gainOf_r2 : List Cond := [Cond.selects RX1 yX1_slipsOf yX1_slipsOf, Cond.code yX1_slipsOf cX1_slipsOf 2 (some .int), Cond.fieldLink RX1 15 "PracticeSheets$Practice" "slips" "[I"]
def wsX3_gainOf : List Cond := .code yX3_gainOf cX3_gainOf 6 (some .int) :: ((wsX3_gainOf_r1 ++ wsX3_gainOf_r2) ++ wsX60 ++ wsX40 ++ wsX30 ++ wsX10)
def wsX3_addLine : List Cond := .code yX3_addLine cX3_addLine 5 none :: ([.fieldLink RX3 9 "PracticeSheets$Sheet" "words" "[I", .fieldLink RX3 25 "PracticeSheets$Sheet" "size" "I", .fieldLink RX3 15 "PracticeSheets$Sheet" "gains" "[I", .fieldLink RX3 22 "PracticeSheets$Sheet" "isTaken" "[Z", .fieldLink RX3 18 "PracticeSheets$Sheet" "isCovered" "[Z", .static yX8_isPart, .initialized RX8, .code yX8_isPart cX8_isPart 1 (some .boolean)] ++ wsX30 ++ wsX60)
def wsX3_chooseLine_r1 : List Cond := [Cond.fieldLink RX3 22 "PracticeSheets$Sheet" "isTaken" "[Z", Cond.fieldLink RX3 25 "PracticeSheets$Sheet" "size" "I", Cond.methodLink RX3 47 yX3_gainOf, Cond.instanceMethod yX3_gainOf, Cond.selects RX3 yX3_gainOf yX3_gainOf, Cond.initialized RX3, Cond.code yX3_gainOf cX3_gainOf 6 (some .int), Cond.fieldLink RX3 18 "PracticeSheets$Sheet" "isCovered" "[Z", Cond.methodLink RX3 74 yX1_isUntried, Cond.instanceMethod yX1_isUntried, Cond.selects RX1 yX1_isUntried yX1_isUntried, Cond.initialized RX1, Cond.code yX1_isUntried cX1_isUntried 2 (some .boolean), Cond.methodLink RX1 26 yX1_triesOf, Cond.instanceMethod yX1_triesOf, Cond.selects RX1 yX1_triesOf yX1_triesOf, Cond.code yX1_triesOf cX1_triesOf 2 (some .int), Cond.fieldLink RX1 9 "PracticeSheets$Practice" "tries" "[I", Cond.static yX8_isPart, Cond.initialized RX8, Cond.code yX8_isPart cX8_isPart 1 (some .boolean), Cond.methodLink RX3 82 yX1_needOf, Cond.instanceMethod yX1_needOf, Cond.selects RX1 yX1_needOf yX1_needOf]
def wsX3_chooseLine_r2 : List Cond := [Cond.code yX1_needOf cX1_needOf 2 (some .int), Cond.methodLink RX1 29 Lib.Math.max.name, Cond.static Lib.Math.max.name, Cond.initialized "java/lang/Math", Cond.code Lib.Math.max.name Lib.Math.max.code 2 (some .int), Cond.methodLink RX1 22 yX1_slipsOf, Cond.instanceMethod yX1_slipsOf, Cond.selects RX1 yX1_slipsOf yX1_slipsOf, Cond.code yX1_slipsOf cX1_slipsOf 2 (some .int), Cond.fieldLink RX1 15 "PracticeSheets$Practice" "slips" "[I", Cond.methodLink RX3 56 yX3_addLine, Cond.instanceMethod yX3_addLine, Cond.selects RX3 yX3_addLine yX3_addLine, Cond.code yX3_addLine cX3_addLine 5 none, Cond.fieldLink RX3 9 "PracticeSheets$Sheet" "words" "[I", Cond.fieldLink RX3 15 "PracticeSheets$Sheet" "gains" "[I"]
def wsX3_chooseLine : List Cond := .code yX3_chooseLine cX3_chooseLine 8 (some .boolean) :: ((wsX3_chooseLine_r1 ++ wsX3_chooseLine_r2) ++ wsX40 ++ wsX70 ++ wsX30 ++ wsX60 ++ wsX10)
def wsX3_choose_r1 : List Cond := [Cond.methodLink RX3 29 yX3_clear, Cond.instanceMethod yX3_clear, Cond.selects RX3 yX3_clear yX3_clear, Cond.initialized RX3, Cond.code yX3_clear cX3_clear 2 none, Cond.fieldLink RX3 18 "PracticeSheets$Sheet" "isCovered" "[Z", Cond.fieldLink RX3 22 "PracticeSheets$Sheet" "isTaken" "[Z", Cond.fieldLink RX3 25 "PracticeSheets$Sheet" "size" "I", Cond.methodLink RX3 32 yX3_chooseLine, Cond.instanceMethod yX3_chooseLine, Cond.selects RX3 yX3_chooseLine yX3_chooseLine, Cond.code yX3_chooseLine cX3_chooseLine 8 (some .boolean), Cond.methodLink RX3 47 yX3_gainOf, Cond.instanceMethod yX3_gainOf, Cond.selects RX3 yX3_gainOf yX3_gainOf, Cond.code yX3_gainOf cX3_gainOf 6 (some .int), Cond.methodLink RX3 74 yX1_isUntried, Cond.instanceMethod yX1_isUntried, Cond.selects RX1 yX1_isUntried yX1_isUntried, Cond.initialized RX1, Cond.code yX1_isUntried cX1_isUntried 2 (some .boolean), Cond.methodLink RX1 26 yX1_triesOf, Cond.instanceMethod yX1_triesOf, Cond.selects RX1 yX1_triesOf yX1_triesOf]
def wsX3_choose_r2 : List Cond := [Cond.code yX1_triesOf cX1_triesOf 2 (some .int), Cond.fieldLink RX1 9 "PracticeSheets$Practice" "tries" "[I", Cond.static yX8_isPart, Cond.initialized RX8, Cond.code yX8_isPart cX8_isPart 1 (some .boolean), Cond.methodLink RX3 82 yX1_needOf, Cond.instanceMethod yX1_needOf, Cond.selects RX1 yX1_needOf yX1_needOf, Cond.code yX1_needOf cX1_needOf 2 (some .int), Cond.methodLink RX1 29 Lib.Math.max.name, Cond.static Lib.Math.max.name, Cond.initialized "java/lang/Math", Cond.code Lib.Math.max.name Lib.Math.max.code 2 (some .int), Cond.methodLink RX1 22 yX1_slipsOf, Cond.instanceMethod yX1_slipsOf, Cond.selects RX1 yX1_slipsOf yX1_slipsOf, Cond.code yX1_slipsOf cX1_slipsOf 2 (some .int), Cond.fieldLink RX1 15 "PracticeSheets$Practice" "slips" "[I", Cond.methodLink RX3 56 yX3_addLine, Cond.instanceMethod yX3_addLine, Cond.selects RX3 yX3_addLine yX3_addLine, Cond.code yX3_addLine cX3_addLine 5 none, Cond.fieldLink RX3 9 "PracticeSheets$Sheet" "words" "[I", Cond.fieldLink RX3 15 "PracticeSheets$Sheet" "gains" "[I"]
def wsX3_choose : List Cond := .code yX3_choose cX3_choose 5 none :: ((wsX3_choose_r1 ++ wsX3_choose_r2) ++ wsX30 ++ wsX40 ++ wsX70 ++ wsX60 ++ wsX10)
def wsX3_coveredFrom : List Cond := .code yX3_coveredFrom cX3_coveredFrom 5 (some .int) :: ([.fieldLink RX3 18 "PracticeSheets$Sheet" "isCovered" "[Z"] ++ wsX30)
def wsX3_needCovered : List Cond := .code yX3_needCovered cX3_needCovered 4 (some .int) :: ([.fieldLink RX3 18 "PracticeSheets$Sheet" "isCovered" "[Z", .methodLink RX3 82 yX1_needOf, .instanceMethod yX1_needOf, .selects RX1 yX1_needOf yX1_needOf, .initialized RX1, .code yX1_needOf cX1_needOf 2 (some .int), .methodLink RX1 29 Lib.Math.max.name, .static Lib.Math.max.name, .initialized "java/lang/Math", .code Lib.Math.max.name Lib.Math.max.code 2 (some .int), .methodLink RX1 22 yX1_slipsOf, .instanceMethod yX1_slipsOf, .selects RX1 yX1_slipsOf yX1_slipsOf, .code yX1_slipsOf cX1_slipsOf 2 (some .int), .fieldLink RX1 15 "PracticeSheets$Practice" "slips" "[I", .static yX8_isPart, .initialized RX8, .code yX8_isPart cX8_isPart 1 (some .boolean), .methodLink RX1 26 yX1_triesOf, .instanceMethod yX1_triesOf, .selects RX1 yX1_triesOf yX1_triesOf, .code yX1_triesOf cX1_triesOf 2 (some .int), .fieldLink RX1 9 "PracticeSheets$Practice" "tries" "[I"] ++ wsX30 ++ wsX10)
def wsX3_sumOfGains : List Cond := .code yX3_sumOfGains cX3_sumOfGains 3 (some .int) :: ([.fieldLink RX3 25 "PracticeSheets$Sheet" "size" "I", .fieldLink RX3 15 "PracticeSheets$Sheet" "gains" "[I"] ++ wsX30)
def wsX7_at : List Cond := .code yX7_at cX7_at 2 (some (.object "PracticeSheets$Word")) :: ([.fieldLink RX7 18 "PracticeSheets$WordList" "size" "I", .fieldLink RX7 11 "PracticeSheets$WordList" "words" "[LPracticeSheets$Word;"] ++ wsX70)
def wsX4_practise_r1 : List Cond := [Cond.fieldLink RX4 21 "PracticeSheets$State" "words" "LPracticeSheets$WordList;", Cond.fieldLink RX4 12 "PracticeSheets$State" "practice" "LPracticeSheets$Practice;", Cond.fieldLink RX4 32 "PracticeSheets$State" "written" "I", Cond.fieldLink RX4 38 "PracticeSheets$State" "sheets" "I", Cond.methodLink RX4 49 yX7_at, Cond.instanceMethod yX7_at, Cond.selects RX7 yX7_at yX7_at, Cond.initialized RX7, Cond.code yX7_at cX7_at 2 (some (.object "PracticeSheets$Word")), Cond.fieldLink RX7 18 "PracticeSheets$WordList" "size" "I", Cond.fieldLink RX7 11 "PracticeSheets$WordList" "words" "[LPracticeSheets$Word;", Cond.methodLink RX4 53 yX1_addTriesOf, Cond.instanceMethod yX1_addTriesOf, Cond.selects RX1 yX1_addTriesOf yX1_addTriesOf, Cond.initialized RX1, Cond.code yX1_addTriesOf cX1_addTriesOf 3 none, Cond.methodLink RX1 44 yX1_addTry, Cond.instanceMethod yX1_addTry, Cond.selects RX1 yX1_addTry yX1_addTry, Cond.code yX1_addTry cX1_addTry 2 none, Cond.fieldLink RX1 9 "PracticeSheets$Practice" "tries" "[I", Cond.static yX8_isPart, Cond.initialized RX8, Cond.code yX8_isPart cX8_isPart 1 (some .boolean)]
def wsX4_practise_r2 : List Cond := [Cond.static yX8_joinPart, Cond.code yX8_joinPart cX8_joinPart 2 (some .int)]
def wsX4_practise : List Cond := .code yX4_practise cX4_practise 4 none :: ((wsX4_practise_r1 ++ wsX4_practise_r2) ++ wsX30 ++ wsX40 ++ wsX70 ++ wsX60 ++ wsX10)
def wsX4_greatestNeedOfWords_r1 : List Cond := [Cond.fieldLink RX4 21 "PracticeSheets$State" "words" "LPracticeSheets$WordList;", Cond.fieldLink RX4 12 "PracticeSheets$State" "practice" "LPracticeSheets$Practice;", Cond.methodLink RX4 65 Lib.Math.max.name, Cond.static Lib.Math.max.name, Cond.initialized "java/lang/Math", Cond.code Lib.Math.max.name Lib.Math.max.code 2 (some .int), Cond.methodLink RX4 61 yX1_greatestNeedOf, Cond.instanceMethod yX1_greatestNeedOf, Cond.selects RX1 yX1_greatestNeedOf yX1_greatestNeedOf, Cond.initialized RX1, Cond.code yX1_greatestNeedOf cX1_greatestNeedOf 4 (some .int), Cond.methodLink RX1 29 Lib.Math.max.name, Cond.methodLink RX1 57 yX1_needOf, Cond.instanceMethod yX1_needOf, Cond.selects RX1 yX1_needOf yX1_needOf, Cond.code yX1_needOf cX1_needOf 2 (some .int), Cond.methodLink RX1 22 yX1_slipsOf, Cond.instanceMethod yX1_slipsOf, Cond.selects RX1 yX1_slipsOf yX1_slipsOf, Cond.code yX1_slipsOf cX1_slipsOf 2 (some .int), Cond.fieldLink RX1 15 "PracticeSheets$Practice" "slips" "[I", Cond.static yX8_isPart, Cond.initialized RX8, Cond.code yX8_isPart cX8_isPart 1 (some .boolean)]
def wsX4_greatestNeedOfWords_r2 : List Cond := [Cond.methodLink RX1 26 yX1_triesOf, Cond.instanceMethod yX1_triesOf, Cond.selects RX1 yX1_triesOf yX1_triesOf, Cond.code yX1_triesOf cX1_triesOf 2 (some .int), Cond.fieldLink RX1 9 "PracticeSheets$Practice" "tries" "[I"]
def wsX4_greatestNeedOfWords : List Cond := .code yX4_greatestNeedOfWords cX4_greatestNeedOfWords 3 (some .int) :: ((wsX4_greatestNeedOfWords_r1 ++ wsX4_greatestNeedOfWords_r2) ++ wsX40 ++ wsX70 ++ wsX60 ++ wsX10)
def wsX5_init : List Cond := .code yX5_init cX5_init 1 none :: ([.methodLink RX5 3 objectInit, .instanceMethod objectInit, .code objectInit ⟨#[0xb1]⟩ 1 none, .arrayClass .char, .fieldLink RX5 9 "PracticeSheets$Text" "signs" "[C", .classLink RX5 15 RX6, .instantiable RX6 4, .initialized RX6, .fieldLink RX5 18 "PracticeSheets$Text" "spelled" "LPracticeSheets$Word;", .fieldLink RX5 22 "PracticeSheets$Text" "length" "I", .methodLink RX5 17 yX6_init, .instanceMethod yX6_init, .code yX6_init cX6_init 1 none, .methodLink RX6 3 objectInit, .arrayClass .int, .fieldLink RX6 9 "PracticeSheets$Word" "letters" "[I", .fieldLink RX6 15 "PracticeSheets$Word" "parts" "[I", .fieldLink RX6 18 "PracticeSheets$Word" "length" "I", .fieldLink RX6 22 "PracticeSheets$Word" "partCount" "I"] ++ wsX50 ++ wsX60)
def wsX5_append : List Cond := .code yX5_append cX5_append 2 (some .boolean) :: ([.fieldLink RX5 22 "PracticeSheets$Text" "length" "I", .fieldLink RX5 9 "PracticeSheets$Text" "signs" "[C"] ++ wsX50)
def wsX8_isLetter : List Cond := .code yX8_isLetter cX8_isLetter 1 (some .boolean) :: ([])
def wsX5_mayBeWritten : List Cond := .code yX5_mayBeWritten cX5_mayBeWritten 3 (some .boolean) :: ([.static yX8_isLetter, .initialized RX8, .code yX8_isLetter cX8_isLetter 1 (some .boolean)])
def wsX5_faultAsWritten : List Cond := .code yX5_faultAsWritten cX5_faultAsWritten 5 (some .int) :: ([.fieldLink RX5 22 "PracticeSheets$Text" "length" "I", .fieldLink RX5 9 "PracticeSheets$Text" "signs" "[C", .methodLink RX5 26 yX5_mayBeWritten, .static yX5_mayBeWritten, .initialized RX5, .code yX5_mayBeWritten cX5_mayBeWritten 3 (some .boolean), .static yX8_isLetter, .initialized RX8, .code yX8_isLetter cX8_isLetter 1 (some .boolean)] ++ wsX50)
def wsX5_faultAsWords : List Cond := .code yX5_faultAsWords cX5_faultAsWords 3 (some .int) :: ([.fieldLink RX5 22 "PracticeSheets$Text" "length" "I", .fieldLink RX5 9 "PracticeSheets$Text" "signs" "[C", .static yX8_isLetter, .initialized RX8, .code yX8_isLetter cX8_isLetter 1 (some .boolean)] ++ wsX50)
def wsX8_letterNumber : List Cond := .code yX8_letterNumber cX8_letterNumber 1 (some .int) :: ([])
def wsX5_tryJoin : List Cond := .code yX5_tryJoin cX5_tryJoin 3 none :: ([.methodLink RX5 44 yX1_addTry, .instanceMethod yX1_addTry, .selects RX1 yX1_addTry yX1_addTry, .initialized RX1, .code yX1_addTry cX1_addTry 2 none, .fieldLink RX1 9 "PracticeSheets$Practice" "tries" "[I", .static yX8_isPart, .initialized RX8, .code yX8_isPart cX8_isPart 1 (some .boolean), .methodLink RX5 34 yX1_addSlip, .instanceMethod yX1_addSlip, .selects RX1 yX1_addSlip yX1_addSlip, .code yX1_addSlip cX1_addSlip 2 none, .fieldLink RX1 15 "PracticeSheets$Practice" "slips" "[I"] ++ wsX10)
def wsX5_practiseIn : List Cond := .code yX5_practiseIn cX5_practiseIn 8 (some .int) :: ([.fieldLink RX5 22 "PracticeSheets$Text" "length" "I", .fieldLink RX5 9 "PracticeSheets$Text" "signs" "[C", .methodLink RX5 34 yX1_addSlip, .instanceMethod yX1_addSlip, .selects RX1 yX1_addSlip yX1_addSlip, .initialized RX1, .code yX1_addSlip cX1_addSlip 2 none, .fieldLink RX1 15 "PracticeSheets$Practice" "slips" "[I", .static yX8_isPart, .initialized RX8, .code yX8_isPart cX8_isPart 1 (some .boolean), .static yX8_letterNumber, .code yX8_letterNumber cX8_letterNumber 1 (some .int), .methodLink RX5 44 yX1_addTry, .instanceMethod yX1_addTry, .selects RX1 yX1_addTry yX1_addTry, .code yX1_addTry cX1_addTry 2 none, .fieldLink RX1 9 "PracticeSheets$Practice" "tries" "[I", .static yX8_joinPart, .code yX8_joinPart cX8_joinPart 2 (some .int), .methodLink RX5 51 yX5_tryJoin, .static yX5_tryJoin, .initialized RX5, .code yX5_tryJoin cX5_tryJoin 3 none] ++ wsX50 ++ wsX10)
def wsX6_clear : List Cond := .code yX6_clear cX6_clear 1 none :: ([.fieldLink RX6 18 "PracticeSheets$Word" "length" "I", .fieldLink RX6 22 "PracticeSheets$Word" "partCount" "I"] ++ wsX60)
def wsX6_has : List Cond := .code yX6_has cX6_has 3 (some .boolean) :: ([.fieldLink RX6 22 "PracticeSheets$Word" "partCount" "I", .fieldLink RX6 15 "PracticeSheets$Word" "parts" "[I"] ++ wsX60)
def wsX6_addPart : List Cond := .code yX6_addPart cX6_addPart 2 none :: ([.fieldLink RX6 22 "PracticeSheets$Word" "partCount" "I", .fieldLink RX6 15 "PracticeSheets$Word" "parts" "[I", .methodLink RX6 33 yX6_has, .instanceMethod yX6_has, .selects RX6 yX6_has yX6_has, .initialized RX6, .code yX6_has cX6_has 3 (some .boolean)] ++ wsX60)
def wsX6_append : List Cond := .code yX6_append cX6_append 2 none :: ([.fieldLink RX6 18 "PracticeSheets$Word" "length" "I", .fieldLink RX6 9 "PracticeSheets$Word" "letters" "[I", .methodLink RX6 25 yX6_addPart, .instanceMethod yX6_addPart, .selects RX6 yX6_addPart yX6_addPart, .initialized RX6, .code yX6_addPart cX6_addPart 2 none, .fieldLink RX6 22 "PracticeSheets$Word" "partCount" "I", .fieldLink RX6 15 "PracticeSheets$Word" "parts" "[I", .methodLink RX6 33 yX6_has, .instanceMethod yX6_has, .selects RX6 yX6_has yX6_has, .code yX6_has cX6_has 3 (some .boolean), .static yX8_joinPart, .initialized RX8, .code yX8_joinPart cX8_joinPart 2 (some .int)] ++ wsX60)
def wsX6_isSpelledAs : List Cond := .code yX6_isSpelledAs cX6_isSpelledAs 3 (some .boolean) :: ([.fieldLink RX6 18 "PracticeSheets$Word" "length" "I", .fieldLink RX6 9 "PracticeSheets$Word" "letters" "[I"] ++ wsX60)
def wsX7_take : List Cond := .code yX7_take cX7_take 3 (some .boolean) :: ([.fieldLink RX7 18 "PracticeSheets$WordList" "size" "I", .fieldLink RX7 11 "PracticeSheets$WordList" "words" "[LPracticeSheets$Word;", .methodLink RX7 22 yX6_isSpelledAs, .instanceMethod yX6_isSpelledAs, .selects RX6 yX6_isSpelledAs yX6_isSpelledAs, .initialized RX6, .code yX6_isSpelledAs cX6_isSpelledAs 3 (some .boolean), .fieldLink RX6 18 "PracticeSheets$Word" "length" "I", .fieldLink RX6 9 "PracticeSheets$Word" "letters" "[I", .methodLink RX7 26 yX6_copyFrom, .instanceMethod yX6_copyFrom, .selects RX6 yX6_copyFrom yX6_copyFrom, .code yX6_copyFrom cX6_copyFrom 2 none, .methodLink RX6 37 arraycopyName, .native arraycopyName, .static arraycopyName, .initialized "java/lang/System", .fieldLink RX6 15 "PracticeSheets$Word" "parts" "[I", .fieldLink RX6 22 "PracticeSheets$Word" "partCount" "I"] ++ wsX70 ++ wsX60)
def wsX5_spellInto_r1 : List Cond := [Cond.fieldLink RX5 18 "PracticeSheets$Text" "spelled" "LPracticeSheets$Word;", Cond.fieldLink RX5 22 "PracticeSheets$Text" "length" "I", Cond.fieldLink RX5 9 "PracticeSheets$Text" "signs" "[C", Cond.methodLink RX5 55 yX6_clear, Cond.instanceMethod yX6_clear, Cond.selects RX6 yX6_clear yX6_clear, Cond.initialized RX6, Cond.code yX6_clear cX6_clear 1 none, Cond.fieldLink RX6 18 "PracticeSheets$Word" "length" "I", Cond.fieldLink RX6 22 "PracticeSheets$Word" "partCount" "I", Cond.static yX8_letterNumber, Cond.initialized RX8, Cond.code yX8_letterNumber cX8_letterNumber 1 (some .int), Cond.methodLink RX5 58 yX6_append, Cond.instanceMethod yX6_append, Cond.selects RX6 yX6_append yX6_append, Cond.code yX6_append cX6_append 2 none, Cond.fieldLink RX6 9 "PracticeSheets$Word" "letters" "[I", Cond.methodLink RX6 25 yX6_addPart, Cond.instanceMethod yX6_addPart, Cond.selects RX6 yX6_addPart yX6_addPart, Cond.code yX6_addPart cX6_addPart 2 none, Cond.fieldLink RX6 15 "PracticeSheets$Word" "parts" "[I", Cond.methodLink RX6 33 yX6_has]
def wsX5_spellInto_r2 : List Cond := [Cond.instanceMethod yX6_has, Cond.selects RX6 yX6_has yX6_has, Cond.code yX6_has cX6_has 3 (some .boolean), Cond.static yX8_joinPart, Cond.code yX8_joinPart cX8_joinPart 2 (some .int), Cond.methodLink RX5 61 yX7_take, Cond.instanceMethod yX7_take, Cond.selects RX7 yX7_take yX7_take, Cond.initialized RX7, Cond.code yX7_take cX7_take 3 (some .boolean), Cond.fieldLink RX7 18 "PracticeSheets$WordList" "size" "I", Cond.fieldLink RX7 11 "PracticeSheets$WordList" "words" "[LPracticeSheets$Word;", Cond.methodLink RX7 22 yX6_isSpelledAs, Cond.instanceMethod yX6_isSpelledAs, Cond.selects RX6 yX6_isSpelledAs yX6_isSpelledAs, Cond.code yX6_isSpelledAs cX6_isSpelledAs 3 (some .boolean), Cond.methodLink RX7 26 yX6_copyFrom, Cond.instanceMethod yX6_copyFrom, Cond.selects RX6 yX6_copyFrom yX6_copyFrom, Cond.code yX6_copyFrom cX6_copyFrom 2 none, Cond.methodLink RX6 37 arraycopyName, Cond.native arraycopyName, Cond.static arraycopyName, Cond.initialized "java/lang/System"]
def wsX5_spellInto : List Cond := .code yX5_spellInto cX5_spellInto 3 (some .boolean) :: ((wsX5_spellInto_r1 ++ wsX5_spellInto_r2) ++ wsX50 ++ wsX60 ++ wsX70)
def wsX7_drop : List Cond := .code yX7_drop cX7_drop 3 none :: ([.fieldLink RX7 18 "PracticeSheets$WordList" "size" "I", .fieldLink RX7 11 "PracticeSheets$WordList" "words" "[LPracticeSheets$Word;", .methodLink RX7 26 yX6_copyFrom, .instanceMethod yX6_copyFrom, .selects RX6 yX6_copyFrom yX6_copyFrom, .initialized RX6, .code yX6_copyFrom cX6_copyFrom 2 none, .fieldLink RX6 9 "PracticeSheets$Word" "letters" "[I", .methodLink RX6 37 arraycopyName, .native arraycopyName, .static arraycopyName, .initialized "java/lang/System", .fieldLink RX6 15 "PracticeSheets$Word" "parts" "[I", .fieldLink RX6 18 "PracticeSheets$Word" "length" "I", .fieldLink RX6 22 "PracticeSheets$Word" "partCount" "I"] ++ wsX70 ++ wsX60)
def wsX7_howManyHave : List Cond := .code yX7_howManyHave cX7_howManyHave 4 (some .int) :: ([.fieldLink RX7 18 "PracticeSheets$WordList" "size" "I", .fieldLink RX7 11 "PracticeSheets$WordList" "words" "[LPracticeSheets$Word;", .methodLink RX7 30 yX6_has, .instanceMethod yX6_has, .selects RX6 yX6_has yX6_has, .initialized RX6, .code yX6_has cX6_has 3 (some .boolean), .fieldLink RX6 22 "PracticeSheets$Word" "partCount" "I", .fieldLink RX6 15 "PracticeSheets$Word" "parts" "[I"] ++ wsX70 ++ wsX60)
def wsX8_init_r1 : List Cond := [Cond.methodLink RX8 3 objectInit, Cond.instanceMethod objectInit, Cond.code objectInit ⟨#[0xb1]⟩ 1 none, Cond.classLink RX8 9 RX4, Cond.instantiable RX4 7, Cond.initialized RX4, Cond.fieldLink RX8 12 "PracticeSheets" "now" "LPracticeSheets$State;", Cond.fieldLink RX8 16 "PracticeSheets" "snapshot" "LPracticeSheets$State;", Cond.fieldLink RX8 19 "PracticeSheets" "trial" "LPracticeSheets$State;", Cond.classLink RX8 22 RX0, Cond.instantiable RX0 2, Cond.initialized RX0, Cond.fieldLink RX8 25 "PracticeSheets" "history" "LPracticeSheets$History;", Cond.classLink RX8 29 RX5, Cond.instantiable RX5 3, Cond.initialized RX5, Cond.fieldLink RX8 32 "PracticeSheets" "text" "LPracticeSheets$Text;", Cond.classLink RX8 36 RX3, Cond.instantiable RX3 5, Cond.initialized RX3, Cond.fieldLink RX8 39 "PracticeSheets" "plan" "LPracticeSheets$Sheet;", Cond.classLink RX8 43 RX2, Cond.instantiable RX2 1, Cond.initialized RX2]
def wsX8_init_r2 : List Cond := [Cond.fieldLink RX8 46 "PracticeSheets" "ranking" "LPracticeSheets$Ranking;", Cond.fieldLink RX8 50 "PracticeSheets" "hasSnapshot" "Z", Cond.methodLink RX8 11 yX4_init, Cond.instanceMethod yX4_init, Cond.code yX4_init cX4_init 1 none, Cond.methodLink RX4 3 objectInit, Cond.classLink RX4 9 RX1, Cond.instantiable RX1 2, Cond.initialized RX1, Cond.fieldLink RX4 12 "PracticeSheets$State" "practice" "LPracticeSheets$Practice;", Cond.classLink RX4 18 RX7, Cond.instantiable RX7 2, Cond.initialized RX7, Cond.fieldLink RX4 21 "PracticeSheets$State" "words" "LPracticeSheets$WordList;", Cond.fieldLink RX4 25 "PracticeSheets$State" "weeks" "I", Cond.fieldLink RX4 29 "PracticeSheets$State" "untried" "I", Cond.fieldLink RX4 32 "PracticeSheets$State" "written" "I", Cond.fieldLink RX4 35 "PracticeSheets$State" "slips" "I", Cond.fieldLink RX4 38 "PracticeSheets$State" "sheets" "I", Cond.methodLink RX4 11 yX1_init, Cond.instanceMethod yX1_init, Cond.code yX1_init cX1_init 1 none, Cond.methodLink RX1 3 objectInit, Cond.arrayClass .int]
def wsX8_init_r3 : List Cond := [Cond.fieldLink RX1 9 "PracticeSheets$Practice" "tries" "[I", Cond.fieldLink RX1 15 "PracticeSheets$Practice" "slips" "[I", Cond.methodLink RX4 20 yX7_init, Cond.instanceMethod yX7_init, Cond.code yX7_init cX7_init 2 none, Cond.methodLink RX7 3 objectInit, Cond.classLink RX7 9 RX6, Cond.fieldLink RX7 11 "PracticeSheets$WordList" "words" "[LPracticeSheets$Word;", Cond.instantiable RX6 4, Cond.initialized RX6, Cond.fieldLink RX7 18 "PracticeSheets$WordList" "size" "I", Cond.methodLink RX7 17 yX6_init, Cond.instanceMethod yX6_init, Cond.code yX6_init cX6_init 1 none, Cond.methodLink RX6 3 objectInit, Cond.fieldLink RX6 9 "PracticeSheets$Word" "letters" "[I", Cond.fieldLink RX6 15 "PracticeSheets$Word" "parts" "[I", Cond.fieldLink RX6 18 "PracticeSheets$Word" "length" "I", Cond.fieldLink RX6 22 "PracticeSheets$Word" "partCount" "I", Cond.methodLink RX8 24 yX0_init, Cond.instanceMethod yX0_init, Cond.code yX0_init cX0_init 2 none, Cond.methodLink RX0 3 objectInit, Cond.classLink RX0 9 RX4]
def wsX8_init_r4 : List Cond := [Cond.fieldLink RX0 11 "PracticeSheets$History" "states" "[LPracticeSheets$State;", Cond.fieldLink RX0 18 "PracticeSheets$History" "size" "I", Cond.methodLink RX0 17 yX4_init, Cond.methodLink RX8 31 yX5_init, Cond.instanceMethod yX5_init, Cond.code yX5_init cX5_init 1 none, Cond.methodLink RX5 3 objectInit, Cond.arrayClass .char, Cond.fieldLink RX5 9 "PracticeSheets$Text" "signs" "[C", Cond.classLink RX5 15 RX6, Cond.fieldLink RX5 18 "PracticeSheets$Text" "spelled" "LPracticeSheets$Word;", Cond.fieldLink RX5 22 "PracticeSheets$Text" "length" "I", Cond.methodLink RX5 17 yX6_init, Cond.methodLink RX8 38 yX3_init, Cond.instanceMethod yX3_init, Cond.code yX3_init cX3_init 1 none, Cond.methodLink RX3 3 objectInit, Cond.fieldLink RX3 9 "PracticeSheets$Sheet" "words" "[I", Cond.fieldLink RX3 15 "PracticeSheets$Sheet" "gains" "[I", Cond.arrayClass .boolean, Cond.fieldLink RX3 18 "PracticeSheets$Sheet" "isCovered" "[Z", Cond.fieldLink RX3 22 "PracticeSheets$Sheet" "isTaken" "[Z", Cond.fieldLink RX3 25 "PracticeSheets$Sheet" "size" "I", Cond.methodLink RX8 45 yX2_init]
def wsX8_init_r5 : List Cond := [Cond.instanceMethod yX2_init, Cond.code yX2_init cX2_init 1 none, Cond.methodLink RX2 3 objectInit, Cond.fieldLink RX2 9 "PracticeSheets$Ranking" "howMany" "[I"]
def wsX8_init : List Cond := .code yX8_init cX8_init 1 none :: ((wsX8_init_r1 ++ (wsX8_init_r2 ++ (wsX8_init_r3 ++ (wsX8_init_r4 ++ wsX8_init_r5)))) ++ wsX40 ++ wsX80 ++ wsX00 ++ wsX50 ++ wsX30 ++ wsX20 ++ wsX10 ++ wsX70 ++ wsX60)
def wsX8_write_r1 : List Cond := [Cond.fieldLink RX8 32 "PracticeSheets" "text" "LPracticeSheets$Text;", Cond.fieldLink RX8 25 "PracticeSheets" "history" "LPracticeSheets$History;", Cond.fieldLink RX8 12 "PracticeSheets" "now" "LPracticeSheets$State;", Cond.methodLink RX8 54 yX5_faultAsWritten, Cond.instanceMethod yX5_faultAsWritten, Cond.selects RX5 yX5_faultAsWritten yX5_faultAsWritten, Cond.initialized RX5, Cond.code yX5_faultAsWritten cX5_faultAsWritten 5 (some .int), Cond.fieldLink RX5 22 "PracticeSheets$Text" "length" "I", Cond.fieldLink RX5 9 "PracticeSheets$Text" "signs" "[C", Cond.methodLink RX5 26 yX5_mayBeWritten, Cond.static yX5_mayBeWritten, Cond.code yX5_mayBeWritten cX5_mayBeWritten 3 (some .boolean), Cond.static yX8_isLetter, Cond.initialized RX8, Cond.code yX8_isLetter cX8_isLetter 1 (some .boolean), Cond.methodLink RX8 58 yX0_remember, Cond.instanceMethod yX0_remember, Cond.selects RX0 yX0_remember yX0_remember, Cond.initialized RX0, Cond.code yX0_remember cX0_remember 2 none, Cond.fieldLink RX0 18 "PracticeSheets$History" "size" "I", Cond.fieldLink RX0 11 "PracticeSheets$History" "states" "[LPracticeSheets$State;", Cond.methodLink RX0 22 yX0_dropOldest]
def wsX8_write_r2 : List Cond := [Cond.instanceMethod yX0_dropOldest, Cond.selects RX0 yX0_dropOldest yX0_dropOldest, Cond.code yX0_dropOldest cX0_dropOldest 3 none, Cond.methodLink RX0 25 yX4_copyFrom, Cond.instanceMethod yX4_copyFrom, Cond.selects RX4 yX4_copyFrom yX4_copyFrom, Cond.initialized RX4, Cond.code yX4_copyFrom cX4_copyFrom 2 none, Cond.fieldLink RX4 12 "PracticeSheets$State" "practice" "LPracticeSheets$Practice;", Cond.fieldLink RX4 21 "PracticeSheets$State" "words" "LPracticeSheets$WordList;", Cond.fieldLink RX4 25 "PracticeSheets$State" "weeks" "I", Cond.fieldLink RX4 29 "PracticeSheets$State" "untried" "I", Cond.fieldLink RX4 32 "PracticeSheets$State" "written" "I", Cond.fieldLink RX4 35 "PracticeSheets$State" "slips" "I", Cond.fieldLink RX4 38 "PracticeSheets$State" "sheets" "I", Cond.methodLink RX4 71 yX1_copyFrom, Cond.instanceMethod yX1_copyFrom, Cond.selects RX1 yX1_copyFrom yX1_copyFrom, Cond.initialized RX1, Cond.code yX1_copyFrom cX1_copyFrom 2 none, Cond.fieldLink RX1 9 "PracticeSheets$Practice" "tries" "[I", Cond.methodLink RX1 63 arraycopyName, Cond.native arraycopyName, Cond.static arraycopyName]
def wsX8_write_r3 : List Cond := [Cond.initialized "java/lang/System", Cond.fieldLink RX1 15 "PracticeSheets$Practice" "slips" "[I", Cond.methodLink RX4 75 yX7_copyFrom, Cond.instanceMethod yX7_copyFrom, Cond.selects RX7 yX7_copyFrom yX7_copyFrom, Cond.initialized RX7, Cond.code yX7_copyFrom cX7_copyFrom 3 none, Cond.fieldLink RX7 18 "PracticeSheets$WordList" "size" "I", Cond.fieldLink RX7 11 "PracticeSheets$WordList" "words" "[LPracticeSheets$Word;", Cond.methodLink RX7 26 yX6_copyFrom, Cond.instanceMethod yX6_copyFrom, Cond.selects RX6 yX6_copyFrom yX6_copyFrom, Cond.initialized RX6, Cond.code yX6_copyFrom cX6_copyFrom 2 none, Cond.fieldLink RX6 9 "PracticeSheets$Word" "letters" "[I", Cond.methodLink RX6 37 arraycopyName, Cond.fieldLink RX6 15 "PracticeSheets$Word" "parts" "[I", Cond.fieldLink RX6 18 "PracticeSheets$Word" "length" "I", Cond.fieldLink RX6 22 "PracticeSheets$Word" "partCount" "I", Cond.methodLink RX8 66 yX5_practiseIn, Cond.instanceMethod yX5_practiseIn, Cond.selects RX5 yX5_practiseIn yX5_practiseIn, Cond.code yX5_practiseIn cX5_practiseIn 8 (some .int), Cond.methodLink RX5 34 yX1_addSlip]
def wsX8_write_r4 : List Cond := [Cond.instanceMethod yX1_addSlip, Cond.selects RX1 yX1_addSlip yX1_addSlip, Cond.code yX1_addSlip cX1_addSlip 2 none, Cond.static yX8_isPart, Cond.code yX8_isPart cX8_isPart 1 (some .boolean), Cond.static yX8_letterNumber, Cond.code yX8_letterNumber cX8_letterNumber 1 (some .int), Cond.methodLink RX5 44 yX1_addTry, Cond.instanceMethod yX1_addTry, Cond.selects RX1 yX1_addTry yX1_addTry, Cond.code yX1_addTry cX1_addTry 2 none, Cond.static yX8_joinPart, Cond.code yX8_joinPart cX8_joinPart 2 (some .int), Cond.methodLink RX5 51 yX5_tryJoin, Cond.static yX5_tryJoin, Cond.code yX5_tryJoin cX5_tryJoin 3 none]
def wsX8_write : List Cond := .code yX8_write cX8_write 3 (some .int) :: ((wsX8_write_r1 ++ (wsX8_write_r2 ++ (wsX8_write_r3 ++ wsX8_write_r4))) ++ wsX80 ++ wsX40 ++ wsX50 ++ wsX00 ++ wsX10 ++ wsX70 ++ wsX60)
def wsX8_pass_r1 : List Cond := [Cond.fieldLink RX8 12 "PracticeSheets" "now" "LPracticeSheets$State;", Cond.fieldLink RX8 25 "PracticeSheets" "history" "LPracticeSheets$History;", Cond.methodLink RX8 58 yX0_remember, Cond.instanceMethod yX0_remember, Cond.selects RX0 yX0_remember yX0_remember, Cond.initialized RX0, Cond.code yX0_remember cX0_remember 2 none, Cond.fieldLink RX0 18 "PracticeSheets$History" "size" "I", Cond.fieldLink RX0 11 "PracticeSheets$History" "states" "[LPracticeSheets$State;", Cond.methodLink RX0 22 yX0_dropOldest, Cond.instanceMethod yX0_dropOldest, Cond.selects RX0 yX0_dropOldest yX0_dropOldest, Cond.code yX0_dropOldest cX0_dropOldest 3 none, Cond.methodLink RX0 25 yX4_copyFrom, Cond.instanceMethod yX4_copyFrom, Cond.selects RX4 yX4_copyFrom yX4_copyFrom, Cond.initialized RX4, Cond.code yX4_copyFrom cX4_copyFrom 2 none, Cond.fieldLink RX4 12 "PracticeSheets$State" "practice" "LPracticeSheets$Practice;", Cond.fieldLink RX4 21 "PracticeSheets$State" "words" "LPracticeSheets$WordList;", Cond.fieldLink RX4 25 "PracticeSheets$State" "weeks" "I", Cond.fieldLink RX4 29 "PracticeSheets$State" "untried" "I", Cond.fieldLink RX4 32 "PracticeSheets$State" "written" "I", Cond.fieldLink RX4 35 "PracticeSheets$State" "slips" "I"]
def wsX8_pass_r2 : List Cond := [Cond.fieldLink RX4 38 "PracticeSheets$State" "sheets" "I", Cond.methodLink RX4 71 yX1_copyFrom, Cond.instanceMethod yX1_copyFrom, Cond.selects RX1 yX1_copyFrom yX1_copyFrom, Cond.initialized RX1, Cond.code yX1_copyFrom cX1_copyFrom 2 none, Cond.fieldLink RX1 9 "PracticeSheets$Practice" "tries" "[I", Cond.methodLink RX1 63 arraycopyName, Cond.native arraycopyName, Cond.static arraycopyName, Cond.initialized "java/lang/System", Cond.fieldLink RX1 15 "PracticeSheets$Practice" "slips" "[I", Cond.methodLink RX4 75 yX7_copyFrom, Cond.instanceMethod yX7_copyFrom, Cond.selects RX7 yX7_copyFrom yX7_copyFrom, Cond.initialized RX7, Cond.code yX7_copyFrom cX7_copyFrom 3 none, Cond.fieldLink RX7 18 "PracticeSheets$WordList" "size" "I", Cond.fieldLink RX7 11 "PracticeSheets$WordList" "words" "[LPracticeSheets$Word;", Cond.methodLink RX7 26 yX6_copyFrom, Cond.instanceMethod yX6_copyFrom, Cond.selects RX6 yX6_copyFrom yX6_copyFrom, Cond.initialized RX6, Cond.code yX6_copyFrom cX6_copyFrom 2 none]
def wsX8_pass_r3 : List Cond := [Cond.fieldLink RX6 9 "PracticeSheets$Word" "letters" "[I", Cond.methodLink RX6 37 arraycopyName, Cond.fieldLink RX6 15 "PracticeSheets$Word" "parts" "[I", Cond.fieldLink RX6 18 "PracticeSheets$Word" "length" "I", Cond.fieldLink RX6 22 "PracticeSheets$Word" "partCount" "I", Cond.methodLink RX8 80 yX1_fade, Cond.instanceMethod yX1_fade, Cond.selects RX1 yX1_fade yX1_fade, Cond.code yX1_fade cX1_fade 5 (some .int)]
def wsX8_pass : List Cond := .code yX8_pass cX8_pass 2 (some .int) :: ((wsX8_pass_r1 ++ (wsX8_pass_r2 ++ wsX8_pass_r3)) ++ wsX80 ++ wsX40 ++ wsX00 ++ wsX10 ++ wsX70 ++ wsX60)
def wsX8_setUntried_r1 : List Cond := [Cond.fieldLink RX8 12 "PracticeSheets" "now" "LPracticeSheets$State;", Cond.fieldLink RX8 25 "PracticeSheets" "history" "LPracticeSheets$History;", Cond.methodLink RX8 58 yX0_remember, Cond.instanceMethod yX0_remember, Cond.selects RX0 yX0_remember yX0_remember, Cond.initialized RX0, Cond.code yX0_remember cX0_remember 2 none, Cond.fieldLink RX0 18 "PracticeSheets$History" "size" "I", Cond.fieldLink RX0 11 "PracticeSheets$History" "states" "[LPracticeSheets$State;", Cond.methodLink RX0 22 yX0_dropOldest, Cond.instanceMethod yX0_dropOldest, Cond.selects RX0 yX0_dropOldest yX0_dropOldest, Cond.code yX0_dropOldest cX0_dropOldest 3 none, Cond.methodLink RX0 25 yX4_copyFrom, Cond.instanceMethod yX4_copyFrom, Cond.selects RX4 yX4_copyFrom yX4_copyFrom, Cond.initialized RX4, Cond.code yX4_copyFrom cX4_copyFrom 2 none, Cond.fieldLink RX4 12 "PracticeSheets$State" "practice" "LPracticeSheets$Practice;", Cond.fieldLink RX4 21 "PracticeSheets$State" "words" "LPracticeSheets$WordList;", Cond.fieldLink RX4 25 "PracticeSheets$State" "weeks" "I", Cond.fieldLink RX4 29 "PracticeSheets$State" "untried" "I", Cond.fieldLink RX4 32 "PracticeSheets$State" "written" "I", Cond.fieldLink RX4 35 "PracticeSheets$State" "slips" "I"]
def wsX8_setUntried_r2 : List Cond := [Cond.fieldLink RX4 38 "PracticeSheets$State" "sheets" "I", Cond.methodLink RX4 71 yX1_copyFrom, Cond.instanceMethod yX1_copyFrom, Cond.selects RX1 yX1_copyFrom yX1_copyFrom, Cond.initialized RX1, Cond.code yX1_copyFrom cX1_copyFrom 2 none, Cond.fieldLink RX1 9 "PracticeSheets$Practice" "tries" "[I", Cond.methodLink RX1 63 arraycopyName, Cond.native arraycopyName, Cond.static arraycopyName, Cond.initialized "java/lang/System", Cond.fieldLink RX1 15 "PracticeSheets$Practice" "slips" "[I", Cond.methodLink RX4 75 yX7_copyFrom, Cond.instanceMethod yX7_copyFrom, Cond.selects RX7 yX7_copyFrom yX7_copyFrom, Cond.initialized RX7, Cond.code yX7_copyFrom cX7_copyFrom 3 none, Cond.fieldLink RX7 18 "PracticeSheets$WordList" "size" "I", Cond.fieldLink RX7 11 "PracticeSheets$WordList" "words" "[LPracticeSheets$Word;", Cond.methodLink RX7 26 yX6_copyFrom, Cond.instanceMethod yX6_copyFrom, Cond.selects RX6 yX6_copyFrom yX6_copyFrom, Cond.initialized RX6, Cond.code yX6_copyFrom cX6_copyFrom 2 none]
def wsX8_setUntried_r3 : List Cond := [Cond.fieldLink RX6 9 "PracticeSheets$Word" "letters" "[I", Cond.methodLink RX6 37 arraycopyName, Cond.fieldLink RX6 15 "PracticeSheets$Word" "parts" "[I", Cond.fieldLink RX6 18 "PracticeSheets$Word" "length" "I", Cond.fieldLink RX6 22 "PracticeSheets$Word" "partCount" "I"]
def wsX8_setUntried : List Cond := .code yX8_setUntried cX8_setUntried 3 (some .int) :: ((wsX8_setUntried_r1 ++ (wsX8_setUntried_r2 ++ wsX8_setUntried_r3)) ++ wsX80 ++ wsX40 ++ wsX00 ++ wsX10 ++ wsX70 ++ wsX60)
def wsX8_addWords_r1 : List Cond := [Cond.fieldLink RX8 32 "PracticeSheets" "text" "LPracticeSheets$Text;", Cond.fieldLink RX8 19 "PracticeSheets" "trial" "LPracticeSheets$State;", Cond.fieldLink RX8 12 "PracticeSheets" "now" "LPracticeSheets$State;", Cond.fieldLink RX8 25 "PracticeSheets" "history" "LPracticeSheets$History;", Cond.methodLink RX8 89 yX5_faultAsWords, Cond.instanceMethod yX5_faultAsWords, Cond.selects RX5 yX5_faultAsWords yX5_faultAsWords, Cond.initialized RX5, Cond.code yX5_faultAsWords cX5_faultAsWords 3 (some .int), Cond.fieldLink RX5 22 "PracticeSheets$Text" "length" "I", Cond.fieldLink RX5 9 "PracticeSheets$Text" "signs" "[C", Cond.static yX8_isLetter, Cond.initialized RX8, Cond.code yX8_isLetter cX8_isLetter 1 (some .boolean), Cond.methodLink RX8 96 yX7_copyFrom, Cond.instanceMethod yX7_copyFrom, Cond.selects RX7 yX7_copyFrom yX7_copyFrom, Cond.initialized RX7, Cond.code yX7_copyFrom cX7_copyFrom 3 none, Cond.fieldLink RX7 18 "PracticeSheets$WordList" "size" "I", Cond.fieldLink RX7 11 "PracticeSheets$WordList" "words" "[LPracticeSheets$Word;", Cond.methodLink RX7 26 yX6_copyFrom, Cond.instanceMethod yX6_copyFrom, Cond.selects RX6 yX6_copyFrom yX6_copyFrom]
def wsX8_addWords_r2 : List Cond := [Cond.initialized RX6, Cond.code yX6_copyFrom cX6_copyFrom 2 none, Cond.fieldLink RX6 9 "PracticeSheets$Word" "letters" "[I", Cond.methodLink RX6 37 arraycopyName, Cond.native arraycopyName, Cond.static arraycopyName, Cond.initialized "java/lang/System", Cond.fieldLink RX6 15 "PracticeSheets$Word" "parts" "[I", Cond.fieldLink RX6 18 "PracticeSheets$Word" "length" "I", Cond.fieldLink RX6 22 "PracticeSheets$Word" "partCount" "I", Cond.methodLink RX8 102 yX5_spellInto, Cond.instanceMethod yX5_spellInto, Cond.selects RX5 yX5_spellInto yX5_spellInto, Cond.code yX5_spellInto cX5_spellInto 3 (some .boolean), Cond.fieldLink RX5 18 "PracticeSheets$Text" "spelled" "LPracticeSheets$Word;", Cond.methodLink RX5 55 yX6_clear, Cond.instanceMethod yX6_clear, Cond.selects RX6 yX6_clear yX6_clear, Cond.code yX6_clear cX6_clear 1 none, Cond.static yX8_letterNumber, Cond.code yX8_letterNumber cX8_letterNumber 1 (some .int), Cond.methodLink RX5 58 yX6_append, Cond.instanceMethod yX6_append, Cond.selects RX6 yX6_append yX6_append]
def wsX8_addWords_r3 : List Cond := [Cond.code yX6_append cX6_append 2 none, Cond.methodLink RX6 25 yX6_addPart, Cond.instanceMethod yX6_addPart, Cond.selects RX6 yX6_addPart yX6_addPart, Cond.code yX6_addPart cX6_addPart 2 none, Cond.methodLink RX6 33 yX6_has, Cond.instanceMethod yX6_has, Cond.selects RX6 yX6_has yX6_has, Cond.code yX6_has cX6_has 3 (some .boolean), Cond.static yX8_joinPart, Cond.code yX8_joinPart cX8_joinPart 2 (some .int), Cond.methodLink RX5 61 yX7_take, Cond.instanceMethod yX7_take, Cond.selects RX7 yX7_take yX7_take, Cond.code yX7_take cX7_take 3 (some .boolean), Cond.methodLink RX7 22 yX6_isSpelledAs, Cond.instanceMethod yX6_isSpelledAs, Cond.selects RX6 yX6_isSpelledAs yX6_isSpelledAs, Cond.code yX6_isSpelledAs cX6_isSpelledAs 3 (some .boolean), Cond.methodLink RX8 58 yX0_remember, Cond.instanceMethod yX0_remember, Cond.selects RX0 yX0_remember yX0_remember, Cond.initialized RX0, Cond.code yX0_remember cX0_remember 2 none]
def wsX8_addWords_r4 : List Cond := [Cond.fieldLink RX0 18 "PracticeSheets$History" "size" "I", Cond.fieldLink RX0 11 "PracticeSheets$History" "states" "[LPracticeSheets$State;", Cond.methodLink RX0 22 yX0_dropOldest, Cond.instanceMethod yX0_dropOldest, Cond.selects RX0 yX0_dropOldest yX0_dropOldest, Cond.code yX0_dropOldest cX0_dropOldest 3 none, Cond.methodLink RX0 25 yX4_copyFrom, Cond.instanceMethod yX4_copyFrom, Cond.selects RX4 yX4_copyFrom yX4_copyFrom, Cond.initialized RX4, Cond.code yX4_copyFrom cX4_copyFrom 2 none, Cond.fieldLink RX4 12 "PracticeSheets$State" "practice" "LPracticeSheets$Practice;", Cond.fieldLink RX4 21 "PracticeSheets$State" "words" "LPracticeSheets$WordList;", Cond.fieldLink RX4 25 "PracticeSheets$State" "weeks" "I", Cond.fieldLink RX4 29 "PracticeSheets$State" "untried" "I", Cond.fieldLink RX4 32 "PracticeSheets$State" "written" "I", Cond.fieldLink RX4 35 "PracticeSheets$State" "slips" "I", Cond.fieldLink RX4 38 "PracticeSheets$State" "sheets" "I", Cond.methodLink RX4 71 yX1_copyFrom, Cond.instanceMethod yX1_copyFrom, Cond.selects RX1 yX1_copyFrom yX1_copyFrom, Cond.initialized RX1, Cond.code yX1_copyFrom cX1_copyFrom 2 none, Cond.fieldLink RX1 9 "PracticeSheets$Practice" "tries" "[I"]
def wsX8_addWords_r5 : List Cond := [Cond.methodLink RX1 63 arraycopyName, Cond.fieldLink RX1 15 "PracticeSheets$Practice" "slips" "[I", Cond.methodLink RX4 75 yX7_copyFrom]
def wsX8_addWords : List Cond := .code yX8_addWords cX8_addWords 4 (some .int) :: ((wsX8_addWords_r1 ++ (wsX8_addWords_r2 ++ (wsX8_addWords_r3 ++ (wsX8_addWords_r4 ++ wsX8_addWords_r5)))) ++ wsX80 ++ wsX40 ++ wsX70 ++ wsX50 ++ wsX60 ++ wsX00 ++ wsX10)
def wsX8_removeWord_r1 : List Cond := [Cond.fieldLink RX8 12 "PracticeSheets" "now" "LPracticeSheets$State;", Cond.fieldLink RX8 25 "PracticeSheets" "history" "LPracticeSheets$History;", Cond.methodLink RX8 109 yX7_at, Cond.instanceMethod yX7_at, Cond.selects RX7 yX7_at yX7_at, Cond.initialized RX7, Cond.code yX7_at cX7_at 2 (some (.object "PracticeSheets$Word")), Cond.fieldLink RX7 18 "PracticeSheets$WordList" "size" "I", Cond.fieldLink RX7 11 "PracticeSheets$WordList" "words" "[LPracticeSheets$Word;", Cond.methodLink RX8 58 yX0_remember, Cond.instanceMethod yX0_remember, Cond.selects RX0 yX0_remember yX0_remember, Cond.initialized RX0, Cond.code yX0_remember cX0_remember 2 none, Cond.fieldLink RX0 18 "PracticeSheets$History" "size" "I", Cond.fieldLink RX0 11 "PracticeSheets$History" "states" "[LPracticeSheets$State;", Cond.methodLink RX0 22 yX0_dropOldest, Cond.instanceMethod yX0_dropOldest, Cond.selects RX0 yX0_dropOldest yX0_dropOldest, Cond.code yX0_dropOldest cX0_dropOldest 3 none, Cond.methodLink RX0 25 yX4_copyFrom, Cond.instanceMethod yX4_copyFrom, Cond.selects RX4 yX4_copyFrom yX4_copyFrom, Cond.initialized RX4]
def wsX8_removeWord_r2 : List Cond := [Cond.code yX4_copyFrom cX4_copyFrom 2 none, Cond.fieldLink RX4 12 "PracticeSheets$State" "practice" "LPracticeSheets$Practice;", Cond.fieldLink RX4 21 "PracticeSheets$State" "words" "LPracticeSheets$WordList;", Cond.fieldLink RX4 25 "PracticeSheets$State" "weeks" "I", Cond.fieldLink RX4 29 "PracticeSheets$State" "untried" "I", Cond.fieldLink RX4 32 "PracticeSheets$State" "written" "I", Cond.fieldLink RX4 35 "PracticeSheets$State" "slips" "I", Cond.fieldLink RX4 38 "PracticeSheets$State" "sheets" "I", Cond.methodLink RX4 71 yX1_copyFrom, Cond.instanceMethod yX1_copyFrom, Cond.selects RX1 yX1_copyFrom yX1_copyFrom, Cond.initialized RX1, Cond.code yX1_copyFrom cX1_copyFrom 2 none, Cond.fieldLink RX1 9 "PracticeSheets$Practice" "tries" "[I", Cond.methodLink RX1 63 arraycopyName, Cond.native arraycopyName, Cond.static arraycopyName, Cond.initialized "java/lang/System", Cond.fieldLink RX1 15 "PracticeSheets$Practice" "slips" "[I", Cond.methodLink RX4 75 yX7_copyFrom, Cond.instanceMethod yX7_copyFrom, Cond.selects RX7 yX7_copyFrom yX7_copyFrom, Cond.code yX7_copyFrom cX7_copyFrom 3 none, Cond.methodLink RX7 26 yX6_copyFrom]
def wsX8_removeWord_r3 : List Cond := [Cond.instanceMethod yX6_copyFrom, Cond.selects RX6 yX6_copyFrom yX6_copyFrom, Cond.initialized RX6, Cond.code yX6_copyFrom cX6_copyFrom 2 none, Cond.fieldLink RX6 9 "PracticeSheets$Word" "letters" "[I", Cond.methodLink RX6 37 arraycopyName, Cond.fieldLink RX6 15 "PracticeSheets$Word" "parts" "[I", Cond.fieldLink RX6 18 "PracticeSheets$Word" "length" "I", Cond.fieldLink RX6 22 "PracticeSheets$Word" "partCount" "I", Cond.methodLink RX8 113 yX7_drop, Cond.instanceMethod yX7_drop, Cond.selects RX7 yX7_drop yX7_drop, Cond.code yX7_drop cX7_drop 3 none]
def wsX8_removeWord : List Cond := .code yX8_removeWord cX8_removeWord 2 (some .int) :: ((wsX8_removeWord_r1 ++ (wsX8_removeWord_r2 ++ wsX8_removeWord_r3)) ++ wsX80 ++ wsX40 ++ wsX70 ++ wsX00 ++ wsX10 ++ wsX60)
def wsX8_areLines : List Cond := .code yX8_areLines cX8_areLines 1 (some .boolean) :: ([])
def wsX8_doSheet_r1 : List Cond := [Cond.fieldLink RX8 39 "PracticeSheets" "plan" "LPracticeSheets$Sheet;", Cond.fieldLink RX8 12 "PracticeSheets" "now" "LPracticeSheets$State;", Cond.fieldLink RX8 25 "PracticeSheets" "history" "LPracticeSheets$History;", Cond.methodLink RX8 117 yX8_areLines, Cond.static yX8_areLines, Cond.initialized RX8, Cond.code yX8_areLines cX8_areLines 1 (some .boolean), Cond.methodLink RX8 121 yX3_choose, Cond.instanceMethod yX3_choose, Cond.selects RX3 yX3_choose yX3_choose, Cond.initialized RX3, Cond.code yX3_choose cX3_choose 5 none, Cond.methodLink RX3 29 yX3_clear, Cond.instanceMethod yX3_clear, Cond.selects RX3 yX3_clear yX3_clear, Cond.code yX3_clear cX3_clear 2 none, Cond.fieldLink RX3 18 "PracticeSheets$Sheet" "isCovered" "[Z", Cond.fieldLink RX3 22 "PracticeSheets$Sheet" "isTaken" "[Z", Cond.fieldLink RX3 25 "PracticeSheets$Sheet" "size" "I", Cond.methodLink RX3 32 yX3_chooseLine, Cond.instanceMethod yX3_chooseLine, Cond.selects RX3 yX3_chooseLine yX3_chooseLine, Cond.code yX3_chooseLine cX3_chooseLine 8 (some .boolean), Cond.methodLink RX3 47 yX3_gainOf]
def wsX8_doSheet_r2 : List Cond := [Cond.instanceMethod yX3_gainOf, Cond.selects RX3 yX3_gainOf yX3_gainOf, Cond.code yX3_gainOf cX3_gainOf 6 (some .int), Cond.methodLink RX3 74 yX1_isUntried, Cond.instanceMethod yX1_isUntried, Cond.selects RX1 yX1_isUntried yX1_isUntried, Cond.initialized RX1, Cond.code yX1_isUntried cX1_isUntried 2 (some .boolean), Cond.methodLink RX1 26 yX1_triesOf, Cond.instanceMethod yX1_triesOf, Cond.selects RX1 yX1_triesOf yX1_triesOf, Cond.code yX1_triesOf cX1_triesOf 2 (some .int), Cond.fieldLink RX1 9 "PracticeSheets$Practice" "tries" "[I", Cond.static yX8_isPart, Cond.code yX8_isPart cX8_isPart 1 (some .boolean), Cond.methodLink RX3 82 yX1_needOf, Cond.instanceMethod yX1_needOf, Cond.selects RX1 yX1_needOf yX1_needOf, Cond.code yX1_needOf cX1_needOf 2 (some .int), Cond.methodLink RX1 29 Lib.Math.max.name, Cond.static Lib.Math.max.name, Cond.initialized "java/lang/Math", Cond.code Lib.Math.max.name Lib.Math.max.code 2 (some .int), Cond.methodLink RX1 22 yX1_slipsOf]
def wsX8_doSheet_r3 : List Cond := [Cond.instanceMethod yX1_slipsOf, Cond.selects RX1 yX1_slipsOf yX1_slipsOf, Cond.code yX1_slipsOf cX1_slipsOf 2 (some .int), Cond.fieldLink RX1 15 "PracticeSheets$Practice" "slips" "[I", Cond.methodLink RX3 56 yX3_addLine, Cond.instanceMethod yX3_addLine, Cond.selects RX3 yX3_addLine yX3_addLine, Cond.code yX3_addLine cX3_addLine 5 none, Cond.fieldLink RX3 9 "PracticeSheets$Sheet" "words" "[I", Cond.fieldLink RX3 15 "PracticeSheets$Sheet" "gains" "[I", Cond.methodLink RX8 58 yX0_remember, Cond.instanceMethod yX0_remember, Cond.selects RX0 yX0_remember yX0_remember, Cond.initialized RX0, Cond.code yX0_remember cX0_remember 2 none, Cond.fieldLink RX0 18 "PracticeSheets$History" "size" "I", Cond.fieldLink RX0 11 "PracticeSheets$History" "states" "[LPracticeSheets$State;", Cond.methodLink RX0 22 yX0_dropOldest, Cond.instanceMethod yX0_dropOldest, Cond.selects RX0 yX0_dropOldest yX0_dropOldest, Cond.code yX0_dropOldest cX0_dropOldest 3 none, Cond.methodLink RX0 25 yX4_copyFrom, Cond.instanceMethod yX4_copyFrom, Cond.selects RX4 yX4_copyFrom yX4_copyFrom]
def wsX8_doSheet_r4 : List Cond := [Cond.initialized RX4, Cond.code yX4_copyFrom cX4_copyFrom 2 none, Cond.fieldLink RX4 12 "PracticeSheets$State" "practice" "LPracticeSheets$Practice;", Cond.fieldLink RX4 21 "PracticeSheets$State" "words" "LPracticeSheets$WordList;", Cond.fieldLink RX4 25 "PracticeSheets$State" "weeks" "I", Cond.fieldLink RX4 29 "PracticeSheets$State" "untried" "I", Cond.fieldLink RX4 32 "PracticeSheets$State" "written" "I", Cond.fieldLink RX4 35 "PracticeSheets$State" "slips" "I", Cond.fieldLink RX4 38 "PracticeSheets$State" "sheets" "I", Cond.methodLink RX4 71 yX1_copyFrom, Cond.instanceMethod yX1_copyFrom, Cond.selects RX1 yX1_copyFrom yX1_copyFrom, Cond.code yX1_copyFrom cX1_copyFrom 2 none, Cond.methodLink RX1 63 arraycopyName, Cond.native arraycopyName, Cond.static arraycopyName, Cond.initialized "java/lang/System", Cond.methodLink RX4 75 yX7_copyFrom, Cond.instanceMethod yX7_copyFrom, Cond.selects RX7 yX7_copyFrom yX7_copyFrom, Cond.initialized RX7, Cond.code yX7_copyFrom cX7_copyFrom 3 none, Cond.fieldLink RX7 18 "PracticeSheets$WordList" "size" "I", Cond.fieldLink RX7 11 "PracticeSheets$WordList" "words" "[LPracticeSheets$Word;"]
def wsX8_doSheet_r5 : List Cond := [Cond.methodLink RX7 26 yX6_copyFrom, Cond.instanceMethod yX6_copyFrom, Cond.selects RX6 yX6_copyFrom yX6_copyFrom, Cond.initialized RX6, Cond.code yX6_copyFrom cX6_copyFrom 2 none, Cond.fieldLink RX6 9 "PracticeSheets$Word" "letters" "[I", Cond.methodLink RX6 37 arraycopyName, Cond.fieldLink RX6 15 "PracticeSheets$Word" "parts" "[I", Cond.fieldLink RX6 18 "PracticeSheets$Word" "length" "I", Cond.fieldLink RX6 22 "PracticeSheets$Word" "partCount" "I", Cond.methodLink RX8 126 yX4_practise, Cond.instanceMethod yX4_practise, Cond.selects RX4 yX4_practise yX4_practise, Cond.code yX4_practise cX4_practise 4 none, Cond.methodLink RX4 49 yX7_at, Cond.instanceMethod yX7_at, Cond.selects RX7 yX7_at yX7_at, Cond.code yX7_at cX7_at 2 (some (.object "PracticeSheets$Word")), Cond.methodLink RX4 53 yX1_addTriesOf, Cond.instanceMethod yX1_addTriesOf, Cond.selects RX1 yX1_addTriesOf yX1_addTriesOf, Cond.code yX1_addTriesOf cX1_addTriesOf 3 none, Cond.methodLink RX1 44 yX1_addTry, Cond.instanceMethod yX1_addTry]
def wsX8_doSheet_r6 : List Cond := [Cond.selects RX1 yX1_addTry yX1_addTry, Cond.code yX1_addTry cX1_addTry 2 none, Cond.static yX8_joinPart, Cond.code yX8_joinPart cX8_joinPart 2 (some .int)]
def wsX8_doSheet : List Cond := .code yX8_doSheet cX8_doSheet 2 (some .int) :: ((wsX8_doSheet_r1 ++ (wsX8_doSheet_r2 ++ (wsX8_doSheet_r3 ++ (wsX8_doSheet_r4 ++ (wsX8_doSheet_r5 ++ wsX8_doSheet_r6))))) ++ wsX80 ++ wsX30 ++ wsX40 ++ wsX70 ++ wsX60 ++ wsX10 ++ wsX00)
def wsX8_type : List Cond := .code yX8_type cX8_type 2 (some .int) :: ([.fieldLink RX8 32 "PracticeSheets" "text" "LPracticeSheets$Text;", .methodLink RX8 130 yX5_append, .instanceMethod yX5_append, .selects RX5 yX5_append yX5_append, .initialized RX5, .code yX5_append cX5_append 2 (some .boolean), .fieldLink RX5 22 "PracticeSheets$Text" "length" "I", .fieldLink RX5 9 "PracticeSheets$Text" "signs" "[C"] ++ wsX80 ++ wsX50)
def wsX8_clearText : List Cond := .code yX8_clearText cX8_clearText 2 (some .int) :: ([.fieldLink RX8 32 "PracticeSheets" "text" "LPracticeSheets$Text;"] ++ wsX80 ++ wsX50)
def wsX8_undo_r1 : List Cond := [Cond.fieldLink RX8 25 "PracticeSheets" "history" "LPracticeSheets$History;", Cond.fieldLink RX8 12 "PracticeSheets" "now" "LPracticeSheets$State;", Cond.methodLink RX8 137 yX0_takeBack, Cond.instanceMethod yX0_takeBack, Cond.selects RX0 yX0_takeBack yX0_takeBack, Cond.initialized RX0, Cond.code yX0_takeBack cX0_takeBack 2 (some .boolean), Cond.fieldLink RX0 18 "PracticeSheets$History" "size" "I", Cond.fieldLink RX0 11 "PracticeSheets$History" "states" "[LPracticeSheets$State;", Cond.methodLink RX0 25 yX4_copyFrom, Cond.instanceMethod yX4_copyFrom, Cond.selects RX4 yX4_copyFrom yX4_copyFrom, Cond.initialized RX4, Cond.code yX4_copyFrom cX4_copyFrom 2 none, Cond.fieldLink RX4 12 "PracticeSheets$State" "practice" "LPracticeSheets$Practice;", Cond.fieldLink RX4 21 "PracticeSheets$State" "words" "LPracticeSheets$WordList;", Cond.fieldLink RX4 25 "PracticeSheets$State" "weeks" "I", Cond.fieldLink RX4 29 "PracticeSheets$State" "untried" "I", Cond.fieldLink RX4 32 "PracticeSheets$State" "written" "I", Cond.fieldLink RX4 35 "PracticeSheets$State" "slips" "I", Cond.fieldLink RX4 38 "PracticeSheets$State" "sheets" "I", Cond.methodLink RX4 71 yX1_copyFrom, Cond.instanceMethod yX1_copyFrom, Cond.selects RX1 yX1_copyFrom yX1_copyFrom]
def wsX8_undo_r2 : List Cond := [Cond.initialized RX1, Cond.code yX1_copyFrom cX1_copyFrom 2 none, Cond.fieldLink RX1 9 "PracticeSheets$Practice" "tries" "[I", Cond.methodLink RX1 63 arraycopyName, Cond.native arraycopyName, Cond.static arraycopyName, Cond.initialized "java/lang/System", Cond.fieldLink RX1 15 "PracticeSheets$Practice" "slips" "[I", Cond.methodLink RX4 75 yX7_copyFrom, Cond.instanceMethod yX7_copyFrom, Cond.selects RX7 yX7_copyFrom yX7_copyFrom, Cond.initialized RX7, Cond.code yX7_copyFrom cX7_copyFrom 3 none, Cond.fieldLink RX7 18 "PracticeSheets$WordList" "size" "I", Cond.fieldLink RX7 11 "PracticeSheets$WordList" "words" "[LPracticeSheets$Word;", Cond.methodLink RX7 26 yX6_copyFrom, Cond.instanceMethod yX6_copyFrom, Cond.selects RX6 yX6_copyFrom yX6_copyFrom, Cond.initialized RX6, Cond.code yX6_copyFrom cX6_copyFrom 2 none, Cond.fieldLink RX6 9 "PracticeSheets$Word" "letters" "[I", Cond.methodLink RX6 37 arraycopyName, Cond.fieldLink RX6 15 "PracticeSheets$Word" "parts" "[I", Cond.fieldLink RX6 18 "PracticeSheets$Word" "length" "I"]
def wsX8_undo_r3 : List Cond := [Cond.fieldLink RX6 22 "PracticeSheets$Word" "partCount" "I"]
def wsX8_undo : List Cond := .code yX8_undo cX8_undo 1 (some .int) :: ((wsX8_undo_r1 ++ (wsX8_undo_r2 ++ wsX8_undo_r3)) ++ wsX80 ++ wsX00 ++ wsX40 ++ wsX10 ++ wsX70 ++ wsX60)
def wsX8_keep_r1 : List Cond := [Cond.fieldLink RX8 16 "PracticeSheets" "snapshot" "LPracticeSheets$State;", Cond.fieldLink RX8 12 "PracticeSheets" "now" "LPracticeSheets$State;", Cond.fieldLink RX8 50 "PracticeSheets" "hasSnapshot" "Z", Cond.methodLink RX8 142 yX4_copyFrom, Cond.instanceMethod yX4_copyFrom, Cond.selects RX4 yX4_copyFrom yX4_copyFrom, Cond.initialized RX4, Cond.code yX4_copyFrom cX4_copyFrom 2 none, Cond.fieldLink RX4 12 "PracticeSheets$State" "practice" "LPracticeSheets$Practice;", Cond.fieldLink RX4 21 "PracticeSheets$State" "words" "LPracticeSheets$WordList;", Cond.fieldLink RX4 25 "PracticeSheets$State" "weeks" "I", Cond.fieldLink RX4 29 "PracticeSheets$State" "untried" "I", Cond.fieldLink RX4 32 "PracticeSheets$State" "written" "I", Cond.fieldLink RX4 35 "PracticeSheets$State" "slips" "I", Cond.fieldLink RX4 38 "PracticeSheets$State" "sheets" "I", Cond.methodLink RX4 71 yX1_copyFrom, Cond.instanceMethod yX1_copyFrom, Cond.selects RX1 yX1_copyFrom yX1_copyFrom, Cond.initialized RX1, Cond.code yX1_copyFrom cX1_copyFrom 2 none, Cond.fieldLink RX1 9 "PracticeSheets$Practice" "tries" "[I", Cond.methodLink RX1 63 arraycopyName, Cond.native arraycopyName, Cond.static arraycopyName]
def wsX8_keep_r2 : List Cond := [Cond.initialized "java/lang/System", Cond.fieldLink RX1 15 "PracticeSheets$Practice" "slips" "[I", Cond.methodLink RX4 75 yX7_copyFrom, Cond.instanceMethod yX7_copyFrom, Cond.selects RX7 yX7_copyFrom yX7_copyFrom, Cond.initialized RX7, Cond.code yX7_copyFrom cX7_copyFrom 3 none, Cond.fieldLink RX7 18 "PracticeSheets$WordList" "size" "I", Cond.fieldLink RX7 11 "PracticeSheets$WordList" "words" "[LPracticeSheets$Word;", Cond.methodLink RX7 26 yX6_copyFrom, Cond.instanceMethod yX6_copyFrom, Cond.selects RX6 yX6_copyFrom yX6_copyFrom, Cond.initialized RX6, Cond.code yX6_copyFrom cX6_copyFrom 2 none, Cond.fieldLink RX6 9 "PracticeSheets$Word" "letters" "[I", Cond.methodLink RX6 37 arraycopyName, Cond.fieldLink RX6 15 "PracticeSheets$Word" "parts" "[I", Cond.fieldLink RX6 18 "PracticeSheets$Word" "length" "I", Cond.fieldLink RX6 22 "PracticeSheets$Word" "partCount" "I"]
def wsX8_keep : List Cond := .code yX8_keep cX8_keep 1 (some .int) :: ((wsX8_keep_r1 ++ wsX8_keep_r2) ++ wsX80 ++ wsX40 ++ wsX70 ++ wsX10 ++ wsX60)
def wsX8_restore_r1 : List Cond := [Cond.fieldLink RX8 50 "PracticeSheets" "hasSnapshot" "Z", Cond.fieldLink RX8 25 "PracticeSheets" "history" "LPracticeSheets$History;", Cond.fieldLink RX8 12 "PracticeSheets" "now" "LPracticeSheets$State;", Cond.fieldLink RX8 16 "PracticeSheets" "snapshot" "LPracticeSheets$State;", Cond.methodLink RX8 58 yX0_remember, Cond.instanceMethod yX0_remember, Cond.selects RX0 yX0_remember yX0_remember, Cond.initialized RX0, Cond.code yX0_remember cX0_remember 2 none, Cond.fieldLink RX0 18 "PracticeSheets$History" "size" "I", Cond.fieldLink RX0 11 "PracticeSheets$History" "states" "[LPracticeSheets$State;", Cond.methodLink RX0 22 yX0_dropOldest, Cond.instanceMethod yX0_dropOldest, Cond.selects RX0 yX0_dropOldest yX0_dropOldest, Cond.code yX0_dropOldest cX0_dropOldest 3 none, Cond.methodLink RX0 25 yX4_copyFrom, Cond.instanceMethod yX4_copyFrom, Cond.selects RX4 yX4_copyFrom yX4_copyFrom, Cond.initialized RX4, Cond.code yX4_copyFrom cX4_copyFrom 2 none, Cond.fieldLink RX4 12 "PracticeSheets$State" "practice" "LPracticeSheets$Practice;", Cond.fieldLink RX4 21 "PracticeSheets$State" "words" "LPracticeSheets$WordList;", Cond.fieldLink RX4 25 "PracticeSheets$State" "weeks" "I", Cond.fieldLink RX4 29 "PracticeSheets$State" "untried" "I"]
def wsX8_restore_r2 : List Cond := [Cond.fieldLink RX4 32 "PracticeSheets$State" "written" "I", Cond.fieldLink RX4 35 "PracticeSheets$State" "slips" "I", Cond.fieldLink RX4 38 "PracticeSheets$State" "sheets" "I", Cond.methodLink RX4 71 yX1_copyFrom, Cond.instanceMethod yX1_copyFrom, Cond.selects RX1 yX1_copyFrom yX1_copyFrom, Cond.initialized RX1, Cond.code yX1_copyFrom cX1_copyFrom 2 none, Cond.fieldLink RX1 9 "PracticeSheets$Practice" "tries" "[I", Cond.methodLink RX1 63 arraycopyName, Cond.native arraycopyName, Cond.static arraycopyName, Cond.initialized "java/lang/System", Cond.fieldLink RX1 15 "PracticeSheets$Practice" "slips" "[I", Cond.methodLink RX4 75 yX7_copyFrom, Cond.instanceMethod yX7_copyFrom, Cond.selects RX7 yX7_copyFrom yX7_copyFrom, Cond.initialized RX7, Cond.code yX7_copyFrom cX7_copyFrom 3 none, Cond.fieldLink RX7 18 "PracticeSheets$WordList" "size" "I", Cond.fieldLink RX7 11 "PracticeSheets$WordList" "words" "[LPracticeSheets$Word;", Cond.methodLink RX7 26 yX6_copyFrom, Cond.instanceMethod yX6_copyFrom, Cond.selects RX6 yX6_copyFrom yX6_copyFrom]
def wsX8_restore_r3 : List Cond := [Cond.initialized RX6, Cond.code yX6_copyFrom cX6_copyFrom 2 none, Cond.fieldLink RX6 9 "PracticeSheets$Word" "letters" "[I", Cond.methodLink RX6 37 arraycopyName, Cond.fieldLink RX6 15 "PracticeSheets$Word" "parts" "[I", Cond.fieldLink RX6 18 "PracticeSheets$Word" "length" "I", Cond.fieldLink RX6 22 "PracticeSheets$Word" "partCount" "I", Cond.methodLink RX8 142 yX4_copyFrom]
def wsX8_restore : List Cond := .code yX8_restore cX8_restore 1 (some .int) :: ((wsX8_restore_r1 ++ (wsX8_restore_r2 ++ wsX8_restore_r3)) ++ wsX80 ++ wsX40 ++ wsX70 ++ wsX00 ++ wsX10 ++ wsX60)
def wsX8_toldOfPart_r1 : List Cond := [Cond.fieldLink RX8 12 "PracticeSheets" "now" "LPracticeSheets$State;", Cond.methodLink RX8 225 yX1_triesOf, Cond.instanceMethod yX1_triesOf, Cond.selects RX1 yX1_triesOf yX1_triesOf, Cond.initialized RX1, Cond.code yX1_triesOf cX1_triesOf 2 (some .int), Cond.fieldLink RX1 9 "PracticeSheets$Practice" "tries" "[I", Cond.static yX8_isPart, Cond.initialized RX8, Cond.code yX8_isPart cX8_isPart 1 (some .boolean), Cond.methodLink RX8 228 yX1_slipsOf, Cond.instanceMethod yX1_slipsOf, Cond.selects RX1 yX1_slipsOf yX1_slipsOf, Cond.code yX1_slipsOf cX1_slipsOf 2 (some .int), Cond.fieldLink RX1 15 "PracticeSheets$Practice" "slips" "[I", Cond.methodLink RX8 207 yX1_needOf, Cond.instanceMethod yX1_needOf, Cond.selects RX1 yX1_needOf yX1_needOf, Cond.code yX1_needOf cX1_needOf 2 (some .int), Cond.methodLink RX1 29 Lib.Math.max.name, Cond.static Lib.Math.max.name, Cond.initialized "java/lang/Math", Cond.code Lib.Math.max.name Lib.Math.max.code 2 (some .int), Cond.methodLink RX1 22 yX1_slipsOf]
def wsX8_toldOfPart_r2 : List Cond := [Cond.methodLink RX1 26 yX1_triesOf, Cond.methodLink RX8 210 yX7_howManyHave, Cond.instanceMethod yX7_howManyHave, Cond.selects RX7 yX7_howManyHave yX7_howManyHave, Cond.initialized RX7, Cond.code yX7_howManyHave cX7_howManyHave 4 (some .int), Cond.fieldLink RX7 18 "PracticeSheets$WordList" "size" "I", Cond.fieldLink RX7 11 "PracticeSheets$WordList" "words" "[LPracticeSheets$Word;", Cond.methodLink RX7 30 yX6_has, Cond.instanceMethod yX6_has, Cond.selects RX6 yX6_has yX6_has, Cond.initialized RX6, Cond.code yX6_has cX6_has 3 (some .boolean), Cond.fieldLink RX6 22 "PracticeSheets$Word" "partCount" "I", Cond.fieldLink RX6 15 "PracticeSheets$Word" "parts" "[I"]
def wsX8_toldOfPart : List Cond := .code yX8_toldOfPart cX8_toldOfPart 3 (some .int) :: ((wsX8_toldOfPart_r1 ++ wsX8_toldOfPart_r2) ++ wsX80 ++ wsX40 ++ wsX10 ++ wsX70 ++ wsX60)
def wsX8_letter_r1 : List Cond := [Cond.methodLink RX8 144 yX8_isLetter, Cond.static yX8_isLetter, Cond.initialized RX8, Cond.code yX8_isLetter cX8_isLetter 1 (some .boolean), Cond.methodLink RX8 147 yX8_letterNumber, Cond.static yX8_letterNumber, Cond.code yX8_letterNumber cX8_letterNumber 1 (some .int), Cond.methodLink RX8 151 yX8_toldOfPart, Cond.instanceMethod yX8_toldOfPart, Cond.selects RX8 yX8_toldOfPart yX8_toldOfPart, Cond.code yX8_toldOfPart cX8_toldOfPart 3 (some .int), Cond.fieldLink RX8 12 "PracticeSheets" "now" "LPracticeSheets$State;", Cond.methodLink RX8 225 yX1_triesOf, Cond.instanceMethod yX1_triesOf, Cond.selects RX1 yX1_triesOf yX1_triesOf, Cond.initialized RX1, Cond.code yX1_triesOf cX1_triesOf 2 (some .int), Cond.fieldLink RX1 9 "PracticeSheets$Practice" "tries" "[I", Cond.static yX8_isPart, Cond.code yX8_isPart cX8_isPart 1 (some .boolean), Cond.methodLink RX8 228 yX1_slipsOf, Cond.instanceMethod yX1_slipsOf, Cond.selects RX1 yX1_slipsOf yX1_slipsOf, Cond.code yX1_slipsOf cX1_slipsOf 2 (some .int)]
def wsX8_letter_r2 : List Cond := [Cond.fieldLink RX1 15 "PracticeSheets$Practice" "slips" "[I", Cond.methodLink RX8 207 yX1_needOf, Cond.instanceMethod yX1_needOf, Cond.selects RX1 yX1_needOf yX1_needOf, Cond.code yX1_needOf cX1_needOf 2 (some .int), Cond.methodLink RX1 29 Lib.Math.max.name, Cond.static Lib.Math.max.name, Cond.initialized "java/lang/Math", Cond.code Lib.Math.max.name Lib.Math.max.code 2 (some .int), Cond.methodLink RX1 22 yX1_slipsOf, Cond.methodLink RX1 26 yX1_triesOf, Cond.methodLink RX8 210 yX7_howManyHave, Cond.instanceMethod yX7_howManyHave, Cond.selects RX7 yX7_howManyHave yX7_howManyHave, Cond.initialized RX7, Cond.code yX7_howManyHave cX7_howManyHave 4 (some .int), Cond.fieldLink RX7 18 "PracticeSheets$WordList" "size" "I", Cond.fieldLink RX7 11 "PracticeSheets$WordList" "words" "[LPracticeSheets$Word;", Cond.methodLink RX7 30 yX6_has, Cond.instanceMethod yX6_has, Cond.selects RX6 yX6_has yX6_has, Cond.initialized RX6, Cond.code yX6_has cX6_has 3 (some .boolean), Cond.fieldLink RX6 22 "PracticeSheets$Word" "partCount" "I"]
def wsX8_letter_r3 : List Cond := [Cond.fieldLink RX6 15 "PracticeSheets$Word" "parts" "[I"]
def wsX8_letter : List Cond := .code yX8_letter cX8_letter 3 (some .int) :: ((wsX8_letter_r1 ++ (wsX8_letter_r2 ++ wsX8_letter_r3)) ++ wsX80 ++ wsX40 ++ wsX10 ++ wsX70 ++ wsX60)
def wsX8_join_r1 : List Cond := [Cond.methodLink RX8 144 yX8_isLetter, Cond.static yX8_isLetter, Cond.initialized RX8, Cond.code yX8_isLetter cX8_isLetter 1 (some .boolean), Cond.methodLink RX8 147 yX8_letterNumber, Cond.static yX8_letterNumber, Cond.code yX8_letterNumber cX8_letterNumber 1 (some .int), Cond.methodLink RX8 155 yX8_joinPart, Cond.static yX8_joinPart, Cond.code yX8_joinPart cX8_joinPart 2 (some .int), Cond.methodLink RX8 151 yX8_toldOfPart, Cond.instanceMethod yX8_toldOfPart, Cond.selects RX8 yX8_toldOfPart yX8_toldOfPart, Cond.code yX8_toldOfPart cX8_toldOfPart 3 (some .int), Cond.fieldLink RX8 12 "PracticeSheets" "now" "LPracticeSheets$State;", Cond.methodLink RX8 225 yX1_triesOf, Cond.instanceMethod yX1_triesOf, Cond.selects RX1 yX1_triesOf yX1_triesOf, Cond.initialized RX1, Cond.code yX1_triesOf cX1_triesOf 2 (some .int), Cond.fieldLink RX1 9 "PracticeSheets$Practice" "tries" "[I", Cond.static yX8_isPart, Cond.code yX8_isPart cX8_isPart 1 (some .boolean), Cond.methodLink RX8 228 yX1_slipsOf]
def wsX8_join_r2 : List Cond := [Cond.instanceMethod yX1_slipsOf, Cond.selects RX1 yX1_slipsOf yX1_slipsOf, Cond.code yX1_slipsOf cX1_slipsOf 2 (some .int), Cond.fieldLink RX1 15 "PracticeSheets$Practice" "slips" "[I", Cond.methodLink RX8 207 yX1_needOf, Cond.instanceMethod yX1_needOf, Cond.selects RX1 yX1_needOf yX1_needOf, Cond.code yX1_needOf cX1_needOf 2 (some .int), Cond.methodLink RX1 29 Lib.Math.max.name, Cond.static Lib.Math.max.name, Cond.initialized "java/lang/Math", Cond.code Lib.Math.max.name Lib.Math.max.code 2 (some .int), Cond.methodLink RX1 22 yX1_slipsOf, Cond.methodLink RX1 26 yX1_triesOf, Cond.methodLink RX8 210 yX7_howManyHave, Cond.instanceMethod yX7_howManyHave, Cond.selects RX7 yX7_howManyHave yX7_howManyHave, Cond.initialized RX7, Cond.code yX7_howManyHave cX7_howManyHave 4 (some .int), Cond.fieldLink RX7 18 "PracticeSheets$WordList" "size" "I", Cond.fieldLink RX7 11 "PracticeSheets$WordList" "words" "[LPracticeSheets$Word;", Cond.methodLink RX7 30 yX6_has, Cond.instanceMethod yX6_has, Cond.selects RX6 yX6_has yX6_has]
def wsX8_join_r3 : List Cond := [Cond.initialized RX6, Cond.code yX6_has cX6_has 3 (some .boolean), Cond.fieldLink RX6 22 "PracticeSheets$Word" "partCount" "I", Cond.fieldLink RX6 15 "PracticeSheets$Word" "parts" "[I"]
def wsX8_join : List Cond := .code yX8_join cX8_join 4 (some .int) :: ((wsX8_join_r1 ++ (wsX8_join_r2 ++ wsX8_join_r3)) ++ wsX80 ++ wsX40 ++ wsX10 ++ wsX70 ++ wsX60)
def wsX8_word_r1 : List Cond := [Cond.fieldLink RX8 12 "PracticeSheets" "now" "LPracticeSheets$State;", Cond.fieldLink RX8 39 "PracticeSheets" "plan" "LPracticeSheets$Sheet;", Cond.methodLink RX8 109 yX7_at, Cond.instanceMethod yX7_at, Cond.selects RX7 yX7_at yX7_at, Cond.initialized RX7, Cond.code yX7_at cX7_at 2 (some (.object "PracticeSheets$Word")), Cond.fieldLink RX7 18 "PracticeSheets$WordList" "size" "I", Cond.fieldLink RX7 11 "PracticeSheets$WordList" "words" "[LPracticeSheets$Word;", Cond.methodLink RX8 161 yX1_needOfAll, Cond.instanceMethod yX1_needOfAll, Cond.selects RX1 yX1_needOfAll yX1_needOfAll, Cond.initialized RX1, Cond.code yX1_needOfAll cX1_needOfAll 4 (some .int), Cond.methodLink RX1 57 yX1_needOf, Cond.instanceMethod yX1_needOf, Cond.selects RX1 yX1_needOf yX1_needOf, Cond.code yX1_needOf cX1_needOf 2 (some .int), Cond.methodLink RX1 29 Lib.Math.max.name, Cond.static Lib.Math.max.name, Cond.initialized "java/lang/Math", Cond.code Lib.Math.max.name Lib.Math.max.code 2 (some .int), Cond.methodLink RX1 22 yX1_slipsOf, Cond.instanceMethod yX1_slipsOf]
def wsX8_word_r2 : List Cond := [Cond.selects RX1 yX1_slipsOf yX1_slipsOf, Cond.code yX1_slipsOf cX1_slipsOf 2 (some .int), Cond.fieldLink RX1 15 "PracticeSheets$Practice" "slips" "[I", Cond.static yX8_isPart, Cond.initialized RX8, Cond.code yX8_isPart cX8_isPart 1 (some .boolean), Cond.methodLink RX1 26 yX1_triesOf, Cond.instanceMethod yX1_triesOf, Cond.selects RX1 yX1_triesOf yX1_triesOf, Cond.code yX1_triesOf cX1_triesOf 2 (some .int), Cond.fieldLink RX1 9 "PracticeSheets$Practice" "tries" "[I", Cond.methodLink RX8 168 yX1_untriedOf, Cond.instanceMethod yX1_untriedOf, Cond.selects RX1 yX1_untriedOf yX1_untriedOf, Cond.code yX1_untriedOf cX1_untriedOf 4 (some .int), Cond.methodLink RX1 60 yX1_isUntried, Cond.instanceMethod yX1_isUntried, Cond.selects RX1 yX1_isUntried yX1_isUntried, Cond.code yX1_isUntried cX1_isUntried 2 (some .boolean), Cond.methodLink RX8 171 yX3_clear, Cond.instanceMethod yX3_clear, Cond.selects RX3 yX3_clear yX3_clear, Cond.initialized RX3, Cond.code yX3_clear cX3_clear 2 none]
def wsX8_word_r3 : List Cond := [Cond.fieldLink RX3 18 "PracticeSheets$Sheet" "isCovered" "[Z", Cond.fieldLink RX3 22 "PracticeSheets$Sheet" "isTaken" "[Z", Cond.fieldLink RX3 25 "PracticeSheets$Sheet" "size" "I", Cond.methodLink RX8 174 yX3_gainOf, Cond.instanceMethod yX3_gainOf, Cond.selects RX3 yX3_gainOf yX3_gainOf, Cond.code yX3_gainOf cX3_gainOf 6 (some .int), Cond.methodLink RX3 74 yX1_isUntried, Cond.methodLink RX3 82 yX1_needOf]
def wsX8_word : List Cond := .code yX8_word cX8_word 4 (some .int) :: ((wsX8_word_r1 ++ (wsX8_word_r2 ++ wsX8_word_r3)) ++ wsX80 ++ wsX40 ++ wsX60 ++ wsX70 ++ wsX10 ++ wsX30)
def wsX8_letterOf : List Cond := .code yX8_letterOf cX8_letterOf 4 (some .int) :: ([.fieldLink RX8 12 "PracticeSheets" "now" "LPracticeSheets$State;", .methodLink RX8 109 yX7_at, .instanceMethod yX7_at, .selects RX7 yX7_at yX7_at, .initialized RX7, .code yX7_at cX7_at 2 (some (.object "PracticeSheets$Word")), .fieldLink RX7 18 "PracticeSheets$WordList" "size" "I", .fieldLink RX7 11 "PracticeSheets$WordList" "words" "[LPracticeSheets$Word;"] ++ wsX80 ++ wsX40 ++ wsX60 ++ wsX70)
def wsX8_sheet_r1 : List Cond := [Cond.fieldLink RX8 39 "PracticeSheets" "plan" "LPracticeSheets$Sheet;", Cond.fieldLink RX8 12 "PracticeSheets" "now" "LPracticeSheets$State;", Cond.methodLink RX8 117 yX8_areLines, Cond.static yX8_areLines, Cond.initialized RX8, Cond.code yX8_areLines cX8_areLines 1 (some .boolean), Cond.methodLink RX8 121 yX3_choose, Cond.instanceMethod yX3_choose, Cond.selects RX3 yX3_choose yX3_choose, Cond.initialized RX3, Cond.code yX3_choose cX3_choose 5 none, Cond.methodLink RX3 29 yX3_clear, Cond.instanceMethod yX3_clear, Cond.selects RX3 yX3_clear yX3_clear, Cond.code yX3_clear cX3_clear 2 none, Cond.fieldLink RX3 18 "PracticeSheets$Sheet" "isCovered" "[Z", Cond.fieldLink RX3 22 "PracticeSheets$Sheet" "isTaken" "[Z", Cond.fieldLink RX3 25 "PracticeSheets$Sheet" "size" "I", Cond.methodLink RX3 32 yX3_chooseLine, Cond.instanceMethod yX3_chooseLine, Cond.selects RX3 yX3_chooseLine yX3_chooseLine, Cond.code yX3_chooseLine cX3_chooseLine 8 (some .boolean), Cond.methodLink RX3 47 yX3_gainOf, Cond.instanceMethod yX3_gainOf]
def wsX8_sheet_r2 : List Cond := [Cond.selects RX3 yX3_gainOf yX3_gainOf, Cond.code yX3_gainOf cX3_gainOf 6 (some .int), Cond.methodLink RX3 74 yX1_isUntried, Cond.instanceMethod yX1_isUntried, Cond.selects RX1 yX1_isUntried yX1_isUntried, Cond.initialized RX1, Cond.code yX1_isUntried cX1_isUntried 2 (some .boolean), Cond.methodLink RX1 26 yX1_triesOf, Cond.instanceMethod yX1_triesOf, Cond.selects RX1 yX1_triesOf yX1_triesOf, Cond.code yX1_triesOf cX1_triesOf 2 (some .int), Cond.fieldLink RX1 9 "PracticeSheets$Practice" "tries" "[I", Cond.static yX8_isPart, Cond.code yX8_isPart cX8_isPart 1 (some .boolean), Cond.methodLink RX3 82 yX1_needOf, Cond.instanceMethod yX1_needOf, Cond.selects RX1 yX1_needOf yX1_needOf, Cond.code yX1_needOf cX1_needOf 2 (some .int), Cond.methodLink RX1 29 Lib.Math.max.name, Cond.static Lib.Math.max.name, Cond.initialized "java/lang/Math", Cond.code Lib.Math.max.name Lib.Math.max.code 2 (some .int), Cond.methodLink RX1 22 yX1_slipsOf, Cond.instanceMethod yX1_slipsOf]
def wsX8_sheet_r3 : List Cond := [Cond.selects RX1 yX1_slipsOf yX1_slipsOf, Cond.code yX1_slipsOf cX1_slipsOf 2 (some .int), Cond.fieldLink RX1 15 "PracticeSheets$Practice" "slips" "[I", Cond.methodLink RX3 56 yX3_addLine, Cond.instanceMethod yX3_addLine, Cond.selects RX3 yX3_addLine yX3_addLine, Cond.code yX3_addLine cX3_addLine 5 none, Cond.fieldLink RX3 9 "PracticeSheets$Sheet" "words" "[I", Cond.fieldLink RX3 15 "PracticeSheets$Sheet" "gains" "[I"]
def wsX8_sheet : List Cond := .code yX8_sheet cX8_sheet 4 (some .int) :: ((wsX8_sheet_r1 ++ (wsX8_sheet_r2 ++ wsX8_sheet_r3)) ++ wsX80 ++ wsX30 ++ wsX40 ++ wsX70 ++ wsX60 ++ wsX10)
def wsX8_covers_r1 : List Cond := [Cond.fieldLink RX8 39 "PracticeSheets" "plan" "LPracticeSheets$Sheet;", Cond.fieldLink RX8 12 "PracticeSheets" "now" "LPracticeSheets$State;", Cond.methodLink RX8 117 yX8_areLines, Cond.static yX8_areLines, Cond.initialized RX8, Cond.code yX8_areLines cX8_areLines 1 (some .boolean), Cond.methodLink RX8 121 yX3_choose, Cond.instanceMethod yX3_choose, Cond.selects RX3 yX3_choose yX3_choose, Cond.initialized RX3, Cond.code yX3_choose cX3_choose 5 none, Cond.methodLink RX3 29 yX3_clear, Cond.instanceMethod yX3_clear, Cond.selects RX3 yX3_clear yX3_clear, Cond.code yX3_clear cX3_clear 2 none, Cond.fieldLink RX3 18 "PracticeSheets$Sheet" "isCovered" "[Z", Cond.fieldLink RX3 22 "PracticeSheets$Sheet" "isTaken" "[Z", Cond.fieldLink RX3 25 "PracticeSheets$Sheet" "size" "I", Cond.methodLink RX3 32 yX3_chooseLine, Cond.instanceMethod yX3_chooseLine, Cond.selects RX3 yX3_chooseLine yX3_chooseLine, Cond.code yX3_chooseLine cX3_chooseLine 8 (some .boolean), Cond.methodLink RX3 47 yX3_gainOf, Cond.instanceMethod yX3_gainOf]
def wsX8_covers_r2 : List Cond := [Cond.selects RX3 yX3_gainOf yX3_gainOf, Cond.code yX3_gainOf cX3_gainOf 6 (some .int), Cond.methodLink RX3 74 yX1_isUntried, Cond.instanceMethod yX1_isUntried, Cond.selects RX1 yX1_isUntried yX1_isUntried, Cond.initialized RX1, Cond.code yX1_isUntried cX1_isUntried 2 (some .boolean), Cond.methodLink RX1 26 yX1_triesOf, Cond.instanceMethod yX1_triesOf, Cond.selects RX1 yX1_triesOf yX1_triesOf, Cond.code yX1_triesOf cX1_triesOf 2 (some .int), Cond.fieldLink RX1 9 "PracticeSheets$Practice" "tries" "[I", Cond.static yX8_isPart, Cond.code yX8_isPart cX8_isPart 1 (some .boolean), Cond.methodLink RX3 82 yX1_needOf, Cond.instanceMethod yX1_needOf, Cond.selects RX1 yX1_needOf yX1_needOf, Cond.code yX1_needOf cX1_needOf 2 (some .int), Cond.methodLink RX1 29 Lib.Math.max.name, Cond.static Lib.Math.max.name, Cond.initialized "java/lang/Math", Cond.code Lib.Math.max.name Lib.Math.max.code 2 (some .int), Cond.methodLink RX1 22 yX1_slipsOf, Cond.instanceMethod yX1_slipsOf]
def wsX8_covers_r3 : List Cond := [Cond.selects RX1 yX1_slipsOf yX1_slipsOf, Cond.code yX1_slipsOf cX1_slipsOf 2 (some .int), Cond.fieldLink RX1 15 "PracticeSheets$Practice" "slips" "[I", Cond.methodLink RX3 56 yX3_addLine, Cond.instanceMethod yX3_addLine, Cond.selects RX3 yX3_addLine yX3_addLine, Cond.code yX3_addLine cX3_addLine 5 none, Cond.fieldLink RX3 9 "PracticeSheets$Sheet" "words" "[I", Cond.fieldLink RX3 15 "PracticeSheets$Sheet" "gains" "[I", Cond.methodLink RX8 187 yX3_coveredFrom, Cond.instanceMethod yX3_coveredFrom, Cond.selects RX3 yX3_coveredFrom yX3_coveredFrom, Cond.code yX3_coveredFrom cX3_coveredFrom 5 (some .int), Cond.methodLink RX8 190 yX3_needCovered, Cond.instanceMethod yX3_needCovered, Cond.selects RX3 yX3_needCovered yX3_needCovered, Cond.code yX3_needCovered cX3_needCovered 4 (some .int), Cond.methodLink RX8 193 yX3_sumOfGains, Cond.instanceMethod yX3_sumOfGains, Cond.selects RX3 yX3_sumOfGains yX3_sumOfGains, Cond.code yX3_sumOfGains cX3_sumOfGains 3 (some .int)]
def wsX8_covers : List Cond := .code yX8_covers cX8_covers 3 (some .int) :: ((wsX8_covers_r1 ++ (wsX8_covers_r2 ++ wsX8_covers_r3)) ++ wsX80 ++ wsX30 ++ wsX40 ++ wsX70 ++ wsX60 ++ wsX10)
def wsX8_firstPart : List Cond := .code yX8_firstPart cX8_firstPart 1 (some .int) :: ([])
def wsX8_endOfParts : List Cond := .code yX8_endOfParts cX8_endOfParts 1 (some .int) :: ([])
def wsX8_worst_r1 : List Cond := [Cond.fieldLink RX8 46 "PracticeSheets" "ranking" "LPracticeSheets$Ranking;", Cond.fieldLink RX8 12 "PracticeSheets" "now" "LPracticeSheets$State;", Cond.methodLink RX8 196 yX8_firstPart, Cond.static yX8_firstPart, Cond.initialized RX8, Cond.code yX8_firstPart cX8_firstPart 1 (some .int), Cond.methodLink RX8 200 yX8_endOfParts, Cond.static yX8_endOfParts, Cond.code yX8_endOfParts cX8_endOfParts 1 (some .int), Cond.methodLink RX8 203 yX2_partAt, Cond.instanceMethod yX2_partAt, Cond.selects RX2 yX2_partAt yX2_partAt, Cond.initialized RX2, Cond.code yX2_partAt cX2_partAt 7 (some .int), Cond.fieldLink RX2 9 "PracticeSheets$Ranking" "howMany" "[I", Cond.methodLink RX2 15 yX2_countNeeds, Cond.instanceMethod yX2_countNeeds, Cond.selects RX2 yX2_countNeeds yX2_countNeeds, Cond.code yX2_countNeeds cX2_countNeeds 6 none, Cond.methodLink RX2 23 yX1_needOf, Cond.instanceMethod yX1_needOf, Cond.selects RX1 yX1_needOf yX1_needOf, Cond.initialized RX1, Cond.code yX1_needOf cX1_needOf 2 (some .int)]
def wsX8_worst_r2 : List Cond := [Cond.methodLink RX1 29 Lib.Math.max.name, Cond.static Lib.Math.max.name, Cond.initialized "java/lang/Math", Cond.code Lib.Math.max.name Lib.Math.max.code 2 (some .int), Cond.methodLink RX1 22 yX1_slipsOf, Cond.instanceMethod yX1_slipsOf, Cond.selects RX1 yX1_slipsOf yX1_slipsOf, Cond.code yX1_slipsOf cX1_slipsOf 2 (some .int), Cond.fieldLink RX1 15 "PracticeSheets$Practice" "slips" "[I", Cond.static yX8_isPart, Cond.code yX8_isPart cX8_isPart 1 (some .boolean), Cond.methodLink RX1 26 yX1_triesOf, Cond.instanceMethod yX1_triesOf, Cond.selects RX1 yX1_triesOf yX1_triesOf, Cond.code yX1_triesOf cX1_triesOf 2 (some .int), Cond.fieldLink RX1 9 "PracticeSheets$Practice" "tries" "[I", Cond.methodLink RX2 19 yX2_partWithNeed, Cond.static yX2_partWithNeed, Cond.code yX2_partWithNeed cX2_partWithNeed 7 (some .int)]
def wsX8_worst : List Cond := .code yX8_worst cX8_worst 5 (some .int) :: ((wsX8_worst_r1 ++ wsX8_worst_r2) ++ wsX80 ++ wsX40 ++ wsX20 ++ wsX10)
def wsX8_missing_r1 : List Cond := [Cond.fieldLink RX8 12 "PracticeSheets" "now" "LPracticeSheets$State;", Cond.methodLink RX8 200 yX8_endOfParts, Cond.static yX8_endOfParts, Cond.initialized RX8, Cond.code yX8_endOfParts cX8_endOfParts 1 (some .int), Cond.methodLink RX8 196 yX8_firstPart, Cond.static yX8_firstPart, Cond.code yX8_firstPart cX8_firstPart 1 (some .int), Cond.methodLink RX8 207 yX1_needOf, Cond.instanceMethod yX1_needOf, Cond.selects RX1 yX1_needOf yX1_needOf, Cond.initialized RX1, Cond.code yX1_needOf cX1_needOf 2 (some .int), Cond.methodLink RX1 29 Lib.Math.max.name, Cond.static Lib.Math.max.name, Cond.initialized "java/lang/Math", Cond.code Lib.Math.max.name Lib.Math.max.code 2 (some .int), Cond.methodLink RX1 22 yX1_slipsOf, Cond.instanceMethod yX1_slipsOf, Cond.selects RX1 yX1_slipsOf yX1_slipsOf, Cond.code yX1_slipsOf cX1_slipsOf 2 (some .int), Cond.fieldLink RX1 15 "PracticeSheets$Practice" "slips" "[I", Cond.static yX8_isPart, Cond.code yX8_isPart cX8_isPart 1 (some .boolean)]
def wsX8_missing_r2 : List Cond := [Cond.methodLink RX1 26 yX1_triesOf, Cond.instanceMethod yX1_triesOf, Cond.selects RX1 yX1_triesOf yX1_triesOf, Cond.code yX1_triesOf cX1_triesOf 2 (some .int), Cond.fieldLink RX1 9 "PracticeSheets$Practice" "tries" "[I", Cond.methodLink RX8 210 yX7_howManyHave, Cond.instanceMethod yX7_howManyHave, Cond.selects RX7 yX7_howManyHave yX7_howManyHave, Cond.initialized RX7, Cond.code yX7_howManyHave cX7_howManyHave 4 (some .int), Cond.fieldLink RX7 18 "PracticeSheets$WordList" "size" "I", Cond.fieldLink RX7 11 "PracticeSheets$WordList" "words" "[LPracticeSheets$Word;", Cond.methodLink RX7 30 yX6_has, Cond.instanceMethod yX6_has, Cond.selects RX6 yX6_has yX6_has, Cond.initialized RX6, Cond.code yX6_has cX6_has 3 (some .boolean), Cond.fieldLink RX6 22 "PracticeSheets$Word" "partCount" "I", Cond.fieldLink RX6 15 "PracticeSheets$Word" "parts" "[I"]
def wsX8_missing : List Cond := .code yX8_missing cX8_missing 5 (some .int) :: ((wsX8_missing_r1 ++ wsX8_missing_r2) ++ wsX80 ++ wsX40 ++ wsX10 ++ wsX70 ++ wsX60)
def wsX8_sheetsTo_r1 : List Cond := [Cond.fieldLink RX8 19 "PracticeSheets" "trial" "LPracticeSheets$State;", Cond.fieldLink RX8 12 "PracticeSheets" "now" "LPracticeSheets$State;", Cond.fieldLink RX8 39 "PracticeSheets" "plan" "LPracticeSheets$Sheet;", Cond.methodLink RX8 117 yX8_areLines, Cond.static yX8_areLines, Cond.initialized RX8, Cond.code yX8_areLines cX8_areLines 1 (some .boolean), Cond.methodLink RX8 142 yX4_copyFrom, Cond.instanceMethod yX4_copyFrom, Cond.selects RX4 yX4_copyFrom yX4_copyFrom, Cond.initialized RX4, Cond.code yX4_copyFrom cX4_copyFrom 2 none, Cond.fieldLink RX4 12 "PracticeSheets$State" "practice" "LPracticeSheets$Practice;", Cond.fieldLink RX4 21 "PracticeSheets$State" "words" "LPracticeSheets$WordList;", Cond.fieldLink RX4 25 "PracticeSheets$State" "weeks" "I", Cond.fieldLink RX4 29 "PracticeSheets$State" "untried" "I", Cond.fieldLink RX4 32 "PracticeSheets$State" "written" "I", Cond.fieldLink RX4 35 "PracticeSheets$State" "slips" "I", Cond.fieldLink RX4 38 "PracticeSheets$State" "sheets" "I", Cond.methodLink RX4 71 yX1_copyFrom, Cond.instanceMethod yX1_copyFrom, Cond.selects RX1 yX1_copyFrom yX1_copyFrom, Cond.initialized RX1, Cond.code yX1_copyFrom cX1_copyFrom 2 none]
def wsX8_sheetsTo_r2 : List Cond := [Cond.fieldLink RX1 9 "PracticeSheets$Practice" "tries" "[I", Cond.methodLink RX1 63 arraycopyName, Cond.native arraycopyName, Cond.static arraycopyName, Cond.initialized "java/lang/System", Cond.fieldLink RX1 15 "PracticeSheets$Practice" "slips" "[I", Cond.methodLink RX4 75 yX7_copyFrom, Cond.instanceMethod yX7_copyFrom, Cond.selects RX7 yX7_copyFrom yX7_copyFrom, Cond.initialized RX7, Cond.code yX7_copyFrom cX7_copyFrom 3 none, Cond.fieldLink RX7 18 "PracticeSheets$WordList" "size" "I", Cond.fieldLink RX7 11 "PracticeSheets$WordList" "words" "[LPracticeSheets$Word;", Cond.methodLink RX7 26 yX6_copyFrom, Cond.instanceMethod yX6_copyFrom, Cond.selects RX6 yX6_copyFrom yX6_copyFrom, Cond.initialized RX6, Cond.code yX6_copyFrom cX6_copyFrom 2 none, Cond.fieldLink RX6 9 "PracticeSheets$Word" "letters" "[I", Cond.methodLink RX6 37 arraycopyName, Cond.fieldLink RX6 15 "PracticeSheets$Word" "parts" "[I", Cond.fieldLink RX6 18 "PracticeSheets$Word" "length" "I", Cond.fieldLink RX6 22 "PracticeSheets$Word" "partCount" "I", Cond.methodLink RX8 213 yX4_greatestNeedOfWords]
def wsX8_sheetsTo_r3 : List Cond := [Cond.instanceMethod yX4_greatestNeedOfWords, Cond.selects RX4 yX4_greatestNeedOfWords yX4_greatestNeedOfWords, Cond.code yX4_greatestNeedOfWords cX4_greatestNeedOfWords 3 (some .int), Cond.methodLink RX4 65 Lib.Math.max.name, Cond.static Lib.Math.max.name, Cond.initialized "java/lang/Math", Cond.code Lib.Math.max.name Lib.Math.max.code 2 (some .int), Cond.methodLink RX4 61 yX1_greatestNeedOf, Cond.instanceMethod yX1_greatestNeedOf, Cond.selects RX1 yX1_greatestNeedOf yX1_greatestNeedOf, Cond.code yX1_greatestNeedOf cX1_greatestNeedOf 4 (some .int), Cond.methodLink RX1 29 Lib.Math.max.name, Cond.methodLink RX1 57 yX1_needOf, Cond.instanceMethod yX1_needOf, Cond.selects RX1 yX1_needOf yX1_needOf, Cond.code yX1_needOf cX1_needOf 2 (some .int), Cond.methodLink RX1 22 yX1_slipsOf, Cond.instanceMethod yX1_slipsOf, Cond.selects RX1 yX1_slipsOf yX1_slipsOf, Cond.code yX1_slipsOf cX1_slipsOf 2 (some .int), Cond.static yX8_isPart, Cond.code yX8_isPart cX8_isPart 1 (some .boolean), Cond.methodLink RX1 26 yX1_triesOf, Cond.instanceMethod yX1_triesOf]
def wsX8_sheetsTo_r4 : List Cond := [Cond.selects RX1 yX1_triesOf yX1_triesOf, Cond.code yX1_triesOf cX1_triesOf 2 (some .int), Cond.methodLink RX8 121 yX3_choose, Cond.instanceMethod yX3_choose, Cond.selects RX3 yX3_choose yX3_choose, Cond.initialized RX3, Cond.code yX3_choose cX3_choose 5 none, Cond.methodLink RX3 29 yX3_clear, Cond.instanceMethod yX3_clear, Cond.selects RX3 yX3_clear yX3_clear, Cond.code yX3_clear cX3_clear 2 none, Cond.fieldLink RX3 18 "PracticeSheets$Sheet" "isCovered" "[Z", Cond.fieldLink RX3 22 "PracticeSheets$Sheet" "isTaken" "[Z", Cond.fieldLink RX3 25 "PracticeSheets$Sheet" "size" "I", Cond.methodLink RX3 32 yX3_chooseLine, Cond.instanceMethod yX3_chooseLine, Cond.selects RX3 yX3_chooseLine yX3_chooseLine, Cond.code yX3_chooseLine cX3_chooseLine 8 (some .boolean), Cond.methodLink RX3 47 yX3_gainOf, Cond.instanceMethod yX3_gainOf, Cond.selects RX3 yX3_gainOf yX3_gainOf, Cond.code yX3_gainOf cX3_gainOf 6 (some .int), Cond.methodLink RX3 74 yX1_isUntried, Cond.instanceMethod yX1_isUntried]
def wsX8_sheetsTo_r5 : List Cond := [Cond.selects RX1 yX1_isUntried yX1_isUntried, Cond.code yX1_isUntried cX1_isUntried 2 (some .boolean), Cond.methodLink RX3 82 yX1_needOf, Cond.methodLink RX3 56 yX3_addLine, Cond.instanceMethod yX3_addLine, Cond.selects RX3 yX3_addLine yX3_addLine, Cond.code yX3_addLine cX3_addLine 5 none, Cond.fieldLink RX3 9 "PracticeSheets$Sheet" "words" "[I", Cond.fieldLink RX3 15 "PracticeSheets$Sheet" "gains" "[I", Cond.methodLink RX8 126 yX4_practise, Cond.instanceMethod yX4_practise, Cond.selects RX4 yX4_practise yX4_practise, Cond.code yX4_practise cX4_practise 4 none, Cond.methodLink RX4 49 yX7_at, Cond.instanceMethod yX7_at, Cond.selects RX7 yX7_at yX7_at, Cond.code yX7_at cX7_at 2 (some (.object "PracticeSheets$Word")), Cond.methodLink RX4 53 yX1_addTriesOf, Cond.instanceMethod yX1_addTriesOf, Cond.selects RX1 yX1_addTriesOf yX1_addTriesOf, Cond.code yX1_addTriesOf cX1_addTriesOf 3 none, Cond.methodLink RX1 44 yX1_addTry, Cond.instanceMethod yX1_addTry, Cond.selects RX1 yX1_addTry yX1_addTry]
def wsX8_sheetsTo_r6 : List Cond := [Cond.code yX1_addTry cX1_addTry 2 none, Cond.static yX8_joinPart, Cond.code yX8_joinPart cX8_joinPart 2 (some .int)]
def wsX8_sheetsTo : List Cond := .code yX8_sheetsTo cX8_sheetsTo 4 (some .int) :: ((wsX8_sheetsTo_r1 ++ (wsX8_sheetsTo_r2 ++ (wsX8_sheetsTo_r3 ++ (wsX8_sheetsTo_r4 ++ (wsX8_sheetsTo_r5 ++ wsX8_sheetsTo_r6))))) ++ wsX80 ++ wsX30 ++ wsX40 ++ wsX10 ++ wsX70 ++ wsX60)
def wsX8_count_r1 : List Cond := [Cond.fieldLink RX8 12 "PracticeSheets" "now" "LPracticeSheets$State;", Cond.fieldLink RX8 25 "PracticeSheets" "history" "LPracticeSheets$History;", Cond.fieldLink RX8 32 "PracticeSheets" "text" "LPracticeSheets$Text;", Cond.methodLink RX8 216 yX1_triedFrom, Cond.instanceMethod yX1_triedFrom, Cond.selects RX1 yX1_triedFrom yX1_triedFrom, Cond.initialized RX1, Cond.code yX1_triedFrom cX1_triedFrom 5 (some .int), Cond.methodLink RX1 60 yX1_isUntried, Cond.instanceMethod yX1_isUntried, Cond.selects RX1 yX1_isUntried yX1_isUntried, Cond.code yX1_isUntried cX1_isUntried 2 (some .boolean), Cond.methodLink RX1 26 yX1_triesOf, Cond.instanceMethod yX1_triesOf, Cond.selects RX1 yX1_triesOf yX1_triesOf, Cond.code yX1_triesOf cX1_triesOf 2 (some .int), Cond.fieldLink RX1 9 "PracticeSheets$Practice" "tries" "[I", Cond.static yX8_isPart, Cond.initialized RX8, Cond.code yX8_isPart cX8_isPart 1 (some .boolean), Cond.methodLink RX8 219 yX1_greatestNeedFrom, Cond.instanceMethod yX1_greatestNeedFrom, Cond.selects RX1 yX1_greatestNeedFrom yX1_greatestNeedFrom, Cond.code yX1_greatestNeedFrom cX1_greatestNeedFrom 5 (some .int)]
def wsX8_count_r2 : List Cond := [Cond.methodLink RX1 29 Lib.Math.max.name, Cond.static Lib.Math.max.name, Cond.initialized "java/lang/Math", Cond.code Lib.Math.max.name Lib.Math.max.code 2 (some .int), Cond.methodLink RX1 57 yX1_needOf, Cond.instanceMethod yX1_needOf, Cond.selects RX1 yX1_needOf yX1_needOf, Cond.code yX1_needOf cX1_needOf 2 (some .int), Cond.methodLink RX1 22 yX1_slipsOf, Cond.instanceMethod yX1_slipsOf, Cond.selects RX1 yX1_slipsOf yX1_slipsOf, Cond.code yX1_slipsOf cX1_slipsOf 2 (some .int), Cond.fieldLink RX1 15 "PracticeSheets$Practice" "slips" "[I"]
def wsX8_count : List Cond := .code yX8_count cX8_count 2 (some .int) :: ((wsX8_count_r1 ++ wsX8_count_r2) ++ wsX80 ++ wsX40 ++ wsX70 ++ wsX00 ++ wsX50 ++ wsX10)
def wsX9_init : List Cond := .code yX9_init cX9_init 1 none :: ([.methodLink RX9 1 objectInit, .instanceMethod objectInit, .code objectInit ⟨#[0xb1]⟩ 1 none, .arrayClass .int, .fieldLink RX9 7 "PracticeSheetsModel" "all" "[I", .fieldLink RX9 13 "PracticeSheetsModel" "kept" "[I", .fieldLink RX9 16 "PracticeSheetsModel" "tried" "[I", .fieldLink RX9 19 "PracticeSheetsModel" "history" "[I", .fieldLink RX9 22 "PracticeSheetsModel" "snapshot" "[I", .fieldLink RX9 25 "PracticeSheetsModel" "part" "[I", .fieldLink RX9 28 "PracticeSheetsModel" "lineWord" "[I", .fieldLink RX9 31 "PracticeSheetsModel" "lineGain" "[I", .fieldLink RX9 34 "PracticeSheetsModel" "isCovered" "[I", .fieldLink RX9 37 "PracticeSheetsModel" "text" "[I", .fieldLink RX9 40 "PracticeSheetsModel" "read" "[I", .fieldLink RX9 43 "PracticeSheetsModel" "isMarked" "[I", .fieldLink RX9 46 "PracticeSheetsModel" "isJoinMarked" "[I"] ++ wsX90)
def wsX9_in : List Cond := .code yX9_in cX9_in 6 (some .boolean) :: ([])
def wsX9_copy : List Cond := .code yX9_copy cX9_copy 3 none :: ([])
def wsX9_remember : List Cond := .code yX9_remember cX9_remember 1 none :: ([.fieldLink RX9 7 "PracticeSheetsModel" "all" "[I", .fieldLink RX9 13 "PracticeSheetsModel" "kept" "[I", .methodLink RX9 49 yX9_copy, .static yX9_copy, .initialized RX9, .code yX9_copy cX9_copy 3 none] ++ wsX90)
def wsX9_acted : List Cond := .code yX9_acted cX9_acted 3 (some .int) :: ([.fieldLink RX9 53 "PracticeSheetsModel" "historyLong" "I", .fieldLink RX9 19 "PracticeSheetsModel" "history" "[I", .fieldLink RX9 13 "PracticeSheetsModel" "kept" "[I"] ++ wsX90)
def wsX9_needOf : List Cond := .code yX9_needOf cX9_needOf 2 (some .int) :: ([.fieldLink RX9 7 "PracticeSheetsModel" "all" "[I"] ++ wsX90)
def wsX9_isUntried : List Cond := .code yX9_isUntried cX9_isUntried 2 (some .boolean) :: ([.fieldLink RX9 7 "PracticeSheetsModel" "all" "[I"] ++ wsX90)
def wsX9_tries : List Cond := .code yX9_tries cX9_tries 3 none :: ([.fieldLink RX9 7 "PracticeSheetsModel" "all" "[I"] ++ wsX90)
def wsX9_joinOf : List Cond := .code yX9_joinOf cX9_joinOf 2 (some .int) :: ([])
def wsX9_isWord : List Cond := .code yX9_isWord cX9_isWord 2 (some .boolean) :: ([.fieldLink RX9 7 "PracticeSheetsModel" "all" "[I", .methodLink RX9 57 yX9_in, .static yX9_in, .initialized RX9, .code yX9_in cX9_in 6 (some .boolean)] ++ wsX90)
def wsX9_sizeOf : List Cond := .code yX9_sizeOf cX9_sizeOf 2 (some .int) :: ([.fieldLink RX9 7 "PracticeSheetsModel" "all" "[I"] ++ wsX90)
def wsX9_letterAt : List Cond := .code yX9_letterAt cX9_letterAt 3 (some .int) :: ([.fieldLink RX9 7 "PracticeSheetsModel" "all" "[I"] ++ wsX90)
def wsX9_addsPart : List Cond := .code yX9_addsPart cX9_addsPart 4 none :: ([.fieldLink RX9 61 "PracticeSheetsModel" "parts" "I", .fieldLink RX9 25 "PracticeSheetsModel" "part" "[I"] ++ wsX90)
def wsX9_findsParts : List Cond := .code yX9_findsParts cX9_findsParts 3 none :: ([.fieldLink RX9 61 "PracticeSheetsModel" "parts" "I", .methodLink RX9 64 yX9_sizeOf, .instanceMethod yX9_sizeOf, .selects RX9 yX9_sizeOf yX9_sizeOf, .initialized RX9, .code yX9_sizeOf cX9_sizeOf 2 (some .int), .fieldLink RX9 7 "PracticeSheetsModel" "all" "[I", .methodLink RX9 68 yX9_letterAt, .instanceMethod yX9_letterAt, .selects RX9 yX9_letterAt yX9_letterAt, .code yX9_letterAt cX9_letterAt 3 (some .int), .methodLink RX9 72 yX9_addsPart, .instanceMethod yX9_addsPart, .selects RX9 yX9_addsPart yX9_addsPart, .code yX9_addsPart cX9_addsPart 4 none, .fieldLink RX9 25 "PracticeSheetsModel" "part" "[I", .methodLink RX9 76 yX9_joinOf, .static yX9_joinOf, .code yX9_joinOf cX9_joinOf 2 (some .int)] ++ wsX90)
def wsX9_hasPart : List Cond := .code yX9_hasPart cX9_hasPart 5 (some .boolean) :: ([.fieldLink RX9 61 "PracticeSheetsModel" "parts" "I", .fieldLink RX9 25 "PracticeSheetsModel" "part" "[I", .methodLink RX9 79 yX9_findsParts, .instanceMethod yX9_findsParts, .selects RX9 yX9_findsParts yX9_findsParts, .initialized RX9, .code yX9_findsParts cX9_findsParts 3 none, .methodLink RX9 64 yX9_sizeOf, .instanceMethod yX9_sizeOf, .selects RX9 yX9_sizeOf yX9_sizeOf, .code yX9_sizeOf cX9_sizeOf 2 (some .int), .fieldLink RX9 7 "PracticeSheetsModel" "all" "[I", .methodLink RX9 68 yX9_letterAt, .instanceMethod yX9_letterAt, .selects RX9 yX9_letterAt yX9_letterAt, .code yX9_letterAt cX9_letterAt 3 (some .int), .methodLink RX9 72 yX9_addsPart, .instanceMethod yX9_addsPart, .selects RX9 yX9_addsPart yX9_addsPart, .code yX9_addsPart cX9_addsPart 4 none, .methodLink RX9 76 yX9_joinOf, .static yX9_joinOf, .code yX9_joinOf cX9_joinOf 2 (some .int)] ++ wsX90)
def wsX9_wordsWith_r1 : List Cond := [Cond.fieldLink RX9 7 "PracticeSheetsModel" "all" "[I", Cond.methodLink RX9 82 yX9_hasPart, Cond.instanceMethod yX9_hasPart, Cond.selects RX9 yX9_hasPart yX9_hasPart, Cond.initialized RX9, Cond.code yX9_hasPart cX9_hasPart 5 (some .boolean), Cond.fieldLink RX9 61 "PracticeSheetsModel" "parts" "I", Cond.fieldLink RX9 25 "PracticeSheetsModel" "part" "[I", Cond.methodLink RX9 79 yX9_findsParts, Cond.instanceMethod yX9_findsParts, Cond.selects RX9 yX9_findsParts yX9_findsParts, Cond.code yX9_findsParts cX9_findsParts 3 none, Cond.methodLink RX9 64 yX9_sizeOf, Cond.instanceMethod yX9_sizeOf, Cond.selects RX9 yX9_sizeOf yX9_sizeOf, Cond.code yX9_sizeOf cX9_sizeOf 2 (some .int), Cond.methodLink RX9 68 yX9_letterAt, Cond.instanceMethod yX9_letterAt, Cond.selects RX9 yX9_letterAt yX9_letterAt, Cond.code yX9_letterAt cX9_letterAt 3 (some .int), Cond.methodLink RX9 72 yX9_addsPart, Cond.instanceMethod yX9_addsPart, Cond.selects RX9 yX9_addsPart yX9_addsPart, Cond.code yX9_addsPart cX9_addsPart 4 none]
def wsX9_wordsWith_r2 : List Cond := [Cond.methodLink RX9 76 yX9_joinOf, Cond.static yX9_joinOf, Cond.code yX9_joinOf cX9_joinOf 2 (some .int)]
def wsX9_wordsWith : List Cond := .code yX9_wordsWith cX9_wordsWith 4 (some .int) :: ((wsX9_wordsWith_r1 ++ wsX9_wordsWith_r2) ++ wsX90)
def wsX9_gainOf_r1 : List Cond := [Cond.fieldLink RX9 61 "PracticeSheetsModel" "parts" "I", Cond.fieldLink RX9 25 "PracticeSheetsModel" "part" "[I", Cond.fieldLink RX9 7 "PracticeSheetsModel" "all" "[I", Cond.fieldLink RX9 34 "PracticeSheetsModel" "isCovered" "[I", Cond.methodLink RX9 79 yX9_findsParts, Cond.instanceMethod yX9_findsParts, Cond.selects RX9 yX9_findsParts yX9_findsParts, Cond.initialized RX9, Cond.code yX9_findsParts cX9_findsParts 3 none, Cond.methodLink RX9 64 yX9_sizeOf, Cond.instanceMethod yX9_sizeOf, Cond.selects RX9 yX9_sizeOf yX9_sizeOf, Cond.code yX9_sizeOf cX9_sizeOf 2 (some .int), Cond.methodLink RX9 68 yX9_letterAt, Cond.instanceMethod yX9_letterAt, Cond.selects RX9 yX9_letterAt yX9_letterAt, Cond.code yX9_letterAt cX9_letterAt 3 (some .int), Cond.methodLink RX9 72 yX9_addsPart, Cond.instanceMethod yX9_addsPart, Cond.selects RX9 yX9_addsPart yX9_addsPart, Cond.code yX9_addsPart cX9_addsPart 4 none, Cond.methodLink RX9 76 yX9_joinOf, Cond.static yX9_joinOf, Cond.code yX9_joinOf cX9_joinOf 2 (some .int)]
def wsX9_gainOf_r2 : List Cond := [Cond.methodLink RX9 86 yX9_isUntried, Cond.instanceMethod yX9_isUntried, Cond.selects RX9 yX9_isUntried yX9_isUntried, Cond.code yX9_isUntried cX9_isUntried 2 (some .boolean), Cond.methodLink RX9 90 yX9_needOf, Cond.instanceMethod yX9_needOf, Cond.selects RX9 yX9_needOf yX9_needOf, Cond.code yX9_needOf cX9_needOf 2 (some .int)]
def wsX9_gainOf : List Cond := .code yX9_gainOf cX9_gainOf 5 (some .int) :: ((wsX9_gainOf_r1 ++ wsX9_gainOf_r2) ++ wsX90)
def wsX9_coversNone : List Cond := .code yX9_coversNone cX9_coversNone 2 none :: ([.fieldLink RX9 34 "PracticeSheetsModel" "isCovered" "[I"] ++ wsX90)
def wsX9_isOnSheet : List Cond := .code yX9_isOnSheet cX9_isOnSheet 4 (some .boolean) :: ([.fieldLink RX9 93 "PracticeSheetsModel" "lines" "I", .fieldLink RX9 28 "PracticeSheetsModel" "lineWord" "[I"] ++ wsX90)
def wsX9_nextWord_r1 : List Cond := [Cond.fieldLink RX9 7 "PracticeSheetsModel" "all" "[I", Cond.methodLink RX9 96 yX9_isOnSheet, Cond.instanceMethod yX9_isOnSheet, Cond.selects RX9 yX9_isOnSheet yX9_isOnSheet, Cond.initialized RX9, Cond.code yX9_isOnSheet cX9_isOnSheet 4 (some .boolean), Cond.fieldLink RX9 93 "PracticeSheetsModel" "lines" "I", Cond.fieldLink RX9 28 "PracticeSheetsModel" "lineWord" "[I", Cond.methodLink RX9 99 yX9_gainOf, Cond.instanceMethod yX9_gainOf, Cond.selects RX9 yX9_gainOf yX9_gainOf, Cond.code yX9_gainOf cX9_gainOf 5 (some .int), Cond.fieldLink RX9 61 "PracticeSheetsModel" "parts" "I", Cond.fieldLink RX9 25 "PracticeSheetsModel" "part" "[I", Cond.fieldLink RX9 34 "PracticeSheetsModel" "isCovered" "[I", Cond.methodLink RX9 79 yX9_findsParts, Cond.instanceMethod yX9_findsParts, Cond.selects RX9 yX9_findsParts yX9_findsParts, Cond.code yX9_findsParts cX9_findsParts 3 none, Cond.methodLink RX9 64 yX9_sizeOf, Cond.instanceMethod yX9_sizeOf, Cond.selects RX9 yX9_sizeOf yX9_sizeOf, Cond.code yX9_sizeOf cX9_sizeOf 2 (some .int), Cond.methodLink RX9 68 yX9_letterAt]
def wsX9_nextWord_r2 : List Cond := [Cond.instanceMethod yX9_letterAt, Cond.selects RX9 yX9_letterAt yX9_letterAt, Cond.code yX9_letterAt cX9_letterAt 3 (some .int), Cond.methodLink RX9 72 yX9_addsPart, Cond.instanceMethod yX9_addsPart, Cond.selects RX9 yX9_addsPart yX9_addsPart, Cond.code yX9_addsPart cX9_addsPart 4 none, Cond.methodLink RX9 76 yX9_joinOf, Cond.static yX9_joinOf, Cond.code yX9_joinOf cX9_joinOf 2 (some .int), Cond.methodLink RX9 86 yX9_isUntried, Cond.instanceMethod yX9_isUntried, Cond.selects RX9 yX9_isUntried yX9_isUntried, Cond.code yX9_isUntried cX9_isUntried 2 (some .boolean), Cond.methodLink RX9 90 yX9_needOf, Cond.instanceMethod yX9_needOf, Cond.selects RX9 yX9_needOf yX9_needOf, Cond.code yX9_needOf cX9_needOf 2 (some .int)]
def wsX9_nextWord : List Cond := .code yX9_nextWord cX9_nextWord 6 (some .int) :: ((wsX9_nextWord_r1 ++ wsX9_nextWord_r2) ++ wsX90)
def wsX9_makesSheet_r1 : List Cond := [Cond.fieldLink RX9 93 "PracticeSheetsModel" "lines" "I", Cond.fieldLink RX9 28 "PracticeSheetsModel" "lineWord" "[I", Cond.fieldLink RX9 31 "PracticeSheetsModel" "lineGain" "[I", Cond.fieldLink RX9 61 "PracticeSheetsModel" "parts" "I", Cond.fieldLink RX9 34 "PracticeSheetsModel" "isCovered" "[I", Cond.fieldLink RX9 25 "PracticeSheetsModel" "part" "[I", Cond.methodLink RX9 102 yX9_coversNone, Cond.instanceMethod yX9_coversNone, Cond.selects RX9 yX9_coversNone yX9_coversNone, Cond.initialized RX9, Cond.code yX9_coversNone cX9_coversNone 2 none, Cond.methodLink RX9 105 yX9_nextWord, Cond.instanceMethod yX9_nextWord, Cond.selects RX9 yX9_nextWord yX9_nextWord, Cond.code yX9_nextWord cX9_nextWord 6 (some .int), Cond.fieldLink RX9 7 "PracticeSheetsModel" "all" "[I", Cond.methodLink RX9 96 yX9_isOnSheet, Cond.instanceMethod yX9_isOnSheet, Cond.selects RX9 yX9_isOnSheet yX9_isOnSheet, Cond.code yX9_isOnSheet cX9_isOnSheet 4 (some .boolean), Cond.methodLink RX9 99 yX9_gainOf, Cond.instanceMethod yX9_gainOf, Cond.selects RX9 yX9_gainOf yX9_gainOf, Cond.code yX9_gainOf cX9_gainOf 5 (some .int)]
def wsX9_makesSheet_r2 : List Cond := [Cond.methodLink RX9 79 yX9_findsParts, Cond.instanceMethod yX9_findsParts, Cond.selects RX9 yX9_findsParts yX9_findsParts, Cond.code yX9_findsParts cX9_findsParts 3 none, Cond.methodLink RX9 64 yX9_sizeOf, Cond.instanceMethod yX9_sizeOf, Cond.selects RX9 yX9_sizeOf yX9_sizeOf, Cond.code yX9_sizeOf cX9_sizeOf 2 (some .int), Cond.methodLink RX9 68 yX9_letterAt, Cond.instanceMethod yX9_letterAt, Cond.selects RX9 yX9_letterAt yX9_letterAt, Cond.code yX9_letterAt cX9_letterAt 3 (some .int), Cond.methodLink RX9 72 yX9_addsPart, Cond.instanceMethod yX9_addsPart, Cond.selects RX9 yX9_addsPart yX9_addsPart, Cond.code yX9_addsPart cX9_addsPart 4 none, Cond.methodLink RX9 76 yX9_joinOf, Cond.static yX9_joinOf, Cond.code yX9_joinOf cX9_joinOf 2 (some .int), Cond.methodLink RX9 86 yX9_isUntried, Cond.instanceMethod yX9_isUntried, Cond.selects RX9 yX9_isUntried yX9_isUntried, Cond.code yX9_isUntried cX9_isUntried 2 (some .boolean), Cond.methodLink RX9 90 yX9_needOf]
def wsX9_makesSheet_r3 : List Cond := [Cond.instanceMethod yX9_needOf, Cond.selects RX9 yX9_needOf yX9_needOf, Cond.code yX9_needOf cX9_needOf 2 (some .int)]
def wsX9_makesSheet : List Cond := .code yX9_makesSheet cX9_makesSheet 4 none :: ((wsX9_makesSheet_r1 ++ (wsX9_makesSheet_r2 ++ wsX9_makesSheet_r3)) ++ wsX90)
def wsX9_writesSheet : List Cond := .code yX9_writesSheet cX9_writesSheet 4 none :: ([.fieldLink RX9 93 "PracticeSheetsModel" "lines" "I", .fieldLink RX9 28 "PracticeSheetsModel" "lineWord" "[I", .fieldLink RX9 7 "PracticeSheetsModel" "all" "[I", .methodLink RX9 64 yX9_sizeOf, .instanceMethod yX9_sizeOf, .selects RX9 yX9_sizeOf yX9_sizeOf, .initialized RX9, .code yX9_sizeOf cX9_sizeOf 2 (some .int), .methodLink RX9 68 yX9_letterAt, .instanceMethod yX9_letterAt, .selects RX9 yX9_letterAt yX9_letterAt, .code yX9_letterAt cX9_letterAt 3 (some .int), .methodLink RX9 109 yX9_tries, .instanceMethod yX9_tries, .selects RX9 yX9_tries yX9_tries, .code yX9_tries cX9_tries 3 none, .methodLink RX9 76 yX9_joinOf, .static yX9_joinOf, .code yX9_joinOf cX9_joinOf 2 (some .int)] ++ wsX90)
def wsX9_type : List Cond := .code yX9_type cX9_type 2 (some .int) :: ([.fieldLink RX9 113 "PracticeSheetsModel" "textLong" "I", .fieldLink RX9 37 "PracticeSheetsModel" "text" "[I"] ++ wsX90)
def wsX9_clearText : List Cond := .code yX9_clearText cX9_clearText 2 (some .int) :: ([.fieldLink RX9 113 "PracticeSheetsModel" "textLong" "I"] ++ wsX90)
def wsX9_isLetter : List Cond := .code yX9_isLetter cX9_isLetter 2 (some .boolean) :: ([.fieldLink RX9 113 "PracticeSheetsModel" "textLong" "I", .fieldLink RX9 37 "PracticeSheetsModel" "text" "[I", .constantLong RX9 116 (97), .constantLong RX9 118 (122), .methodLink RX9 57 yX9_in, .static yX9_in, .initialized RX9, .code yX9_in cX9_in 6 (some .boolean)] ++ wsX90)
def wsX9_isThere : List Cond := .code yX9_isThere cX9_isThere 3 (some .boolean) :: ([.fieldLink RX9 113 "PracticeSheetsModel" "textLong" "I", .fieldLink RX9 37 "PracticeSheetsModel" "text" "[I"] ++ wsX90)
def wsX9_faultOfWriting : List Cond := .code yX9_faultOfWriting cX9_faultOfWriting 4 (some .int) :: ([.fieldLink RX9 120 "PracticeSheetsModel" "readLong" "I", .fieldLink RX9 40 "PracticeSheetsModel" "read" "[I", .fieldLink RX9 37 "PracticeSheetsModel" "text" "[I", .fieldLink RX9 43 "PracticeSheetsModel" "isMarked" "[I", .fieldLink RX9 46 "PracticeSheetsModel" "isJoinMarked" "[I", .fieldLink RX9 113 "PracticeSheetsModel" "textLong" "I", .methodLink RX9 123 yX9_isLetter, .instanceMethod yX9_isLetter, .selects RX9 yX9_isLetter yX9_isLetter, .initialized RX9, .code yX9_isLetter cX9_isLetter 2 (some .boolean), .constantLong RX9 116 (97), .constantLong RX9 118 (122), .methodLink RX9 57 yX9_in, .static yX9_in, .code yX9_in cX9_in 6 (some .boolean), .methodLink RX9 126 yX9_isThere, .instanceMethod yX9_isThere, .selects RX9 yX9_isThere yX9_isThere, .code yX9_isThere cX9_isThere 3 (some .boolean)] ++ wsX90)
def wsX9_faultOfWords : List Cond := .code yX9_faultOfWords cX9_faultOfWords 4 (some .int) :: ([.fieldLink RX9 113 "PracticeSheetsModel" "textLong" "I", .fieldLink RX9 37 "PracticeSheetsModel" "text" "[I", .methodLink RX9 123 yX9_isLetter, .instanceMethod yX9_isLetter, .selects RX9 yX9_isLetter yX9_isLetter, .initialized RX9, .code yX9_isLetter cX9_isLetter 2 (some .boolean), .constantLong RX9 116 (97), .constantLong RX9 118 (122), .methodLink RX9 57 yX9_in, .static yX9_in, .code yX9_in cX9_in 6 (some .boolean)] ++ wsX90)
def wsX9_write_r1 : List Cond := [Cond.fieldLink RX9 120 "PracticeSheetsModel" "readLong" "I", Cond.fieldLink RX9 40 "PracticeSheetsModel" "read" "[I", Cond.fieldLink RX9 43 "PracticeSheetsModel" "isMarked" "[I", Cond.fieldLink RX9 46 "PracticeSheetsModel" "isJoinMarked" "[I", Cond.fieldLink RX9 7 "PracticeSheetsModel" "all" "[I", Cond.methodLink RX9 129 yX9_faultOfWriting, Cond.instanceMethod yX9_faultOfWriting, Cond.selects RX9 yX9_faultOfWriting yX9_faultOfWriting, Cond.initialized RX9, Cond.code yX9_faultOfWriting cX9_faultOfWriting 4 (some .int), Cond.fieldLink RX9 37 "PracticeSheetsModel" "text" "[I", Cond.fieldLink RX9 113 "PracticeSheetsModel" "textLong" "I", Cond.methodLink RX9 123 yX9_isLetter, Cond.instanceMethod yX9_isLetter, Cond.selects RX9 yX9_isLetter yX9_isLetter, Cond.code yX9_isLetter cX9_isLetter 2 (some .boolean), Cond.constantLong RX9 116 (97), Cond.constantLong RX9 118 (122), Cond.methodLink RX9 57 yX9_in, Cond.static yX9_in, Cond.code yX9_in cX9_in 6 (some .boolean), Cond.methodLink RX9 126 yX9_isThere, Cond.instanceMethod yX9_isThere, Cond.selects RX9 yX9_isThere yX9_isThere]
def wsX9_write_r2 : List Cond := [Cond.code yX9_isThere cX9_isThere 3 (some .boolean), Cond.methodLink RX9 132 yX9_remember, Cond.instanceMethod yX9_remember, Cond.selects RX9 yX9_remember yX9_remember, Cond.code yX9_remember cX9_remember 1 none, Cond.fieldLink RX9 13 "PracticeSheetsModel" "kept" "[I", Cond.methodLink RX9 49 yX9_copy, Cond.static yX9_copy, Cond.code yX9_copy cX9_copy 3 none, Cond.methodLink RX9 109 yX9_tries, Cond.instanceMethod yX9_tries, Cond.selects RX9 yX9_tries yX9_tries, Cond.code yX9_tries cX9_tries 3 none, Cond.methodLink RX9 76 yX9_joinOf, Cond.static yX9_joinOf, Cond.code yX9_joinOf cX9_joinOf 2 (some .int), Cond.methodLink RX9 135 yX9_acted, Cond.instanceMethod yX9_acted, Cond.selects RX9 yX9_acted yX9_acted, Cond.code yX9_acted cX9_acted 3 (some .int), Cond.fieldLink RX9 53 "PracticeSheetsModel" "historyLong" "I", Cond.fieldLink RX9 19 "PracticeSheetsModel" "history" "[I"]
def wsX9_write : List Cond := .code yX9_write cX9_write 4 (some .int) :: ((wsX9_write_r1 ++ wsX9_write_r2) ++ wsX90)
def wsX9_pass : List Cond := .code yX9_pass cX9_pass 4 (some .int) :: ([.constantLong RX9 138 (20), .fieldLink RX9 7 "PracticeSheetsModel" "all" "[I", .fieldLink RX9 13 "PracticeSheetsModel" "kept" "[I", .methodLink RX9 57 yX9_in, .static yX9_in, .initialized RX9, .code yX9_in cX9_in 6 (some .boolean), .methodLink RX9 132 yX9_remember, .instanceMethod yX9_remember, .selects RX9 yX9_remember yX9_remember, .code yX9_remember cX9_remember 1 none, .methodLink RX9 49 yX9_copy, .static yX9_copy, .code yX9_copy cX9_copy 3 none, .methodLink RX9 135 yX9_acted, .instanceMethod yX9_acted, .selects RX9 yX9_acted yX9_acted, .code yX9_acted cX9_acted 3 (some .int), .fieldLink RX9 53 "PracticeSheetsModel" "historyLong" "I", .fieldLink RX9 19 "PracticeSheetsModel" "history" "[I"] ++ wsX90)
def wsX9_setUntried : List Cond := .code yX9_setUntried cX9_setUntried 3 (some .int) :: ([.constantLong RX9 140 (99), .fieldLink RX9 7 "PracticeSheetsModel" "all" "[I", .methodLink RX9 57 yX9_in, .static yX9_in, .initialized RX9, .code yX9_in cX9_in 6 (some .boolean), .methodLink RX9 132 yX9_remember, .instanceMethod yX9_remember, .selects RX9 yX9_remember yX9_remember, .code yX9_remember cX9_remember 1 none, .fieldLink RX9 13 "PracticeSheetsModel" "kept" "[I", .methodLink RX9 49 yX9_copy, .static yX9_copy, .code yX9_copy cX9_copy 3 none, .methodLink RX9 135 yX9_acted, .instanceMethod yX9_acted, .selects RX9 yX9_acted yX9_acted, .code yX9_acted cX9_acted 3 (some .int), .fieldLink RX9 53 "PracticeSheetsModel" "historyLong" "I", .fieldLink RX9 19 "PracticeSheetsModel" "history" "[I"] ++ wsX90)
def wsX9_isOnList : List Cond := .code yX9_isOnList cX9_isOnList 7 (some .boolean) :: ([.fieldLink RX9 7 "PracticeSheetsModel" "all" "[I", .fieldLink RX9 37 "PracticeSheetsModel" "text" "[I", .methodLink RX9 64 yX9_sizeOf, .instanceMethod yX9_sizeOf, .selects RX9 yX9_sizeOf yX9_sizeOf, .initialized RX9, .code yX9_sizeOf cX9_sizeOf 2 (some .int), .methodLink RX9 68 yX9_letterAt, .instanceMethod yX9_letterAt, .selects RX9 yX9_letterAt yX9_letterAt, .code yX9_letterAt cX9_letterAt 3 (some .int)] ++ wsX90)
def wsX9_addsAll_r1 : List Cond := [Cond.fieldLink RX9 113 "PracticeSheetsModel" "textLong" "I", Cond.fieldLink RX9 7 "PracticeSheetsModel" "all" "[I", Cond.fieldLink RX9 37 "PracticeSheetsModel" "text" "[I", Cond.methodLink RX9 123 yX9_isLetter, Cond.instanceMethod yX9_isLetter, Cond.selects RX9 yX9_isLetter yX9_isLetter, Cond.initialized RX9, Cond.code yX9_isLetter cX9_isLetter 2 (some .boolean), Cond.constantLong RX9 116 (97), Cond.constantLong RX9 118 (122), Cond.methodLink RX9 57 yX9_in, Cond.static yX9_in, Cond.code yX9_in cX9_in 6 (some .boolean), Cond.methodLink RX9 142 yX9_isOnList, Cond.instanceMethod yX9_isOnList, Cond.selects RX9 yX9_isOnList yX9_isOnList, Cond.code yX9_isOnList cX9_isOnList 7 (some .boolean), Cond.methodLink RX9 64 yX9_sizeOf, Cond.instanceMethod yX9_sizeOf, Cond.selects RX9 yX9_sizeOf yX9_sizeOf, Cond.code yX9_sizeOf cX9_sizeOf 2 (some .int), Cond.methodLink RX9 68 yX9_letterAt, Cond.instanceMethod yX9_letterAt, Cond.selects RX9 yX9_letterAt yX9_letterAt]
def wsX9_addsAll_r2 : List Cond := [Cond.code yX9_letterAt cX9_letterAt 3 (some .int)]
def wsX9_addsAll : List Cond := .code yX9_addsAll cX9_addsAll 5 (some .boolean) :: ((wsX9_addsAll_r1 ++ wsX9_addsAll_r2) ++ wsX90)
def wsX9_addWords_r1 : List Cond := [Cond.fieldLink RX9 13 "PracticeSheetsModel" "kept" "[I", Cond.fieldLink RX9 7 "PracticeSheetsModel" "all" "[I", Cond.methodLink RX9 145 yX9_faultOfWords, Cond.instanceMethod yX9_faultOfWords, Cond.selects RX9 yX9_faultOfWords yX9_faultOfWords, Cond.initialized RX9, Cond.code yX9_faultOfWords cX9_faultOfWords 4 (some .int), Cond.fieldLink RX9 113 "PracticeSheetsModel" "textLong" "I", Cond.fieldLink RX9 37 "PracticeSheetsModel" "text" "[I", Cond.methodLink RX9 123 yX9_isLetter, Cond.instanceMethod yX9_isLetter, Cond.selects RX9 yX9_isLetter yX9_isLetter, Cond.code yX9_isLetter cX9_isLetter 2 (some .boolean), Cond.constantLong RX9 116 (97), Cond.constantLong RX9 118 (122), Cond.methodLink RX9 57 yX9_in, Cond.static yX9_in, Cond.code yX9_in cX9_in 6 (some .boolean), Cond.methodLink RX9 132 yX9_remember, Cond.instanceMethod yX9_remember, Cond.selects RX9 yX9_remember yX9_remember, Cond.code yX9_remember cX9_remember 1 none, Cond.methodLink RX9 49 yX9_copy, Cond.static yX9_copy]
def wsX9_addWords_r2 : List Cond := [Cond.code yX9_copy cX9_copy 3 none, Cond.methodLink RX9 148 yX9_addsAll, Cond.instanceMethod yX9_addsAll, Cond.selects RX9 yX9_addsAll yX9_addsAll, Cond.code yX9_addsAll cX9_addsAll 5 (some .boolean), Cond.methodLink RX9 142 yX9_isOnList, Cond.instanceMethod yX9_isOnList, Cond.selects RX9 yX9_isOnList yX9_isOnList, Cond.code yX9_isOnList cX9_isOnList 7 (some .boolean), Cond.methodLink RX9 64 yX9_sizeOf, Cond.instanceMethod yX9_sizeOf, Cond.selects RX9 yX9_sizeOf yX9_sizeOf, Cond.code yX9_sizeOf cX9_sizeOf 2 (some .int), Cond.methodLink RX9 68 yX9_letterAt, Cond.instanceMethod yX9_letterAt, Cond.selects RX9 yX9_letterAt yX9_letterAt, Cond.code yX9_letterAt cX9_letterAt 3 (some .int), Cond.methodLink RX9 135 yX9_acted, Cond.instanceMethod yX9_acted, Cond.selects RX9 yX9_acted yX9_acted, Cond.code yX9_acted cX9_acted 3 (some .int), Cond.fieldLink RX9 53 "PracticeSheetsModel" "historyLong" "I", Cond.fieldLink RX9 19 "PracticeSheetsModel" "history" "[I"]
def wsX9_addWords : List Cond := .code yX9_addWords cX9_addWords 3 (some .int) :: ((wsX9_addWords_r1 ++ wsX9_addWords_r2) ++ wsX90)
def wsX9_removeWord : List Cond := .code yX9_removeWord cX9_removeWord 3 (some .int) :: ([.fieldLink RX9 7 "PracticeSheetsModel" "all" "[I", .methodLink RX9 152 yX9_isWord, .instanceMethod yX9_isWord, .selects RX9 yX9_isWord yX9_isWord, .initialized RX9, .code yX9_isWord cX9_isWord 2 (some .boolean), .methodLink RX9 57 yX9_in, .static yX9_in, .code yX9_in cX9_in 6 (some .boolean), .methodLink RX9 132 yX9_remember, .instanceMethod yX9_remember, .selects RX9 yX9_remember yX9_remember, .code yX9_remember cX9_remember 1 none, .fieldLink RX9 13 "PracticeSheetsModel" "kept" "[I", .methodLink RX9 49 yX9_copy, .static yX9_copy, .code yX9_copy cX9_copy 3 none, .methodLink RX9 135 yX9_acted, .instanceMethod yX9_acted, .selects RX9 yX9_acted yX9_acted, .code yX9_acted cX9_acted 3 (some .int), .fieldLink RX9 53 "PracticeSheetsModel" "historyLong" "I", .fieldLink RX9 19 "PracticeSheetsModel" "history" "[I"] ++ wsX90)
def wsX9_isLines : List Cond := .code yX9_isLines cX9_isLines 1 (some .boolean) :: ([.constantLong RX9 155 (10), .methodLink RX9 57 yX9_in, .static yX9_in, .initialized RX9, .code yX9_in cX9_in 6 (some .boolean)])
def wsX9_doSheet_r1 : List Cond := [Cond.fieldLink RX9 93 "PracticeSheetsModel" "lines" "I", Cond.methodLink RX9 157 yX9_isLines, Cond.static yX9_isLines, Cond.initialized RX9, Cond.code yX9_isLines cX9_isLines 1 (some .boolean), Cond.constantLong RX9 155 (10), Cond.methodLink RX9 57 yX9_in, Cond.static yX9_in, Cond.code yX9_in cX9_in 6 (some .boolean), Cond.methodLink RX9 160 yX9_makesSheet, Cond.instanceMethod yX9_makesSheet, Cond.selects RX9 yX9_makesSheet yX9_makesSheet, Cond.code yX9_makesSheet cX9_makesSheet 4 none, Cond.fieldLink RX9 28 "PracticeSheetsModel" "lineWord" "[I", Cond.fieldLink RX9 31 "PracticeSheetsModel" "lineGain" "[I", Cond.fieldLink RX9 61 "PracticeSheetsModel" "parts" "I", Cond.fieldLink RX9 34 "PracticeSheetsModel" "isCovered" "[I", Cond.fieldLink RX9 25 "PracticeSheetsModel" "part" "[I", Cond.methodLink RX9 102 yX9_coversNone, Cond.instanceMethod yX9_coversNone, Cond.selects RX9 yX9_coversNone yX9_coversNone, Cond.code yX9_coversNone cX9_coversNone 2 none, Cond.methodLink RX9 105 yX9_nextWord, Cond.instanceMethod yX9_nextWord]
def wsX9_doSheet_r2 : List Cond := [Cond.selects RX9 yX9_nextWord yX9_nextWord, Cond.code yX9_nextWord cX9_nextWord 6 (some .int), Cond.fieldLink RX9 7 "PracticeSheetsModel" "all" "[I", Cond.methodLink RX9 96 yX9_isOnSheet, Cond.instanceMethod yX9_isOnSheet, Cond.selects RX9 yX9_isOnSheet yX9_isOnSheet, Cond.code yX9_isOnSheet cX9_isOnSheet 4 (some .boolean), Cond.methodLink RX9 99 yX9_gainOf, Cond.instanceMethod yX9_gainOf, Cond.selects RX9 yX9_gainOf yX9_gainOf, Cond.code yX9_gainOf cX9_gainOf 5 (some .int), Cond.methodLink RX9 79 yX9_findsParts, Cond.instanceMethod yX9_findsParts, Cond.selects RX9 yX9_findsParts yX9_findsParts, Cond.code yX9_findsParts cX9_findsParts 3 none, Cond.methodLink RX9 64 yX9_sizeOf, Cond.instanceMethod yX9_sizeOf, Cond.selects RX9 yX9_sizeOf yX9_sizeOf, Cond.code yX9_sizeOf cX9_sizeOf 2 (some .int), Cond.methodLink RX9 68 yX9_letterAt, Cond.instanceMethod yX9_letterAt, Cond.selects RX9 yX9_letterAt yX9_letterAt, Cond.code yX9_letterAt cX9_letterAt 3 (some .int), Cond.methodLink RX9 72 yX9_addsPart]
def wsX9_doSheet_r3 : List Cond := [Cond.instanceMethod yX9_addsPart, Cond.selects RX9 yX9_addsPart yX9_addsPart, Cond.code yX9_addsPart cX9_addsPart 4 none, Cond.methodLink RX9 76 yX9_joinOf, Cond.static yX9_joinOf, Cond.code yX9_joinOf cX9_joinOf 2 (some .int), Cond.methodLink RX9 86 yX9_isUntried, Cond.instanceMethod yX9_isUntried, Cond.selects RX9 yX9_isUntried yX9_isUntried, Cond.code yX9_isUntried cX9_isUntried 2 (some .boolean), Cond.methodLink RX9 90 yX9_needOf, Cond.instanceMethod yX9_needOf, Cond.selects RX9 yX9_needOf yX9_needOf, Cond.code yX9_needOf cX9_needOf 2 (some .int), Cond.methodLink RX9 132 yX9_remember, Cond.instanceMethod yX9_remember, Cond.selects RX9 yX9_remember yX9_remember, Cond.code yX9_remember cX9_remember 1 none, Cond.fieldLink RX9 13 "PracticeSheetsModel" "kept" "[I", Cond.methodLink RX9 49 yX9_copy, Cond.static yX9_copy, Cond.code yX9_copy cX9_copy 3 none, Cond.methodLink RX9 163 yX9_writesSheet, Cond.instanceMethod yX9_writesSheet]
def wsX9_doSheet_r4 : List Cond := [Cond.selects RX9 yX9_writesSheet yX9_writesSheet, Cond.code yX9_writesSheet cX9_writesSheet 4 none, Cond.methodLink RX9 109 yX9_tries, Cond.instanceMethod yX9_tries, Cond.selects RX9 yX9_tries yX9_tries, Cond.code yX9_tries cX9_tries 3 none, Cond.methodLink RX9 135 yX9_acted, Cond.instanceMethod yX9_acted, Cond.selects RX9 yX9_acted yX9_acted, Cond.code yX9_acted cX9_acted 3 (some .int), Cond.fieldLink RX9 53 "PracticeSheetsModel" "historyLong" "I", Cond.fieldLink RX9 19 "PracticeSheetsModel" "history" "[I"]
def wsX9_doSheet : List Cond := .code yX9_doSheet cX9_doSheet 2 (some .int) :: ((wsX9_doSheet_r1 ++ (wsX9_doSheet_r2 ++ (wsX9_doSheet_r3 ++ wsX9_doSheet_r4))) ++ wsX90)
def wsX9_undo : List Cond := .code yX9_undo cX9_undo 2 (some .int) :: ([.fieldLink RX9 53 "PracticeSheetsModel" "historyLong" "I", .fieldLink RX9 7 "PracticeSheetsModel" "all" "[I", .fieldLink RX9 19 "PracticeSheetsModel" "history" "[I"] ++ wsX90)
def wsX9_keep : List Cond := .code yX9_keep cX9_keep 1 (some .int) :: ([.fieldLink RX9 7 "PracticeSheetsModel" "all" "[I", .fieldLink RX9 22 "PracticeSheetsModel" "snapshot" "[I", .fieldLink RX9 166 "PracticeSheetsModel" "isTaken" "I", .methodLink RX9 49 yX9_copy, .static yX9_copy, .initialized RX9, .code yX9_copy cX9_copy 3 none] ++ wsX90)
def wsX9_restore : List Cond := .code yX9_restore cX9_restore 1 (some .int) :: ([.fieldLink RX9 166 "PracticeSheetsModel" "isTaken" "I", .fieldLink RX9 22 "PracticeSheetsModel" "snapshot" "[I", .fieldLink RX9 7 "PracticeSheetsModel" "all" "[I", .methodLink RX9 132 yX9_remember, .instanceMethod yX9_remember, .selects RX9 yX9_remember yX9_remember, .initialized RX9, .code yX9_remember cX9_remember 1 none, .fieldLink RX9 13 "PracticeSheetsModel" "kept" "[I", .methodLink RX9 49 yX9_copy, .static yX9_copy, .code yX9_copy cX9_copy 3 none, .methodLink RX9 135 yX9_acted, .instanceMethod yX9_acted, .selects RX9 yX9_acted yX9_acted, .code yX9_acted cX9_acted 3 (some .int), .fieldLink RX9 53 "PracticeSheetsModel" "historyLong" "I", .fieldLink RX9 19 "PracticeSheetsModel" "history" "[I"] ++ wsX90)
def wsX9_ofPart_r1 : List Cond := [Cond.fieldLink RX9 7 "PracticeSheetsModel" "all" "[I", Cond.methodLink RX9 90 yX9_needOf, Cond.instanceMethod yX9_needOf, Cond.selects RX9 yX9_needOf yX9_needOf, Cond.initialized RX9, Cond.code yX9_needOf cX9_needOf 2 (some .int), Cond.methodLink RX9 169 yX9_wordsWith, Cond.instanceMethod yX9_wordsWith, Cond.selects RX9 yX9_wordsWith yX9_wordsWith, Cond.code yX9_wordsWith cX9_wordsWith 4 (some .int), Cond.methodLink RX9 82 yX9_hasPart, Cond.instanceMethod yX9_hasPart, Cond.selects RX9 yX9_hasPart yX9_hasPart, Cond.code yX9_hasPart cX9_hasPart 5 (some .boolean), Cond.fieldLink RX9 61 "PracticeSheetsModel" "parts" "I", Cond.fieldLink RX9 25 "PracticeSheetsModel" "part" "[I", Cond.methodLink RX9 79 yX9_findsParts, Cond.instanceMethod yX9_findsParts, Cond.selects RX9 yX9_findsParts yX9_findsParts, Cond.code yX9_findsParts cX9_findsParts 3 none, Cond.methodLink RX9 64 yX9_sizeOf, Cond.instanceMethod yX9_sizeOf, Cond.selects RX9 yX9_sizeOf yX9_sizeOf, Cond.code yX9_sizeOf cX9_sizeOf 2 (some .int)]
def wsX9_ofPart_r2 : List Cond := [Cond.methodLink RX9 68 yX9_letterAt, Cond.instanceMethod yX9_letterAt, Cond.selects RX9 yX9_letterAt yX9_letterAt, Cond.code yX9_letterAt cX9_letterAt 3 (some .int), Cond.methodLink RX9 72 yX9_addsPart, Cond.instanceMethod yX9_addsPart, Cond.selects RX9 yX9_addsPart yX9_addsPart, Cond.code yX9_addsPart cX9_addsPart 4 none, Cond.methodLink RX9 76 yX9_joinOf, Cond.static yX9_joinOf, Cond.code yX9_joinOf cX9_joinOf 2 (some .int)]
def wsX9_ofPart : List Cond := .code yX9_ofPart cX9_ofPart 3 (some .int) :: ((wsX9_ofPart_r1 ++ wsX9_ofPart_r2) ++ wsX90)
def wsX9_letter_r1 : List Cond := [Cond.constantLong RX9 116 (97), Cond.constantLong RX9 118 (122), Cond.methodLink RX9 57 yX9_in, Cond.static yX9_in, Cond.initialized RX9, Cond.code yX9_in cX9_in 6 (some .boolean), Cond.methodLink RX9 172 yX9_ofPart, Cond.instanceMethod yX9_ofPart, Cond.selects RX9 yX9_ofPart yX9_ofPart, Cond.code yX9_ofPart cX9_ofPart 3 (some .int), Cond.fieldLink RX9 7 "PracticeSheetsModel" "all" "[I", Cond.methodLink RX9 90 yX9_needOf, Cond.instanceMethod yX9_needOf, Cond.selects RX9 yX9_needOf yX9_needOf, Cond.code yX9_needOf cX9_needOf 2 (some .int), Cond.methodLink RX9 169 yX9_wordsWith, Cond.instanceMethod yX9_wordsWith, Cond.selects RX9 yX9_wordsWith yX9_wordsWith, Cond.code yX9_wordsWith cX9_wordsWith 4 (some .int), Cond.methodLink RX9 82 yX9_hasPart, Cond.instanceMethod yX9_hasPart, Cond.selects RX9 yX9_hasPart yX9_hasPart, Cond.code yX9_hasPart cX9_hasPart 5 (some .boolean), Cond.fieldLink RX9 61 "PracticeSheetsModel" "parts" "I"]
def wsX9_letter_r2 : List Cond := [Cond.fieldLink RX9 25 "PracticeSheetsModel" "part" "[I", Cond.methodLink RX9 79 yX9_findsParts, Cond.instanceMethod yX9_findsParts, Cond.selects RX9 yX9_findsParts yX9_findsParts, Cond.code yX9_findsParts cX9_findsParts 3 none, Cond.methodLink RX9 64 yX9_sizeOf, Cond.instanceMethod yX9_sizeOf, Cond.selects RX9 yX9_sizeOf yX9_sizeOf, Cond.code yX9_sizeOf cX9_sizeOf 2 (some .int), Cond.methodLink RX9 68 yX9_letterAt, Cond.instanceMethod yX9_letterAt, Cond.selects RX9 yX9_letterAt yX9_letterAt, Cond.code yX9_letterAt cX9_letterAt 3 (some .int), Cond.methodLink RX9 72 yX9_addsPart, Cond.instanceMethod yX9_addsPart, Cond.selects RX9 yX9_addsPart yX9_addsPart, Cond.code yX9_addsPart cX9_addsPart 4 none, Cond.methodLink RX9 76 yX9_joinOf, Cond.static yX9_joinOf, Cond.code yX9_joinOf cX9_joinOf 2 (some .int)]
def wsX9_letter : List Cond := .code yX9_letter cX9_letter 3 (some .int) :: ((wsX9_letter_r1 ++ wsX9_letter_r2) ++ wsX90)
def wsX9_join_r1 : List Cond := [Cond.constantLong RX9 116 (97), Cond.constantLong RX9 118 (122), Cond.methodLink RX9 57 yX9_in, Cond.static yX9_in, Cond.initialized RX9, Cond.code yX9_in cX9_in 6 (some .boolean), Cond.methodLink RX9 76 yX9_joinOf, Cond.static yX9_joinOf, Cond.code yX9_joinOf cX9_joinOf 2 (some .int), Cond.methodLink RX9 172 yX9_ofPart, Cond.instanceMethod yX9_ofPart, Cond.selects RX9 yX9_ofPart yX9_ofPart, Cond.code yX9_ofPart cX9_ofPart 3 (some .int), Cond.fieldLink RX9 7 "PracticeSheetsModel" "all" "[I", Cond.methodLink RX9 90 yX9_needOf, Cond.instanceMethod yX9_needOf, Cond.selects RX9 yX9_needOf yX9_needOf, Cond.code yX9_needOf cX9_needOf 2 (some .int), Cond.methodLink RX9 169 yX9_wordsWith, Cond.instanceMethod yX9_wordsWith, Cond.selects RX9 yX9_wordsWith yX9_wordsWith, Cond.code yX9_wordsWith cX9_wordsWith 4 (some .int), Cond.methodLink RX9 82 yX9_hasPart, Cond.instanceMethod yX9_hasPart]
def wsX9_join_r2 : List Cond := [Cond.selects RX9 yX9_hasPart yX9_hasPart, Cond.code yX9_hasPart cX9_hasPart 5 (some .boolean), Cond.fieldLink RX9 61 "PracticeSheetsModel" "parts" "I", Cond.fieldLink RX9 25 "PracticeSheetsModel" "part" "[I", Cond.methodLink RX9 79 yX9_findsParts, Cond.instanceMethod yX9_findsParts, Cond.selects RX9 yX9_findsParts yX9_findsParts, Cond.code yX9_findsParts cX9_findsParts 3 none, Cond.methodLink RX9 64 yX9_sizeOf, Cond.instanceMethod yX9_sizeOf, Cond.selects RX9 yX9_sizeOf yX9_sizeOf, Cond.code yX9_sizeOf cX9_sizeOf 2 (some .int), Cond.methodLink RX9 68 yX9_letterAt, Cond.instanceMethod yX9_letterAt, Cond.selects RX9 yX9_letterAt yX9_letterAt, Cond.code yX9_letterAt cX9_letterAt 3 (some .int), Cond.methodLink RX9 72 yX9_addsPart, Cond.instanceMethod yX9_addsPart, Cond.selects RX9 yX9_addsPart yX9_addsPart, Cond.code yX9_addsPart cX9_addsPart 4 none]
def wsX9_join : List Cond := .code yX9_join cX9_join 4 (some .int) :: ((wsX9_join_r1 ++ wsX9_join_r2) ++ wsX90)
def wsX9_needOfWord_r1 : List Cond := [Cond.fieldLink RX9 61 "PracticeSheetsModel" "parts" "I", Cond.fieldLink RX9 25 "PracticeSheetsModel" "part" "[I", Cond.methodLink RX9 79 yX9_findsParts, Cond.instanceMethod yX9_findsParts, Cond.selects RX9 yX9_findsParts yX9_findsParts, Cond.initialized RX9, Cond.code yX9_findsParts cX9_findsParts 3 none, Cond.methodLink RX9 64 yX9_sizeOf, Cond.instanceMethod yX9_sizeOf, Cond.selects RX9 yX9_sizeOf yX9_sizeOf, Cond.code yX9_sizeOf cX9_sizeOf 2 (some .int), Cond.fieldLink RX9 7 "PracticeSheetsModel" "all" "[I", Cond.methodLink RX9 68 yX9_letterAt, Cond.instanceMethod yX9_letterAt, Cond.selects RX9 yX9_letterAt yX9_letterAt, Cond.code yX9_letterAt cX9_letterAt 3 (some .int), Cond.methodLink RX9 72 yX9_addsPart, Cond.instanceMethod yX9_addsPart, Cond.selects RX9 yX9_addsPart yX9_addsPart, Cond.code yX9_addsPart cX9_addsPart 4 none, Cond.methodLink RX9 76 yX9_joinOf, Cond.static yX9_joinOf, Cond.code yX9_joinOf cX9_joinOf 2 (some .int), Cond.methodLink RX9 90 yX9_needOf]
def wsX9_needOfWord_r2 : List Cond := [Cond.instanceMethod yX9_needOf, Cond.selects RX9 yX9_needOf yX9_needOf, Cond.code yX9_needOf cX9_needOf 2 (some .int)]
def wsX9_needOfWord : List Cond := .code yX9_needOfWord cX9_needOfWord 4 (some .int) :: ((wsX9_needOfWord_r1 ++ wsX9_needOfWord_r2) ++ wsX90)
def wsX9_partsOf_r1 : List Cond := [Cond.fieldLink RX9 61 "PracticeSheetsModel" "parts" "I", Cond.fieldLink RX9 25 "PracticeSheetsModel" "part" "[I", Cond.methodLink RX9 79 yX9_findsParts, Cond.instanceMethod yX9_findsParts, Cond.selects RX9 yX9_findsParts yX9_findsParts, Cond.initialized RX9, Cond.code yX9_findsParts cX9_findsParts 3 none, Cond.methodLink RX9 64 yX9_sizeOf, Cond.instanceMethod yX9_sizeOf, Cond.selects RX9 yX9_sizeOf yX9_sizeOf, Cond.code yX9_sizeOf cX9_sizeOf 2 (some .int), Cond.fieldLink RX9 7 "PracticeSheetsModel" "all" "[I", Cond.methodLink RX9 68 yX9_letterAt, Cond.instanceMethod yX9_letterAt, Cond.selects RX9 yX9_letterAt yX9_letterAt, Cond.code yX9_letterAt cX9_letterAt 3 (some .int), Cond.methodLink RX9 72 yX9_addsPart, Cond.instanceMethod yX9_addsPart, Cond.selects RX9 yX9_addsPart yX9_addsPart, Cond.code yX9_addsPart cX9_addsPart 4 none, Cond.methodLink RX9 76 yX9_joinOf, Cond.static yX9_joinOf, Cond.code yX9_joinOf cX9_joinOf 2 (some .int), Cond.methodLink RX9 86 yX9_isUntried]
def wsX9_partsOf_r2 : List Cond := [Cond.instanceMethod yX9_isUntried, Cond.selects RX9 yX9_isUntried yX9_isUntried, Cond.code yX9_isUntried cX9_isUntried 2 (some .boolean)]
def wsX9_partsOf : List Cond := .code yX9_partsOf cX9_partsOf 5 (some .int) :: ((wsX9_partsOf_r1 ++ wsX9_partsOf_r2) ++ wsX90)
def wsX9_firstGain_r1 : List Cond := [Cond.methodLink RX9 102 yX9_coversNone, Cond.instanceMethod yX9_coversNone, Cond.selects RX9 yX9_coversNone yX9_coversNone, Cond.initialized RX9, Cond.code yX9_coversNone cX9_coversNone 2 none, Cond.fieldLink RX9 34 "PracticeSheetsModel" "isCovered" "[I", Cond.methodLink RX9 99 yX9_gainOf, Cond.instanceMethod yX9_gainOf, Cond.selects RX9 yX9_gainOf yX9_gainOf, Cond.code yX9_gainOf cX9_gainOf 5 (some .int), Cond.fieldLink RX9 61 "PracticeSheetsModel" "parts" "I", Cond.fieldLink RX9 25 "PracticeSheetsModel" "part" "[I", Cond.fieldLink RX9 7 "PracticeSheetsModel" "all" "[I", Cond.methodLink RX9 79 yX9_findsParts, Cond.instanceMethod yX9_findsParts, Cond.selects RX9 yX9_findsParts yX9_findsParts, Cond.code yX9_findsParts cX9_findsParts 3 none, Cond.methodLink RX9 64 yX9_sizeOf, Cond.instanceMethod yX9_sizeOf, Cond.selects RX9 yX9_sizeOf yX9_sizeOf, Cond.code yX9_sizeOf cX9_sizeOf 2 (some .int), Cond.methodLink RX9 68 yX9_letterAt, Cond.instanceMethod yX9_letterAt, Cond.selects RX9 yX9_letterAt yX9_letterAt]
def wsX9_firstGain_r2 : List Cond := [Cond.code yX9_letterAt cX9_letterAt 3 (some .int), Cond.methodLink RX9 72 yX9_addsPart, Cond.instanceMethod yX9_addsPart, Cond.selects RX9 yX9_addsPart yX9_addsPart, Cond.code yX9_addsPart cX9_addsPart 4 none, Cond.methodLink RX9 76 yX9_joinOf, Cond.static yX9_joinOf, Cond.code yX9_joinOf cX9_joinOf 2 (some .int), Cond.methodLink RX9 86 yX9_isUntried, Cond.instanceMethod yX9_isUntried, Cond.selects RX9 yX9_isUntried yX9_isUntried, Cond.code yX9_isUntried cX9_isUntried 2 (some .boolean), Cond.methodLink RX9 90 yX9_needOf, Cond.instanceMethod yX9_needOf, Cond.selects RX9 yX9_needOf yX9_needOf, Cond.code yX9_needOf cX9_needOf 2 (some .int)]
def wsX9_firstGain : List Cond := .code yX9_firstGain cX9_firstGain 2 (some .int) :: ((wsX9_firstGain_r1 ++ wsX9_firstGain_r2) ++ wsX90)
def wsX9_word_r1 : List Cond := [Cond.methodLink RX9 152 yX9_isWord, Cond.instanceMethod yX9_isWord, Cond.selects RX9 yX9_isWord yX9_isWord, Cond.initialized RX9, Cond.code yX9_isWord cX9_isWord 2 (some .boolean), Cond.fieldLink RX9 7 "PracticeSheetsModel" "all" "[I", Cond.methodLink RX9 57 yX9_in, Cond.static yX9_in, Cond.code yX9_in cX9_in 6 (some .boolean), Cond.methodLink RX9 64 yX9_sizeOf, Cond.instanceMethod yX9_sizeOf, Cond.selects RX9 yX9_sizeOf yX9_sizeOf, Cond.code yX9_sizeOf cX9_sizeOf 2 (some .int), Cond.methodLink RX9 175 yX9_needOfWord, Cond.instanceMethod yX9_needOfWord, Cond.selects RX9 yX9_needOfWord yX9_needOfWord, Cond.code yX9_needOfWord cX9_needOfWord 4 (some .int), Cond.fieldLink RX9 61 "PracticeSheetsModel" "parts" "I", Cond.fieldLink RX9 25 "PracticeSheetsModel" "part" "[I", Cond.methodLink RX9 79 yX9_findsParts, Cond.instanceMethod yX9_findsParts, Cond.selects RX9 yX9_findsParts yX9_findsParts, Cond.code yX9_findsParts cX9_findsParts 3 none, Cond.methodLink RX9 68 yX9_letterAt]
def wsX9_word_r2 : List Cond := [Cond.instanceMethod yX9_letterAt, Cond.selects RX9 yX9_letterAt yX9_letterAt, Cond.code yX9_letterAt cX9_letterAt 3 (some .int), Cond.methodLink RX9 72 yX9_addsPart, Cond.instanceMethod yX9_addsPart, Cond.selects RX9 yX9_addsPart yX9_addsPart, Cond.code yX9_addsPart cX9_addsPart 4 none, Cond.methodLink RX9 76 yX9_joinOf, Cond.static yX9_joinOf, Cond.code yX9_joinOf cX9_joinOf 2 (some .int), Cond.methodLink RX9 90 yX9_needOf, Cond.instanceMethod yX9_needOf, Cond.selects RX9 yX9_needOf yX9_needOf, Cond.code yX9_needOf cX9_needOf 2 (some .int), Cond.methodLink RX9 178 yX9_partsOf, Cond.instanceMethod yX9_partsOf, Cond.selects RX9 yX9_partsOf yX9_partsOf, Cond.code yX9_partsOf cX9_partsOf 5 (some .int), Cond.methodLink RX9 86 yX9_isUntried, Cond.instanceMethod yX9_isUntried, Cond.selects RX9 yX9_isUntried yX9_isUntried, Cond.code yX9_isUntried cX9_isUntried 2 (some .boolean), Cond.methodLink RX9 182 yX9_firstGain, Cond.instanceMethod yX9_firstGain]
def wsX9_word_r3 : List Cond := [Cond.selects RX9 yX9_firstGain yX9_firstGain, Cond.code yX9_firstGain cX9_firstGain 2 (some .int), Cond.methodLink RX9 102 yX9_coversNone, Cond.instanceMethod yX9_coversNone, Cond.selects RX9 yX9_coversNone yX9_coversNone, Cond.code yX9_coversNone cX9_coversNone 2 none, Cond.fieldLink RX9 34 "PracticeSheetsModel" "isCovered" "[I", Cond.methodLink RX9 99 yX9_gainOf, Cond.instanceMethod yX9_gainOf, Cond.selects RX9 yX9_gainOf yX9_gainOf, Cond.code yX9_gainOf cX9_gainOf 5 (some .int)]
def wsX9_word : List Cond := .code yX9_word cX9_word 3 (some .int) :: ((wsX9_word_r1 ++ (wsX9_word_r2 ++ wsX9_word_r3)) ++ wsX90)
def wsX9_letterOf : List Cond := .code yX9_letterOf cX9_letterOf 3 (some .int) :: ([.methodLink RX9 152 yX9_isWord, .instanceMethod yX9_isWord, .selects RX9 yX9_isWord yX9_isWord, .initialized RX9, .code yX9_isWord cX9_isWord 2 (some .boolean), .fieldLink RX9 7 "PracticeSheetsModel" "all" "[I", .methodLink RX9 57 yX9_in, .static yX9_in, .code yX9_in cX9_in 6 (some .boolean), .methodLink RX9 64 yX9_sizeOf, .instanceMethod yX9_sizeOf, .selects RX9 yX9_sizeOf yX9_sizeOf, .code yX9_sizeOf cX9_sizeOf 2 (some .int), .methodLink RX9 68 yX9_letterAt, .instanceMethod yX9_letterAt, .selects RX9 yX9_letterAt yX9_letterAt, .code yX9_letterAt cX9_letterAt 3 (some .int)] ++ wsX90)
def wsX9_sheet_r1 : List Cond := [Cond.fieldLink RX9 93 "PracticeSheetsModel" "lines" "I", Cond.fieldLink RX9 28 "PracticeSheetsModel" "lineWord" "[I", Cond.fieldLink RX9 31 "PracticeSheetsModel" "lineGain" "[I", Cond.methodLink RX9 157 yX9_isLines, Cond.static yX9_isLines, Cond.initialized RX9, Cond.code yX9_isLines cX9_isLines 1 (some .boolean), Cond.constantLong RX9 155 (10), Cond.methodLink RX9 57 yX9_in, Cond.static yX9_in, Cond.code yX9_in cX9_in 6 (some .boolean), Cond.methodLink RX9 160 yX9_makesSheet, Cond.instanceMethod yX9_makesSheet, Cond.selects RX9 yX9_makesSheet yX9_makesSheet, Cond.code yX9_makesSheet cX9_makesSheet 4 none, Cond.fieldLink RX9 61 "PracticeSheetsModel" "parts" "I", Cond.fieldLink RX9 34 "PracticeSheetsModel" "isCovered" "[I", Cond.fieldLink RX9 25 "PracticeSheetsModel" "part" "[I", Cond.methodLink RX9 102 yX9_coversNone, Cond.instanceMethod yX9_coversNone, Cond.selects RX9 yX9_coversNone yX9_coversNone, Cond.code yX9_coversNone cX9_coversNone 2 none, Cond.methodLink RX9 105 yX9_nextWord, Cond.instanceMethod yX9_nextWord]
def wsX9_sheet_r2 : List Cond := [Cond.selects RX9 yX9_nextWord yX9_nextWord, Cond.code yX9_nextWord cX9_nextWord 6 (some .int), Cond.fieldLink RX9 7 "PracticeSheetsModel" "all" "[I", Cond.methodLink RX9 96 yX9_isOnSheet, Cond.instanceMethod yX9_isOnSheet, Cond.selects RX9 yX9_isOnSheet yX9_isOnSheet, Cond.code yX9_isOnSheet cX9_isOnSheet 4 (some .boolean), Cond.methodLink RX9 99 yX9_gainOf, Cond.instanceMethod yX9_gainOf, Cond.selects RX9 yX9_gainOf yX9_gainOf, Cond.code yX9_gainOf cX9_gainOf 5 (some .int), Cond.methodLink RX9 79 yX9_findsParts, Cond.instanceMethod yX9_findsParts, Cond.selects RX9 yX9_findsParts yX9_findsParts, Cond.code yX9_findsParts cX9_findsParts 3 none, Cond.methodLink RX9 64 yX9_sizeOf, Cond.instanceMethod yX9_sizeOf, Cond.selects RX9 yX9_sizeOf yX9_sizeOf, Cond.code yX9_sizeOf cX9_sizeOf 2 (some .int), Cond.methodLink RX9 68 yX9_letterAt, Cond.instanceMethod yX9_letterAt, Cond.selects RX9 yX9_letterAt yX9_letterAt, Cond.code yX9_letterAt cX9_letterAt 3 (some .int), Cond.methodLink RX9 72 yX9_addsPart]
def wsX9_sheet_r3 : List Cond := [Cond.instanceMethod yX9_addsPart, Cond.selects RX9 yX9_addsPart yX9_addsPart, Cond.code yX9_addsPart cX9_addsPart 4 none, Cond.methodLink RX9 76 yX9_joinOf, Cond.static yX9_joinOf, Cond.code yX9_joinOf cX9_joinOf 2 (some .int), Cond.methodLink RX9 86 yX9_isUntried, Cond.instanceMethod yX9_isUntried, Cond.selects RX9 yX9_isUntried yX9_isUntried, Cond.code yX9_isUntried cX9_isUntried 2 (some .boolean), Cond.methodLink RX9 90 yX9_needOf, Cond.instanceMethod yX9_needOf, Cond.selects RX9 yX9_needOf yX9_needOf, Cond.code yX9_needOf cX9_needOf 2 (some .int)]
def wsX9_sheet : List Cond := .code yX9_sheet cX9_sheet 4 (some .int) :: ((wsX9_sheet_r1 ++ (wsX9_sheet_r2 ++ wsX9_sheet_r3)) ++ wsX90)
def wsX9_coveredIn : List Cond := .code yX9_coveredIn cX9_coveredIn 5 (some .int) :: ([.fieldLink RX9 34 "PracticeSheetsModel" "isCovered" "[I"] ++ wsX90)
def wsX9_coveredNeeds : List Cond := .code yX9_coveredNeeds cX9_coveredNeeds 3 (some .int) :: ([.fieldLink RX9 34 "PracticeSheetsModel" "isCovered" "[I", .methodLink RX9 90 yX9_needOf, .instanceMethod yX9_needOf, .selects RX9 yX9_needOf yX9_needOf, .initialized RX9, .code yX9_needOf cX9_needOf 2 (some .int), .fieldLink RX9 7 "PracticeSheetsModel" "all" "[I"] ++ wsX90)
def wsX9_gains : List Cond := .code yX9_gains cX9_gains 3 (some .int) :: ([.fieldLink RX9 93 "PracticeSheetsModel" "lines" "I", .fieldLink RX9 31 "PracticeSheetsModel" "lineGain" "[I"] ++ wsX90)
def wsX9_covers_r1 : List Cond := [Cond.constantLong RX9 185 (4), Cond.fieldLink RX9 93 "PracticeSheetsModel" "lines" "I", Cond.methodLink RX9 157 yX9_isLines, Cond.static yX9_isLines, Cond.initialized RX9, Cond.code yX9_isLines cX9_isLines 1 (some .boolean), Cond.constantLong RX9 155 (10), Cond.methodLink RX9 57 yX9_in, Cond.static yX9_in, Cond.code yX9_in cX9_in 6 (some .boolean), Cond.methodLink RX9 160 yX9_makesSheet, Cond.instanceMethod yX9_makesSheet, Cond.selects RX9 yX9_makesSheet yX9_makesSheet, Cond.code yX9_makesSheet cX9_makesSheet 4 none, Cond.fieldLink RX9 28 "PracticeSheetsModel" "lineWord" "[I", Cond.fieldLink RX9 31 "PracticeSheetsModel" "lineGain" "[I", Cond.fieldLink RX9 61 "PracticeSheetsModel" "parts" "I", Cond.fieldLink RX9 34 "PracticeSheetsModel" "isCovered" "[I", Cond.fieldLink RX9 25 "PracticeSheetsModel" "part" "[I", Cond.methodLink RX9 102 yX9_coversNone, Cond.instanceMethod yX9_coversNone, Cond.selects RX9 yX9_coversNone yX9_coversNone, Cond.code yX9_coversNone cX9_coversNone 2 none, Cond.methodLink RX9 105 yX9_nextWord]
def wsX9_covers_r2 : List Cond := [Cond.instanceMethod yX9_nextWord, Cond.selects RX9 yX9_nextWord yX9_nextWord, Cond.code yX9_nextWord cX9_nextWord 6 (some .int), Cond.fieldLink RX9 7 "PracticeSheetsModel" "all" "[I", Cond.methodLink RX9 96 yX9_isOnSheet, Cond.instanceMethod yX9_isOnSheet, Cond.selects RX9 yX9_isOnSheet yX9_isOnSheet, Cond.code yX9_isOnSheet cX9_isOnSheet 4 (some .boolean), Cond.methodLink RX9 99 yX9_gainOf, Cond.instanceMethod yX9_gainOf, Cond.selects RX9 yX9_gainOf yX9_gainOf, Cond.code yX9_gainOf cX9_gainOf 5 (some .int), Cond.methodLink RX9 79 yX9_findsParts, Cond.instanceMethod yX9_findsParts, Cond.selects RX9 yX9_findsParts yX9_findsParts, Cond.code yX9_findsParts cX9_findsParts 3 none, Cond.methodLink RX9 64 yX9_sizeOf, Cond.instanceMethod yX9_sizeOf, Cond.selects RX9 yX9_sizeOf yX9_sizeOf, Cond.code yX9_sizeOf cX9_sizeOf 2 (some .int), Cond.methodLink RX9 68 yX9_letterAt, Cond.instanceMethod yX9_letterAt, Cond.selects RX9 yX9_letterAt yX9_letterAt, Cond.code yX9_letterAt cX9_letterAt 3 (some .int)]
def wsX9_covers_r3 : List Cond := [Cond.methodLink RX9 72 yX9_addsPart, Cond.instanceMethod yX9_addsPart, Cond.selects RX9 yX9_addsPart yX9_addsPart, Cond.code yX9_addsPart cX9_addsPart 4 none, Cond.methodLink RX9 76 yX9_joinOf, Cond.static yX9_joinOf, Cond.code yX9_joinOf cX9_joinOf 2 (some .int), Cond.methodLink RX9 86 yX9_isUntried, Cond.instanceMethod yX9_isUntried, Cond.selects RX9 yX9_isUntried yX9_isUntried, Cond.code yX9_isUntried cX9_isUntried 2 (some .boolean), Cond.methodLink RX9 90 yX9_needOf, Cond.instanceMethod yX9_needOf, Cond.selects RX9 yX9_needOf yX9_needOf, Cond.code yX9_needOf cX9_needOf 2 (some .int), Cond.methodLink RX9 187 yX9_coveredIn, Cond.instanceMethod yX9_coveredIn, Cond.selects RX9 yX9_coveredIn yX9_coveredIn, Cond.code yX9_coveredIn cX9_coveredIn 5 (some .int), Cond.methodLink RX9 190 yX9_coveredNeeds, Cond.instanceMethod yX9_coveredNeeds, Cond.selects RX9 yX9_coveredNeeds yX9_coveredNeeds, Cond.code yX9_coveredNeeds cX9_coveredNeeds 3 (some .int), Cond.methodLink RX9 193 yX9_gains]
def wsX9_covers_r4 : List Cond := [Cond.instanceMethod yX9_gains, Cond.selects RX9 yX9_gains yX9_gains, Cond.code yX9_gains cX9_gains 3 (some .int)]
def wsX9_covers : List Cond := .code yX9_covers cX9_covers 3 (some .int) :: ((wsX9_covers_r1 ++ (wsX9_covers_r2 ++ (wsX9_covers_r3 ++ wsX9_covers_r4))) ++ wsX90)
def wsX9_worst : List Cond := .code yX9_worst cX9_worst 8 (some .int) :: ([.methodLink RX9 90 yX9_needOf, .instanceMethod yX9_needOf, .selects RX9 yX9_needOf yX9_needOf, .initialized RX9, .code yX9_needOf cX9_needOf 2 (some .int), .fieldLink RX9 7 "PracticeSheetsModel" "all" "[I"] ++ wsX90)
def wsX9_missing_r1 : List Cond := [Cond.methodLink RX9 90 yX9_needOf, Cond.instanceMethod yX9_needOf, Cond.selects RX9 yX9_needOf yX9_needOf, Cond.initialized RX9, Cond.code yX9_needOf cX9_needOf 2 (some .int), Cond.fieldLink RX9 7 "PracticeSheetsModel" "all" "[I", Cond.methodLink RX9 169 yX9_wordsWith, Cond.instanceMethod yX9_wordsWith, Cond.selects RX9 yX9_wordsWith yX9_wordsWith, Cond.code yX9_wordsWith cX9_wordsWith 4 (some .int), Cond.methodLink RX9 82 yX9_hasPart, Cond.instanceMethod yX9_hasPart, Cond.selects RX9 yX9_hasPart yX9_hasPart, Cond.code yX9_hasPart cX9_hasPart 5 (some .boolean), Cond.fieldLink RX9 61 "PracticeSheetsModel" "parts" "I", Cond.fieldLink RX9 25 "PracticeSheetsModel" "part" "[I", Cond.methodLink RX9 79 yX9_findsParts, Cond.instanceMethod yX9_findsParts, Cond.selects RX9 yX9_findsParts yX9_findsParts, Cond.code yX9_findsParts cX9_findsParts 3 none, Cond.methodLink RX9 64 yX9_sizeOf, Cond.instanceMethod yX9_sizeOf, Cond.selects RX9 yX9_sizeOf yX9_sizeOf, Cond.code yX9_sizeOf cX9_sizeOf 2 (some .int)]
def wsX9_missing_r2 : List Cond := [Cond.methodLink RX9 68 yX9_letterAt, Cond.instanceMethod yX9_letterAt, Cond.selects RX9 yX9_letterAt yX9_letterAt, Cond.code yX9_letterAt cX9_letterAt 3 (some .int), Cond.methodLink RX9 72 yX9_addsPart, Cond.instanceMethod yX9_addsPart, Cond.selects RX9 yX9_addsPart yX9_addsPart, Cond.code yX9_addsPart cX9_addsPart 4 none, Cond.methodLink RX9 76 yX9_joinOf, Cond.static yX9_joinOf, Cond.code yX9_joinOf cX9_joinOf 2 (some .int)]
def wsX9_missing : List Cond := .code yX9_missing cX9_missing 4 (some .int) :: ((wsX9_missing_r1 ++ wsX9_missing_r2) ++ wsX90)
def wsX9_greatestOfWords_r1 : List Cond := [Cond.fieldLink RX9 7 "PracticeSheetsModel" "all" "[I", Cond.fieldLink RX9 61 "PracticeSheetsModel" "parts" "I", Cond.fieldLink RX9 25 "PracticeSheetsModel" "part" "[I", Cond.methodLink RX9 79 yX9_findsParts, Cond.instanceMethod yX9_findsParts, Cond.selects RX9 yX9_findsParts yX9_findsParts, Cond.initialized RX9, Cond.code yX9_findsParts cX9_findsParts 3 none, Cond.methodLink RX9 64 yX9_sizeOf, Cond.instanceMethod yX9_sizeOf, Cond.selects RX9 yX9_sizeOf yX9_sizeOf, Cond.code yX9_sizeOf cX9_sizeOf 2 (some .int), Cond.methodLink RX9 68 yX9_letterAt, Cond.instanceMethod yX9_letterAt, Cond.selects RX9 yX9_letterAt yX9_letterAt, Cond.code yX9_letterAt cX9_letterAt 3 (some .int), Cond.methodLink RX9 72 yX9_addsPart, Cond.instanceMethod yX9_addsPart, Cond.selects RX9 yX9_addsPart yX9_addsPart, Cond.code yX9_addsPart cX9_addsPart 4 none, Cond.methodLink RX9 76 yX9_joinOf, Cond.static yX9_joinOf, Cond.code yX9_joinOf cX9_joinOf 2 (some .int), Cond.methodLink RX9 90 yX9_needOf]
def wsX9_greatestOfWords_r2 : List Cond := [Cond.instanceMethod yX9_needOf, Cond.selects RX9 yX9_needOf yX9_needOf, Cond.code yX9_needOf cX9_needOf 2 (some .int)]
def wsX9_greatestOfWords : List Cond := .code yX9_greatestOfWords cX9_greatestOfWords 4 (some .int) :: ((wsX9_greatestOfWords_r1 ++ wsX9_greatestOfWords_r2) ++ wsX90)
def wsX9_sheetsTo_r1 : List Cond := [Cond.constantLong RX9 140 (99), Cond.fieldLink RX9 7 "PracticeSheetsModel" "all" "[I", Cond.fieldLink RX9 16 "PracticeSheetsModel" "tried" "[I", Cond.fieldLink RX9 93 "PracticeSheetsModel" "lines" "I", Cond.methodLink RX9 157 yX9_isLines, Cond.static yX9_isLines, Cond.initialized RX9, Cond.code yX9_isLines cX9_isLines 1 (some .boolean), Cond.constantLong RX9 155 (10), Cond.methodLink RX9 57 yX9_in, Cond.static yX9_in, Cond.code yX9_in cX9_in 6 (some .boolean), Cond.methodLink RX9 49 yX9_copy, Cond.static yX9_copy, Cond.code yX9_copy cX9_copy 3 none, Cond.methodLink RX9 196 yX9_greatestOfWords, Cond.instanceMethod yX9_greatestOfWords, Cond.selects RX9 yX9_greatestOfWords yX9_greatestOfWords, Cond.code yX9_greatestOfWords cX9_greatestOfWords 4 (some .int), Cond.fieldLink RX9 61 "PracticeSheetsModel" "parts" "I", Cond.fieldLink RX9 25 "PracticeSheetsModel" "part" "[I", Cond.methodLink RX9 79 yX9_findsParts, Cond.instanceMethod yX9_findsParts, Cond.selects RX9 yX9_findsParts yX9_findsParts]
def wsX9_sheetsTo_r2 : List Cond := [Cond.code yX9_findsParts cX9_findsParts 3 none, Cond.methodLink RX9 64 yX9_sizeOf, Cond.instanceMethod yX9_sizeOf, Cond.selects RX9 yX9_sizeOf yX9_sizeOf, Cond.code yX9_sizeOf cX9_sizeOf 2 (some .int), Cond.methodLink RX9 68 yX9_letterAt, Cond.instanceMethod yX9_letterAt, Cond.selects RX9 yX9_letterAt yX9_letterAt, Cond.code yX9_letterAt cX9_letterAt 3 (some .int), Cond.methodLink RX9 72 yX9_addsPart, Cond.instanceMethod yX9_addsPart, Cond.selects RX9 yX9_addsPart yX9_addsPart, Cond.code yX9_addsPart cX9_addsPart 4 none, Cond.methodLink RX9 76 yX9_joinOf, Cond.static yX9_joinOf, Cond.code yX9_joinOf cX9_joinOf 2 (some .int), Cond.methodLink RX9 90 yX9_needOf, Cond.instanceMethod yX9_needOf, Cond.selects RX9 yX9_needOf yX9_needOf, Cond.code yX9_needOf cX9_needOf 2 (some .int), Cond.methodLink RX9 160 yX9_makesSheet, Cond.instanceMethod yX9_makesSheet, Cond.selects RX9 yX9_makesSheet yX9_makesSheet, Cond.code yX9_makesSheet cX9_makesSheet 4 none]
def wsX9_sheetsTo_r3 : List Cond := [Cond.fieldLink RX9 28 "PracticeSheetsModel" "lineWord" "[I", Cond.fieldLink RX9 31 "PracticeSheetsModel" "lineGain" "[I", Cond.fieldLink RX9 34 "PracticeSheetsModel" "isCovered" "[I", Cond.methodLink RX9 102 yX9_coversNone, Cond.instanceMethod yX9_coversNone, Cond.selects RX9 yX9_coversNone yX9_coversNone, Cond.code yX9_coversNone cX9_coversNone 2 none, Cond.methodLink RX9 105 yX9_nextWord, Cond.instanceMethod yX9_nextWord, Cond.selects RX9 yX9_nextWord yX9_nextWord, Cond.code yX9_nextWord cX9_nextWord 6 (some .int), Cond.methodLink RX9 96 yX9_isOnSheet, Cond.instanceMethod yX9_isOnSheet, Cond.selects RX9 yX9_isOnSheet yX9_isOnSheet, Cond.code yX9_isOnSheet cX9_isOnSheet 4 (some .boolean), Cond.methodLink RX9 99 yX9_gainOf, Cond.instanceMethod yX9_gainOf, Cond.selects RX9 yX9_gainOf yX9_gainOf, Cond.code yX9_gainOf cX9_gainOf 5 (some .int), Cond.methodLink RX9 86 yX9_isUntried, Cond.instanceMethod yX9_isUntried, Cond.selects RX9 yX9_isUntried yX9_isUntried, Cond.code yX9_isUntried cX9_isUntried 2 (some .boolean), Cond.methodLink RX9 163 yX9_writesSheet]
def wsX9_sheetsTo_r4 : List Cond := [Cond.instanceMethod yX9_writesSheet, Cond.selects RX9 yX9_writesSheet yX9_writesSheet, Cond.code yX9_writesSheet cX9_writesSheet 4 none, Cond.methodLink RX9 109 yX9_tries, Cond.instanceMethod yX9_tries, Cond.selects RX9 yX9_tries yX9_tries, Cond.code yX9_tries cX9_tries 3 none]
def wsX9_sheetsTo : List Cond := .code yX9_sheetsTo cX9_sheetsTo 5 (some .int) :: ((wsX9_sheetsTo_r1 ++ (wsX9_sheetsTo_r2 ++ (wsX9_sheetsTo_r3 ++ wsX9_sheetsTo_r4))) ++ wsX90)
def wsX9_greatestNeed : List Cond := .code yX9_greatestNeed cX9_greatestNeed 5 (some .int) :: ([.methodLink RX9 90 yX9_needOf, .instanceMethod yX9_needOf, .selects RX9 yX9_needOf yX9_needOf, .initialized RX9, .code yX9_needOf cX9_needOf 2 (some .int), .fieldLink RX9 7 "PracticeSheetsModel" "all" "[I"] ++ wsX90)
def wsX9_untriedIn : List Cond := .code yX9_untriedIn cX9_untriedIn 5 (some .int) :: ([.methodLink RX9 86 yX9_isUntried, .instanceMethod yX9_isUntried, .selects RX9 yX9_isUntried yX9_isUntried, .initialized RX9, .code yX9_isUntried cX9_isUntried 2 (some .boolean), .fieldLink RX9 7 "PracticeSheetsModel" "all" "[I"] ++ wsX90)
def wsX9_count : List Cond := .code yX9_count cX9_count 2 (some .int) :: ([.fieldLink RX9 7 "PracticeSheetsModel" "all" "[I", .fieldLink RX9 53 "PracticeSheetsModel" "historyLong" "I", .fieldLink RX9 113 "PracticeSheetsModel" "textLong" "I", .methodLink RX9 199 yX9_untriedIn, .instanceMethod yX9_untriedIn, .selects RX9 yX9_untriedIn yX9_untriedIn, .initialized RX9, .code yX9_untriedIn cX9_untriedIn 5 (some .int), .methodLink RX9 86 yX9_isUntried, .instanceMethod yX9_isUntried, .selects RX9 yX9_isUntried yX9_isUntried, .code yX9_isUntried cX9_isUntried 2 (some .boolean), .methodLink RX9 202 yX9_greatestNeed, .instanceMethod yX9_greatestNeed, .selects RX9 yX9_greatestNeed yX9_greatestNeed, .code yX9_greatestNeed cX9_greatestNeed 5 (some .int), .methodLink RX9 90 yX9_needOf, .instanceMethod yX9_needOf, .selects RX9 yX9_needOf yX9_needOf, .code yX9_needOf cX9_needOf 2 (some .int)] ++ wsX90)
def wsJ9_max_7cf53 : List Cond := .code yJ9_max_7cf53 cJ9_max_7cf53 2 (some .int) :: ([])
def wsL_law_r1 : List Cond := [Cond.classLink RL 7 RX8, Cond.instantiable RX8 8, Cond.initialized RX8, Cond.classLink RL 10 RX9, Cond.instantiable RX9 19, Cond.initialized RX9, Cond.methodLink RL 9 yX8_init, Cond.instanceMethod yX8_init, Cond.code yX8_init cX8_init 1 none, Cond.methodLink RX8 3 objectInit, Cond.instanceMethod objectInit, Cond.code objectInit ⟨#[0xb1]⟩ 1 none, Cond.classLink RX8 9 RX4, Cond.instantiable RX4 7, Cond.initialized RX4, Cond.fieldLink RX8 12 "PracticeSheets" "now" "LPracticeSheets$State;", Cond.fieldLink RX8 16 "PracticeSheets" "snapshot" "LPracticeSheets$State;", Cond.fieldLink RX8 19 "PracticeSheets" "trial" "LPracticeSheets$State;", Cond.classLink RX8 22 RX0, Cond.instantiable RX0 2, Cond.initialized RX0, Cond.fieldLink RX8 25 "PracticeSheets" "history" "LPracticeSheets$History;", Cond.classLink RX8 29 RX5, Cond.instantiable RX5 3]
def wsL_law_r2 : List Cond := [Cond.initialized RX5, Cond.fieldLink RX8 32 "PracticeSheets" "text" "LPracticeSheets$Text;", Cond.classLink RX8 36 RX3, Cond.instantiable RX3 5, Cond.initialized RX3, Cond.fieldLink RX8 39 "PracticeSheets" "plan" "LPracticeSheets$Sheet;", Cond.classLink RX8 43 RX2, Cond.instantiable RX2 1, Cond.initialized RX2, Cond.fieldLink RX8 46 "PracticeSheets" "ranking" "LPracticeSheets$Ranking;", Cond.fieldLink RX8 50 "PracticeSheets" "hasSnapshot" "Z", Cond.methodLink RX8 11 yX4_init, Cond.instanceMethod yX4_init, Cond.code yX4_init cX4_init 1 none, Cond.methodLink RX4 3 objectInit, Cond.classLink RX4 9 RX1, Cond.instantiable RX1 2, Cond.initialized RX1, Cond.fieldLink RX4 12 "PracticeSheets$State" "practice" "LPracticeSheets$Practice;", Cond.classLink RX4 18 RX7, Cond.instantiable RX7 2, Cond.initialized RX7, Cond.fieldLink RX4 21 "PracticeSheets$State" "words" "LPracticeSheets$WordList;", Cond.fieldLink RX4 25 "PracticeSheets$State" "weeks" "I"]
def wsL_law_r3 : List Cond := [Cond.fieldLink RX4 29 "PracticeSheets$State" "untried" "I", Cond.fieldLink RX4 32 "PracticeSheets$State" "written" "I", Cond.fieldLink RX4 35 "PracticeSheets$State" "slips" "I", Cond.fieldLink RX4 38 "PracticeSheets$State" "sheets" "I", Cond.methodLink RX4 11 yX1_init, Cond.instanceMethod yX1_init, Cond.code yX1_init cX1_init 1 none, Cond.methodLink RX1 3 objectInit, Cond.arrayClass .int, Cond.fieldLink RX1 9 "PracticeSheets$Practice" "tries" "[I", Cond.fieldLink RX1 15 "PracticeSheets$Practice" "slips" "[I", Cond.methodLink RX4 20 yX7_init, Cond.instanceMethod yX7_init, Cond.code yX7_init cX7_init 2 none, Cond.methodLink RX7 3 objectInit, Cond.classLink RX7 9 RX6, Cond.fieldLink RX7 11 "PracticeSheets$WordList" "words" "[LPracticeSheets$Word;", Cond.instantiable RX6 4, Cond.initialized RX6, Cond.fieldLink RX7 18 "PracticeSheets$WordList" "size" "I", Cond.methodLink RX7 17 yX6_init, Cond.instanceMethod yX6_init, Cond.code yX6_init cX6_init 1 none, Cond.methodLink RX6 3 objectInit]
def wsL_law_r4 : List Cond := [Cond.fieldLink RX6 9 "PracticeSheets$Word" "letters" "[I", Cond.fieldLink RX6 15 "PracticeSheets$Word" "parts" "[I", Cond.fieldLink RX6 18 "PracticeSheets$Word" "length" "I", Cond.fieldLink RX6 22 "PracticeSheets$Word" "partCount" "I", Cond.methodLink RX8 24 yX0_init, Cond.instanceMethod yX0_init, Cond.code yX0_init cX0_init 2 none, Cond.methodLink RX0 3 objectInit, Cond.classLink RX0 9 RX4, Cond.fieldLink RX0 11 "PracticeSheets$History" "states" "[LPracticeSheets$State;", Cond.fieldLink RX0 18 "PracticeSheets$History" "size" "I", Cond.methodLink RX0 17 yX4_init, Cond.methodLink RX8 31 yX5_init, Cond.instanceMethod yX5_init, Cond.code yX5_init cX5_init 1 none, Cond.methodLink RX5 3 objectInit, Cond.arrayClass .char, Cond.fieldLink RX5 9 "PracticeSheets$Text" "signs" "[C", Cond.classLink RX5 15 RX6, Cond.fieldLink RX5 18 "PracticeSheets$Text" "spelled" "LPracticeSheets$Word;", Cond.fieldLink RX5 22 "PracticeSheets$Text" "length" "I", Cond.methodLink RX5 17 yX6_init, Cond.methodLink RX8 38 yX3_init, Cond.instanceMethod yX3_init]
def wsL_law_r5 : List Cond := [Cond.code yX3_init cX3_init 1 none, Cond.methodLink RX3 3 objectInit, Cond.fieldLink RX3 9 "PracticeSheets$Sheet" "words" "[I", Cond.fieldLink RX3 15 "PracticeSheets$Sheet" "gains" "[I", Cond.arrayClass .boolean, Cond.fieldLink RX3 18 "PracticeSheets$Sheet" "isCovered" "[Z", Cond.fieldLink RX3 22 "PracticeSheets$Sheet" "isTaken" "[Z", Cond.fieldLink RX3 25 "PracticeSheets$Sheet" "size" "I", Cond.methodLink RX8 45 yX2_init, Cond.instanceMethod yX2_init, Cond.code yX2_init cX2_init 1 none, Cond.methodLink RX2 3 objectInit, Cond.fieldLink RX2 9 "PracticeSheets$Ranking" "howMany" "[I", Cond.methodLink RL 12 yX9_init, Cond.instanceMethod yX9_init, Cond.code yX9_init cX9_init 1 none, Cond.methodLink RX9 1 objectInit, Cond.fieldLink RX9 7 "PracticeSheetsModel" "all" "[I", Cond.fieldLink RX9 13 "PracticeSheetsModel" "kept" "[I", Cond.fieldLink RX9 16 "PracticeSheetsModel" "tried" "[I", Cond.fieldLink RX9 19 "PracticeSheetsModel" "history" "[I", Cond.fieldLink RX9 22 "PracticeSheetsModel" "snapshot" "[I", Cond.fieldLink RX9 25 "PracticeSheetsModel" "part" "[I", Cond.fieldLink RX9 28 "PracticeSheetsModel" "lineWord" "[I"]
def wsL_law_r6 : List Cond := [Cond.fieldLink RX9 31 "PracticeSheetsModel" "lineGain" "[I", Cond.fieldLink RX9 34 "PracticeSheetsModel" "isCovered" "[I", Cond.fieldLink RX9 37 "PracticeSheetsModel" "text" "[I", Cond.fieldLink RX9 40 "PracticeSheetsModel" "read" "[I", Cond.fieldLink RX9 43 "PracticeSheetsModel" "isMarked" "[I", Cond.fieldLink RX9 46 "PracticeSheetsModel" "isJoinMarked" "[I", Cond.methodLink RL 13 yX8_write, Cond.instanceMethod yX8_write, Cond.selects RX8 yX8_write yX8_write, Cond.code yX8_write cX8_write 3 (some .int), Cond.methodLink RX8 54 yX5_faultAsWritten, Cond.instanceMethod yX5_faultAsWritten, Cond.selects RX5 yX5_faultAsWritten yX5_faultAsWritten, Cond.code yX5_faultAsWritten cX5_faultAsWritten 5 (some .int), Cond.methodLink RX5 26 yX5_mayBeWritten, Cond.static yX5_mayBeWritten, Cond.code yX5_mayBeWritten cX5_mayBeWritten 3 (some .boolean), Cond.static yX8_isLetter, Cond.code yX8_isLetter cX8_isLetter 1 (some .boolean), Cond.methodLink RX8 58 yX0_remember, Cond.instanceMethod yX0_remember, Cond.selects RX0 yX0_remember yX0_remember, Cond.code yX0_remember cX0_remember 2 none, Cond.methodLink RX0 22 yX0_dropOldest]
def wsL_law_r7 : List Cond := [Cond.instanceMethod yX0_dropOldest, Cond.selects RX0 yX0_dropOldest yX0_dropOldest, Cond.code yX0_dropOldest cX0_dropOldest 3 none, Cond.methodLink RX0 25 yX4_copyFrom, Cond.instanceMethod yX4_copyFrom, Cond.selects RX4 yX4_copyFrom yX4_copyFrom, Cond.code yX4_copyFrom cX4_copyFrom 2 none, Cond.methodLink RX4 71 yX1_copyFrom, Cond.instanceMethod yX1_copyFrom, Cond.selects RX1 yX1_copyFrom yX1_copyFrom, Cond.code yX1_copyFrom cX1_copyFrom 2 none, Cond.methodLink RX1 63 arraycopyName, Cond.native arraycopyName, Cond.static arraycopyName, Cond.initialized "java/lang/System", Cond.methodLink RX4 75 yX7_copyFrom, Cond.instanceMethod yX7_copyFrom, Cond.selects RX7 yX7_copyFrom yX7_copyFrom, Cond.code yX7_copyFrom cX7_copyFrom 3 none, Cond.methodLink RX7 26 yX6_copyFrom, Cond.instanceMethod yX6_copyFrom, Cond.selects RX6 yX6_copyFrom yX6_copyFrom, Cond.code yX6_copyFrom cX6_copyFrom 2 none, Cond.methodLink RX6 37 arraycopyName]
def wsL_law_r8 : List Cond := [Cond.methodLink RX8 66 yX5_practiseIn, Cond.instanceMethod yX5_practiseIn, Cond.selects RX5 yX5_practiseIn yX5_practiseIn, Cond.code yX5_practiseIn cX5_practiseIn 8 (some .int), Cond.methodLink RX5 34 yX1_addSlip, Cond.instanceMethod yX1_addSlip, Cond.selects RX1 yX1_addSlip yX1_addSlip, Cond.code yX1_addSlip cX1_addSlip 2 none, Cond.static yX8_isPart, Cond.code yX8_isPart cX8_isPart 1 (some .boolean), Cond.static yX8_letterNumber, Cond.code yX8_letterNumber cX8_letterNumber 1 (some .int), Cond.methodLink RX5 44 yX1_addTry, Cond.instanceMethod yX1_addTry, Cond.selects RX1 yX1_addTry yX1_addTry, Cond.code yX1_addTry cX1_addTry 2 none, Cond.static yX8_joinPart, Cond.code yX8_joinPart cX8_joinPart 2 (some .int), Cond.methodLink RX5 51 yX5_tryJoin, Cond.static yX5_tryJoin, Cond.code yX5_tryJoin cX5_tryJoin 3 none, Cond.methodLink RL 17 yX9_write, Cond.instanceMethod yX9_write, Cond.selects RX9 yX9_write yX9_write]
def wsL_law_r9 : List Cond := [Cond.code yX9_write cX9_write 4 (some .int), Cond.fieldLink RX9 120 "PracticeSheetsModel" "readLong" "I", Cond.methodLink RX9 129 yX9_faultOfWriting, Cond.instanceMethod yX9_faultOfWriting, Cond.selects RX9 yX9_faultOfWriting yX9_faultOfWriting, Cond.code yX9_faultOfWriting cX9_faultOfWriting 4 (some .int), Cond.fieldLink RX9 113 "PracticeSheetsModel" "textLong" "I", Cond.methodLink RX9 123 yX9_isLetter, Cond.instanceMethod yX9_isLetter, Cond.selects RX9 yX9_isLetter yX9_isLetter, Cond.code yX9_isLetter cX9_isLetter 2 (some .boolean), Cond.constantLong RX9 116 (97), Cond.constantLong RX9 118 (122), Cond.methodLink RX9 57 yX9_in, Cond.static yX9_in, Cond.code yX9_in cX9_in 6 (some .boolean), Cond.methodLink RX9 126 yX9_isThere, Cond.instanceMethod yX9_isThere, Cond.selects RX9 yX9_isThere yX9_isThere, Cond.code yX9_isThere cX9_isThere 3 (some .boolean), Cond.methodLink RX9 132 yX9_remember, Cond.instanceMethod yX9_remember, Cond.selects RX9 yX9_remember yX9_remember, Cond.code yX9_remember cX9_remember 1 none]
def wsL_law_r10 : List Cond := [Cond.methodLink RX9 49 yX9_copy, Cond.static yX9_copy, Cond.code yX9_copy cX9_copy 3 none, Cond.methodLink RX9 109 yX9_tries, Cond.instanceMethod yX9_tries, Cond.selects RX9 yX9_tries yX9_tries, Cond.code yX9_tries cX9_tries 3 none, Cond.methodLink RX9 76 yX9_joinOf, Cond.static yX9_joinOf, Cond.code yX9_joinOf cX9_joinOf 2 (some .int), Cond.methodLink RX9 135 yX9_acted, Cond.instanceMethod yX9_acted, Cond.selects RX9 yX9_acted yX9_acted, Cond.code yX9_acted cX9_acted 3 (some .int), Cond.fieldLink RX9 53 "PracticeSheetsModel" "historyLong" "I", Cond.methodLink RL 18 yX8_pass, Cond.instanceMethod yX8_pass, Cond.selects RX8 yX8_pass yX8_pass, Cond.code yX8_pass cX8_pass 2 (some .int), Cond.methodLink RX8 80 yX1_fade, Cond.instanceMethod yX1_fade, Cond.selects RX1 yX1_fade yX1_fade, Cond.code yX1_fade cX1_fade 5 (some .int), Cond.methodLink RL 22 yX9_pass]
def wsL_law_r11 : List Cond := [Cond.instanceMethod yX9_pass, Cond.selects RX9 yX9_pass yX9_pass, Cond.code yX9_pass cX9_pass 4 (some .int), Cond.constantLong RX9 138 (20), Cond.methodLink RL 23 yX8_setUntried, Cond.instanceMethod yX8_setUntried, Cond.selects RX8 yX8_setUntried yX8_setUntried, Cond.code yX8_setUntried cX8_setUntried 3 (some .int), Cond.methodLink RL 26 yX9_setUntried, Cond.instanceMethod yX9_setUntried, Cond.selects RX9 yX9_setUntried yX9_setUntried, Cond.code yX9_setUntried cX9_setUntried 3 (some .int), Cond.constantLong RX9 140 (99), Cond.methodLink RL 27 yX8_addWords, Cond.instanceMethod yX8_addWords, Cond.selects RX8 yX8_addWords yX8_addWords, Cond.code yX8_addWords cX8_addWords 4 (some .int), Cond.methodLink RX8 89 yX5_faultAsWords, Cond.instanceMethod yX5_faultAsWords, Cond.selects RX5 yX5_faultAsWords yX5_faultAsWords, Cond.code yX5_faultAsWords cX5_faultAsWords 3 (some .int), Cond.methodLink RX8 96 yX7_copyFrom, Cond.methodLink RX8 102 yX5_spellInto, Cond.instanceMethod yX5_spellInto]
def wsL_law_r12 : List Cond := [Cond.selects RX5 yX5_spellInto yX5_spellInto, Cond.code yX5_spellInto cX5_spellInto 3 (some .boolean), Cond.methodLink RX5 55 yX6_clear, Cond.instanceMethod yX6_clear, Cond.selects RX6 yX6_clear yX6_clear, Cond.code yX6_clear cX6_clear 1 none, Cond.methodLink RX5 58 yX6_append, Cond.instanceMethod yX6_append, Cond.selects RX6 yX6_append yX6_append, Cond.code yX6_append cX6_append 2 none, Cond.methodLink RX6 25 yX6_addPart, Cond.instanceMethod yX6_addPart, Cond.selects RX6 yX6_addPart yX6_addPart, Cond.code yX6_addPart cX6_addPart 2 none, Cond.methodLink RX6 33 yX6_has, Cond.instanceMethod yX6_has, Cond.selects RX6 yX6_has yX6_has, Cond.code yX6_has cX6_has 3 (some .boolean), Cond.methodLink RX5 61 yX7_take, Cond.instanceMethod yX7_take, Cond.selects RX7 yX7_take yX7_take, Cond.code yX7_take cX7_take 3 (some .boolean), Cond.methodLink RX7 22 yX6_isSpelledAs, Cond.instanceMethod yX6_isSpelledAs]
def wsL_law_r13 : List Cond := [Cond.selects RX6 yX6_isSpelledAs yX6_isSpelledAs, Cond.code yX6_isSpelledAs cX6_isSpelledAs 3 (some .boolean), Cond.methodLink RL 30 yX9_addWords, Cond.instanceMethod yX9_addWords, Cond.selects RX9 yX9_addWords yX9_addWords, Cond.code yX9_addWords cX9_addWords 3 (some .int), Cond.methodLink RX9 145 yX9_faultOfWords, Cond.instanceMethod yX9_faultOfWords, Cond.selects RX9 yX9_faultOfWords yX9_faultOfWords, Cond.code yX9_faultOfWords cX9_faultOfWords 4 (some .int), Cond.methodLink RX9 148 yX9_addsAll, Cond.instanceMethod yX9_addsAll, Cond.selects RX9 yX9_addsAll yX9_addsAll, Cond.code yX9_addsAll cX9_addsAll 5 (some .boolean), Cond.methodLink RX9 142 yX9_isOnList, Cond.instanceMethod yX9_isOnList, Cond.selects RX9 yX9_isOnList yX9_isOnList, Cond.code yX9_isOnList cX9_isOnList 7 (some .boolean), Cond.methodLink RX9 64 yX9_sizeOf, Cond.instanceMethod yX9_sizeOf, Cond.selects RX9 yX9_sizeOf yX9_sizeOf, Cond.code yX9_sizeOf cX9_sizeOf 2 (some .int), Cond.methodLink RX9 68 yX9_letterAt, Cond.instanceMethod yX9_letterAt]
def wsL_law_r14 : List Cond := [Cond.selects RX9 yX9_letterAt yX9_letterAt, Cond.code yX9_letterAt cX9_letterAt 3 (some .int), Cond.methodLink RL 31 yX8_removeWord, Cond.instanceMethod yX8_removeWord, Cond.selects RX8 yX8_removeWord yX8_removeWord, Cond.code yX8_removeWord cX8_removeWord 2 (some .int), Cond.methodLink RX8 109 yX7_at, Cond.instanceMethod yX7_at, Cond.selects RX7 yX7_at yX7_at, Cond.code yX7_at cX7_at 2 (some (.object "PracticeSheets$Word")), Cond.methodLink RX8 113 yX7_drop, Cond.instanceMethod yX7_drop, Cond.selects RX7 yX7_drop yX7_drop, Cond.code yX7_drop cX7_drop 3 none, Cond.methodLink RL 34 yX9_removeWord, Cond.instanceMethod yX9_removeWord, Cond.selects RX9 yX9_removeWord yX9_removeWord, Cond.code yX9_removeWord cX9_removeWord 3 (some .int), Cond.methodLink RX9 152 yX9_isWord, Cond.instanceMethod yX9_isWord, Cond.selects RX9 yX9_isWord yX9_isWord, Cond.code yX9_isWord cX9_isWord 2 (some .boolean), Cond.methodLink RL 35 yX8_doSheet, Cond.instanceMethod yX8_doSheet]
def wsL_law_r15 : List Cond := [Cond.selects RX8 yX8_doSheet yX8_doSheet, Cond.code yX8_doSheet cX8_doSheet 2 (some .int), Cond.methodLink RX8 117 yX8_areLines, Cond.static yX8_areLines, Cond.code yX8_areLines cX8_areLines 1 (some .boolean), Cond.methodLink RX8 121 yX3_choose, Cond.instanceMethod yX3_choose, Cond.selects RX3 yX3_choose yX3_choose, Cond.code yX3_choose cX3_choose 5 none, Cond.methodLink RX3 29 yX3_clear, Cond.instanceMethod yX3_clear, Cond.selects RX3 yX3_clear yX3_clear, Cond.code yX3_clear cX3_clear 2 none, Cond.methodLink RX3 32 yX3_chooseLine, Cond.instanceMethod yX3_chooseLine, Cond.selects RX3 yX3_chooseLine yX3_chooseLine, Cond.code yX3_chooseLine cX3_chooseLine 8 (some .boolean), Cond.methodLink RX3 47 yX3_gainOf, Cond.instanceMethod yX3_gainOf, Cond.selects RX3 yX3_gainOf yX3_gainOf, Cond.code yX3_gainOf cX3_gainOf 6 (some .int), Cond.methodLink RX3 74 yX1_isUntried, Cond.instanceMethod yX1_isUntried, Cond.selects RX1 yX1_isUntried yX1_isUntried]
def wsL_law_r16 : List Cond := [Cond.code yX1_isUntried cX1_isUntried 2 (some .boolean), Cond.methodLink RX1 26 yX1_triesOf, Cond.instanceMethod yX1_triesOf, Cond.selects RX1 yX1_triesOf yX1_triesOf, Cond.code yX1_triesOf cX1_triesOf 2 (some .int), Cond.methodLink RX3 82 yX1_needOf, Cond.instanceMethod yX1_needOf, Cond.selects RX1 yX1_needOf yX1_needOf, Cond.code yX1_needOf cX1_needOf 2 (some .int), Cond.methodLink RX1 29 Lib.Math.max.name, Cond.static Lib.Math.max.name, Cond.initialized "java/lang/Math", Cond.code Lib.Math.max.name Lib.Math.max.code 2 (some .int), Cond.methodLink RX1 22 yX1_slipsOf, Cond.instanceMethod yX1_slipsOf, Cond.selects RX1 yX1_slipsOf yX1_slipsOf, Cond.code yX1_slipsOf cX1_slipsOf 2 (some .int), Cond.methodLink RX3 56 yX3_addLine, Cond.instanceMethod yX3_addLine, Cond.selects RX3 yX3_addLine yX3_addLine, Cond.code yX3_addLine cX3_addLine 5 none, Cond.methodLink RX8 126 yX4_practise, Cond.instanceMethod yX4_practise, Cond.selects RX4 yX4_practise yX4_practise]
def wsL_law_r17 : List Cond := [Cond.code yX4_practise cX4_practise 4 none, Cond.methodLink RX4 49 yX7_at, Cond.methodLink RX4 53 yX1_addTriesOf, Cond.instanceMethod yX1_addTriesOf, Cond.selects RX1 yX1_addTriesOf yX1_addTriesOf, Cond.code yX1_addTriesOf cX1_addTriesOf 3 none, Cond.methodLink RX1 44 yX1_addTry, Cond.methodLink RL 38 yX9_doSheet, Cond.instanceMethod yX9_doSheet, Cond.selects RX9 yX9_doSheet yX9_doSheet, Cond.code yX9_doSheet cX9_doSheet 2 (some .int), Cond.fieldLink RX9 93 "PracticeSheetsModel" "lines" "I", Cond.methodLink RX9 157 yX9_isLines, Cond.static yX9_isLines, Cond.code yX9_isLines cX9_isLines 1 (some .boolean), Cond.constantLong RX9 155 (10), Cond.methodLink RX9 160 yX9_makesSheet, Cond.instanceMethod yX9_makesSheet, Cond.selects RX9 yX9_makesSheet yX9_makesSheet, Cond.code yX9_makesSheet cX9_makesSheet 4 none, Cond.fieldLink RX9 61 "PracticeSheetsModel" "parts" "I", Cond.methodLink RX9 102 yX9_coversNone, Cond.instanceMethod yX9_coversNone, Cond.selects RX9 yX9_coversNone yX9_coversNone]
def wsL_law_r18 : List Cond := [Cond.code yX9_coversNone cX9_coversNone 2 none, Cond.methodLink RX9 105 yX9_nextWord, Cond.instanceMethod yX9_nextWord, Cond.selects RX9 yX9_nextWord yX9_nextWord, Cond.code yX9_nextWord cX9_nextWord 6 (some .int), Cond.methodLink RX9 96 yX9_isOnSheet, Cond.instanceMethod yX9_isOnSheet, Cond.selects RX9 yX9_isOnSheet yX9_isOnSheet, Cond.code yX9_isOnSheet cX9_isOnSheet 4 (some .boolean), Cond.methodLink RX9 99 yX9_gainOf, Cond.instanceMethod yX9_gainOf, Cond.selects RX9 yX9_gainOf yX9_gainOf, Cond.code yX9_gainOf cX9_gainOf 5 (some .int), Cond.methodLink RX9 79 yX9_findsParts, Cond.instanceMethod yX9_findsParts, Cond.selects RX9 yX9_findsParts yX9_findsParts, Cond.code yX9_findsParts cX9_findsParts 3 none, Cond.methodLink RX9 72 yX9_addsPart, Cond.instanceMethod yX9_addsPart, Cond.selects RX9 yX9_addsPart yX9_addsPart, Cond.code yX9_addsPart cX9_addsPart 4 none, Cond.methodLink RX9 86 yX9_isUntried, Cond.instanceMethod yX9_isUntried, Cond.selects RX9 yX9_isUntried yX9_isUntried]
def wsL_law_r19 : List Cond := [Cond.code yX9_isUntried cX9_isUntried 2 (some .boolean), Cond.methodLink RX9 90 yX9_needOf, Cond.instanceMethod yX9_needOf, Cond.selects RX9 yX9_needOf yX9_needOf, Cond.code yX9_needOf cX9_needOf 2 (some .int), Cond.methodLink RX9 163 yX9_writesSheet, Cond.instanceMethod yX9_writesSheet, Cond.selects RX9 yX9_writesSheet yX9_writesSheet, Cond.code yX9_writesSheet cX9_writesSheet 4 none, Cond.methodLink RL 39 yX8_type, Cond.instanceMethod yX8_type, Cond.selects RX8 yX8_type yX8_type, Cond.code yX8_type cX8_type 2 (some .int), Cond.methodLink RX8 130 yX5_append, Cond.instanceMethod yX5_append, Cond.selects RX5 yX5_append yX5_append, Cond.code yX5_append cX5_append 2 (some .boolean), Cond.methodLink RL 43 yX9_type, Cond.instanceMethod yX9_type, Cond.selects RX9 yX9_type yX9_type, Cond.code yX9_type cX9_type 2 (some .int), Cond.methodLink RL 44 yX8_clearText, Cond.instanceMethod yX8_clearText, Cond.selects RX8 yX8_clearText yX8_clearText]
def wsL_law_r20 : List Cond := [Cond.code yX8_clearText cX8_clearText 2 (some .int), Cond.methodLink RL 47 yX9_clearText, Cond.instanceMethod yX9_clearText, Cond.selects RX9 yX9_clearText yX9_clearText, Cond.code yX9_clearText cX9_clearText 2 (some .int), Cond.methodLink RL 48 yX8_undo, Cond.instanceMethod yX8_undo, Cond.selects RX8 yX8_undo yX8_undo, Cond.code yX8_undo cX8_undo 1 (some .int), Cond.methodLink RX8 137 yX0_takeBack, Cond.instanceMethod yX0_takeBack, Cond.selects RX0 yX0_takeBack yX0_takeBack, Cond.code yX0_takeBack cX0_takeBack 2 (some .boolean), Cond.methodLink RL 51 yX9_undo, Cond.instanceMethod yX9_undo, Cond.selects RX9 yX9_undo yX9_undo, Cond.code yX9_undo cX9_undo 2 (some .int), Cond.methodLink RL 52 yX8_keep, Cond.instanceMethod yX8_keep, Cond.selects RX8 yX8_keep yX8_keep, Cond.code yX8_keep cX8_keep 1 (some .int), Cond.methodLink RX8 142 yX4_copyFrom, Cond.methodLink RL 55 yX9_keep, Cond.instanceMethod yX9_keep]
def wsL_law_r21 : List Cond := [Cond.selects RX9 yX9_keep yX9_keep, Cond.code yX9_keep cX9_keep 1 (some .int), Cond.fieldLink RX9 166 "PracticeSheetsModel" "isTaken" "I", Cond.methodLink RL 56 yX8_restore, Cond.instanceMethod yX8_restore, Cond.selects RX8 yX8_restore yX8_restore, Cond.code yX8_restore cX8_restore 1 (some .int), Cond.methodLink RL 59 yX9_restore, Cond.instanceMethod yX9_restore, Cond.selects RX9 yX9_restore yX9_restore, Cond.code yX9_restore cX9_restore 1 (some .int), Cond.methodLink RL 60 yX8_letter, Cond.instanceMethod yX8_letter, Cond.selects RX8 yX8_letter yX8_letter, Cond.code yX8_letter cX8_letter 3 (some .int), Cond.methodLink RX8 144 yX8_isLetter, Cond.methodLink RX8 147 yX8_letterNumber, Cond.methodLink RX8 151 yX8_toldOfPart, Cond.instanceMethod yX8_toldOfPart, Cond.selects RX8 yX8_toldOfPart yX8_toldOfPart, Cond.code yX8_toldOfPart cX8_toldOfPart 3 (some .int), Cond.methodLink RX8 225 yX1_triesOf, Cond.methodLink RX8 228 yX1_slipsOf, Cond.methodLink RX8 207 yX1_needOf]
def wsL_law_r22 : List Cond := [Cond.methodLink RX8 210 yX7_howManyHave, Cond.instanceMethod yX7_howManyHave, Cond.selects RX7 yX7_howManyHave yX7_howManyHave, Cond.code yX7_howManyHave cX7_howManyHave 4 (some .int), Cond.methodLink RX7 30 yX6_has, Cond.methodLink RL 64 yX9_letter, Cond.instanceMethod yX9_letter, Cond.selects RX9 yX9_letter yX9_letter, Cond.code yX9_letter cX9_letter 3 (some .int), Cond.methodLink RX9 172 yX9_ofPart, Cond.instanceMethod yX9_ofPart, Cond.selects RX9 yX9_ofPart yX9_ofPart, Cond.code yX9_ofPart cX9_ofPart 3 (some .int), Cond.methodLink RX9 169 yX9_wordsWith, Cond.instanceMethod yX9_wordsWith, Cond.selects RX9 yX9_wordsWith yX9_wordsWith, Cond.code yX9_wordsWith cX9_wordsWith 4 (some .int), Cond.methodLink RX9 82 yX9_hasPart, Cond.instanceMethod yX9_hasPart, Cond.selects RX9 yX9_hasPart yX9_hasPart, Cond.code yX9_hasPart cX9_hasPart 5 (some .boolean), Cond.methodLink RL 65 yX8_join, Cond.instanceMethod yX8_join, Cond.selects RX8 yX8_join yX8_join]
def wsL_law_r23 : List Cond := [Cond.code yX8_join cX8_join 4 (some .int), Cond.methodLink RX8 155 yX8_joinPart, Cond.methodLink RL 69 yX9_join, Cond.instanceMethod yX9_join, Cond.selects RX9 yX9_join yX9_join, Cond.code yX9_join cX9_join 4 (some .int), Cond.methodLink RL 70 yX8_word, Cond.instanceMethod yX8_word, Cond.selects RX8 yX8_word yX8_word, Cond.code yX8_word cX8_word 4 (some .int), Cond.methodLink RX8 161 yX1_needOfAll, Cond.instanceMethod yX1_needOfAll, Cond.selects RX1 yX1_needOfAll yX1_needOfAll, Cond.code yX1_needOfAll cX1_needOfAll 4 (some .int), Cond.methodLink RX1 57 yX1_needOf, Cond.methodLink RX8 168 yX1_untriedOf, Cond.instanceMethod yX1_untriedOf, Cond.selects RX1 yX1_untriedOf yX1_untriedOf, Cond.code yX1_untriedOf cX1_untriedOf 4 (some .int), Cond.methodLink RX1 60 yX1_isUntried, Cond.methodLink RX8 171 yX3_clear, Cond.methodLink RX8 174 yX3_gainOf, Cond.methodLink RL 74 yX9_word, Cond.instanceMethod yX9_word]
def wsL_law_r24 : List Cond := [Cond.selects RX9 yX9_word yX9_word, Cond.code yX9_word cX9_word 3 (some .int), Cond.methodLink RX9 175 yX9_needOfWord, Cond.instanceMethod yX9_needOfWord, Cond.selects RX9 yX9_needOfWord yX9_needOfWord, Cond.code yX9_needOfWord cX9_needOfWord 4 (some .int), Cond.methodLink RX9 178 yX9_partsOf, Cond.instanceMethod yX9_partsOf, Cond.selects RX9 yX9_partsOf yX9_partsOf, Cond.code yX9_partsOf cX9_partsOf 5 (some .int), Cond.methodLink RX9 182 yX9_firstGain, Cond.instanceMethod yX9_firstGain, Cond.selects RX9 yX9_firstGain yX9_firstGain, Cond.code yX9_firstGain cX9_firstGain 2 (some .int), Cond.methodLink RL 75 yX8_letterOf, Cond.instanceMethod yX8_letterOf, Cond.selects RX8 yX8_letterOf yX8_letterOf, Cond.code yX8_letterOf cX8_letterOf 4 (some .int), Cond.methodLink RL 78 yX9_letterOf, Cond.instanceMethod yX9_letterOf, Cond.selects RX9 yX9_letterOf yX9_letterOf, Cond.code yX9_letterOf cX9_letterOf 3 (some .int), Cond.methodLink RL 79 yX8_sheet, Cond.instanceMethod yX8_sheet]
def wsL_law_r25 : List Cond := [Cond.selects RX8 yX8_sheet yX8_sheet, Cond.code yX8_sheet cX8_sheet 4 (some .int), Cond.methodLink RL 83 yX9_sheet, Cond.instanceMethod yX9_sheet, Cond.selects RX9 yX9_sheet yX9_sheet, Cond.code yX9_sheet cX9_sheet 4 (some .int), Cond.methodLink RL 84 yX8_covers, Cond.instanceMethod yX8_covers, Cond.selects RX8 yX8_covers yX8_covers, Cond.code yX8_covers cX8_covers 3 (some .int), Cond.methodLink RX8 187 yX3_coveredFrom, Cond.instanceMethod yX3_coveredFrom, Cond.selects RX3 yX3_coveredFrom yX3_coveredFrom, Cond.code yX3_coveredFrom cX3_coveredFrom 5 (some .int), Cond.methodLink RX8 190 yX3_needCovered, Cond.instanceMethod yX3_needCovered, Cond.selects RX3 yX3_needCovered yX3_needCovered, Cond.code yX3_needCovered cX3_needCovered 4 (some .int), Cond.methodLink RX8 193 yX3_sumOfGains, Cond.instanceMethod yX3_sumOfGains, Cond.selects RX3 yX3_sumOfGains yX3_sumOfGains, Cond.code yX3_sumOfGains cX3_sumOfGains 3 (some .int), Cond.methodLink RL 87 yX9_covers, Cond.instanceMethod yX9_covers]
def wsL_law_r26 : List Cond := [Cond.selects RX9 yX9_covers yX9_covers, Cond.code yX9_covers cX9_covers 3 (some .int), Cond.constantLong RX9 185 (4), Cond.methodLink RX9 187 yX9_coveredIn, Cond.instanceMethod yX9_coveredIn, Cond.selects RX9 yX9_coveredIn yX9_coveredIn, Cond.code yX9_coveredIn cX9_coveredIn 5 (some .int), Cond.methodLink RX9 190 yX9_coveredNeeds, Cond.instanceMethod yX9_coveredNeeds, Cond.selects RX9 yX9_coveredNeeds yX9_coveredNeeds, Cond.code yX9_coveredNeeds cX9_coveredNeeds 3 (some .int), Cond.methodLink RX9 193 yX9_gains, Cond.instanceMethod yX9_gains, Cond.selects RX9 yX9_gains yX9_gains, Cond.code yX9_gains cX9_gains 3 (some .int), Cond.methodLink RL 88 yX8_worst, Cond.instanceMethod yX8_worst, Cond.selects RX8 yX8_worst yX8_worst, Cond.code yX8_worst cX8_worst 5 (some .int), Cond.methodLink RX8 196 yX8_firstPart, Cond.static yX8_firstPart, Cond.code yX8_firstPart cX8_firstPart 1 (some .int), Cond.methodLink RX8 200 yX8_endOfParts, Cond.static yX8_endOfParts]
def wsL_law_r27 : List Cond := [Cond.code yX8_endOfParts cX8_endOfParts 1 (some .int), Cond.methodLink RX8 203 yX2_partAt, Cond.instanceMethod yX2_partAt, Cond.selects RX2 yX2_partAt yX2_partAt, Cond.code yX2_partAt cX2_partAt 7 (some .int), Cond.methodLink RX2 15 yX2_countNeeds, Cond.instanceMethod yX2_countNeeds, Cond.selects RX2 yX2_countNeeds yX2_countNeeds, Cond.code yX2_countNeeds cX2_countNeeds 6 none, Cond.methodLink RX2 23 yX1_needOf, Cond.methodLink RX2 19 yX2_partWithNeed, Cond.static yX2_partWithNeed, Cond.code yX2_partWithNeed cX2_partWithNeed 7 (some .int), Cond.methodLink RL 92 yX9_worst, Cond.instanceMethod yX9_worst, Cond.selects RX9 yX9_worst yX9_worst, Cond.code yX9_worst cX9_worst 8 (some .int), Cond.methodLink RL 93 yX8_missing, Cond.instanceMethod yX8_missing, Cond.selects RX8 yX8_missing yX8_missing, Cond.code yX8_missing cX8_missing 5 (some .int), Cond.methodLink RL 97 yX9_missing, Cond.instanceMethod yX9_missing, Cond.selects RX9 yX9_missing yX9_missing]
def wsL_law_r28 : List Cond := [Cond.code yX9_missing cX9_missing 4 (some .int), Cond.methodLink RL 98 yX8_sheetsTo, Cond.instanceMethod yX8_sheetsTo, Cond.selects RX8 yX8_sheetsTo yX8_sheetsTo, Cond.code yX8_sheetsTo cX8_sheetsTo 4 (some .int), Cond.methodLink RX8 213 yX4_greatestNeedOfWords, Cond.instanceMethod yX4_greatestNeedOfWords, Cond.selects RX4 yX4_greatestNeedOfWords yX4_greatestNeedOfWords, Cond.code yX4_greatestNeedOfWords cX4_greatestNeedOfWords 3 (some .int), Cond.methodLink RX4 65 Lib.Math.max.name, Cond.methodLink RX4 61 yX1_greatestNeedOf, Cond.instanceMethod yX1_greatestNeedOf, Cond.selects RX1 yX1_greatestNeedOf yX1_greatestNeedOf, Cond.code yX1_greatestNeedOf cX1_greatestNeedOf 4 (some .int), Cond.methodLink RL 101 yX9_sheetsTo, Cond.instanceMethod yX9_sheetsTo, Cond.selects RX9 yX9_sheetsTo yX9_sheetsTo, Cond.code yX9_sheetsTo cX9_sheetsTo 5 (some .int), Cond.methodLink RX9 196 yX9_greatestOfWords, Cond.instanceMethod yX9_greatestOfWords, Cond.selects RX9 yX9_greatestOfWords yX9_greatestOfWords, Cond.code yX9_greatestOfWords cX9_greatestOfWords 4 (some .int), Cond.methodLink RL 102 yX8_count, Cond.instanceMethod yX8_count]
def wsL_law_r29 : List Cond := [Cond.selects RX8 yX8_count yX8_count, Cond.code yX8_count cX8_count 2 (some .int), Cond.methodLink RX8 216 yX1_triedFrom, Cond.instanceMethod yX1_triedFrom, Cond.selects RX1 yX1_triedFrom yX1_triedFrom, Cond.code yX1_triedFrom cX1_triedFrom 5 (some .int), Cond.methodLink RX8 219 yX1_greatestNeedFrom, Cond.instanceMethod yX1_greatestNeedFrom, Cond.selects RX1 yX1_greatestNeedFrom yX1_greatestNeedFrom, Cond.code yX1_greatestNeedFrom cX1_greatestNeedFrom 5 (some .int), Cond.methodLink RL 105 yX9_count, Cond.instanceMethod yX9_count, Cond.selects RX9 yX9_count yX9_count, Cond.code yX9_count cX9_count 2 (some .int), Cond.methodLink RX9 199 yX9_untriedIn, Cond.instanceMethod yX9_untriedIn, Cond.selects RX9 yX9_untriedIn yX9_untriedIn, Cond.code yX9_untriedIn cX9_untriedIn 5 (some .int), Cond.methodLink RX9 202 yX9_greatestNeed, Cond.instanceMethod yX9_greatestNeed, Cond.selects RX9 yX9_greatestNeed yX9_greatestNeed, Cond.code yX9_greatestNeed cX9_greatestNeed 5 (some .int)]
def wsL_law : List Cond := (wsL_law_r1 ++ (wsL_law_r2 ++ (wsL_law_r3 ++ (wsL_law_r4 ++ (wsL_law_r5 ++ (wsL_law_r6 ++ (wsL_law_r7 ++ (wsL_law_r8 ++ (wsL_law_r9 ++ (wsL_law_r10 ++ (wsL_law_r11 ++ (wsL_law_r12 ++ (wsL_law_r13 ++ (wsL_law_r14 ++ (wsL_law_r15 ++ (wsL_law_r16 ++ (wsL_law_r17 ++ (wsL_law_r18 ++ (wsL_law_r19 ++ (wsL_law_r20 ++ (wsL_law_r21 ++ (wsL_law_r22 ++ (wsL_law_r23 ++ (wsL_law_r24 ++ (wsL_law_r25 ++ (wsL_law_r26 ++ (wsL_law_r27 ++ (wsL_law_r28 ++ wsL_law_r29)))))))))))))))))))))))))))) ++ wsX80 ++ wsX90 ++ wsX40 ++ wsX00 ++ wsX50 ++ wsX30 ++ wsX20 ++ wsX10 ++ wsX70 ++ wsX60 ++ ([] : List Cond)
abbrev vwCl : List vw_C := [(RX0, TX0, 2), (RX1, TX1, 2), (RX2, TX2, 1), (RX3, TX3, 5), (RX4, TX4, 7), (RX5, TX5, 3), (RX6, TX6, 4), (RX7, TX7, 2), (RX8, TX8, 8), (RX9, TX9, 19)]
/-! names and word lists: the printed text, its head -/
end
section
/-! ===== THE WORLD: one function M : family → index → slot → int tells what every cell holds; references are fixed by the layout ===== -/
abbrev gW : Type := Nat → Nat → Nat → Int32
/-- one cell's row changed -/
def gU (M : gW) (f k : Nat) (r : Nat → Int32) : gW := fun f' k' => if f' = f ∧ k' = k then r else M f' k'
theorem gU_same (M : gW) (f k : Nat) (r : Nat → Int32) : gU M f k r f k = r := by unfold gU; rw [if_pos ⟨rfl, rfl⟩]
theorem gU_ne {M : gW} {f k f' k' : Nat} {r : Nat → Int32} (h : ¬ (f' = f ∧ k' = k)) : gU M f k r f' k' = M f' k' := by unfold gU; rw [if_neg h]
/-- how long the reference's arrays are -/
def gRl (k : Nat) : Nat := match k with
  | 0 => 1730 | 1 => 1730 | 2 => 1730 | 3 => 6920 | 4 => 1730 | 5 => 29 | 6 => 10 | 7 => 10 | 8 => 702 | 9 => 60 | 10 => 15 | 11 => 15 | _ => 15
/-- what the cell of family f, index k holds, its ints being r -/
def gC (E : Nat → ClassId) (ad : Nat → Nat → Nat) (f k : Nat) (r : Nat → Int32) : va_E := match f with
  | 0 => .inr (8, [.ref (ad 1 0), .ref (ad 1 1), .ref (ad 1 2), .ref (ad 10 0), .ref (ad 12 0), .ref (ad 14 0), .ref (ad 19 0), .int (r 7)])
  | 1 => .inr (4, [.ref (ad 2 k), .ref (ad 5 k), .int (r 2), .int (r 3), .int (r 4), .int (r 5), .int (r 6)])
  | 2 => .inr (1, [.ref (ad 3 k), .ref (ad 4 k)])
  | 3 => .inl (E 0, 702, .inl r)
  | 4 => .inl (E 0, 702, .inl r)
  | 5 => .inr (7, [.ref (ad 6 k), .int (r 1)])
  | 6 => .inl (E 4, 20, .inr (.inr (.inr (.inr (fun i => some (ad 7 (20 * k + i)))))))
  | 7 => .inr (6, [.ref (ad 8 k), .ref (ad 9 k), .int (r 2), .int (r 3)])
  | 8 => .inl (E 0, 15, .inl r)
  | 9 => .inl (E 0, 29, .inl r)
  | 10 => .inr (0, [.ref (ad 11 0), .int (r 1)])
  | 11 => .inl (E 3, 4, .inr (.inr (.inr (.inr (fun i => some (ad 1 (r i).toNatClampNeg))))))
  | 12 => .inr (5, [.ref (ad 13 0), .ref (ad 7 140), .int (r 2)])
  | 13 => .inl (E 2, 60, .inl r)
  | 14 => .inr (3, [.ref (ad 15 0), .ref (ad 16 0), .ref (ad 17 0), .ref (ad 18 0), .int (r 4)])
  | 15 => .inl (E 0, 10, .inl r)
  | 16 => .inl (E 0, 10, .inl r)
  | 17 => .inl (E 1, 702, .inl r)
  | 18 => .inl (E 1, 20, .inl r)
  | 19 => .inr (2, [.ref (ad 20 0)])
  | 20 => .inl (E 0, 100, .inl r)
  | 21 => .inr (9, [.ref (ad 22 0), .ref (ad 22 1), .ref (ad 22 2), .ref (ad 22 3), .int (r 4), .ref (ad 22 4), .int (r 6), .ref (ad 22 5), .int (r 8), .ref (ad 22 6), .ref (ad 22 7), .int (r 11), .ref (ad 22 8), .ref (ad 22 9), .int (r 14), .ref (ad 22 10), .ref (ad 22 11), .ref (ad 22 12), .int (r 18)])
  | _ => .inl (E 0, gRl k, .inl r)
section GC
variable (E : Nat → ClassId) (ad : Nat → Nat → Nat) (k : Nat) (r : Nat → Int32)
theorem gC0 : gC E ad 0 k r = .inr (8, [.ref (ad 1 0), .ref (ad 1 1), .ref (ad 1 2), .ref (ad 10 0), .ref (ad 12 0), .ref (ad 14 0), .ref (ad 19 0), .int (r 7)]) := rfl
theorem gC1 : gC E ad 1 k r = .inr (4, [.ref (ad 2 k), .ref (ad 5 k), .int (r 2), .int (r 3), .int (r 4), .int (r 5), .int (r 6)]) := rfl
theorem gC2 : gC E ad 2 k r = .inr (1, [.ref (ad 3 k), .ref (ad 4 k)]) := rfl
theorem gC3 : gC E ad 3 k r = .inl (E 0, 702, .inl r) := rfl
theorem gC4 : gC E ad 4 k r = .inl (E 0, 702, .inl r) := rfl
theorem gC5 : gC E ad 5 k r = .inr (7, [.ref (ad 6 k), .int (r 1)]) := rfl
theorem gC6 : gC E ad 6 k r = .inl (E 4, 20, .inr (.inr (.inr (.inr (fun i => some (ad 7 (20 * k + i))))))) := rfl
theorem gC7 : gC E ad 7 k r = .inr (6, [.ref (ad 8 k), .ref (ad 9 k), .int (r 2), .int (r 3)]) := rfl
theorem gC8 : gC E ad 8 k r = .inl (E 0, 15, .inl r) := rfl
theorem gC9 : gC E ad 9 k r = .inl (E 0, 29, .inl r) := rfl
theorem gC10 : gC E ad 10 k r = .inr (0, [.ref (ad 11 0), .int (r 1)]) := rfl
theorem gC11 : gC E ad 11 k r = .inl (E 3, 4, .inr (.inr (.inr (.inr (fun i => some (ad 1 (r i).toNatClampNeg)))))) := rfl
theorem gC12 : gC E ad 12 k r = .inr (5, [.ref (ad 13 0), .ref (ad 7 140), .int (r 2)]) := rfl
theorem gC13 : gC E ad 13 k r = .inl (E 2, 60, .inl r) := rfl
theorem gC14 : gC E ad 14 k r = .inr (3, [.ref (ad 15 0), .ref (ad 16 0), .ref (ad 17 0), .ref (ad 18 0), .int (r 4)]) := rfl
theorem gC15 : gC E ad 15 k r = .inl (E 0, 10, .inl r) := rfl
theorem gC16 : gC E ad 16 k r = .inl (E 0, 10, .inl r) := rfl
theorem gC17 : gC E ad 17 k r = .inl (E 1, 702, .inl r) := rfl
theorem gC18 : gC E ad 18 k r = .inl (E 1, 20, .inl r) := rfl
theorem gC19 : gC E ad 19 k r = .inr (2, [.ref (ad 20 0)]) := rfl
theorem gC20 : gC E ad 20 k r = .inl (E 0, 100, .inl r) := rfl
theorem gC21 : gC E ad 21 k r = .inr (9, [.ref (ad 22 0), .ref (ad 22 1), .ref (ad 22 2), .ref (ad 22 3), .int (r 4), .ref (ad 22 4), .int (r 6), .ref (ad 22 5), .int (r 8), .ref (ad 22 6), .ref (ad 22 7), .int (r 11), .ref (ad 22 8), .ref (ad 22 9), .int (r 14), .ref (ad 22 10), .ref (ad 22 11), .ref (ad 22 12), .int (r 18)]) := rfl
theorem gC22 : gC E ad 22 k r = .inl (E 0, gRl k, .inl r) := rfl
end GC
/-- how many cells a family has -/
def gN (f : Nat) : Nat := match f with
  | 0 => 1 | 1 => 7 | 2 => 7 | 3 => 7 | 4 => 7 | 5 => 7 | 6 => 7 | 7 => 141 | 8 => 141 | 9 => 141 | 10 => 1 | 11 => 1 | 12 => 1 | 13 => 1 | 14 => 1 | 15 => 1 | 16 => 1 | 17 => 1 | 18 => 1 | 19 => 1 | 20 => 1 | 21 => 1 | 22 => 13 | _ => 0
/-- the cells of a world: the list L of (family, index) -/
def gL (E : Nat → ClassId) (ad : Nat → Nat → Nat) (L : List (Nat × Nat)) (M : gW) : va_W := L.map (fun q => (ad q.1 q.2, gC E ad q.1 q.2 (M q.1 q.2)))
theorem gL_get {E : Nat → ClassId} {ad : Nat → Nat → Nat} {L : List (Nat × Nat)} {f k : Nat} (M : gW) (h : (f, k) ∈ L) : ∃ q : Nat, L[q]? = some (f, k) ∧ (gL E ad L M)[q]? = some (ad f k, gC E ad f k (M f k)) := by
  obtain ⟨q, hq⟩ := List.getElem?_of_mem h
  exact ⟨q, hq, by rw [gL, List.getElem?_map, hq]; rfl⟩
theorem gL_set {E : Nat → ClassId} {ad : Nat → Nat → Nat} {L : List (Nat × Nat)} {f k q : Nat} (M : gW) (r : Nat → Int32) (hn : L.Nodup) (hq : L[q]? = some (f, k)) : (gL E ad L M).set q (ad f k, gC E ad f k r) = gL E ad L (gU M f k r) := by
  apply List.ext_getElem?
  intro i
  by_cases hi : i = q
  · subst hi
    have hl : i < (gL E ad L M).length := by rw [gL, List.length_map]; exact (List.getElem?_eq_some_iff.mp hq).1
    rw [List.getElem?_set_self hl, gL, List.getElem?_map, hq]
    show _ = some (ad f k, gC E ad f k (gU M f k r f k))
    rw [gU_same]
  · rw [List.getElem?_set_ne (Ne.symm hi), gL, gL, List.getElem?_map, List.getElem?_map]
    cases hx : L[i]? with
    | none => rfl
    | some x =>
      show some (ad x.1 x.2, gC E ad x.1 x.2 (M x.1 x.2)) = some (ad x.1 x.2, gC E ad x.1 x.2 (gU M f k r x.1 x.2))
      rw [gU_ne]
      intro hxy
      have e : x = (f, k) := by rw [← hxy.1, ← hxy.2]
      rw [e] at hx
      exact hi ((List.getElem?_inj (List.getElem?_eq_some_iff.mp hx).1 hn).mp (hx.trans hq.symm))
/-- the arrays' classes -/
def gT (E : Nat → ClassId) : List (ClassId × FieldType) := [(E 0, .int), (E 1, .boolean), (E 2, .char), (E 3, .object "PracticeSheets$State"), (E 4, .object "PracticeSheets$Word")]
/-- the nest mates' words -/
def gNf : List (String × Nat × String × String × String × String) := [("PracticeSheets$Practice", 41, "PracticeSheets$Word", "letters", "[I", "PracticeSheets"), ("PracticeSheets", 178, "PracticeSheets$Word", "letters", "[I", "PracticeSheets"), ("PracticeSheets$Sheet", 63, "PracticeSheets$Word", "parts", "[I", "PracticeSheets"), ("PracticeSheets$Practice", 54, "PracticeSheets$Word", "parts", "[I", "PracticeSheets"), ("PracticeSheets$Sheet", 51, "PracticeSheets$Word", "length", "I", "PracticeSheets"), ("PracticeSheets$Practice", 35, "PracticeSheets$Word", "length", "I", "PracticeSheets"), ("PracticeSheets", 158, "PracticeSheets$Word", "length", "I", "PracticeSheets"), ("PracticeSheets$Sheet", 60, "PracticeSheets$Word", "partCount", "I", "PracticeSheets"), ("PracticeSheets$Practice", 51, "PracticeSheets$Word", "partCount", "I", "PracticeSheets"), ("PracticeSheets", 165, "PracticeSheets$Word", "partCount", "I", "PracticeSheets"), ("PracticeSheets$State", 58, "PracticeSheets$WordList", "words", "[LPracticeSheets$Word;", "PracticeSheets"), ("PracticeSheets$Sheet", 44, "PracticeSheets$WordList", "words", "[LPracticeSheets$Word;", "PracticeSheets"), ("PracticeSheets$State", 57, "PracticeSheets$WordList", "size", "I", "PracticeSheets"), ("PracticeSheets$Sheet", 41, "PracticeSheets$WordList", "size", "I", "PracticeSheets"), ("PracticeSheets", 106, "PracticeSheets$WordList", "size", "I", "PracticeSheets"), ("PracticeSheets", 62, "PracticeSheets$State", "practice", "LPracticeSheets$Practice;", "PracticeSheets"), ("PracticeSheets$Sheet", 70, "PracticeSheets$State", "practice", "LPracticeSheets$Practice;", "PracticeSheets"), ("PracticeSheets$Sheet", 36, "PracticeSheets$State", "words", "LPracticeSheets$WordList;", "PracticeSheets"), ("PracticeSheets", 92, "PracticeSheets$State", "words", "LPracticeSheets$WordList;", "PracticeSheets"), ("PracticeSheets", 77, "PracticeSheets$State", "weeks", "I", "PracticeSheets"), ("PracticeSheets", 86, "PracticeSheets$State", "untried", "I", "PracticeSheets"), ("PracticeSheets$Sheet", 79, "PracticeSheets$State", "untried", "I", "PracticeSheets"), ("PracticeSheets", 70, "PracticeSheets$State", "written", "I", "PracticeSheets"), ("PracticeSheets", 74, "PracticeSheets$State", "slips", "I", "PracticeSheets"), ("PracticeSheets", 222, "PracticeSheets$State", "sheets", "I", "PracticeSheets"), ("PracticeSheets", 141, "PracticeSheets$History", "size", "I", "PracticeSheets"), ("PracticeSheets", 134, "PracticeSheets$Text", "length", "I", "PracticeSheets"), ("PracticeSheets$State", 46, "PracticeSheets$Sheet", "words", "[I", "PracticeSheets"), ("PracticeSheets", 182, "PracticeSheets$Sheet", "words", "[I", "PracticeSheets"), ("PracticeSheets", 184, "PracticeSheets$Sheet", "gains", "[I", "PracticeSheets"), ("PracticeSheets$State", 41, "PracticeSheets$Sheet", "size", "I", "PracticeSheets"), ("PracticeSheets", 125, "PracticeSheets$Sheet", "size", "I", "PracticeSheets")]
def gNm : List (String × Nat × MethodName × String) := [("PracticeSheets$Text", 30, ⟨"PracticeSheets", "isLetter", "(C)Z"⟩, "PracticeSheets"), ("PracticeSheets$Practice", 18, ⟨"PracticeSheets", "isPart", "(I)Z"⟩, "PracticeSheets"), ("PracticeSheets$Text", 40, ⟨"PracticeSheets", "letterNumber", "(C)I"⟩, "PracticeSheets"), ("PracticeSheets$Text", 47, ⟨"PracticeSheets", "joinPart", "(II)I"⟩, "PracticeSheets"), ("PracticeSheets$Word", 29, ⟨"PracticeSheets", "joinPart", "(II)I"⟩, "PracticeSheets"), ("PracticeSheets$Sheet", 66, ⟨"PracticeSheets", "isPart", "(I)Z"⟩, "PracticeSheets"), ("PracticeSheets$Practice", 48, ⟨"PracticeSheets", "joinPart", "(II)I"⟩, "PracticeSheets")]
def gNw (U : State) : Prop := (∀ (i : Nat) (q : String × Nat × String × String × String × String), gNf[i]? = some q → va_Nw (.fieldLinkNest q.1 q.2.1 q.2.2.1 q.2.2.2.1 q.2.2.2.2.1 q.2.2.2.2.2) U) ∧ (∀ (i : Nat) (q : String × Nat × MethodName × String), gNm[i]? = some q → va_Nw (.methodLinkNest q.1 q.2.1 q.2.2.1 q.2.2.2) U)
theorem gNw.warm {s U : State} (hW : s.WarmedH U.vm) (h : gNw s) : gNw U := ⟨fun i q hq => (h.1 i q hq).warmF hW, fun i q hq => (h.2 i q hq).warmM hW⟩
theorem gNw.same {u U : State} (hv : u.vm = U.vm) (h : gNw u) : gNw U := ⟨fun i q hq => (h.1 i q hq).same rfl hv, fun i q hq => (h.2 i q hq).same rfl hv⟩
/-- what stays: the addresses are apart and the method's own, the list has every cell once -/
def gF (E : Nat → ClassId) (ad : Nat → Nat → Nat) (L : List (Nat × Nat)) (A : Nat → Prop) : Prop := (∀ M : gW, va_D A (gL E ad L M)) ∧ L.Nodup
def gLx (L : List (Nat × Nat)) : Prop := ∀ f k : Nat, f < 21 → k < gN f → (f, k) ∈ L
def gLm (L : List (Nat × Nat)) : Prop := ∀ f k : Nat, 21 ≤ f → k < gN f → (f, k) ∈ L
theorem gLx.h {L : List (Nat × Nat)} {f k : Nat} (h : gLx L) (hk : k < gN f) (hf : f < 21 := by decide) : (f, k) ∈ L := h f k hf hk
theorem gLm.h {L : List (Nat × Nat)} {f k : Nat} (h : gLm L) (hk : k < gN f) (hf : 21 ≤ f := by decide) : (f, k) ∈ L := h f k hf hk
def gPre (D : va_G) (E : Nat → ClassId) (ad : Nat → Nat → Nat) (L : List (Nat × Nat)) (M : gW) : State → Prop := fun U => va_P D vwCl (gL E ad L M) U.heap ∧ va_K D vwCl (gT E) U ∧ gNw U
abbrev gPo (D : va_G) (E : Nat → ClassId) (ad : Nat → Nat → Nat) (L : List (Nat × Nat)) : gW → State → Prop := fun M t => va_P D vwCl (gL E ad L M) t.heap
abbrev gQi (D : va_G) (E : Nat → ClassId) (ad : Nat → Nat → Nat) (L : List (Nat × Nat)) (A : Nat → Prop) (K : Int32 → gW → Prop) := va_Qi K (gPo D E ad L) A
abbrev gQv (D : va_G) (E : Nat → ClassId) (ad : Nat → Nat → Nat) (L : List (Nat × Nat)) (A : Nat → Prop) (K : gW → Prop) := va_Qv K (gPo D E ad L) A
abbrev gQq (D : va_G) (E : Nat → ClassId) (ad : Nat → Nat → Nat) (L : List (Nat × Nat)) (A : Nat → Prop) (K : Option Nat → gW → Prop) := va_Qq (fun (r : Option Nat) (M : gW) => ∃ o : Option Nat, r = o.map (ad 7) ∧ K o M) (gPo D E ad L) A
theorem gPre.blind {D : va_G} {E : Nat → ClassId} {ad : Nat → Nat → Nat} {L : List (Nat × Nat)} {M : gW} (av : List Value) : FrameBlind (va_Pc av (gPre D E ad L M)) := fun a U g mk q => ⟨q.1, q.2.1, va_K.moved (u := U) (U := U.calling g mk a) (Vm.Alike.refl U.vm) q.2.2.1, q.2.2.2.same rfl⟩
theorem gPre.at {D : va_G} {E : Nat → ClassId} {ad : Nat → Nat → Nat} {L : List (Nat × Nat)} {M : gW} {s : State} {H : Heap} (hK : va_K D vwCl (gT E) s) (hN : gNw s) (hP : va_P D vwCl (gL E ad L M) H) (av : List Value) (U : State) (hU : U.heap = H) (hW : s.WarmedH U.vm) : va_Pc av (gPre D E ad L M) av.toArray U := ⟨rfl, by rw [hU]; exact hP, va_K.moved hW.alike hK, hN.warm hW⟩
/-! the classes' places -/
theorem gcl0 : vwCl[0]? = some (RX0, TX0, 2) := rfl
theorem gcl1 : vwCl[1]? = some (RX1, TX1, 2) := rfl
theorem gcl2 : vwCl[2]? = some (RX2, TX2, 1) := rfl
theorem gcl3 : vwCl[3]? = some (RX3, TX3, 5) := rfl
theorem gcl4 : vwCl[4]? = some (RX4, TX4, 7) := rfl
theorem gcl5 : vwCl[5]? = some (RX5, TX5, 3) := rfl
theorem gcl6 : vwCl[6]? = some (RX6, TX6, 4) := rfl
theorem gcl7 : vwCl[7]? = some (RX7, TX7, 2) := rfl
theorem gcl8 : vwCl[8]? = some (RX8, TX8, 8) := rfl
theorem gcl9 : vwCl[9]? = some (RX9, TX9, 19) := rfl
/-! ===== THE ROWS over the world ===== -/
section GR
variable {p : Program} {l : Launch} {e : Env} {R : Room} {s : State} {m : MethodId} {args : Array Value} {below : List Frame} {meth : Method} {c : Code} {H : Heap} {locs : List Loc} {cells slots : Nat} {Q : State → Prop}
variable {cc : ByteArray} {pc : Nat} {ls : Array Slot} {rest : List Value} {D : va_G} {A : Nat → Prop} {E : Nat → ClassId} {ad : Nat → Nat → Nat} {L : List (Nat × Nat)} {M : gW} {H0 : Heap} {f k : Nat}
theorem g_get (hx : p.tables.exec = Jvm.exec) (hb : c.code = cc) {own ref C : String} {T : u_T} {N ci index : Nat} {Ts : List Cond} (hts : ∀ w ∈ Ts, w.before args s = true) (hown : s.vm.findClass own = some m.cls) (hK : va_K D vwCl (gT E) s) (hP : va_P D vwCl (gL E ad L M) H) (hm : (f, k) ∈ L) {fs : List Value} (he : gC E ad f k (M f k) = .inr (ci, fs)) (hc : vwCl[ci]? = some (C, T, N)) (hin : ∀ w ∈ u_ws C T N, w ∈ Ts) (j : Nat) (hj : j < N) (hlink : Cond.fieldLink own index ref (T j).2.1 (T j).2.2.1 ∈ Ts) (hsame : (T j).1 = ref) {v : Value} (hv : fs[j]? = some v) (hdg : decode cc pc = .ok (.getfield index, 3))
    (kk : W p l e R s m args below meth c H locs cells slots Q (F0 m (pc + 3) ls (v :: rest))) : W p l e R s m args below meth c H locs cells slots Q (F0 m pc ls (.ref (ad f k) :: rest)) := by
  obtain ⟨q, h1, h2⟩ := gL_get (E := E) (ad := ad) M hm
  rw [he] at h2
  exact va_get hx hb hts hin hown hK hP q h2 hc j hj (hts _ hlink) (fun _ h => by rw [hsame] at h; exact h) hv hdg kk
theorem g_getN (hx : p.tables.exec = Jvm.exec) (hb : c.code = cc) {own ref C host : String} {T : u_T} {N ci index : Nat} {Ts : List Cond} (hts : ∀ w ∈ Ts, w.before args s = true) (hown : s.vm.findClass own = some m.cls) (hK : va_K D vwCl (gT E) s) (hN : gNw s) (hP : va_P D vwCl (gL E ad L M) H) (hm : (f, k) ∈ L) {fs : List Value} (he : gC E ad f k (M f k) = .inr (ci, fs)) (hc : vwCl[ci]? = some (C, T, N)) (hin : ∀ w ∈ u_ws C T N, w ∈ Ts) (j : Nat) (hj : j < N) (i : Nat) (hlink : gNf[i]? = some (own, index, ref, (T j).2.1, (T j).2.2.1, host)) (hsame : (T j).1 = ref) {v : Value} (hv : fs[j]? = some v) (hdg : decode cc pc = .ok (.getfield index, 3))
    (kk : W p l e R s m args below meth c H locs cells slots Q (F0 m (pc + 3) ls (v :: rest))) : W p l e R s m args below meth c H locs cells slots Q (F0 m pc ls (.ref (ad f k) :: rest)) := by
  obtain ⟨q, h1, h2⟩ := gL_get (E := E) (ad := ad) M hm
  rw [he] at h2
  exact va_getN hx hb hts hin hown hK hP q h2 hc j hj (va_Nw.use rfl (hN.1 i _ hlink)) (fun _ h => by rw [hsame] at h; exact h) hv hdg kk
theorem g_put (hx : p.tables.exec = Jvm.exec) (hb : c.code = cc) (hF : gF E ad L A) {own ref C : String} {T : u_T} {N ci index : Nat} {Ts : List Cond} (hts : ∀ w ∈ Ts, w.before args s = true) (hown : s.vm.findClass own = some m.cls) (hK : va_K D vwCl (gT E) s) (hP : va_P D vwCl (gL E ad L M) H) (hS : va_S A H0 H locs) (hm : (f, k) ∈ L) {fs : List Value} (he : gC E ad f k (M f k) = .inr (ci, fs)) (hc : vwCl[ci]? = some (C, T, N)) (hin : ∀ w ∈ u_ws C T N, w ∈ Ts) (ty0 : Nat → FieldType) (hty : ∀ k, k < N → parseFieldDescriptor (T k).2.2.1 = some (ty0 k)) (hnm : ∀ a, a < N → ∀ b, b < N → a ≠ b → (T a).2.1 ≠ (T b).2.1) (j : Nat) (hj : j < N) (hlink : Cond.fieldLink own index ref (T j).2.1 (T j).2.2.1 ∈ Ts) (hsame : (T j).1 = ref) (hfin : (T j).2.2.2 = false) {x : Int32} (hn : narrow (ty0 j) (.int x) = .int x) (hfit : fits (ty0 j) (.int x) = true) (hl : j < fs.length) (he' : gC E ad f k (upd (M f k) j x) = .inr (ci, fs.set j (.int x))) (hdg : decode cc pc = .ok (.putfield index, 3))
    (kk : ∀ (M1 : gW), M1 = gU M f k (upd (M f k) j x) → ∀ (H1 : Heap) (locs1 : List Loc), va_P D vwCl (gL E ad L M1) H1 → va_S A H0 H1 locs1 → W p l e R s m args below meth c H1 locs1 cells slots Q (F0 m (pc + 3) ls rest)) : W p l e R s m args below meth c H locs cells slots Q (F0 m pc ls (.int x :: .ref (ad f k) :: rest)) := by
  obtain ⟨q, h1, h2⟩ := gL_get (E := E) (ad := ad) M hm
  rw [he] at h2
  refine va_put hx hb hts hin ty0 hty hnm hown hK hP (hF.1 M) hS q h2 hc j hj (hts _ hlink) (fun _ h => by rw [hsame] at h; exact h) hfin (hty j hj) hn hfit hl hdg fun H1 locs1 hP1 _ hS1 => ?_
  refine kk _ rfl H1 locs1 ?_ hS1
  rw [← he', gL_set M _ hF.2 h1] at hP1
  exact hP1
theorem g_putN (hx : p.tables.exec = Jvm.exec) (hb : c.code = cc) (hF : gF E ad L A) {own ref C host : String} {T : u_T} {N ci index : Nat} {Ts : List Cond} (hts : ∀ w ∈ Ts, w.before args s = true) (hown : s.vm.findClass own = some m.cls) (hK : va_K D vwCl (gT E) s) (hN : gNw s) (hP : va_P D vwCl (gL E ad L M) H) (hS : va_S A H0 H locs) (hm : (f, k) ∈ L) {fs : List Value} (he : gC E ad f k (M f k) = .inr (ci, fs)) (hc : vwCl[ci]? = some (C, T, N)) (hin : ∀ w ∈ u_ws C T N, w ∈ Ts) (ty0 : Nat → FieldType) (hty : ∀ k, k < N → parseFieldDescriptor (T k).2.2.1 = some (ty0 k)) (hnm : ∀ a, a < N → ∀ b, b < N → a ≠ b → (T a).2.1 ≠ (T b).2.1) (j : Nat) (hj : j < N) (i : Nat) (hlink : gNf[i]? = some (own, index, ref, (T j).2.1, (T j).2.2.1, host)) (hsame : (T j).1 = ref) (hfin : (T j).2.2.2 = false) {x : Int32} (hn : narrow (ty0 j) (.int x) = .int x) (hfit : fits (ty0 j) (.int x) = true) (hl : j < fs.length) (he' : gC E ad f k (upd (M f k) j x) = .inr (ci, fs.set j (.int x))) (hdg : decode cc pc = .ok (.putfield index, 3))
    (kk : ∀ (M1 : gW), M1 = gU M f k (upd (M f k) j x) → ∀ (H1 : Heap) (locs1 : List Loc), va_P D vwCl (gL E ad L M1) H1 → va_S A H0 H1 locs1 → W p l e R s m args below meth c H1 locs1 cells slots Q (F0 m (pc + 3) ls rest)) : W p l e R s m args below meth c H locs cells slots Q (F0 m pc ls (.int x :: .ref (ad f k) :: rest)) := by
  obtain ⟨q, h1, h2⟩ := gL_get (E := E) (ad := ad) M hm
  rw [he] at h2
  refine va_putN hx hb hts hin ty0 hty hnm hown hK hP (hF.1 M) hS q h2 hc j hj (va_Nw.use rfl (hN.1 i _ hlink)) (fun _ h => by rw [hsame] at h; exact h) hfin (hty j hj) hn hfit hl hdg fun H1 locs1 hP1 _ hS1 => ?_
  refine kk _ rfl H1 locs1 ?_ hS1
  rw [← he', gL_set M _ hF.2 h1] at hP1
  exact hP1
theorem g_iald (hx : p.tables.exec = Jvm.exec) (hb : c.code = cc) (hK : va_K D vwCl (gT E) s) (hP : va_P D vwCl (gL E ad L M) H) (hm : (f, k) ∈ L) {n : Nat} (he : gC E ad f k (M f k) = .inl (E 0, n, .inl (M f k))) {i : Int32} (hi : vp_in i n) (hdg : decode cc pc = .ok (.iaload, 1))
    (kk : W p l e R s m args below meth c H locs cells slots Q (F0 m (pc + 1) ls (.int (M f k i.toNatClampNeg) :: rest))) : W p l e R s m args below meth c H locs cells slots Q (F0 m pc ls (.int i :: .ref (ad f k) :: rest)) := by
  obtain ⟨q, h1, h2⟩ := gL_get (E := E) (ad := ad) M hm
  rw [he] at h2
  exact va_iald hx hb hK hP q 0 h2 rfl hi hdg kk
theorem g_zald (hx : p.tables.exec = Jvm.exec) (hb : c.code = cc) (hK : va_K D vwCl (gT E) s) (hP : va_P D vwCl (gL E ad L M) H) (hm : (f, k) ∈ L) {n : Nat} (he : gC E ad f k (M f k) = .inl (E 1, n, .inl (M f k))) {i : Int32} (hi : vp_in i n) (hdg : decode cc pc = .ok (.baload, 1))
    (kk : W p l e R s m args below meth c H locs cells slots Q (F0 m (pc + 1) ls (.int (M f k i.toNatClampNeg) :: rest))) : W p l e R s m args below meth c H locs cells slots Q (F0 m pc ls (.int i :: .ref (ad f k) :: rest)) := by
  obtain ⟨q, h1, h2⟩ := gL_get (E := E) (ad := ad) M hm
  rw [he] at h2
  exact va_zald hx hb hK hP q 1 h2 rfl hi hdg kk
theorem g_cald (hx : p.tables.exec = Jvm.exec) (hb : c.code = cc) (hK : va_K D vwCl (gT E) s) (hP : va_P D vwCl (gL E ad L M) H) (hm : (f, k) ∈ L) {n : Nat} (he : gC E ad f k (M f k) = .inl (E 2, n, .inl (M f k))) {i : Int32} (hi : vp_in i n) (hdg : decode cc pc = .ok (.caload, 1))
    (kk : W p l e R s m args below meth c H locs cells slots Q (F0 m (pc + 1) ls (.int (M f k i.toNatClampNeg) :: rest))) : W p l e R s m args below meth c H locs cells slots Q (F0 m pc ls (.int i :: .ref (ad f k) :: rest)) := by
  obtain ⟨q, h1, h2⟩ := gL_get (E := E) (ad := ad) M hm
  rw [he] at h2
  exact va_cald hx hb hK hP q 2 h2 rfl hi hdg kk
theorem g_iast (hx : p.tables.exec = Jvm.exec) (hb : c.code = cc) (hF : gF E ad L A) (hK : va_K D vwCl (gT E) s) (hP : va_P D vwCl (gL E ad L M) H) (hS : va_S A H0 H locs) (hm : (f, k) ∈ L) {n : Nat} (he : ∀ r, gC E ad f k r = .inl (E 0, n, .inl r)) {i x : Int32} (hi : vp_in i n) (hdg : decode cc pc = .ok (.iastore, 1))
    (kk : ∀ (M1 : gW), M1 = gU M f k (upd (M f k) i.toNatClampNeg x) → ∀ (H1 : Heap) (locs1 : List Loc), va_P D vwCl (gL E ad L M1) H1 → va_S A H0 H1 locs1 → W p l e R s m args below meth c H1 locs1 cells slots Q (F0 m (pc + 1) ls rest)) : W p l e R s m args below meth c H locs cells slots Q (F0 m pc ls (.int x :: .int i :: .ref (ad f k) :: rest)) := by
  obtain ⟨q, h1, h2⟩ := gL_get (E := E) (ad := ad) M hm
  rw [he] at h2
  refine va_iast hx hb hK hP (hF.1 M) hS q 0 h2 rfl hi hdg fun H1 locs1 hP1 _ hS1 => kk _ rfl H1 locs1 ?_ hS1
  rw [← he, gL_set M _ hF.2 h1] at hP1
  exact hP1
theorem g_zast (hx : p.tables.exec = Jvm.exec) (hb : c.code = cc) (hF : gF E ad L A) (hK : va_K D vwCl (gT E) s) (hP : va_P D vwCl (gL E ad L M) H) (hS : va_S A H0 H locs) (hm : (f, k) ∈ L) {n : Nat} (he : ∀ r, gC E ad f k r = .inl (E 1, n, .inl r)) {i x : Int32} (hi : vp_in i n) (hnar : vp_nar .boolean x = x) (hdg : decode cc pc = .ok (.bastore, 1))
    (kk : ∀ (M1 : gW), M1 = gU M f k (upd (M f k) i.toNatClampNeg x) → ∀ (H1 : Heap) (locs1 : List Loc), va_P D vwCl (gL E ad L M1) H1 → va_S A H0 H1 locs1 → W p l e R s m args below meth c H1 locs1 cells slots Q (F0 m (pc + 1) ls rest)) : W p l e R s m args below meth c H locs cells slots Q (F0 m pc ls (.int x :: .int i :: .ref (ad f k) :: rest)) := by
  obtain ⟨q, h1, h2⟩ := gL_get (E := E) (ad := ad) M hm
  rw [he] at h2
  refine va_zast hx hb hK hP (hF.1 M) hS q 1 h2 rfl hi hdg fun H1 locs1 hP1 _ hS1 => kk _ rfl H1 locs1 ?_ hS1
  rw [hnar, ← he, gL_set M _ hF.2 h1] at hP1
  exact hP1
theorem g_cast (hx : p.tables.exec = Jvm.exec) (hb : c.code = cc) (hF : gF E ad L A) (hK : va_K D vwCl (gT E) s) (hP : va_P D vwCl (gL E ad L M) H) (hS : va_S A H0 H locs) (hm : (f, k) ∈ L) {n : Nat} (he : ∀ r, gC E ad f k r = .inl (E 2, n, .inl r)) {i x : Int32} (hi : vp_in i n) (hnar : vp_nar .char x = x) (hdg : decode cc pc = .ok (.castore, 1))
    (kk : ∀ (M1 : gW), M1 = gU M f k (upd (M f k) i.toNatClampNeg x) → ∀ (H1 : Heap) (locs1 : List Loc), va_P D vwCl (gL E ad L M1) H1 → va_S A H0 H1 locs1 → W p l e R s m args below meth c H1 locs1 cells slots Q (F0 m (pc + 1) ls rest)) : W p l e R s m args below meth c H locs cells slots Q (F0 m pc ls (.int x :: .int i :: .ref (ad f k) :: rest)) := by
  obtain ⟨q, h1, h2⟩ := gL_get (E := E) (ad := ad) M hm
  rw [he] at h2
  refine va_cast hx hb hK hP (hF.1 M) hS q 2 h2 rfl hi hdg fun H1 locs1 hP1 _ hS1 => kk _ rfl H1 locs1 ?_ hS1
  rw [hnar, ← he, gL_set M _ hF.2 h1] at hP1
  exact hP1
theorem g_aldw (hx : p.tables.exec = Jvm.exec) (hb : c.code = cc) (hK : va_K D vwCl (gT E) s) (hP : va_P D vwCl (gL E ad L M) H) (hm : (6, k) ∈ L) {i : Int32} (hi : vp_in i 20) (hdg : decode cc pc = .ok (.aaload, 1))
    (kk : W p l e R s m args below meth c H locs cells slots Q (F0 m (pc + 1) ls (.ref (ad 7 (20 * k + i.toNatClampNeg)) :: rest))) : W p l e R s m args below meth c H locs cells slots Q (F0 m pc ls (.int i :: .ref (ad 6 k) :: rest)) := by
  obtain ⟨q, h1, h2⟩ := gL_get (E := E) (ad := ad) M hm
  rw [gC6] at h2
  exact va_aldq hx hb hK hP q 4 h2 rfl hi hdg kk
theorem g_alds (hx : p.tables.exec = Jvm.exec) (hb : c.code = cc) (hK : va_K D vwCl (gT E) s) (hP : va_P D vwCl (gL E ad L M) H) (hm : (11, 0) ∈ L) {i : Int32} (hi : vp_in i 4) (hdg : decode cc pc = .ok (.aaload, 1))
    (kk : W p l e R s m args below meth c H locs cells slots Q (F0 m (pc + 1) ls (.ref (ad 1 (M 11 0 i.toNatClampNeg).toNatClampNeg) :: rest))) : W p l e R s m args below meth c H locs cells slots Q (F0 m pc ls (.int i :: .ref (ad 11 0) :: rest)) := by
  obtain ⟨q, h1, h2⟩ := gL_get (E := E) (ad := ad) M hm
  rw [gC11] at h2
  exact va_aldq hx hb hK hP q 3 h2 rfl hi hdg kk
theorem g_asts (hx : p.tables.exec = Jvm.exec) (hb : c.code = cc) (hF : gF E ad L A) (hK : va_K D vwCl (gT E) s) (hP : va_P D vwCl (gL E ad L M) H) (hS : va_S A H0 H locs) (hm : (11, 0) ∈ L) {j : Nat} (hj : j < 7) (hmj : (1, j) ∈ L) {i : Int32} (hi : vp_in i 4) (hdg : decode cc pc = .ok (.aastore, 1))
    (kk : ∀ (M1 : gW), M1 = gU M 11 0 (upd (M 11 0) i.toNatClampNeg (nI j)) → ∀ (H1 : Heap) (locs1 : List Loc), va_P D vwCl (gL E ad L M1) H1 → va_S A H0 H1 locs1 → W p l e R s m args below meth c H1 locs1 cells slots Q (F0 m (pc + 1) ls rest)) : W p l e R s m args below meth c H locs cells slots Q (F0 m pc ls (.ref (ad 1 j) :: .int i :: .ref (ad 11 0) :: rest)) := by
  obtain ⟨q, h1, h2⟩ := gL_get (E := E) (ad := ad) M hm
  rw [gC11] at h2
  obtain ⟨q', -, h4⟩ := gL_get (E := E) (ad := ad) M hmj
  rw [gC1] at h4
  refine va_astq hx hb hK hP (hF.1 M) hS q 3 q' 4 h2 (r := (RX4, TX4, 7)) rfl h4 rfl hi hdg fun H1 locs1 hP1 _ hS1 => kk _ rfl H1 locs1 ?_ hS1
  have e2 : va_up (fun z => some (ad 1 (M 11 0 z).toNatClampNeg)) i.toNatClampNeg (some (ad 1 j)) = (fun z => some (ad 1 (upd (M 11 0) i.toNatClampNeg (nI j) z).toNatClampNeg)) := by
    funext z
    by_cases hz : z = i.toNatClampNeg
    · subst hz
      simp only [va_up, if_true, upd]
      rw [nI_clamp (by omega)]
    · simp only [va_up, upd, if_neg hz]
  rw [e2] at hP1
  rw [← gL_set M _ hF.2 h1, gC11]
  exact hP1
theorem g_cpy (hx : p.tables.exec = Jvm.exec) (hb : c.code = cc) (hml : c.maxLocals = ls.size) (hF : gF E ad L A) {own : String} {index : Nat} (hown : s.vm.findClass own = some m.cls) {Ts : List Cond} (hts : ∀ w ∈ Ts, w.before args s = true) (hlink : Cond.methodLink own index arraycopyName ∈ Ts) (hnat : Cond.native arraycopyName ∈ Ts) (hstat : Cond.static arraycopyName ∈ Ts) (hini : Cond.initialized "java/lang/System" ∈ Ts)
    (hK : va_K D vwCl (gT E) s) (hP : va_P D vwCl (gL E ad L M) H) (hS : va_S A H0 H locs) {f' k' n0 n1 : Nat} (hm' : (f', k') ∈ L) (hm : (f, k) ∈ L) (he' : gC E ad f' k' (M f' k') = .inl (E 0, n0, .inl (M f' k'))) (he : ∀ r, gC E ad f k r = .inl (E 0, n1, .inl r)) {n : Int32} {N : Nat} (hn : n = nI N) (hN : N < 2 ^ 31) (h4 : N ≤ n0) (h5 : N ≤ n1) (hframes : 1 ≤ R.frames) (hlocals : (rest.map fun v => v.category).sum + 18 ≤ R.locals) (hdg : decode cc pc = .ok (.invokestatic index, 3))
    (kk : ∀ (M1 : gW), M1 = gU M f k (va_cpy (M f' k') (M f k) 0 0 N) → ∀ (H1 : Heap) (locs1 : List Loc), va_P D vwCl (gL E ad L M1) H1 → va_S A H0 H1 locs1 → W p l e R s m args below meth c H1 locs1 cells slots Q (F0 m (pc + 3) ls rest)) : W p l e R s m args below meth c H locs cells slots Q (F0 m pc ls (.int n :: .int 0 :: .ref (ad f k) :: .int 0 :: .ref (ad f' k') :: rest)) := by
  obtain ⟨q', h1', h2'⟩ := gL_get (E := E) (ad := ad) M hm'
  obtain ⟨q, h1, h2⟩ := gL_get (E := E) (ad := ad) M hm
  rw [he'] at h2'
  rw [he] at h2
  subst hn
  have z0 : (0 : Int32).toNatClampNeg = 0 := rfl
  have zN : (nI N).toNatClampNeg = N := nI_clamp hN
  refine va_copyi hx hb hml hown (hts _ hlink) (hts _ hnat) (hts _ hstat) (hts _ hini) hK hP (hF.1 M) hS q' q 0 0 h2' h2 (ty := .int) rfl rfl rfl (by decide) (by decide) (nI_pos hN) (by rw [z0, zN]; omega) (by rw [z0, zN]; omega) (fun i _ => rfl) hframes hlocals hdg fun H1 locs1 hP1 _ hS1 => kk _ rfl H1 locs1 ?_ hS1
  rw [z0, zN, ← he, gL_set M _ hF.2 h1] at hP1
  exact hP1
/-! calls -/
variable {y : MethodName} {bytes : ByteArray} {maxL nL n index : Nat} {ret : Option FieldType} {ws Ts : List Cond} {rm : Room} {own C : String} {As : List Value} {st : List Value}
theorem g_Vi {K : Int32 → gW → Prop} (S : CallFix p m c cc nL s args Ts own) (hK : va_K D vwCl (gT E) s) (hN : gNw s) (hP : va_P D vwCl (gL E ad L M) H) (hS : va_S A H0 H locs) (hM : Met l y ws rm (va_Pc (.ref (ad f k) :: As) (gPre D E ad L M)) (gQi D E ad L A K) 0 0 A) (cw : CallW R s args own C index y bytes maxL ret ws rm 0 0 n) (hm : (f, k) ∈ L) {fs : List Value} {ci : Nat} {q : vw_C} (he : gC E ad f k (M f k) = .inr (ci, fs)) (hc : vwCl[ci]? = some q) (hq : q.1 = C) (hst : st = As.reverse ++ .ref (ad f k) :: rest) (hn : As.length = n) (hsize : ls.size = nL) (hW : (rest.map fun v => v.category).sum ≤ 8) (hf : cells ≤ R.cells ∧ slots ≤ R.slots) (hdg : decode cc pc = .ok (.invokevirtual index, 3))
    (kk : ∀ (r : Int32) (M' : gW) (H1 : Heap) (locs1 : List Loc), K r M' → va_P D vwCl (gL E ad L M') H1 → va_S A H0 H1 locs1 → W p l e R s m args below meth c H1 locs1 cells slots Q (F0 m (pc + 3) ls (.int r :: rest))) : W p l e R s m args below meth c H locs cells slots Q (F0 m pc ls st) := by
  subst hst
  obtain ⟨q0, -, h2⟩ := gL_get (E := E) (ad := ad) M hm
  rw [he] at h2
  refine va_calli (va_runV (As := As) (rest := rest) (b := ad f k) S hM cw ⟨gPre.blind _, by rw [← hq]; exact va_recv hK hP hc h2, fun U hU hW => gPre.at hK hN hP _ U hU hW⟩ rfl hn hsize rfl (lv_room hW) hdg hf) hS (fun _ _ h => h) (fun _ h => h) (fun r u t H1 locs1 ht _ hw hB _ _ hS1 => kk r u H1 locs1 hw ?_ hS1)
  rw [← ht]; exact hB
theorem g_Si {K : Int32 → gW → Prop} (S : CallFix p m c cc nL s args Ts own) (hK : va_K D vwCl (gT E) s) (hN : gNw s) (hP : va_P D vwCl (gL E ad L M) H) (hS : va_S A H0 H locs) (hM : Met l y ws rm (va_Pc As (gPre D E ad L M)) (gQi D E ad L A K) 0 0 A) (cw : CallB R s args own index y bytes maxL ret ws rm 0 0 n ∧ (Cond.static y).before args s = true) (hst : st = As.reverse ++ rest) (hn : As.length = n) (hsize : ls.size = nL) (hW : (rest.map fun v => v.category).sum ≤ 8) (hf : cells ≤ R.cells ∧ slots ≤ R.slots) (hdg : decode cc pc = .ok (.invokestatic index, 3))
    (kk : ∀ (r : Int32) (M' : gW) (H1 : Heap) (locs1 : List Loc), K r M' → va_P D vwCl (gL E ad L M') H1 → va_S A H0 H1 locs1 → W p l e R s m args below meth c H1 locs1 cells slots Q (F0 m (pc + 3) ls (.int r :: rest))) : W p l e R s m args below meth c H locs cells slots Q (F0 m pc ls st) := by
  subst hst
  refine va_calli (va_runS (As := As) (rest := rest) S hM cw ⟨gPre.blind _, fun U hU hW => gPre.at hK hN hP _ U hU hW⟩ rfl hn hsize rfl (lv_room hW) hdg hf) hS (fun _ _ h => h) (fun _ h => h) (fun r u t H1 locs1 ht _ hw hB _ _ hS1 => kk r u H1 locs1 hw ?_ hS1)
  rw [← ht]; exact hB
theorem g_SNi {host : String} {K : Int32 → gW → Prop} (S : CallFix p m c cc nL s args Ts own) (hK : va_K D vwCl (gT E) s) (hN : gNw s) (hP : va_P D vwCl (gL E ad L M) H) (hS : va_S A H0 H locs) (hM : Met l y ws rm (va_Pc As (gPre D E ad L M)) (gQi D E ad L A K) 0 0 A) (cw : va_CN R s args own index y host bytes maxL ret ws rm 0 0 n ∧ (Cond.static y).before args s = true ∧ True) (hst : st = As.reverse ++ rest) (hn : As.length = n) (hsize : ls.size = nL) (hW : (rest.map fun v => v.category).sum ≤ 8) (hf : cells ≤ R.cells ∧ slots ≤ R.slots) (hdg : decode cc pc = .ok (.invokestatic index, 3))
    (kk : ∀ (r : Int32) (M' : gW) (H1 : Heap) (locs1 : List Loc), K r M' → va_P D vwCl (gL E ad L M') H1 → va_S A H0 H1 locs1 → W p l e R s m args below meth c H1 locs1 cells slots Q (F0 m (pc + 3) ls (.int r :: rest))) : W p l e R s m args below meth c H locs cells slots Q (F0 m pc ls st) := by
  subst hst
  refine va_calli (va_runSN (As := As) (rest := rest) S hM cw ⟨gPre.blind _, fun U hU hW => gPre.at hK hN hP _ U hU hW⟩ rfl hn hsize rfl (lv_room hW) hdg hf) hS (fun _ _ h => h) (fun _ h => h) (fun r u t H1 locs1 ht _ hw hB _ _ hS1 => kk r u H1 locs1 hw ?_ hS1)
  rw [← ht]; exact hB
theorem g_Vv {K : gW → Prop} (S : CallFix p m c cc nL s args Ts own) (hK : va_K D vwCl (gT E) s) (hN : gNw s) (hP : va_P D vwCl (gL E ad L M) H) (hS : va_S A H0 H locs) (hM : Met l y ws rm (va_Pc (.ref (ad f k) :: As) (gPre D E ad L M)) (gQv D E ad L A K) 0 0 A) (cw : CallW R s args own C index y bytes maxL ret ws rm 0 0 n) (hm : (f, k) ∈ L) {fs : List Value} {ci : Nat} {q : vw_C} (he : gC E ad f k (M f k) = .inr (ci, fs)) (hc : vwCl[ci]? = some q) (hq : q.1 = C) (hst : st = As.reverse ++ .ref (ad f k) :: rest) (hn : As.length = n) (hsize : ls.size = nL) (hW : (rest.map fun v => v.category).sum ≤ 8) (hf : cells ≤ R.cells ∧ slots ≤ R.slots) (hdg : decode cc pc = .ok (.invokevirtual index, 3))
    (kk : ∀ (M' : gW) (H1 : Heap) (locs1 : List Loc), K M' → va_P D vwCl (gL E ad L M') H1 → va_S A H0 H1 locs1 → W p l e R s m args below meth c H1 locs1 cells slots Q (F0 m (pc + 3) ls rest)) : W p l e R s m args below meth c H locs cells slots Q (F0 m pc ls st) := by
  subst hst
  obtain ⟨q0, -, h2⟩ := gL_get (E := E) (ad := ad) M hm
  rw [he] at h2
  refine va_callv (va_runV (As := As) (rest := rest) (b := ad f k) S hM cw ⟨gPre.blind _, by rw [← hq]; exact va_recv hK hP hc h2, fun U hU hW => gPre.at hK hN hP _ U hU hW⟩ rfl hn hsize rfl (lv_room hW) hdg hf) hS (fun _ _ h => h) (fun _ h => h) (fun u t H1 locs1 ht _ hw hB _ _ hS1 => kk u H1 locs1 hw ?_ hS1)
  rw [← ht]; exact hB
theorem g_Sv {K : gW → Prop} (S : CallFix p m c cc nL s args Ts own) (hK : va_K D vwCl (gT E) s) (hN : gNw s) (hP : va_P D vwCl (gL E ad L M) H) (hS : va_S A H0 H locs) (hM : Met l y ws rm (va_Pc As (gPre D E ad L M)) (gQv D E ad L A K) 0 0 A) (cw : CallB R s args own index y bytes maxL ret ws rm 0 0 n ∧ (Cond.static y).before args s = true) (hst : st = As.reverse ++ rest) (hn : As.length = n) (hsize : ls.size = nL) (hW : (rest.map fun v => v.category).sum ≤ 8) (hf : cells ≤ R.cells ∧ slots ≤ R.slots) (hdg : decode cc pc = .ok (.invokestatic index, 3))
    (kk : ∀ (M' : gW) (H1 : Heap) (locs1 : List Loc), K M' → va_P D vwCl (gL E ad L M') H1 → va_S A H0 H1 locs1 → W p l e R s m args below meth c H1 locs1 cells slots Q (F0 m (pc + 3) ls rest)) : W p l e R s m args below meth c H locs cells slots Q (F0 m pc ls st) := by
  subst hst
  refine va_callv (va_runS (As := As) (rest := rest) S hM cw ⟨gPre.blind _, fun U hU hW => gPre.at hK hN hP _ U hU hW⟩ rfl hn hsize rfl (lv_room hW) hdg hf) hS (fun _ _ h => h) (fun _ h => h) (fun u t H1 locs1 ht _ hw hB _ _ hS1 => kk u H1 locs1 hw ?_ hS1)
  rw [← ht]; exact hB
theorem g_SNv {host : String} {K : gW → Prop} (S : CallFix p m c cc nL s args Ts own) (hK : va_K D vwCl (gT E) s) (hN : gNw s) (hP : va_P D vwCl (gL E ad L M) H) (hS : va_S A H0 H locs) (hM : Met l y ws rm (va_Pc As (gPre D E ad L M)) (gQv D E ad L A K) 0 0 A) (cw : va_CN R s args own index y host bytes maxL ret ws rm 0 0 n ∧ (Cond.static y).before args s = true ∧ True) (hst : st = As.reverse ++ rest) (hn : As.length = n) (hsize : ls.size = nL) (hW : (rest.map fun v => v.category).sum ≤ 8) (hf : cells ≤ R.cells ∧ slots ≤ R.slots) (hdg : decode cc pc = .ok (.invokestatic index, 3))
    (kk : ∀ (M' : gW) (H1 : Heap) (locs1 : List Loc), K M' → va_P D vwCl (gL E ad L M') H1 → va_S A H0 H1 locs1 → W p l e R s m args below meth c H1 locs1 cells slots Q (F0 m (pc + 3) ls rest)) : W p l e R s m args below meth c H locs cells slots Q (F0 m pc ls st) := by
  subst hst
  refine va_callv (va_runSN (As := As) (rest := rest) S hM cw ⟨gPre.blind _, fun U hU hW => gPre.at hK hN hP _ U hU hW⟩ rfl hn hsize rfl (lv_room hW) hdg hf) hS (fun _ _ h => h) (fun _ h => h) (fun u t H1 locs1 ht _ hw hB _ _ hS1 => kk u H1 locs1 hw ?_ hS1)
  rw [← ht]; exact hB
theorem g_Vq {K : Option Nat → gW → Prop} (S : CallFix p m c cc nL s args Ts own) (hK : va_K D vwCl (gT E) s) (hN : gNw s) (hP : va_P D vwCl (gL E ad L M) H) (hS : va_S A H0 H locs) (hM : Met l y ws rm (va_Pc (.ref (ad f k) :: As) (gPre D E ad L M)) (gQq D E ad L A K) 0 0 A) (cw : CallW R s args own C index y bytes maxL ret ws rm 0 0 n) (hm : (f, k) ∈ L) {fs : List Value} {ci : Nat} {q : vw_C} (he : gC E ad f k (M f k) = .inr (ci, fs)) (hc : vwCl[ci]? = some q) (hq : q.1 = C) (hst : st = As.reverse ++ .ref (ad f k) :: rest) (hn : As.length = n) (hsize : ls.size = nL) (hW : (rest.map fun v => v.category).sum ≤ 8) (hf : cells ≤ R.cells ∧ slots ≤ R.slots) (hdg : decode cc pc = .ok (.invokevirtual index, 3))
    (kN : ∀ (M' : gW) (H1 : Heap) (locs1 : List Loc), K none M' → va_P D vwCl (gL E ad L M') H1 → va_S A H0 H1 locs1 → W p l e R s m args below meth c H1 locs1 cells slots Q (F0 m (pc + 3) ls (.null :: rest)))
    (kS : ∀ (o : Nat) (M' : gW) (H1 : Heap) (locs1 : List Loc), K (some o) M' → va_P D vwCl (gL E ad L M') H1 → va_S A H0 H1 locs1 → W p l e R s m args below meth c H1 locs1 cells slots Q (F0 m (pc + 3) ls (.ref (ad 7 o) :: rest))) : W p l e R s m args below meth c H locs cells slots Q (F0 m pc ls st) := by
  subst hst
  obtain ⟨q0, -, h2⟩ := gL_get (E := E) (ad := ad) M hm
  rw [he] at h2
  refine va_callq (va_runV (As := As) (rest := rest) (b := ad f k) S hM cw ⟨gPre.blind _, by rw [← hq]; exact va_recv hK hP hc h2, fun U hU hW => gPre.at hK hN hP _ U hU hW⟩ rfl hn hsize rfl (lv_room hW) hdg hf) hS (fun _ _ h => h) (fun _ h => h) (fun r u t H1 locs1 ht _ hw hB _ _ hS1 => ?_)
  rw [gPo, ht] at hB
  obtain ⟨o, rfl, hw⟩ := hw
  cases o with
  | none => exact kN u H1 locs1 hw hB hS1
  | some o => exact kS o u H1 locs1 hw hB hS1
/-! ends -/
theorem g_iret {K : Int32 → gW → Prop} (hx : p.tables.exec = Jvm.exec) (hb : c.code = cc) (hr : meth.sig.returnType = some .int) (hlocks : meth.locks = false) {v : Int32} (hw : K v M) (hP : va_P D vwCl (gL E ad L M) H) (hS : va_S A s.heap H locs) (hdg : decode cc pc = .ok (.ireturn, 1)) : W p l e R s m args below meth c H locs cells slots (MQ below (gQi D E ad L A K) args s cells slots A) (F0 m pc ls [.int v]) :=
  W.iret hx hb hr (fun t ht _ => ⟨⟨v, M, rfl, hw, by rw [gPo, ht]; exact hP⟩, hS.F ht⟩) hS.2.2 hdg hlocks
theorem g_zret {K : Int32 → gW → Prop} (hx : p.tables.exec = Jvm.exec) (hb : c.code = cc) (hr : meth.sig.returnType = some .boolean) (hlocks : meth.locks = false) {v : Int32} (hv : v = 0 ∨ v = 1) (hw : K v M) (hP : va_P D vwCl (gL E ad L M) H) (hS : va_S A s.heap H locs) (hdg : decode cc pc = .ok (.ireturn, 1)) : W p l e R s m args below meth c H locs cells slots (MQ below (gQi D E ad L A K) args s cells slots A) (F0 m pc ls [.int v]) :=
  W.zret hx hb hr (by rcases hv with rfl | rfl <;> rfl) (fun t ht _ => ⟨⟨v, M, rfl, hw, by rw [gPo, ht]; exact hP⟩, hS.F ht⟩) hS.2.2 hdg hlocks
theorem g_vret {K : gW → Prop} (hx : p.tables.exec = Jvm.exec) (hb : c.code = cc) (hr : meth.sig.returnType = none) (hlocks : meth.locks = false) (hw : K M) (hP : va_P D vwCl (gL E ad L M) H) (hS : va_S A s.heap H locs) (hdg : decode cc pc = .ok (.return_, 1)) : W p l e R s m args below meth c H locs cells slots (MQ below (gQv D E ad L A K) args s cells slots A) (F0 m pc ls []) :=
  W.vret hx hb hr (fun t ht _ => ⟨⟨M, rfl, hw, by rw [gPo, ht]; exact hP⟩, hS.F ht⟩) hS.2.2 hdg hlocks
theorem g_aret {K : Option Nat → gW → Prop} {rn : String} (hx : p.tables.exec = Jvm.exec) (hb : c.code = cc) (hr : meth.sig.returnType = some (.object rn)) (hlocks : meth.locks = false) {o : Nat} (hw : K (some o) M) (hP : va_P D vwCl (gL E ad L M) H) (hS : va_S A s.heap H locs) (hdg : decode cc pc = .ok (.areturn, 1)) : W p l e R s m args below meth c H locs cells slots (MQ below (gQq D E ad L A K) args s cells slots A) (F0 m pc ls [.ref (ad 7 o)]) :=
  W.aret hx hb hr (Or.inl ⟨_, rfl⟩) (Or.inr ⟨_, rfl⟩) (fun t ht _ => ⟨⟨some (ad 7 o), M, rfl, ⟨some o, rfl, hw⟩, by rw [gPo, ht]; exact hP⟩, hS.F ht⟩) hS.2.2 hdg hlocks
theorem g_aretN {K : Option Nat → gW → Prop} {rn : String} (hx : p.tables.exec = Jvm.exec) (hb : c.code = cc) (hr : meth.sig.returnType = some (.object rn)) (hlocks : meth.locks = false) (hw : K none M) (hP : va_P D vwCl (gL E ad L M) H) (hS : va_S A s.heap H locs) (hdg : decode cc pc = .ok (.areturn, 1)) : W p l e R s m args below meth c H locs cells slots (MQ below (gQq D E ad L A K) args s cells slots A) (F0 m pc ls [.null]) :=
  W.aret hx hb hr (Or.inl ⟨_, rfl⟩) (Or.inl rfl) (fun t ht _ => ⟨⟨none, M, rfl, ⟨none, rfl, hw⟩, by rw [gPo, ht]; exact hP⟩, hS.F ht⟩) hS.2.2 hdg hlocks
/-! switches -/
theorem g_swK (hx : p.tables.exec = Jvm.exec) (hb : c.code = cc) {dflt hi : Int} {offs : Array Int} {len : Nat} {x : Int32} {off : Int} {tgt : Nat} (hdg : decode cc pc = .ok (.tableswitch dflt 0 hi offs, len)) (i : Nat) (hxi : x = nI i) (hi31 : i < 2 ^ 31) (hhi : (i : Int) ≤ hi) (ho : offs[i]? = some off) (ht : (pc : Int) + off = (tgt : Int))
    (kk : W p l e R s m args below meth c H locs cells slots Q (F0 m tgt ls rest)) : W p l e R s m args below meth c H locs cells slots Q (F0 m pc ls (.int x :: rest)) := by
  subst hxi
  have h := nI_toInt hi31
  refine lv_tableIn hx hb hdg (by omega) (by omega) (off := off) ?_ ht kk
  rw [h, show ((i : Int) - 0).toNat = i by omega]
  exact ho
end GR
theorem g_ne {x : Int32} {i : Nat} (hi : i < 2 ^ 31) (h : ¬ x = nI i) : x.toInt ≠ (i : Int) := fun z => h (Int32.toInt_inj.mp (by rw [z, nI_toInt hi]))
theorem g_word {j : Nat} {i : Int32} (hj : j < 7) (hi : vp_in i 20) : 20 * j + i.toNatClampNeg < 141 := by
  have : i.toNatClampNeg < 20 := Nat.not_le.mp fun q => hi (Or.inr q)
  omega
end
section
/-! decode rows and calls' words, printed -/
theorem inJ9 : ∀ w ∈ wsJ90, w ∈ lw_tbl := by decide +kernel
theorem inJ10 : ∀ w ∈ wsJ100, w ∈ lw_tbl := by decide +kernel
set_option maxRecDepth 20000 in
theorem ggX0_init_X4_init : GoodIn wsX0_init wsX4_init := goodIn_r _ [11, 12, 2, 3, 13, 14, 15, 16, 17, 18, 19, 20, 21, 22, 23, 24, 25, 26, 27, 28, 29, 30, 31, 32, 33, 34, 35, 36, 37, 38, 39, 40, 41, 42, 43, 44, 45, 46, 47, 48, 49, 59, 60, 52, 53, 54, 55, 56, 57, 58, 61, 62, 63, 64, 65, 66] (by decide +kernel) (by decide +kernel)
set_option maxRecDepth 20000 in
theorem gX0_init_X4_init : GoodIn wsX0_init (wsX4_init) := ggX0_init_X4_init
theorem dX0_init_0 : decode cX0_init 0 = .ok (.aload_n 0, 1) := by decide +kernel
theorem dX0_init_1 : decode cX0_init 1 = .ok (.invokespecial 3, 3) := by decide +kernel
theorem dX0_init_4 : decode cX0_init 4 = .ok (.aload_n 0, 1) := by decide +kernel
theorem dX0_init_5 : decode cX0_init 5 = .ok (.iconst 4, 1) := by decide +kernel
theorem dX0_init_6 : decode cX0_init 6 = .ok (.anewarray 9, 3) := by decide +kernel
theorem dX0_init_9 : decode cX0_init 9 = .ok (.putfield 11, 3) := by decide +kernel
theorem dX0_init_12 : decode cX0_init 12 = .ok (.iconst 0, 1) := by decide +kernel
theorem dX0_init_13 : decode cX0_init 13 = .ok (.istore_n 1, 1) := by decide +kernel
theorem dX0_init_14 : decode cX0_init 14 = .ok (.iload_n 1, 1) := by decide +kernel
theorem dX0_init_15 : decode cX0_init 15 = .ok (.iconst 4, 1) := by decide +kernel
theorem dX0_init_16 : decode cX0_init 16 = .ok (.if_icmp .ge 22, 3) := by decide +kernel
theorem dX0_init_19 : decode cX0_init 19 = .ok (.aload_n 0, 1) := by decide +kernel
theorem dX0_init_20 : decode cX0_init 20 = .ok (.getfield 11, 3) := by decide +kernel
theorem dX0_init_23 : decode cX0_init 23 = .ok (.iload_n 1, 1) := by decide +kernel
theorem dX0_init_24 : decode cX0_init 24 = .ok (.new 9, 3) := by decide +kernel
theorem dX0_init_27 : decode cX0_init 27 = .ok (.dup, 1) := by decide +kernel
theorem dX0_init_28 : decode cX0_init 28 = .ok (.invokespecial 17, 3) := by decide +kernel
theorem dX0_init_31 : decode cX0_init 31 = .ok (.aastore, 1) := by decide +kernel
theorem dX0_init_32 : decode cX0_init 32 = .ok (.iinc 1 1, 3) := by decide +kernel
theorem dX0_init_35 : decode cX0_init 35 = .ok (.goto (-21), 3) := by decide +kernel
theorem dX0_init_38 : decode cX0_init 38 = .ok (.aload_n 0, 1) := by decide +kernel
theorem dX0_init_39 : decode cX0_init 39 = .ok (.iconst 0, 1) := by decide +kernel
theorem dX0_init_40 : decode cX0_init 40 = .ok (.putfield 18, 3) := by decide +kernel
theorem dX0_init_43 : decode cX0_init 43 = .ok (.return_, 1) := by decide +kernel
set_option maxRecDepth 20000 in
theorem ggX0_remember_X0_dropOldest : GoodIn wsX0_remember wsX0_dropOldest := goodIn_r _ [7, 2, 1, 48, 49] (by decide +kernel) (by decide +kernel)
set_option maxRecDepth 20000 in
theorem gX0_remember_X0_dropOldest : GoodIn wsX0_remember (wsV RX0 22 RX0 yX0_dropOldest wsX0_dropOldest) := goodIn_app (goodIn_of _ (by decide +kernel)) ggX0_remember_X0_dropOldest
set_option maxRecDepth 20000 in
theorem ggX0_remember_X4_copyFrom : GoodIn wsX0_remember wsX4_copyFrom := goodIn_r _ [12, 13, 14, 15, 16, 17, 18, 19, 20, 21, 22, 23, 24, 25, 26, 27, 28, 29, 30, 31, 32, 33, 34, 35, 36, 37, 38, 39, 40, 41, 42, 43, 44, 45, 46, 47, 50, 51, 52, 53, 54, 55, 56, 57, 58, 59, 60, 61, 62, 63, 64] (by decide +kernel) (by decide +kernel)
set_option maxRecDepth 20000 in
theorem gX0_remember_X4_copyFrom : GoodIn wsX0_remember (wsV RX0 25 RX4 yX4_copyFrom wsX4_copyFrom) := goodIn_app (goodIn_of _ (by decide +kernel)) ggX0_remember_X4_copyFrom
theorem dX0_remember_0 : decode cX0_remember 0 = .ok (.aload_n 0, 1) := by decide +kernel
theorem dX0_remember_1 : decode cX0_remember 1 = .ok (.getfield 18, 3) := by decide +kernel
theorem dX0_remember_4 : decode cX0_remember 4 = .ok (.iconst 4, 1) := by decide +kernel
theorem dX0_remember_5 : decode cX0_remember 5 = .ok (.if_icmp .lt 7, 3) := by decide +kernel
theorem dX0_remember_8 : decode cX0_remember 8 = .ok (.aload_n 0, 1) := by decide +kernel
theorem dX0_remember_9 : decode cX0_remember 9 = .ok (.invokevirtual 22, 3) := by decide +kernel
theorem dX0_remember_12 : decode cX0_remember 12 = .ok (.aload_n 0, 1) := by decide +kernel
theorem dX0_remember_13 : decode cX0_remember 13 = .ok (.getfield 11, 3) := by decide +kernel
theorem dX0_remember_16 : decode cX0_remember 16 = .ok (.aload_n 0, 1) := by decide +kernel
theorem dX0_remember_17 : decode cX0_remember 17 = .ok (.getfield 18, 3) := by decide +kernel
theorem dX0_remember_20 : decode cX0_remember 20 = .ok (.aaload, 1) := by decide +kernel
theorem dX0_remember_21 : decode cX0_remember 21 = .ok (.aload_n 1, 1) := by decide +kernel
theorem dX0_remember_22 : decode cX0_remember 22 = .ok (.invokevirtual 25, 3) := by decide +kernel
theorem dX0_remember_25 : decode cX0_remember 25 = .ok (.aload_n 0, 1) := by decide +kernel
theorem dX0_remember_26 : decode cX0_remember 26 = .ok (.dup, 1) := by decide +kernel
theorem dX0_remember_27 : decode cX0_remember 27 = .ok (.getfield 18, 3) := by decide +kernel
theorem dX0_remember_30 : decode cX0_remember 30 = .ok (.iconst 1, 1) := by decide +kernel
theorem dX0_remember_31 : decode cX0_remember 31 = .ok (.iadd, 1) := by decide +kernel
theorem dX0_remember_32 : decode cX0_remember 32 = .ok (.putfield 18, 3) := by decide +kernel
theorem dX0_remember_35 : decode cX0_remember 35 = .ok (.return_, 1) := by decide +kernel
theorem dX0_dropOldest_0 : decode cX0_dropOldest 0 = .ok (.aload_n 0, 1) := by decide +kernel
theorem dX0_dropOldest_1 : decode cX0_dropOldest 1 = .ok (.getfield 11, 3) := by decide +kernel
theorem dX0_dropOldest_4 : decode cX0_dropOldest 4 = .ok (.iconst 0, 1) := by decide +kernel
theorem dX0_dropOldest_5 : decode cX0_dropOldest 5 = .ok (.aaload, 1) := by decide +kernel
theorem dX0_dropOldest_6 : decode cX0_dropOldest 6 = .ok (.astore_n 1, 1) := by decide +kernel
theorem dX0_dropOldest_7 : decode cX0_dropOldest 7 = .ok (.iconst 1, 1) := by decide +kernel
theorem dX0_dropOldest_8 : decode cX0_dropOldest 8 = .ok (.istore_n 2, 1) := by decide +kernel
theorem dX0_dropOldest_9 : decode cX0_dropOldest 9 = .ok (.iload_n 2, 1) := by decide +kernel
theorem dX0_dropOldest_10 : decode cX0_dropOldest 10 = .ok (.iconst 4, 1) := by decide +kernel
theorem dX0_dropOldest_11 : decode cX0_dropOldest 11 = .ok (.if_icmp .ge 23, 3) := by decide +kernel
theorem dX0_dropOldest_14 : decode cX0_dropOldest 14 = .ok (.aload_n 0, 1) := by decide +kernel
theorem dX0_dropOldest_15 : decode cX0_dropOldest 15 = .ok (.getfield 11, 3) := by decide +kernel
theorem dX0_dropOldest_18 : decode cX0_dropOldest 18 = .ok (.iload_n 2, 1) := by decide +kernel
theorem dX0_dropOldest_19 : decode cX0_dropOldest 19 = .ok (.iconst 1, 1) := by decide +kernel
theorem dX0_dropOldest_20 : decode cX0_dropOldest 20 = .ok (.isub, 1) := by decide +kernel
theorem dX0_dropOldest_21 : decode cX0_dropOldest 21 = .ok (.aload_n 0, 1) := by decide +kernel
theorem dX0_dropOldest_22 : decode cX0_dropOldest 22 = .ok (.getfield 11, 3) := by decide +kernel
theorem dX0_dropOldest_25 : decode cX0_dropOldest 25 = .ok (.iload_n 2, 1) := by decide +kernel
theorem dX0_dropOldest_26 : decode cX0_dropOldest 26 = .ok (.aaload, 1) := by decide +kernel
theorem dX0_dropOldest_27 : decode cX0_dropOldest 27 = .ok (.aastore, 1) := by decide +kernel
theorem dX0_dropOldest_28 : decode cX0_dropOldest 28 = .ok (.iinc 2 1, 3) := by decide +kernel
theorem dX0_dropOldest_31 : decode cX0_dropOldest 31 = .ok (.goto (-22), 3) := by decide +kernel
theorem dX0_dropOldest_34 : decode cX0_dropOldest 34 = .ok (.aload_n 0, 1) := by decide +kernel
theorem dX0_dropOldest_35 : decode cX0_dropOldest 35 = .ok (.getfield 11, 3) := by decide +kernel
theorem dX0_dropOldest_38 : decode cX0_dropOldest 38 = .ok (.iconst 3, 1) := by decide +kernel
theorem dX0_dropOldest_39 : decode cX0_dropOldest 39 = .ok (.aload_n 1, 1) := by decide +kernel
theorem dX0_dropOldest_40 : decode cX0_dropOldest 40 = .ok (.aastore, 1) := by decide +kernel
theorem dX0_dropOldest_41 : decode cX0_dropOldest 41 = .ok (.aload_n 0, 1) := by decide +kernel
theorem dX0_dropOldest_42 : decode cX0_dropOldest 42 = .ok (.dup, 1) := by decide +kernel
theorem dX0_dropOldest_43 : decode cX0_dropOldest 43 = .ok (.getfield 18, 3) := by decide +kernel
theorem dX0_dropOldest_46 : decode cX0_dropOldest 46 = .ok (.iconst 1, 1) := by decide +kernel
theorem dX0_dropOldest_47 : decode cX0_dropOldest 47 = .ok (.isub, 1) := by decide +kernel
theorem dX0_dropOldest_48 : decode cX0_dropOldest 48 = .ok (.putfield 18, 3) := by decide +kernel
theorem dX0_dropOldest_51 : decode cX0_dropOldest 51 = .ok (.return_, 1) := by decide +kernel
set_option maxRecDepth 20000 in
theorem ggX0_takeBack_X4_copyFrom : GoodIn wsX0_takeBack wsX4_copyFrom := goodIn_r _ [7, 8, 9, 10, 11, 12, 13, 14, 15, 16, 17, 18, 19, 20, 21, 22, 23, 24, 25, 26, 27, 28, 29, 30, 31, 32, 33, 34, 35, 36, 37, 38, 39, 40, 41, 42, 45, 46, 47, 48, 49, 50, 51, 52, 53, 54, 55, 56, 57, 58, 59] (by decide +kernel) (by decide +kernel)
set_option maxRecDepth 20000 in
theorem gX0_takeBack_X4_copyFrom : GoodIn wsX0_takeBack (wsV RX0 25 RX4 yX4_copyFrom wsX4_copyFrom) := goodIn_app (goodIn_of _ (by decide +kernel)) ggX0_takeBack_X4_copyFrom
theorem dX0_takeBack_0 : decode cX0_takeBack 0 = .ok (.aload_n 0, 1) := by decide +kernel
theorem dX0_takeBack_1 : decode cX0_takeBack 1 = .ok (.getfield 18, 3) := by decide +kernel
theorem dX0_takeBack_4 : decode cX0_takeBack 4 = .ok (.ifCond .ne 5, 3) := by decide +kernel
theorem dX0_takeBack_7 : decode cX0_takeBack 7 = .ok (.iconst 0, 1) := by decide +kernel
theorem dX0_takeBack_8 : decode cX0_takeBack 8 = .ok (.ireturn, 1) := by decide +kernel
theorem dX0_takeBack_9 : decode cX0_takeBack 9 = .ok (.aload_n 0, 1) := by decide +kernel
theorem dX0_takeBack_10 : decode cX0_takeBack 10 = .ok (.dup, 1) := by decide +kernel
theorem dX0_takeBack_11 : decode cX0_takeBack 11 = .ok (.getfield 18, 3) := by decide +kernel
theorem dX0_takeBack_14 : decode cX0_takeBack 14 = .ok (.iconst 1, 1) := by decide +kernel
theorem dX0_takeBack_15 : decode cX0_takeBack 15 = .ok (.isub, 1) := by decide +kernel
theorem dX0_takeBack_16 : decode cX0_takeBack 16 = .ok (.putfield 18, 3) := by decide +kernel
theorem dX0_takeBack_19 : decode cX0_takeBack 19 = .ok (.aload_n 1, 1) := by decide +kernel
theorem dX0_takeBack_20 : decode cX0_takeBack 20 = .ok (.aload_n 0, 1) := by decide +kernel
theorem dX0_takeBack_21 : decode cX0_takeBack 21 = .ok (.getfield 11, 3) := by decide +kernel
theorem dX0_takeBack_24 : decode cX0_takeBack 24 = .ok (.aload_n 0, 1) := by decide +kernel
theorem dX0_takeBack_25 : decode cX0_takeBack 25 = .ok (.getfield 18, 3) := by decide +kernel
theorem dX0_takeBack_28 : decode cX0_takeBack 28 = .ok (.aaload, 1) := by decide +kernel
theorem dX0_takeBack_29 : decode cX0_takeBack 29 = .ok (.invokevirtual 25, 3) := by decide +kernel
theorem dX0_takeBack_32 : decode cX0_takeBack 32 = .ok (.iconst 1, 1) := by decide +kernel
theorem dX0_takeBack_33 : decode cX0_takeBack 33 = .ok (.ireturn, 1) := by decide +kernel
theorem dX1_init_0 : decode cX1_init 0 = .ok (.aload_n 0, 1) := by decide +kernel
theorem dX1_init_1 : decode cX1_init 1 = .ok (.invokespecial 3, 3) := by decide +kernel
theorem dX1_init_4 : decode cX1_init 4 = .ok (.aload_n 0, 1) := by decide +kernel
theorem dX1_init_5 : decode cX1_init 5 = .ok (.sipush 702, 3) := by decide +kernel
theorem dX1_init_8 : decode cX1_init 8 = .ok (.newarray .int, 2) := by decide +kernel
theorem dX1_init_10 : decode cX1_init 10 = .ok (.putfield 9, 3) := by decide +kernel
theorem dX1_init_13 : decode cX1_init 13 = .ok (.aload_n 0, 1) := by decide +kernel
theorem dX1_init_14 : decode cX1_init 14 = .ok (.sipush 702, 3) := by decide +kernel
theorem dX1_init_17 : decode cX1_init 17 = .ok (.newarray .int, 2) := by decide +kernel
theorem dX1_init_19 : decode cX1_init 19 = .ok (.putfield 15, 3) := by decide +kernel
theorem dX1_init_22 : decode cX1_init 22 = .ok (.return_, 1) := by decide +kernel
set_option maxRecDepth 20000 in
theorem ggX1_triesOf_X8_isPart : GoodIn wsX1_triesOf wsX8_isPart := goodIn_r _ [4] (by decide +kernel) (by decide +kernel)
set_option maxRecDepth 20000 in
theorem gX1_triesOf_X8_isPart_n18 : GoodIn wsX1_triesOf (wsX8_isPart) := ggX1_triesOf_X8_isPart
theorem dX1_triesOf_0 : decode cX1_triesOf 0 = .ok (.iload_n 1, 1) := by decide +kernel
theorem dX1_triesOf_1 : decode cX1_triesOf 1 = .ok (.invokestatic 18, 3) := by decide +kernel
theorem dX1_triesOf_4 : decode cX1_triesOf 4 = .ok (.ifCond .eq 12, 3) := by decide +kernel
theorem dX1_triesOf_7 : decode cX1_triesOf 7 = .ok (.aload_n 0, 1) := by decide +kernel
theorem dX1_triesOf_8 : decode cX1_triesOf 8 = .ok (.getfield 9, 3) := by decide +kernel
theorem dX1_triesOf_11 : decode cX1_triesOf 11 = .ok (.iload_n 1, 1) := by decide +kernel
theorem dX1_triesOf_12 : decode cX1_triesOf 12 = .ok (.iaload, 1) := by decide +kernel
theorem dX1_triesOf_13 : decode cX1_triesOf 13 = .ok (.goto 4, 3) := by decide +kernel
theorem dX1_triesOf_16 : decode cX1_triesOf 16 = .ok (.iconst 0, 1) := by decide +kernel
theorem dX1_triesOf_17 : decode cX1_triesOf 17 = .ok (.ireturn, 1) := by decide +kernel
set_option maxRecDepth 20000 in
theorem ggX1_slipsOf_X8_isPart : GoodIn wsX1_slipsOf wsX8_isPart := goodIn_r _ [4] (by decide +kernel) (by decide +kernel)
set_option maxRecDepth 20000 in
theorem gX1_slipsOf_X8_isPart_n18 : GoodIn wsX1_slipsOf (wsX8_isPart) := ggX1_slipsOf_X8_isPart
theorem dX1_slipsOf_0 : decode cX1_slipsOf 0 = .ok (.iload_n 1, 1) := by decide +kernel
theorem dX1_slipsOf_1 : decode cX1_slipsOf 1 = .ok (.invokestatic 18, 3) := by decide +kernel
theorem dX1_slipsOf_4 : decode cX1_slipsOf 4 = .ok (.ifCond .eq 12, 3) := by decide +kernel
theorem dX1_slipsOf_7 : decode cX1_slipsOf 7 = .ok (.aload_n 0, 1) := by decide +kernel
theorem dX1_slipsOf_8 : decode cX1_slipsOf 8 = .ok (.getfield 15, 3) := by decide +kernel
theorem dX1_slipsOf_11 : decode cX1_slipsOf 11 = .ok (.iload_n 1, 1) := by decide +kernel
theorem dX1_slipsOf_12 : decode cX1_slipsOf 12 = .ok (.iaload, 1) := by decide +kernel
theorem dX1_slipsOf_13 : decode cX1_slipsOf 13 = .ok (.goto 4, 3) := by decide +kernel
theorem dX1_slipsOf_16 : decode cX1_slipsOf 16 = .ok (.iconst 0, 1) := by decide +kernel
theorem dX1_slipsOf_17 : decode cX1_slipsOf 17 = .ok (.ireturn, 1) := by decide +kernel
set_option maxRecDepth 20000 in
theorem ggX1_needOf_X1_slipsOf : GoodIn wsX1_needOf wsX1_slipsOf := goodIn_r _ [9, 10, 11, 12, 13, 19, 20] (by decide +kernel) (by decide +kernel)
set_option maxRecDepth 20000 in
theorem gX1_needOf_X1_slipsOf : GoodIn wsX1_needOf (wsV RX1 22 RX1 yX1_slipsOf wsX1_slipsOf) := goodIn_app (goodIn_of _ (by decide +kernel)) ggX1_needOf_X1_slipsOf
set_option maxRecDepth 20000 in
theorem ggX1_needOf_X1_triesOf : GoodIn wsX1_needOf wsX1_triesOf := goodIn_r _ [17, 18, 11, 12, 13, 19, 20] (by decide +kernel) (by decide +kernel)
set_option maxRecDepth 20000 in
theorem gX1_needOf_X1_triesOf : GoodIn wsX1_needOf (wsV RX1 26 RX1 yX1_triesOf wsX1_triesOf) := goodIn_app (goodIn_of _ (by decide +kernel)) ggX1_needOf_X1_triesOf
theorem dX1_needOf_0 : decode cX1_needOf 0 = .ok (.bipush 100, 2) := by decide +kernel
theorem dX1_needOf_2 : decode cX1_needOf 2 = .ok (.aload_n 0, 1) := by decide +kernel
theorem dX1_needOf_3 : decode cX1_needOf 3 = .ok (.iload_n 1, 1) := by decide +kernel
theorem dX1_needOf_4 : decode cX1_needOf 4 = .ok (.invokevirtual 22, 3) := by decide +kernel
theorem dX1_needOf_7 : decode cX1_needOf 7 = .ok (.imul, 1) := by decide +kernel
theorem dX1_needOf_8 : decode cX1_needOf 8 = .ok (.aload_n 0, 1) := by decide +kernel
theorem dX1_needOf_9 : decode cX1_needOf 9 = .ok (.iload_n 1, 1) := by decide +kernel
theorem dX1_needOf_10 : decode cX1_needOf 10 = .ok (.invokevirtual 26, 3) := by decide +kernel
theorem dX1_needOf_13 : decode cX1_needOf 13 = .ok (.iconst 0, 1) := by decide +kernel
theorem dX1_needOf_14 : decode cX1_needOf 14 = .ok (.invokestatic 29, 3) := by decide +kernel
theorem dX1_needOf_17 : decode cX1_needOf 17 = .ok (.iconst 2, 1) := by decide +kernel
theorem dX1_needOf_18 : decode cX1_needOf 18 = .ok (.iadd, 1) := by decide +kernel
theorem dX1_needOf_19 : decode cX1_needOf 19 = .ok (.idiv, 1) := by decide +kernel
theorem dX1_needOf_20 : decode cX1_needOf 20 = .ok (.ireturn, 1) := by decide +kernel
set_option maxRecDepth 20000 in
theorem ggX1_isUntried_X1_triesOf : GoodIn wsX1_isUntried wsX1_triesOf := goodIn_r _ [5, 6, 7, 8, 9, 10, 11] (by decide +kernel) (by decide +kernel)
set_option maxRecDepth 20000 in
theorem gX1_isUntried_X1_triesOf : GoodIn wsX1_isUntried (wsV RX1 26 RX1 yX1_triesOf wsX1_triesOf) := goodIn_app (goodIn_of _ (by decide +kernel)) ggX1_isUntried_X1_triesOf
theorem dX1_isUntried_0 : decode cX1_isUntried 0 = .ok (.aload_n 0, 1) := by decide +kernel
theorem dX1_isUntried_1 : decode cX1_isUntried 1 = .ok (.iload_n 1, 1) := by decide +kernel
theorem dX1_isUntried_2 : decode cX1_isUntried 2 = .ok (.invokevirtual 26, 3) := by decide +kernel
theorem dX1_isUntried_5 : decode cX1_isUntried 5 = .ok (.ifCond .ne 7, 3) := by decide +kernel
theorem dX1_isUntried_8 : decode cX1_isUntried 8 = .ok (.iconst 1, 1) := by decide +kernel
theorem dX1_isUntried_9 : decode cX1_isUntried 9 = .ok (.goto 4, 3) := by decide +kernel
theorem dX1_isUntried_12 : decode cX1_isUntried 12 = .ok (.iconst 0, 1) := by decide +kernel
theorem dX1_isUntried_13 : decode cX1_isUntried 13 = .ok (.ireturn, 1) := by decide +kernel
set_option maxRecDepth 20000 in
theorem ggX1_addTry_X8_isPart : GoodIn wsX1_addTry wsX8_isPart := goodIn_r _ [4] (by decide +kernel) (by decide +kernel)
set_option maxRecDepth 20000 in
theorem gX1_addTry_X8_isPart_n18 : GoodIn wsX1_addTry (wsX8_isPart) := ggX1_addTry_X8_isPart
theorem dX1_addTry_0 : decode cX1_addTry 0 = .ok (.iload_n 1, 1) := by decide +kernel
theorem dX1_addTry_1 : decode cX1_addTry 1 = .ok (.invokestatic 18, 3) := by decide +kernel
theorem dX1_addTry_4 : decode cX1_addTry 4 = .ok (.ifCond .eq 25, 3) := by decide +kernel
theorem dX1_addTry_7 : decode cX1_addTry 7 = .ok (.aload_n 0, 1) := by decide +kernel
theorem dX1_addTry_8 : decode cX1_addTry 8 = .ok (.getfield 9, 3) := by decide +kernel
theorem dX1_addTry_11 : decode cX1_addTry 11 = .ok (.iload_n 1, 1) := by decide +kernel
theorem dX1_addTry_12 : decode cX1_addTry 12 = .ok (.iaload, 1) := by decide +kernel
theorem dX1_addTry_13 : decode cX1_addTry 13 = .ok (.sipush 9999, 3) := by decide +kernel
theorem dX1_addTry_16 : decode cX1_addTry 16 = .ok (.if_icmp .ge 13, 3) := by decide +kernel
theorem dX1_addTry_19 : decode cX1_addTry 19 = .ok (.aload_n 0, 1) := by decide +kernel
theorem dX1_addTry_20 : decode cX1_addTry 20 = .ok (.getfield 9, 3) := by decide +kernel
theorem dX1_addTry_23 : decode cX1_addTry 23 = .ok (.iload_n 1, 1) := by decide +kernel
theorem dX1_addTry_24 : decode cX1_addTry 24 = .ok (.dup2, 1) := by decide +kernel
theorem dX1_addTry_25 : decode cX1_addTry 25 = .ok (.iaload, 1) := by decide +kernel
theorem dX1_addTry_26 : decode cX1_addTry 26 = .ok (.iconst 1, 1) := by decide +kernel
theorem dX1_addTry_27 : decode cX1_addTry 27 = .ok (.iadd, 1) := by decide +kernel
theorem dX1_addTry_28 : decode cX1_addTry 28 = .ok (.iastore, 1) := by decide +kernel
theorem dX1_addTry_29 : decode cX1_addTry 29 = .ok (.return_, 1) := by decide +kernel
set_option maxRecDepth 20000 in
theorem ggX1_addSlip_X8_isPart : GoodIn wsX1_addSlip wsX8_isPart := goodIn_r _ [4] (by decide +kernel) (by decide +kernel)
set_option maxRecDepth 20000 in
theorem gX1_addSlip_X8_isPart_n18 : GoodIn wsX1_addSlip (wsX8_isPart) := ggX1_addSlip_X8_isPart
theorem dX1_addSlip_0 : decode cX1_addSlip 0 = .ok (.iload_n 1, 1) := by decide +kernel
theorem dX1_addSlip_1 : decode cX1_addSlip 1 = .ok (.invokestatic 18, 3) := by decide +kernel
theorem dX1_addSlip_4 : decode cX1_addSlip 4 = .ok (.ifCond .eq 25, 3) := by decide +kernel
theorem dX1_addSlip_7 : decode cX1_addSlip 7 = .ok (.aload_n 0, 1) := by decide +kernel
theorem dX1_addSlip_8 : decode cX1_addSlip 8 = .ok (.getfield 15, 3) := by decide +kernel
theorem dX1_addSlip_11 : decode cX1_addSlip 11 = .ok (.iload_n 1, 1) := by decide +kernel
theorem dX1_addSlip_12 : decode cX1_addSlip 12 = .ok (.iaload, 1) := by decide +kernel
theorem dX1_addSlip_13 : decode cX1_addSlip 13 = .ok (.sipush 9999, 3) := by decide +kernel
theorem dX1_addSlip_16 : decode cX1_addSlip 16 = .ok (.if_icmp .ge 13, 3) := by decide +kernel
theorem dX1_addSlip_19 : decode cX1_addSlip 19 = .ok (.aload_n 0, 1) := by decide +kernel
theorem dX1_addSlip_20 : decode cX1_addSlip 20 = .ok (.getfield 15, 3) := by decide +kernel
theorem dX1_addSlip_23 : decode cX1_addSlip 23 = .ok (.iload_n 1, 1) := by decide +kernel
theorem dX1_addSlip_24 : decode cX1_addSlip 24 = .ok (.dup2, 1) := by decide +kernel
theorem dX1_addSlip_25 : decode cX1_addSlip 25 = .ok (.iaload, 1) := by decide +kernel
theorem dX1_addSlip_26 : decode cX1_addSlip 26 = .ok (.iconst 1, 1) := by decide +kernel
theorem dX1_addSlip_27 : decode cX1_addSlip 27 = .ok (.iadd, 1) := by decide +kernel
theorem dX1_addSlip_28 : decode cX1_addSlip 28 = .ok (.iastore, 1) := by decide +kernel
theorem dX1_addSlip_29 : decode cX1_addSlip 29 = .ok (.return_, 1) := by decide +kernel
set_option maxRecDepth 20000 in
theorem ggX1_addTriesOf_X1_addTry : GoodIn wsX1_addTriesOf wsX1_addTry := goodIn_r _ [5, 6, 7, 8, 9, 16, 17] (by decide +kernel) (by decide +kernel)
set_option maxRecDepth 20000 in
theorem gX1_addTriesOf_X1_addTry : GoodIn wsX1_addTriesOf (wsV RX1 44 RX1 yX1_addTry wsX1_addTry) := goodIn_app (goodIn_of _ (by decide +kernel)) ggX1_addTriesOf_X1_addTry
set_option maxRecDepth 20000 in
theorem ggX1_addTriesOf_X8_joinPart : GoodIn wsX1_addTriesOf wsX8_joinPart := goodIn_r _ [11] (by decide +kernel) (by decide +kernel)
set_option maxRecDepth 20000 in
theorem gX1_addTriesOf_X8_joinPart_n48 : GoodIn wsX1_addTriesOf (wsX8_joinPart) := ggX1_addTriesOf_X8_joinPart
theorem dX1_addTriesOf_0 : decode cX1_addTriesOf 0 = .ok (.iconst 0, 1) := by decide +kernel
theorem dX1_addTriesOf_1 : decode cX1_addTriesOf 1 = .ok (.istore_n 2, 1) := by decide +kernel
theorem dX1_addTriesOf_2 : decode cX1_addTriesOf 2 = .ok (.iload_n 2, 1) := by decide +kernel
theorem dX1_addTriesOf_3 : decode cX1_addTriesOf 3 = .ok (.aload_n 1, 1) := by decide +kernel
theorem dX1_addTriesOf_4 : decode cX1_addTriesOf 4 = .ok (.getfield 35, 3) := by decide +kernel
theorem dX1_addTriesOf_7 : decode cX1_addTriesOf 7 = .ok (.if_icmp .ge 44, 3) := by decide +kernel
theorem dX1_addTriesOf_10 : decode cX1_addTriesOf 10 = .ok (.aload_n 0, 1) := by decide +kernel
theorem dX1_addTriesOf_11 : decode cX1_addTriesOf 11 = .ok (.aload_n 1, 1) := by decide +kernel
theorem dX1_addTriesOf_12 : decode cX1_addTriesOf 12 = .ok (.getfield 41, 3) := by decide +kernel
theorem dX1_addTriesOf_15 : decode cX1_addTriesOf 15 = .ok (.iload_n 2, 1) := by decide +kernel
theorem dX1_addTriesOf_16 : decode cX1_addTriesOf 16 = .ok (.iaload, 1) := by decide +kernel
theorem dX1_addTriesOf_17 : decode cX1_addTriesOf 17 = .ok (.invokevirtual 44, 3) := by decide +kernel
theorem dX1_addTriesOf_20 : decode cX1_addTriesOf 20 = .ok (.iload_n 2, 1) := by decide +kernel
theorem dX1_addTriesOf_21 : decode cX1_addTriesOf 21 = .ok (.ifCond .le 24, 3) := by decide +kernel
theorem dX1_addTriesOf_24 : decode cX1_addTriesOf 24 = .ok (.aload_n 0, 1) := by decide +kernel
theorem dX1_addTriesOf_25 : decode cX1_addTriesOf 25 = .ok (.aload_n 1, 1) := by decide +kernel
theorem dX1_addTriesOf_26 : decode cX1_addTriesOf 26 = .ok (.getfield 41, 3) := by decide +kernel
theorem dX1_addTriesOf_29 : decode cX1_addTriesOf 29 = .ok (.iload_n 2, 1) := by decide +kernel
theorem dX1_addTriesOf_30 : decode cX1_addTriesOf 30 = .ok (.iconst 1, 1) := by decide +kernel
theorem dX1_addTriesOf_31 : decode cX1_addTriesOf 31 = .ok (.isub, 1) := by decide +kernel
theorem dX1_addTriesOf_32 : decode cX1_addTriesOf 32 = .ok (.iaload, 1) := by decide +kernel
theorem dX1_addTriesOf_33 : decode cX1_addTriesOf 33 = .ok (.aload_n 1, 1) := by decide +kernel
theorem dX1_addTriesOf_34 : decode cX1_addTriesOf 34 = .ok (.getfield 41, 3) := by decide +kernel
theorem dX1_addTriesOf_37 : decode cX1_addTriesOf 37 = .ok (.iload_n 2, 1) := by decide +kernel
theorem dX1_addTriesOf_38 : decode cX1_addTriesOf 38 = .ok (.iaload, 1) := by decide +kernel
theorem dX1_addTriesOf_39 : decode cX1_addTriesOf 39 = .ok (.invokestatic 48, 3) := by decide +kernel
theorem dX1_addTriesOf_42 : decode cX1_addTriesOf 42 = .ok (.invokevirtual 44, 3) := by decide +kernel
theorem dX1_addTriesOf_45 : decode cX1_addTriesOf 45 = .ok (.iinc 2 1, 3) := by decide +kernel
theorem dX1_addTriesOf_48 : decode cX1_addTriesOf 48 = .ok (.goto (-46), 3) := by decide +kernel
theorem dX1_addTriesOf_51 : decode cX1_addTriesOf 51 = .ok (.return_, 1) := by decide +kernel
theorem dX1_fade_0 : decode cX1_fade 0 = .ok (.iconst 0, 1) := by decide +kernel
theorem dX1_fade_1 : decode cX1_fade 1 = .ok (.istore_n 2, 1) := by decide +kernel
theorem dX1_fade_2 : decode cX1_fade 2 = .ok (.iconst 0, 1) := by decide +kernel
theorem dX1_fade_3 : decode cX1_fade 3 = .ok (.istore_n 3, 1) := by decide +kernel
theorem dX1_fade_4 : decode cX1_fade 4 = .ok (.iload_n 3, 1) := by decide +kernel
theorem dX1_fade_5 : decode cX1_fade 5 = .ok (.sipush 702, 3) := by decide +kernel
theorem dX1_fade_8 : decode cX1_fade 8 = .ok (.if_icmp .ge 62, 3) := by decide +kernel
theorem dX1_fade_11 : decode cX1_fade 11 = .ok (.aload_n 0, 1) := by decide +kernel
theorem dX1_fade_12 : decode cX1_fade 12 = .ok (.getfield 9, 3) := by decide +kernel
theorem dX1_fade_15 : decode cX1_fade 15 = .ok (.iload_n 3, 1) := by decide +kernel
theorem dX1_fade_16 : decode cX1_fade 16 = .ok (.iaload, 1) := by decide +kernel
theorem dX1_fade_17 : decode cX1_fade 17 = .ok (.ifCond .le 7, 3) := by decide +kernel
theorem dX1_fade_20 : decode cX1_fade 20 = .ok (.iconst 1, 1) := by decide +kernel
theorem dX1_fade_21 : decode cX1_fade 21 = .ok (.goto 4, 3) := by decide +kernel
theorem dX1_fade_24 : decode cX1_fade 24 = .ok (.iconst 0, 1) := by decide +kernel
theorem dX1_fade_25 : decode cX1_fade 25 = .ok (.istore 4, 2) := by decide +kernel
theorem dX1_fade_27 : decode cX1_fade 27 = .ok (.aload_n 0, 1) := by decide +kernel
theorem dX1_fade_28 : decode cX1_fade 28 = .ok (.getfield 9, 3) := by decide +kernel
theorem dX1_fade_31 : decode cX1_fade 31 = .ok (.iload_n 3, 1) := by decide +kernel
theorem dX1_fade_32 : decode cX1_fade 32 = .ok (.dup2, 1) := by decide +kernel
theorem dX1_fade_33 : decode cX1_fade 33 = .ok (.iaload, 1) := by decide +kernel
theorem dX1_fade_34 : decode cX1_fade 34 = .ok (.iload_n 1, 1) := by decide +kernel
theorem dX1_fade_35 : decode cX1_fade 35 = .ok (.ishr, 1) := by decide +kernel
theorem dX1_fade_36 : decode cX1_fade 36 = .ok (.iastore, 1) := by decide +kernel
theorem dX1_fade_37 : decode cX1_fade 37 = .ok (.aload_n 0, 1) := by decide +kernel
theorem dX1_fade_38 : decode cX1_fade 38 = .ok (.getfield 15, 3) := by decide +kernel
theorem dX1_fade_41 : decode cX1_fade 41 = .ok (.iload_n 3, 1) := by decide +kernel
theorem dX1_fade_42 : decode cX1_fade 42 = .ok (.dup2, 1) := by decide +kernel
theorem dX1_fade_43 : decode cX1_fade 43 = .ok (.iaload, 1) := by decide +kernel
theorem dX1_fade_44 : decode cX1_fade 44 = .ok (.iload_n 1, 1) := by decide +kernel
theorem dX1_fade_45 : decode cX1_fade 45 = .ok (.ishr, 1) := by decide +kernel
theorem dX1_fade_46 : decode cX1_fade 46 = .ok (.iastore, 1) := by decide +kernel
theorem dX1_fade_47 : decode cX1_fade 47 = .ok (.iload 4, 2) := by decide +kernel
theorem dX1_fade_49 : decode cX1_fade 49 = .ok (.ifCond .eq 15, 3) := by decide +kernel
theorem dX1_fade_52 : decode cX1_fade 52 = .ok (.aload_n 0, 1) := by decide +kernel
theorem dX1_fade_53 : decode cX1_fade 53 = .ok (.getfield 9, 3) := by decide +kernel
theorem dX1_fade_56 : decode cX1_fade 56 = .ok (.iload_n 3, 1) := by decide +kernel
theorem dX1_fade_57 : decode cX1_fade 57 = .ok (.iaload, 1) := by decide +kernel
theorem dX1_fade_58 : decode cX1_fade 58 = .ok (.ifCond .ne 6, 3) := by decide +kernel
theorem dX1_fade_61 : decode cX1_fade 61 = .ok (.iinc 2 1, 3) := by decide +kernel
theorem dX1_fade_64 : decode cX1_fade 64 = .ok (.iinc 3 1, 3) := by decide +kernel
theorem dX1_fade_67 : decode cX1_fade 67 = .ok (.goto (-63), 3) := by decide +kernel
theorem dX1_fade_70 : decode cX1_fade 70 = .ok (.iload_n 2, 1) := by decide +kernel
theorem dX1_fade_71 : decode cX1_fade 71 = .ok (.ireturn, 1) := by decide +kernel
set_option maxRecDepth 20000 in
theorem ggX1_needOfAll_X1_needOf : GoodIn wsX1_needOfAll wsX1_needOf := goodIn_r _ [5, 6, 7, 8, 9, 10, 11, 12, 4, 13, 14, 15, 16, 17, 18, 19, 20, 21, 22, 27, 28] (by decide +kernel) (by decide +kernel)
set_option maxRecDepth 20000 in
theorem gX1_needOfAll_X1_needOf : GoodIn wsX1_needOfAll (wsV RX1 57 RX1 yX1_needOf wsX1_needOf) := goodIn_app (goodIn_of _ (by decide +kernel)) ggX1_needOfAll_X1_needOf
theorem dX1_needOfAll_0 : decode cX1_needOfAll 0 = .ok (.iconst 0, 1) := by decide +kernel
theorem dX1_needOfAll_1 : decode cX1_needOfAll 1 = .ok (.istore_n 2, 1) := by decide +kernel
theorem dX1_needOfAll_2 : decode cX1_needOfAll 2 = .ok (.iconst 0, 1) := by decide +kernel
theorem dX1_needOfAll_3 : decode cX1_needOfAll 3 = .ok (.istore_n 3, 1) := by decide +kernel
theorem dX1_needOfAll_4 : decode cX1_needOfAll 4 = .ok (.iload_n 3, 1) := by decide +kernel
theorem dX1_needOfAll_5 : decode cX1_needOfAll 5 = .ok (.aload_n 1, 1) := by decide +kernel
theorem dX1_needOfAll_6 : decode cX1_needOfAll 6 = .ok (.getfield 51, 3) := by decide +kernel
theorem dX1_needOfAll_9 : decode cX1_needOfAll 9 = .ok (.if_icmp .ge 22, 3) := by decide +kernel
theorem dX1_needOfAll_12 : decode cX1_needOfAll 12 = .ok (.iload_n 2, 1) := by decide +kernel
theorem dX1_needOfAll_13 : decode cX1_needOfAll 13 = .ok (.aload_n 0, 1) := by decide +kernel
theorem dX1_needOfAll_14 : decode cX1_needOfAll 14 = .ok (.aload_n 1, 1) := by decide +kernel
theorem dX1_needOfAll_15 : decode cX1_needOfAll 15 = .ok (.getfield 54, 3) := by decide +kernel
theorem dX1_needOfAll_18 : decode cX1_needOfAll 18 = .ok (.iload_n 3, 1) := by decide +kernel
theorem dX1_needOfAll_19 : decode cX1_needOfAll 19 = .ok (.iaload, 1) := by decide +kernel
theorem dX1_needOfAll_20 : decode cX1_needOfAll 20 = .ok (.invokevirtual 57, 3) := by decide +kernel
theorem dX1_needOfAll_23 : decode cX1_needOfAll 23 = .ok (.iadd, 1) := by decide +kernel
theorem dX1_needOfAll_24 : decode cX1_needOfAll 24 = .ok (.istore_n 2, 1) := by decide +kernel
theorem dX1_needOfAll_25 : decode cX1_needOfAll 25 = .ok (.iinc 3 1, 3) := by decide +kernel
theorem dX1_needOfAll_28 : decode cX1_needOfAll 28 = .ok (.goto (-24), 3) := by decide +kernel
theorem dX1_needOfAll_31 : decode cX1_needOfAll 31 = .ok (.iload_n 2, 1) := by decide +kernel
theorem dX1_needOfAll_32 : decode cX1_needOfAll 32 = .ok (.ireturn, 1) := by decide +kernel
set_option maxRecDepth 20000 in
theorem ggX1_untriedOf_X1_isUntried : GoodIn wsX1_untriedOf wsX1_isUntried := goodIn_r _ [5, 6, 7, 8, 4, 9, 10, 11, 12, 13, 18, 19] (by decide +kernel) (by decide +kernel)
set_option maxRecDepth 20000 in
theorem gX1_untriedOf_X1_isUntried : GoodIn wsX1_untriedOf (wsV RX1 60 RX1 yX1_isUntried wsX1_isUntried) := goodIn_app (goodIn_of _ (by decide +kernel)) ggX1_untriedOf_X1_isUntried
theorem dX1_untriedOf_0 : decode cX1_untriedOf 0 = .ok (.iconst 0, 1) := by decide +kernel
theorem dX1_untriedOf_1 : decode cX1_untriedOf 1 = .ok (.istore_n 2, 1) := by decide +kernel
theorem dX1_untriedOf_2 : decode cX1_untriedOf 2 = .ok (.iconst 0, 1) := by decide +kernel
theorem dX1_untriedOf_3 : decode cX1_untriedOf 3 = .ok (.istore_n 3, 1) := by decide +kernel
theorem dX1_untriedOf_4 : decode cX1_untriedOf 4 = .ok (.iload_n 3, 1) := by decide +kernel
theorem dX1_untriedOf_5 : decode cX1_untriedOf 5 = .ok (.aload_n 1, 1) := by decide +kernel
theorem dX1_untriedOf_6 : decode cX1_untriedOf 6 = .ok (.getfield 51, 3) := by decide +kernel
theorem dX1_untriedOf_9 : decode cX1_untriedOf 9 = .ok (.if_icmp .ge 25, 3) := by decide +kernel
theorem dX1_untriedOf_12 : decode cX1_untriedOf 12 = .ok (.aload_n 0, 1) := by decide +kernel
theorem dX1_untriedOf_13 : decode cX1_untriedOf 13 = .ok (.aload_n 1, 1) := by decide +kernel
theorem dX1_untriedOf_14 : decode cX1_untriedOf 14 = .ok (.getfield 54, 3) := by decide +kernel
theorem dX1_untriedOf_17 : decode cX1_untriedOf 17 = .ok (.iload_n 3, 1) := by decide +kernel
theorem dX1_untriedOf_18 : decode cX1_untriedOf 18 = .ok (.iaload, 1) := by decide +kernel
theorem dX1_untriedOf_19 : decode cX1_untriedOf 19 = .ok (.invokevirtual 60, 3) := by decide +kernel
theorem dX1_untriedOf_22 : decode cX1_untriedOf 22 = .ok (.ifCond .eq 6, 3) := by decide +kernel
theorem dX1_untriedOf_25 : decode cX1_untriedOf 25 = .ok (.iinc 2 1, 3) := by decide +kernel
theorem dX1_untriedOf_28 : decode cX1_untriedOf 28 = .ok (.iinc 3 1, 3) := by decide +kernel
theorem dX1_untriedOf_31 : decode cX1_untriedOf 31 = .ok (.goto (-27), 3) := by decide +kernel
theorem dX1_untriedOf_34 : decode cX1_untriedOf 34 = .ok (.iload_n 2, 1) := by decide +kernel
theorem dX1_untriedOf_35 : decode cX1_untriedOf 35 = .ok (.ireturn, 1) := by decide +kernel
set_option maxRecDepth 20000 in
theorem ggX1_greatestNeedOf_X1_needOf : GoodIn wsX1_greatestNeedOf wsX1_needOf := goodIn_r _ [9, 1, 2, 3, 4, 10, 11, 12, 8, 13, 14, 15, 16, 17, 18, 19, 20, 21, 22, 27, 28] (by decide +kernel) (by decide +kernel)
set_option maxRecDepth 20000 in
theorem gX1_greatestNeedOf_X1_needOf : GoodIn wsX1_greatestNeedOf (wsV RX1 57 RX1 yX1_needOf wsX1_needOf) := goodIn_app (goodIn_of _ (by decide +kernel)) ggX1_greatestNeedOf_X1_needOf
theorem dX1_greatestNeedOf_0 : decode cX1_greatestNeedOf 0 = .ok (.iconst 0, 1) := by decide +kernel
theorem dX1_greatestNeedOf_1 : decode cX1_greatestNeedOf 1 = .ok (.istore_n 2, 1) := by decide +kernel
theorem dX1_greatestNeedOf_2 : decode cX1_greatestNeedOf 2 = .ok (.iconst 0, 1) := by decide +kernel
theorem dX1_greatestNeedOf_3 : decode cX1_greatestNeedOf 3 = .ok (.istore_n 3, 1) := by decide +kernel
theorem dX1_greatestNeedOf_4 : decode cX1_greatestNeedOf 4 = .ok (.iload_n 3, 1) := by decide +kernel
theorem dX1_greatestNeedOf_5 : decode cX1_greatestNeedOf 5 = .ok (.aload_n 1, 1) := by decide +kernel
theorem dX1_greatestNeedOf_6 : decode cX1_greatestNeedOf 6 = .ok (.getfield 51, 3) := by decide +kernel
theorem dX1_greatestNeedOf_9 : decode cX1_greatestNeedOf 9 = .ok (.if_icmp .ge 24, 3) := by decide +kernel
theorem dX1_greatestNeedOf_12 : decode cX1_greatestNeedOf 12 = .ok (.iload_n 2, 1) := by decide +kernel
theorem dX1_greatestNeedOf_13 : decode cX1_greatestNeedOf 13 = .ok (.aload_n 0, 1) := by decide +kernel
theorem dX1_greatestNeedOf_14 : decode cX1_greatestNeedOf 14 = .ok (.aload_n 1, 1) := by decide +kernel
theorem dX1_greatestNeedOf_15 : decode cX1_greatestNeedOf 15 = .ok (.getfield 54, 3) := by decide +kernel
theorem dX1_greatestNeedOf_18 : decode cX1_greatestNeedOf 18 = .ok (.iload_n 3, 1) := by decide +kernel
theorem dX1_greatestNeedOf_19 : decode cX1_greatestNeedOf 19 = .ok (.iaload, 1) := by decide +kernel
theorem dX1_greatestNeedOf_20 : decode cX1_greatestNeedOf 20 = .ok (.invokevirtual 57, 3) := by decide +kernel
theorem dX1_greatestNeedOf_23 : decode cX1_greatestNeedOf 23 = .ok (.invokestatic 29, 3) := by decide +kernel
theorem dX1_greatestNeedOf_26 : decode cX1_greatestNeedOf 26 = .ok (.istore_n 2, 1) := by decide +kernel
theorem dX1_greatestNeedOf_27 : decode cX1_greatestNeedOf 27 = .ok (.iinc 3 1, 3) := by decide +kernel
theorem dX1_greatestNeedOf_30 : decode cX1_greatestNeedOf 30 = .ok (.goto (-26), 3) := by decide +kernel
theorem dX1_greatestNeedOf_33 : decode cX1_greatestNeedOf 33 = .ok (.iload_n 2, 1) := by decide +kernel
theorem dX1_greatestNeedOf_34 : decode cX1_greatestNeedOf 34 = .ok (.ireturn, 1) := by decide +kernel
set_option maxRecDepth 20000 in
theorem ggX1_greatestNeedFrom_X1_needOf : GoodIn wsX1_greatestNeedFrom wsX1_needOf := goodIn_r _ [9, 1, 2, 3, 4, 10, 11, 12, 8, 13, 14, 15, 16, 17, 18, 19, 20, 21, 22, 23, 24] (by decide +kernel) (by decide +kernel)
set_option maxRecDepth 20000 in
theorem gX1_greatestNeedFrom_X1_needOf : GoodIn wsX1_greatestNeedFrom (wsV RX1 57 RX1 yX1_needOf wsX1_needOf) := goodIn_app (goodIn_of _ (by decide +kernel)) ggX1_greatestNeedFrom_X1_needOf
theorem dX1_greatestNeedFrom_0 : decode cX1_greatestNeedFrom 0 = .ok (.iconst 0, 1) := by decide +kernel
theorem dX1_greatestNeedFrom_1 : decode cX1_greatestNeedFrom 1 = .ok (.istore_n 3, 1) := by decide +kernel
theorem dX1_greatestNeedFrom_2 : decode cX1_greatestNeedFrom 2 = .ok (.iload_n 1, 1) := by decide +kernel
theorem dX1_greatestNeedFrom_3 : decode cX1_greatestNeedFrom 3 = .ok (.istore 4, 2) := by decide +kernel
theorem dX1_greatestNeedFrom_5 : decode cX1_greatestNeedFrom 5 = .ok (.iload 4, 2) := by decide +kernel
theorem dX1_greatestNeedFrom_7 : decode cX1_greatestNeedFrom 7 = .ok (.iload_n 2, 1) := by decide +kernel
theorem dX1_greatestNeedFrom_8 : decode cX1_greatestNeedFrom 8 = .ok (.if_icmp .ge 20, 3) := by decide +kernel
theorem dX1_greatestNeedFrom_11 : decode cX1_greatestNeedFrom 11 = .ok (.iload_n 3, 1) := by decide +kernel
theorem dX1_greatestNeedFrom_12 : decode cX1_greatestNeedFrom 12 = .ok (.aload_n 0, 1) := by decide +kernel
theorem dX1_greatestNeedFrom_13 : decode cX1_greatestNeedFrom 13 = .ok (.iload 4, 2) := by decide +kernel
theorem dX1_greatestNeedFrom_15 : decode cX1_greatestNeedFrom 15 = .ok (.invokevirtual 57, 3) := by decide +kernel
theorem dX1_greatestNeedFrom_18 : decode cX1_greatestNeedFrom 18 = .ok (.invokestatic 29, 3) := by decide +kernel
theorem dX1_greatestNeedFrom_21 : decode cX1_greatestNeedFrom 21 = .ok (.istore_n 3, 1) := by decide +kernel
theorem dX1_greatestNeedFrom_22 : decode cX1_greatestNeedFrom 22 = .ok (.iinc 4 1, 3) := by decide +kernel
theorem dX1_greatestNeedFrom_25 : decode cX1_greatestNeedFrom 25 = .ok (.goto (-20), 3) := by decide +kernel
theorem dX1_greatestNeedFrom_28 : decode cX1_greatestNeedFrom 28 = .ok (.iload_n 3, 1) := by decide +kernel
theorem dX1_greatestNeedFrom_29 : decode cX1_greatestNeedFrom 29 = .ok (.ireturn, 1) := by decide +kernel
set_option maxRecDepth 20000 in
theorem ggX1_triedFrom_X1_isUntried : GoodIn wsX1_triedFrom wsX1_isUntried := goodIn_r _ [5, 6, 7, 8, 4, 9, 10, 11, 12, 13, 14, 15] (by decide +kernel) (by decide +kernel)
set_option maxRecDepth 20000 in
theorem gX1_triedFrom_X1_isUntried : GoodIn wsX1_triedFrom (wsV RX1 60 RX1 yX1_isUntried wsX1_isUntried) := goodIn_app (goodIn_of _ (by decide +kernel)) ggX1_triedFrom_X1_isUntried
theorem dX1_triedFrom_0 : decode cX1_triedFrom 0 = .ok (.iconst 0, 1) := by decide +kernel
theorem dX1_triedFrom_1 : decode cX1_triedFrom 1 = .ok (.istore_n 3, 1) := by decide +kernel
theorem dX1_triedFrom_2 : decode cX1_triedFrom 2 = .ok (.iload_n 1, 1) := by decide +kernel
theorem dX1_triedFrom_3 : decode cX1_triedFrom 3 = .ok (.istore 4, 2) := by decide +kernel
theorem dX1_triedFrom_5 : decode cX1_triedFrom 5 = .ok (.iload 4, 2) := by decide +kernel
theorem dX1_triedFrom_7 : decode cX1_triedFrom 7 = .ok (.iload_n 2, 1) := by decide +kernel
theorem dX1_triedFrom_8 : decode cX1_triedFrom 8 = .ok (.if_icmp .ge 21, 3) := by decide +kernel
theorem dX1_triedFrom_11 : decode cX1_triedFrom 11 = .ok (.aload_n 0, 1) := by decide +kernel
theorem dX1_triedFrom_12 : decode cX1_triedFrom 12 = .ok (.iload 4, 2) := by decide +kernel
theorem dX1_triedFrom_14 : decode cX1_triedFrom 14 = .ok (.invokevirtual 60, 3) := by decide +kernel
theorem dX1_triedFrom_17 : decode cX1_triedFrom 17 = .ok (.ifCond .ne 6, 3) := by decide +kernel
theorem dX1_triedFrom_20 : decode cX1_triedFrom 20 = .ok (.iinc 3 1, 3) := by decide +kernel
theorem dX1_triedFrom_23 : decode cX1_triedFrom 23 = .ok (.iinc 4 1, 3) := by decide +kernel
theorem dX1_triedFrom_26 : decode cX1_triedFrom 26 = .ok (.goto (-21), 3) := by decide +kernel
theorem dX1_triedFrom_29 : decode cX1_triedFrom 29 = .ok (.iload_n 3, 1) := by decide +kernel
theorem dX1_triedFrom_30 : decode cX1_triedFrom 30 = .ok (.ireturn, 1) := by decide +kernel
theorem dX1_copyFrom_0 : decode cX1_copyFrom 0 = .ok (.aload_n 1, 1) := by decide +kernel
theorem dX1_copyFrom_1 : decode cX1_copyFrom 1 = .ok (.getfield 9, 3) := by decide +kernel
theorem dX1_copyFrom_4 : decode cX1_copyFrom 4 = .ok (.iconst 0, 1) := by decide +kernel
theorem dX1_copyFrom_5 : decode cX1_copyFrom 5 = .ok (.aload_n 0, 1) := by decide +kernel
theorem dX1_copyFrom_6 : decode cX1_copyFrom 6 = .ok (.getfield 9, 3) := by decide +kernel
theorem dX1_copyFrom_9 : decode cX1_copyFrom 9 = .ok (.iconst 0, 1) := by decide +kernel
theorem dX1_copyFrom_10 : decode cX1_copyFrom 10 = .ok (.sipush 702, 3) := by decide +kernel
theorem dX1_copyFrom_13 : decode cX1_copyFrom 13 = .ok (.invokestatic 63, 3) := by decide +kernel
theorem dX1_copyFrom_16 : decode cX1_copyFrom 16 = .ok (.aload_n 1, 1) := by decide +kernel
theorem dX1_copyFrom_17 : decode cX1_copyFrom 17 = .ok (.getfield 15, 3) := by decide +kernel
theorem dX1_copyFrom_20 : decode cX1_copyFrom 20 = .ok (.iconst 0, 1) := by decide +kernel
theorem dX1_copyFrom_21 : decode cX1_copyFrom 21 = .ok (.aload_n 0, 1) := by decide +kernel
theorem dX1_copyFrom_22 : decode cX1_copyFrom 22 = .ok (.getfield 15, 3) := by decide +kernel
theorem dX1_copyFrom_25 : decode cX1_copyFrom 25 = .ok (.iconst 0, 1) := by decide +kernel
theorem dX1_copyFrom_26 : decode cX1_copyFrom 26 = .ok (.sipush 702, 3) := by decide +kernel
theorem dX1_copyFrom_29 : decode cX1_copyFrom 29 = .ok (.invokestatic 63, 3) := by decide +kernel
theorem dX1_copyFrom_32 : decode cX1_copyFrom 32 = .ok (.return_, 1) := by decide +kernel
theorem dX2_init_0 : decode cX2_init 0 = .ok (.aload_n 0, 1) := by decide +kernel
theorem dX2_init_1 : decode cX2_init 1 = .ok (.invokespecial 3, 3) := by decide +kernel
theorem dX2_init_4 : decode cX2_init 4 = .ok (.aload_n 0, 1) := by decide +kernel
theorem dX2_init_5 : decode cX2_init 5 = .ok (.bipush 100, 2) := by decide +kernel
theorem dX2_init_7 : decode cX2_init 7 = .ok (.newarray .int, 2) := by decide +kernel
theorem dX2_init_9 : decode cX2_init 9 = .ok (.putfield 9, 3) := by decide +kernel
theorem dX2_init_12 : decode cX2_init 12 = .ok (.return_, 1) := by decide +kernel
set_option maxRecDepth 20000 in
theorem ggX2_partAt_X2_countNeeds : GoodIn wsX2_partAt wsX2_countNeeds := goodIn_r _ [6, 1, 7, 8, 9, 10, 11, 12, 13, 14, 15, 16, 17, 18, 19, 20, 21, 22, 23, 24, 25, 26, 27, 28, 32, 33, 34] (by decide +kernel) (by decide +kernel)
set_option maxRecDepth 20000 in
theorem gX2_partAt_X2_countNeeds : GoodIn wsX2_partAt (wsV RX2 15 RX2 yX2_countNeeds wsX2_countNeeds) := goodIn_app (goodIn_of _ (by decide +kernel)) ggX2_partAt_X2_countNeeds
set_option maxRecDepth 20000 in
theorem ggX2_partAt_X2_partWithNeed : GoodIn wsX2_partAt wsX2_partWithNeed := goodIn_r _ [31, 7, 8, 9, 10, 11, 12, 13, 14, 15, 16, 17, 18, 19, 20, 21, 22, 23, 24, 25, 26, 27, 28, 33, 34] (by decide +kernel) (by decide +kernel)
set_option maxRecDepth 20000 in
theorem gX2_partAt_X2_partWithNeed : GoodIn wsX2_partAt (va_wsS RX2 19 yX2_partWithNeed wsX2_partWithNeed) := goodIn_app (goodIn_of _ (by decide +kernel)) ggX2_partAt_X2_partWithNeed
theorem dX2_partAt_0 : decode cX2_partAt 0 = .ok (.aload_n 0, 1) := by decide +kernel
theorem dX2_partAt_1 : decode cX2_partAt 1 = .ok (.aload_n 1, 1) := by decide +kernel
theorem dX2_partAt_2 : decode cX2_partAt 2 = .ok (.iload_n 2, 1) := by decide +kernel
theorem dX2_partAt_3 : decode cX2_partAt 3 = .ok (.iload_n 3, 1) := by decide +kernel
theorem dX2_partAt_4 : decode cX2_partAt 4 = .ok (.invokevirtual 15, 3) := by decide +kernel
theorem dX2_partAt_7 : decode cX2_partAt 7 = .ok (.iload 4, 2) := by decide +kernel
theorem dX2_partAt_9 : decode cX2_partAt 9 = .ok (.istore 5, 2) := by decide +kernel
theorem dX2_partAt_11 : decode cX2_partAt 11 = .ok (.bipush 99, 2) := by decide +kernel
theorem dX2_partAt_13 : decode cX2_partAt 13 = .ok (.istore 6, 2) := by decide +kernel
theorem dX2_partAt_15 : decode cX2_partAt 15 = .ok (.iload 6, 2) := by decide +kernel
theorem dX2_partAt_17 : decode cX2_partAt 17 = .ok (.ifCond .le 44, 3) := by decide +kernel
theorem dX2_partAt_20 : decode cX2_partAt 20 = .ok (.iload 5, 2) := by decide +kernel
theorem dX2_partAt_22 : decode cX2_partAt 22 = .ok (.aload_n 0, 1) := by decide +kernel
theorem dX2_partAt_23 : decode cX2_partAt 23 = .ok (.getfield 9, 3) := by decide +kernel
theorem dX2_partAt_26 : decode cX2_partAt 26 = .ok (.iload 6, 2) := by decide +kernel
theorem dX2_partAt_28 : decode cX2_partAt 28 = .ok (.iaload, 1) := by decide +kernel
theorem dX2_partAt_29 : decode cX2_partAt 29 = .ok (.if_icmp .ge 14, 3) := by decide +kernel
theorem dX2_partAt_32 : decode cX2_partAt 32 = .ok (.aload_n 1, 1) := by decide +kernel
theorem dX2_partAt_33 : decode cX2_partAt 33 = .ok (.iload_n 2, 1) := by decide +kernel
theorem dX2_partAt_34 : decode cX2_partAt 34 = .ok (.iload_n 3, 1) := by decide +kernel
theorem dX2_partAt_35 : decode cX2_partAt 35 = .ok (.iload 6, 2) := by decide +kernel
theorem dX2_partAt_37 : decode cX2_partAt 37 = .ok (.iload 5, 2) := by decide +kernel
theorem dX2_partAt_39 : decode cX2_partAt 39 = .ok (.invokestatic 19, 3) := by decide +kernel
theorem dX2_partAt_42 : decode cX2_partAt 42 = .ok (.ireturn, 1) := by decide +kernel
theorem dX2_partAt_43 : decode cX2_partAt 43 = .ok (.iload 5, 2) := by decide +kernel
theorem dX2_partAt_45 : decode cX2_partAt 45 = .ok (.aload_n 0, 1) := by decide +kernel
theorem dX2_partAt_46 : decode cX2_partAt 46 = .ok (.getfield 9, 3) := by decide +kernel
theorem dX2_partAt_49 : decode cX2_partAt 49 = .ok (.iload 6, 2) := by decide +kernel
theorem dX2_partAt_51 : decode cX2_partAt 51 = .ok (.iaload, 1) := by decide +kernel
theorem dX2_partAt_52 : decode cX2_partAt 52 = .ok (.isub, 1) := by decide +kernel
theorem dX2_partAt_53 : decode cX2_partAt 53 = .ok (.istore 5, 2) := by decide +kernel
theorem dX2_partAt_55 : decode cX2_partAt 55 = .ok (.iinc 6 (-1), 3) := by decide +kernel
theorem dX2_partAt_58 : decode cX2_partAt 58 = .ok (.goto (-43), 3) := by decide +kernel
theorem dX2_partAt_61 : decode cX2_partAt 61 = .ok (.bipush (-5), 2) := by decide +kernel
theorem dX2_partAt_63 : decode cX2_partAt 63 = .ok (.ireturn, 1) := by decide +kernel
set_option maxRecDepth 20000 in
theorem ggX2_countNeeds_X1_needOf : GoodIn wsX2_countNeeds wsX1_needOf := goodIn_r _ [6, 7, 8, 9, 10, 11, 12, 13, 5, 14, 15, 16, 17, 18, 19, 20, 21, 22, 23, 25, 26] (by decide +kernel) (by decide +kernel)
set_option maxRecDepth 20000 in
theorem gX2_countNeeds_X1_needOf : GoodIn wsX2_countNeeds (wsV RX2 23 RX1 yX1_needOf wsX1_needOf) := goodIn_app (goodIn_of _ (by decide +kernel)) ggX2_countNeeds_X1_needOf
theorem dX2_countNeeds_0 : decode cX2_countNeeds 0 = .ok (.iconst 0, 1) := by decide +kernel
theorem dX2_countNeeds_1 : decode cX2_countNeeds 1 = .ok (.istore 4, 2) := by decide +kernel
theorem dX2_countNeeds_3 : decode cX2_countNeeds 3 = .ok (.iload 4, 2) := by decide +kernel
theorem dX2_countNeeds_5 : decode cX2_countNeeds 5 = .ok (.bipush 99, 2) := by decide +kernel
theorem dX2_countNeeds_7 : decode cX2_countNeeds 7 = .ok (.if_icmp .gt 17, 3) := by decide +kernel
theorem dX2_countNeeds_10 : decode cX2_countNeeds 10 = .ok (.aload_n 0, 1) := by decide +kernel
theorem dX2_countNeeds_11 : decode cX2_countNeeds 11 = .ok (.getfield 9, 3) := by decide +kernel
theorem dX2_countNeeds_14 : decode cX2_countNeeds 14 = .ok (.iload 4, 2) := by decide +kernel
theorem dX2_countNeeds_16 : decode cX2_countNeeds 16 = .ok (.iconst 0, 1) := by decide +kernel
theorem dX2_countNeeds_17 : decode cX2_countNeeds 17 = .ok (.iastore, 1) := by decide +kernel
theorem dX2_countNeeds_18 : decode cX2_countNeeds 18 = .ok (.iinc 4 1, 3) := by decide +kernel
theorem dX2_countNeeds_21 : decode cX2_countNeeds 21 = .ok (.goto (-18), 3) := by decide +kernel
theorem dX2_countNeeds_24 : decode cX2_countNeeds 24 = .ok (.iload_n 2, 1) := by decide +kernel
theorem dX2_countNeeds_25 : decode cX2_countNeeds 25 = .ok (.istore 4, 2) := by decide +kernel
theorem dX2_countNeeds_27 : decode cX2_countNeeds 27 = .ok (.iload 4, 2) := by decide +kernel
theorem dX2_countNeeds_29 : decode cX2_countNeeds 29 = .ok (.iload_n 3, 1) := by decide +kernel
theorem dX2_countNeeds_30 : decode cX2_countNeeds 30 = .ok (.if_icmp .ge 40, 3) := by decide +kernel
theorem dX2_countNeeds_33 : decode cX2_countNeeds 33 = .ok (.aload_n 1, 1) := by decide +kernel
theorem dX2_countNeeds_34 : decode cX2_countNeeds 34 = .ok (.iload 4, 2) := by decide +kernel
theorem dX2_countNeeds_36 : decode cX2_countNeeds 36 = .ok (.invokevirtual 23, 3) := by decide +kernel
theorem dX2_countNeeds_39 : decode cX2_countNeeds 39 = .ok (.istore 5, 2) := by decide +kernel
theorem dX2_countNeeds_41 : decode cX2_countNeeds 41 = .ok (.iload 5, 2) := by decide +kernel
theorem dX2_countNeeds_43 : decode cX2_countNeeds 43 = .ok (.ifCond .lt 21, 3) := by decide +kernel
theorem dX2_countNeeds_46 : decode cX2_countNeeds 46 = .ok (.iload 5, 2) := by decide +kernel
theorem dX2_countNeeds_48 : decode cX2_countNeeds 48 = .ok (.bipush 99, 2) := by decide +kernel
theorem dX2_countNeeds_50 : decode cX2_countNeeds 50 = .ok (.if_icmp .gt 14, 3) := by decide +kernel
theorem dX2_countNeeds_53 : decode cX2_countNeeds 53 = .ok (.aload_n 0, 1) := by decide +kernel
theorem dX2_countNeeds_54 : decode cX2_countNeeds 54 = .ok (.getfield 9, 3) := by decide +kernel
theorem dX2_countNeeds_57 : decode cX2_countNeeds 57 = .ok (.iload 5, 2) := by decide +kernel
theorem dX2_countNeeds_59 : decode cX2_countNeeds 59 = .ok (.dup2, 1) := by decide +kernel
theorem dX2_countNeeds_60 : decode cX2_countNeeds 60 = .ok (.iaload, 1) := by decide +kernel
theorem dX2_countNeeds_61 : decode cX2_countNeeds 61 = .ok (.iconst 1, 1) := by decide +kernel
theorem dX2_countNeeds_62 : decode cX2_countNeeds 62 = .ok (.iadd, 1) := by decide +kernel
theorem dX2_countNeeds_63 : decode cX2_countNeeds 63 = .ok (.iastore, 1) := by decide +kernel
theorem dX2_countNeeds_64 : decode cX2_countNeeds 64 = .ok (.iinc 4 1, 3) := by decide +kernel
theorem dX2_countNeeds_67 : decode cX2_countNeeds 67 = .ok (.goto (-40), 3) := by decide +kernel
theorem dX2_countNeeds_70 : decode cX2_countNeeds 70 = .ok (.return_, 1) := by decide +kernel
set_option maxRecDepth 20000 in
theorem ggX2_partWithNeed_X1_needOf : GoodIn wsX2_partWithNeed wsX1_needOf := goodIn_r _ [5, 6, 7, 8, 9, 10, 11, 12, 4, 13, 14, 15, 16, 17, 18, 19, 20, 21, 22, 23, 24] (by decide +kernel) (by decide +kernel)
set_option maxRecDepth 20000 in
theorem gX2_partWithNeed_X1_needOf : GoodIn wsX2_partWithNeed (wsV RX2 23 RX1 yX1_needOf wsX1_needOf) := goodIn_app (goodIn_of _ (by decide +kernel)) ggX2_partWithNeed_X1_needOf
theorem dX2_partWithNeed_0 : decode cX2_partWithNeed 0 = .ok (.iload 4, 2) := by decide +kernel
theorem dX2_partWithNeed_2 : decode cX2_partWithNeed 2 = .ok (.istore 5, 2) := by decide +kernel
theorem dX2_partWithNeed_4 : decode cX2_partWithNeed 4 = .ok (.iload_n 1, 1) := by decide +kernel
theorem dX2_partWithNeed_5 : decode cX2_partWithNeed 5 = .ok (.istore 6, 2) := by decide +kernel
theorem dX2_partWithNeed_7 : decode cX2_partWithNeed 7 = .ok (.iload 6, 2) := by decide +kernel
theorem dX2_partWithNeed_9 : decode cX2_partWithNeed 9 = .ok (.iload_n 2, 1) := by decide +kernel
theorem dX2_partWithNeed_10 : decode cX2_partWithNeed 10 = .ok (.if_icmp .ge 30, 3) := by decide +kernel
theorem dX2_partWithNeed_13 : decode cX2_partWithNeed 13 = .ok (.aload_n 0, 1) := by decide +kernel
theorem dX2_partWithNeed_14 : decode cX2_partWithNeed 14 = .ok (.iload 6, 2) := by decide +kernel
theorem dX2_partWithNeed_16 : decode cX2_partWithNeed 16 = .ok (.invokevirtual 23, 3) := by decide +kernel
theorem dX2_partWithNeed_19 : decode cX2_partWithNeed 19 = .ok (.iload_n 3, 1) := by decide +kernel
theorem dX2_partWithNeed_20 : decode cX2_partWithNeed 20 = .ok (.if_icmp .ne 14, 3) := by decide +kernel
theorem dX2_partWithNeed_23 : decode cX2_partWithNeed 23 = .ok (.iload 5, 2) := by decide +kernel
theorem dX2_partWithNeed_25 : decode cX2_partWithNeed 25 = .ok (.ifCond .ne 6, 3) := by decide +kernel
theorem dX2_partWithNeed_28 : decode cX2_partWithNeed 28 = .ok (.iload 6, 2) := by decide +kernel
theorem dX2_partWithNeed_30 : decode cX2_partWithNeed 30 = .ok (.ireturn, 1) := by decide +kernel
theorem dX2_partWithNeed_31 : decode cX2_partWithNeed 31 = .ok (.iinc 5 (-1), 3) := by decide +kernel
theorem dX2_partWithNeed_34 : decode cX2_partWithNeed 34 = .ok (.iinc 6 1, 3) := by decide +kernel
theorem dX2_partWithNeed_37 : decode cX2_partWithNeed 37 = .ok (.goto (-30), 3) := by decide +kernel
theorem dX2_partWithNeed_40 : decode cX2_partWithNeed 40 = .ok (.bipush (-5), 2) := by decide +kernel
theorem dX2_partWithNeed_42 : decode cX2_partWithNeed 42 = .ok (.ireturn, 1) := by decide +kernel
theorem dX3_init_0 : decode cX3_init 0 = .ok (.aload_n 0, 1) := by decide +kernel
theorem dX3_init_1 : decode cX3_init 1 = .ok (.invokespecial 3, 3) := by decide +kernel
theorem dX3_init_4 : decode cX3_init 4 = .ok (.aload_n 0, 1) := by decide +kernel
theorem dX3_init_5 : decode cX3_init 5 = .ok (.bipush 10, 2) := by decide +kernel
theorem dX3_init_7 : decode cX3_init 7 = .ok (.newarray .int, 2) := by decide +kernel
theorem dX3_init_9 : decode cX3_init 9 = .ok (.putfield 9, 3) := by decide +kernel
theorem dX3_init_12 : decode cX3_init 12 = .ok (.aload_n 0, 1) := by decide +kernel
theorem dX3_init_13 : decode cX3_init 13 = .ok (.bipush 10, 2) := by decide +kernel
theorem dX3_init_15 : decode cX3_init 15 = .ok (.newarray .int, 2) := by decide +kernel
theorem dX3_init_17 : decode cX3_init 17 = .ok (.putfield 15, 3) := by decide +kernel
theorem dX3_init_20 : decode cX3_init 20 = .ok (.aload_n 0, 1) := by decide +kernel
theorem dX3_init_21 : decode cX3_init 21 = .ok (.sipush 702, 3) := by decide +kernel
theorem dX3_init_24 : decode cX3_init 24 = .ok (.newarray .boolean, 2) := by decide +kernel
theorem dX3_init_26 : decode cX3_init 26 = .ok (.putfield 18, 3) := by decide +kernel
theorem dX3_init_29 : decode cX3_init 29 = .ok (.aload_n 0, 1) := by decide +kernel
theorem dX3_init_30 : decode cX3_init 30 = .ok (.bipush 20, 2) := by decide +kernel
theorem dX3_init_32 : decode cX3_init 32 = .ok (.newarray .boolean, 2) := by decide +kernel
theorem dX3_init_34 : decode cX3_init 34 = .ok (.putfield 22, 3) := by decide +kernel
theorem dX3_init_37 : decode cX3_init 37 = .ok (.aload_n 0, 1) := by decide +kernel
theorem dX3_init_38 : decode cX3_init 38 = .ok (.iconst 0, 1) := by decide +kernel
theorem dX3_init_39 : decode cX3_init 39 = .ok (.putfield 25, 3) := by decide +kernel
theorem dX3_init_42 : decode cX3_init 42 = .ok (.return_, 1) := by decide +kernel
theorem dX3_clear_0 : decode cX3_clear 0 = .ok (.iconst 0, 1) := by decide +kernel
theorem dX3_clear_1 : decode cX3_clear 1 = .ok (.istore_n 1, 1) := by decide +kernel
theorem dX3_clear_2 : decode cX3_clear 2 = .ok (.iload_n 1, 1) := by decide +kernel
theorem dX3_clear_3 : decode cX3_clear 3 = .ok (.sipush 702, 3) := by decide +kernel
theorem dX3_clear_6 : decode cX3_clear 6 = .ok (.if_icmp .ge 16, 3) := by decide +kernel
theorem dX3_clear_9 : decode cX3_clear 9 = .ok (.aload_n 0, 1) := by decide +kernel
theorem dX3_clear_10 : decode cX3_clear 10 = .ok (.getfield 18, 3) := by decide +kernel
theorem dX3_clear_13 : decode cX3_clear 13 = .ok (.iload_n 1, 1) := by decide +kernel
theorem dX3_clear_14 : decode cX3_clear 14 = .ok (.iconst 0, 1) := by decide +kernel
theorem dX3_clear_15 : decode cX3_clear 15 = .ok (.bastore, 1) := by decide +kernel
theorem dX3_clear_16 : decode cX3_clear 16 = .ok (.iinc 1 1, 3) := by decide +kernel
theorem dX3_clear_19 : decode cX3_clear 19 = .ok (.goto (-17), 3) := by decide +kernel
theorem dX3_clear_22 : decode cX3_clear 22 = .ok (.iconst 0, 1) := by decide +kernel
theorem dX3_clear_23 : decode cX3_clear 23 = .ok (.istore_n 1, 1) := by decide +kernel
theorem dX3_clear_24 : decode cX3_clear 24 = .ok (.iload_n 1, 1) := by decide +kernel
theorem dX3_clear_25 : decode cX3_clear 25 = .ok (.bipush 20, 2) := by decide +kernel
theorem dX3_clear_27 : decode cX3_clear 27 = .ok (.if_icmp .ge 16, 3) := by decide +kernel
theorem dX3_clear_30 : decode cX3_clear 30 = .ok (.aload_n 0, 1) := by decide +kernel
theorem dX3_clear_31 : decode cX3_clear 31 = .ok (.getfield 22, 3) := by decide +kernel
theorem dX3_clear_34 : decode cX3_clear 34 = .ok (.iload_n 1, 1) := by decide +kernel
theorem dX3_clear_35 : decode cX3_clear 35 = .ok (.iconst 0, 1) := by decide +kernel
theorem dX3_clear_36 : decode cX3_clear 36 = .ok (.bastore, 1) := by decide +kernel
theorem dX3_clear_37 : decode cX3_clear 37 = .ok (.iinc 1 1, 3) := by decide +kernel
theorem dX3_clear_40 : decode cX3_clear 40 = .ok (.goto (-16), 3) := by decide +kernel
theorem dX3_clear_43 : decode cX3_clear 43 = .ok (.aload_n 0, 1) := by decide +kernel
theorem dX3_clear_44 : decode cX3_clear 44 = .ok (.iconst 0, 1) := by decide +kernel
theorem dX3_clear_45 : decode cX3_clear 45 = .ok (.putfield 25, 3) := by decide +kernel
theorem dX3_clear_48 : decode cX3_clear 48 = .ok (.return_, 1) := by decide +kernel
set_option maxRecDepth 20000 in
theorem ggX3_choose_X3_clear : GoodIn wsX3_choose wsX3_clear := goodIn_r _ [5, 6, 7, 8, 49, 50, 51, 52, 53] (by decide +kernel) (by decide +kernel)
set_option maxRecDepth 20000 in
theorem gX3_choose_X3_clear : GoodIn wsX3_choose (wsV RX3 29 RX3 yX3_clear wsX3_clear) := goodIn_app (goodIn_of _ (by decide +kernel)) ggX3_choose_X3_clear
set_option maxRecDepth 20000 in
theorem ggX3_choose_X3_chooseLine : GoodIn wsX3_choose wsX3_chooseLine := goodIn_r _ [12, 7, 8, 13, 14, 15, 4, 16, 6, 17, 18, 19, 20, 21, 22, 23, 24, 25, 26, 27, 28, 29, 30, 31, 32, 33, 34, 35, 36, 37, 38, 39, 40, 41, 42, 43, 44, 45, 46, 47, 48, 54, 55, 56, 57, 58, 59, 60, 61, 62, 49, 50, 51, 52, 53, 63, 64, 65, 66, 67, 68] (by decide +kernel) (by decide +kernel)
set_option maxRecDepth 20000 in
theorem gX3_choose_X3_chooseLine : GoodIn wsX3_choose (wsV RX3 32 RX3 yX3_chooseLine wsX3_chooseLine) := goodIn_app (goodIn_of _ (by decide +kernel)) ggX3_choose_X3_chooseLine
theorem dX3_choose_0 : decode cX3_choose 0 = .ok (.aload_n 0, 1) := by decide +kernel
theorem dX3_choose_1 : decode cX3_choose 1 = .ok (.invokevirtual 29, 3) := by decide +kernel
theorem dX3_choose_4 : decode cX3_choose 4 = .ok (.iconst 1, 1) := by decide +kernel
theorem dX3_choose_5 : decode cX3_choose 5 = .ok (.istore_n 3, 1) := by decide +kernel
theorem dX3_choose_6 : decode cX3_choose 6 = .ok (.iconst 0, 1) := by decide +kernel
theorem dX3_choose_7 : decode cX3_choose 7 = .ok (.istore 4, 2) := by decide +kernel
theorem dX3_choose_9 : decode cX3_choose 9 = .ok (.iload 4, 2) := by decide +kernel
theorem dX3_choose_11 : decode cX3_choose 11 = .ok (.iload_n 2, 1) := by decide +kernel
theorem dX3_choose_12 : decode cX3_choose 12 = .ok (.if_icmp .ge 19, 3) := by decide +kernel
theorem dX3_choose_15 : decode cX3_choose 15 = .ok (.iload_n 3, 1) := by decide +kernel
theorem dX3_choose_16 : decode cX3_choose 16 = .ok (.ifCond .eq 15, 3) := by decide +kernel
theorem dX3_choose_19 : decode cX3_choose 19 = .ok (.aload_n 0, 1) := by decide +kernel
theorem dX3_choose_20 : decode cX3_choose 20 = .ok (.aload_n 1, 1) := by decide +kernel
theorem dX3_choose_21 : decode cX3_choose 21 = .ok (.invokevirtual 32, 3) := by decide +kernel
theorem dX3_choose_24 : decode cX3_choose 24 = .ok (.istore_n 3, 1) := by decide +kernel
theorem dX3_choose_25 : decode cX3_choose 25 = .ok (.iinc 4 1, 3) := by decide +kernel
theorem dX3_choose_28 : decode cX3_choose 28 = .ok (.goto (-19), 3) := by decide +kernel
theorem dX3_choose_31 : decode cX3_choose 31 = .ok (.return_, 1) := by decide +kernel
set_option maxRecDepth 20000 in
theorem ggX3_chooseLine_X3_gainOf : GoodIn wsX3_chooseLine wsX3_gainOf := goodIn_r _ [7, 8, 9, 10, 11, 12, 13, 14, 15, 16, 17, 18, 19, 20, 21, 22, 23, 24, 25, 26, 27, 28, 29, 30, 31, 32, 33, 34, 55, 56, 57, 58, 41, 42, 43, 44, 45, 46, 47, 50, 51, 52, 53, 54, 59, 60] (by decide +kernel) (by decide +kernel)
set_option maxRecDepth 20000 in
theorem gX3_chooseLine_X3_gainOf : GoodIn wsX3_chooseLine (wsV RX3 47 RX3 yX3_gainOf wsX3_gainOf) := goodIn_app (goodIn_of _ (by decide +kernel)) ggX3_chooseLine_X3_gainOf
set_option maxRecDepth 20000 in
theorem ggX3_chooseLine_X3_addLine : GoodIn wsX3_chooseLine wsX3_addLine := goodIn_r _ [38, 39, 2, 40, 1, 8, 19, 20, 21, 50, 51, 52, 53, 54, 55, 56, 57, 58] (by decide +kernel) (by decide +kernel)
set_option maxRecDepth 20000 in
theorem gX3_chooseLine_X3_addLine : GoodIn wsX3_chooseLine (wsV RX3 56 RX3 yX3_addLine wsX3_addLine) := goodIn_app (goodIn_of _ (by decide +kernel)) ggX3_chooseLine_X3_addLine
theorem dX3_chooseLine_0 : decode cX3_chooseLine 0 = .ok (.bipush (-5), 2) := by decide +kernel
theorem dX3_chooseLine_2 : decode cX3_chooseLine 2 = .ok (.istore_n 2, 1) := by decide +kernel
theorem dX3_chooseLine_3 : decode cX3_chooseLine 3 = .ok (.iconst 0, 1) := by decide +kernel
theorem dX3_chooseLine_4 : decode cX3_chooseLine 4 = .ok (.istore_n 3, 1) := by decide +kernel
theorem dX3_chooseLine_5 : decode cX3_chooseLine 5 = .ok (.iconst 0, 1) := by decide +kernel
theorem dX3_chooseLine_6 : decode cX3_chooseLine 6 = .ok (.istore 4, 2) := by decide +kernel
theorem dX3_chooseLine_8 : decode cX3_chooseLine 8 = .ok (.iconst 0, 1) := by decide +kernel
theorem dX3_chooseLine_9 : decode cX3_chooseLine 9 = .ok (.istore 5, 2) := by decide +kernel
theorem dX3_chooseLine_11 : decode cX3_chooseLine 11 = .ok (.iload 5, 2) := by decide +kernel
theorem dX3_chooseLine_13 : decode cX3_chooseLine 13 = .ok (.aload_n 1, 1) := by decide +kernel
theorem dX3_chooseLine_14 : decode cX3_chooseLine 14 = .ok (.getfield 36, 3) := by decide +kernel
theorem dX3_chooseLine_17 : decode cX3_chooseLine 17 = .ok (.getfield 41, 3) := by decide +kernel
theorem dX3_chooseLine_20 : decode cX3_chooseLine 20 = .ok (.if_icmp .ge 78, 3) := by decide +kernel
theorem dX3_chooseLine_23 : decode cX3_chooseLine 23 = .ok (.aload_n 0, 1) := by decide +kernel
theorem dX3_chooseLine_24 : decode cX3_chooseLine 24 = .ok (.getfield 22, 3) := by decide +kernel
theorem dX3_chooseLine_27 : decode cX3_chooseLine 27 = .ok (.iload 5, 2) := by decide +kernel
theorem dX3_chooseLine_29 : decode cX3_chooseLine 29 = .ok (.baload, 1) := by decide +kernel
theorem dX3_chooseLine_30 : decode cX3_chooseLine 30 = .ok (.ifCond .eq 6, 3) := by decide +kernel
theorem dX3_chooseLine_33 : decode cX3_chooseLine 33 = .ok (.goto 59, 3) := by decide +kernel
theorem dX3_chooseLine_36 : decode cX3_chooseLine 36 = .ok (.aload_n 1, 1) := by decide +kernel
theorem dX3_chooseLine_37 : decode cX3_chooseLine 37 = .ok (.getfield 36, 3) := by decide +kernel
theorem dX3_chooseLine_40 : decode cX3_chooseLine 40 = .ok (.getfield 44, 3) := by decide +kernel
theorem dX3_chooseLine_43 : decode cX3_chooseLine 43 = .ok (.iload 5, 2) := by decide +kernel
theorem dX3_chooseLine_45 : decode cX3_chooseLine 45 = .ok (.aaload, 1) := by decide +kernel
theorem dX3_chooseLine_46 : decode cX3_chooseLine 46 = .ok (.astore 6, 2) := by decide +kernel
theorem dX3_chooseLine_48 : decode cX3_chooseLine 48 = .ok (.aload_n 0, 1) := by decide +kernel
theorem dX3_chooseLine_49 : decode cX3_chooseLine 49 = .ok (.aload 6, 2) := by decide +kernel
theorem dX3_chooseLine_51 : decode cX3_chooseLine 51 = .ok (.aload_n 1, 1) := by decide +kernel
theorem dX3_chooseLine_52 : decode cX3_chooseLine 52 = .ok (.invokevirtual 47, 3) := by decide +kernel
theorem dX3_chooseLine_55 : decode cX3_chooseLine 55 = .ok (.istore 7, 2) := by decide +kernel
theorem dX3_chooseLine_57 : decode cX3_chooseLine 57 = .ok (.iload 7, 2) := by decide +kernel
theorem dX3_chooseLine_59 : decode cX3_chooseLine 59 = .ok (.iload_n 3, 1) := by decide +kernel
theorem dX3_chooseLine_60 : decode cX3_chooseLine 60 = .ok (.if_icmp .gt 19, 3) := by decide +kernel
theorem dX3_chooseLine_63 : decode cX3_chooseLine 63 = .ok (.iload 7, 2) := by decide +kernel
theorem dX3_chooseLine_65 : decode cX3_chooseLine 65 = .ok (.iload_n 3, 1) := by decide +kernel
theorem dX3_chooseLine_66 : decode cX3_chooseLine 66 = .ok (.if_icmp .ne 26, 3) := by decide +kernel
theorem dX3_chooseLine_69 : decode cX3_chooseLine 69 = .ok (.aload 6, 2) := by decide +kernel
theorem dX3_chooseLine_71 : decode cX3_chooseLine 71 = .ok (.getfield 51, 3) := by decide +kernel
theorem dX3_chooseLine_74 : decode cX3_chooseLine 74 = .ok (.iload 4, 2) := by decide +kernel
theorem dX3_chooseLine_76 : decode cX3_chooseLine 76 = .ok (.if_icmp .ge 16, 3) := by decide +kernel
theorem dX3_chooseLine_79 : decode cX3_chooseLine 79 = .ok (.iload 5, 2) := by decide +kernel
theorem dX3_chooseLine_81 : decode cX3_chooseLine 81 = .ok (.istore_n 2, 1) := by decide +kernel
theorem dX3_chooseLine_82 : decode cX3_chooseLine 82 = .ok (.iload 7, 2) := by decide +kernel
theorem dX3_chooseLine_84 : decode cX3_chooseLine 84 = .ok (.istore_n 3, 1) := by decide +kernel
theorem dX3_chooseLine_85 : decode cX3_chooseLine 85 = .ok (.aload 6, 2) := by decide +kernel
theorem dX3_chooseLine_87 : decode cX3_chooseLine 87 = .ok (.getfield 51, 3) := by decide +kernel
theorem dX3_chooseLine_90 : decode cX3_chooseLine 90 = .ok (.istore 4, 2) := by decide +kernel
theorem dX3_chooseLine_92 : decode cX3_chooseLine 92 = .ok (.iinc 5 1, 3) := by decide +kernel
theorem dX3_chooseLine_95 : decode cX3_chooseLine 95 = .ok (.goto (-84), 3) := by decide +kernel
theorem dX3_chooseLine_98 : decode cX3_chooseLine 98 = .ok (.iload_n 2, 1) := by decide +kernel
theorem dX3_chooseLine_99 : decode cX3_chooseLine 99 = .ok (.bipush (-5), 2) := by decide +kernel
theorem dX3_chooseLine_101 : decode cX3_chooseLine 101 = .ok (.if_icmp .eq 12, 3) := by decide +kernel
theorem dX3_chooseLine_104 : decode cX3_chooseLine 104 = .ok (.aload_n 0, 1) := by decide +kernel
theorem dX3_chooseLine_105 : decode cX3_chooseLine 105 = .ok (.getfield 25, 3) := by decide +kernel
theorem dX3_chooseLine_108 : decode cX3_chooseLine 108 = .ok (.bipush 10, 2) := by decide +kernel
theorem dX3_chooseLine_110 : decode cX3_chooseLine 110 = .ok (.if_icmp .lt 5, 3) := by decide +kernel
theorem dX3_chooseLine_113 : decode cX3_chooseLine 113 = .ok (.iconst 0, 1) := by decide +kernel
theorem dX3_chooseLine_114 : decode cX3_chooseLine 114 = .ok (.ireturn, 1) := by decide +kernel
theorem dX3_chooseLine_115 : decode cX3_chooseLine 115 = .ok (.aload_n 0, 1) := by decide +kernel
theorem dX3_chooseLine_116 : decode cX3_chooseLine 116 = .ok (.iload_n 2, 1) := by decide +kernel
theorem dX3_chooseLine_117 : decode cX3_chooseLine 117 = .ok (.iload_n 3, 1) := by decide +kernel
theorem dX3_chooseLine_118 : decode cX3_chooseLine 118 = .ok (.aload_n 1, 1) := by decide +kernel
theorem dX3_chooseLine_119 : decode cX3_chooseLine 119 = .ok (.getfield 36, 3) := by decide +kernel
theorem dX3_chooseLine_122 : decode cX3_chooseLine 122 = .ok (.getfield 44, 3) := by decide +kernel
theorem dX3_chooseLine_125 : decode cX3_chooseLine 125 = .ok (.iload_n 2, 1) := by decide +kernel
theorem dX3_chooseLine_126 : decode cX3_chooseLine 126 = .ok (.aaload, 1) := by decide +kernel
theorem dX3_chooseLine_127 : decode cX3_chooseLine 127 = .ok (.invokevirtual 56, 3) := by decide +kernel
theorem dX3_chooseLine_130 : decode cX3_chooseLine 130 = .ok (.iconst 1, 1) := by decide +kernel
theorem dX3_chooseLine_131 : decode cX3_chooseLine 131 = .ok (.ireturn, 1) := by decide +kernel
set_option maxRecDepth 20000 in
theorem ggX3_addLine_X8_isPart : GoodIn wsX3_addLine wsX8_isPart := goodIn_r _ [8] (by decide +kernel) (by decide +kernel)
set_option maxRecDepth 20000 in
theorem gX3_addLine_X8_isPart_n66 : GoodIn wsX3_addLine (wsX8_isPart) := ggX3_addLine_X8_isPart
theorem dX3_addLine_0 : decode cX3_addLine 0 = .ok (.aload_n 0, 1) := by decide +kernel
theorem dX3_addLine_1 : decode cX3_addLine 1 = .ok (.getfield 9, 3) := by decide +kernel
theorem dX3_addLine_4 : decode cX3_addLine 4 = .ok (.aload_n 0, 1) := by decide +kernel
theorem dX3_addLine_5 : decode cX3_addLine 5 = .ok (.getfield 25, 3) := by decide +kernel
theorem dX3_addLine_8 : decode cX3_addLine 8 = .ok (.iload_n 1, 1) := by decide +kernel
theorem dX3_addLine_9 : decode cX3_addLine 9 = .ok (.iastore, 1) := by decide +kernel
theorem dX3_addLine_10 : decode cX3_addLine 10 = .ok (.aload_n 0, 1) := by decide +kernel
theorem dX3_addLine_11 : decode cX3_addLine 11 = .ok (.getfield 15, 3) := by decide +kernel
theorem dX3_addLine_14 : decode cX3_addLine 14 = .ok (.aload_n 0, 1) := by decide +kernel
theorem dX3_addLine_15 : decode cX3_addLine 15 = .ok (.getfield 25, 3) := by decide +kernel
theorem dX3_addLine_18 : decode cX3_addLine 18 = .ok (.iload_n 2, 1) := by decide +kernel
theorem dX3_addLine_19 : decode cX3_addLine 19 = .ok (.iastore, 1) := by decide +kernel
theorem dX3_addLine_20 : decode cX3_addLine 20 = .ok (.aload_n 0, 1) := by decide +kernel
theorem dX3_addLine_21 : decode cX3_addLine 21 = .ok (.dup, 1) := by decide +kernel
theorem dX3_addLine_22 : decode cX3_addLine 22 = .ok (.getfield 25, 3) := by decide +kernel
theorem dX3_addLine_25 : decode cX3_addLine 25 = .ok (.iconst 1, 1) := by decide +kernel
theorem dX3_addLine_26 : decode cX3_addLine 26 = .ok (.iadd, 1) := by decide +kernel
theorem dX3_addLine_27 : decode cX3_addLine 27 = .ok (.putfield 25, 3) := by decide +kernel
theorem dX3_addLine_30 : decode cX3_addLine 30 = .ok (.aload_n 0, 1) := by decide +kernel
theorem dX3_addLine_31 : decode cX3_addLine 31 = .ok (.getfield 22, 3) := by decide +kernel
theorem dX3_addLine_34 : decode cX3_addLine 34 = .ok (.iload_n 1, 1) := by decide +kernel
theorem dX3_addLine_35 : decode cX3_addLine 35 = .ok (.iconst 1, 1) := by decide +kernel
theorem dX3_addLine_36 : decode cX3_addLine 36 = .ok (.bastore, 1) := by decide +kernel
theorem dX3_addLine_37 : decode cX3_addLine 37 = .ok (.iconst 0, 1) := by decide +kernel
theorem dX3_addLine_38 : decode cX3_addLine 38 = .ok (.istore 4, 2) := by decide +kernel
theorem dX3_addLine_40 : decode cX3_addLine 40 = .ok (.iload 4, 2) := by decide +kernel
theorem dX3_addLine_42 : decode cX3_addLine 42 = .ok (.aload_n 3, 1) := by decide +kernel
theorem dX3_addLine_43 : decode cX3_addLine 43 = .ok (.getfield 60, 3) := by decide +kernel
theorem dX3_addLine_46 : decode cX3_addLine 46 = .ok (.if_icmp .ge 35, 3) := by decide +kernel
theorem dX3_addLine_49 : decode cX3_addLine 49 = .ok (.aload_n 3, 1) := by decide +kernel
theorem dX3_addLine_50 : decode cX3_addLine 50 = .ok (.getfield 63, 3) := by decide +kernel
theorem dX3_addLine_53 : decode cX3_addLine 53 = .ok (.iload 4, 2) := by decide +kernel
theorem dX3_addLine_55 : decode cX3_addLine 55 = .ok (.iaload, 1) := by decide +kernel
theorem dX3_addLine_56 : decode cX3_addLine 56 = .ok (.invokestatic 66, 3) := by decide +kernel
theorem dX3_addLine_59 : decode cX3_addLine 59 = .ok (.ifCond .eq 16, 3) := by decide +kernel
theorem dX3_addLine_62 : decode cX3_addLine 62 = .ok (.aload_n 0, 1) := by decide +kernel
theorem dX3_addLine_63 : decode cX3_addLine 63 = .ok (.getfield 18, 3) := by decide +kernel
theorem dX3_addLine_66 : decode cX3_addLine 66 = .ok (.aload_n 3, 1) := by decide +kernel
theorem dX3_addLine_67 : decode cX3_addLine 67 = .ok (.getfield 63, 3) := by decide +kernel
theorem dX3_addLine_70 : decode cX3_addLine 70 = .ok (.iload 4, 2) := by decide +kernel
theorem dX3_addLine_72 : decode cX3_addLine 72 = .ok (.iaload, 1) := by decide +kernel
theorem dX3_addLine_73 : decode cX3_addLine 73 = .ok (.iconst 1, 1) := by decide +kernel
theorem dX3_addLine_74 : decode cX3_addLine 74 = .ok (.bastore, 1) := by decide +kernel
theorem dX3_addLine_75 : decode cX3_addLine 75 = .ok (.iinc 4 1, 3) := by decide +kernel
theorem dX3_addLine_78 : decode cX3_addLine 78 = .ok (.goto (-38), 3) := by decide +kernel
theorem dX3_addLine_81 : decode cX3_addLine 81 = .ok (.return_, 1) := by decide +kernel
set_option maxRecDepth 20000 in
theorem ggX3_gainOf_X1_isUntried : GoodIn wsX3_gainOf wsX1_isUntried := goodIn_r _ [6, 7, 8, 9, 5, 10, 11, 12, 13, 14, 44, 45] (by decide +kernel) (by decide +kernel)
set_option maxRecDepth 20000 in
theorem gX3_gainOf_X1_isUntried : GoodIn wsX3_gainOf (wsV RX3 74 RX1 yX1_isUntried wsX1_isUntried) := goodIn_app (goodIn_of _ (by decide +kernel)) ggX3_gainOf_X1_isUntried
set_option maxRecDepth 20000 in
theorem ggX3_gainOf_X8_isPart : GoodIn wsX3_gainOf wsX8_isPart := goodIn_r _ [14] (by decide +kernel) (by decide +kernel)
set_option maxRecDepth 20000 in
theorem gX3_gainOf_X8_isPart_n66 : GoodIn wsX3_gainOf (wsX8_isPart) := ggX3_gainOf_X8_isPart
set_option maxRecDepth 20000 in
theorem ggX3_gainOf_X1_needOf : GoodIn wsX3_gainOf wsX1_needOf := goodIn_r _ [18, 19, 20, 21, 22, 23, 24, 25, 5, 26, 27, 12, 13, 14, 7, 8, 9, 10, 11, 44, 45] (by decide +kernel) (by decide +kernel)
set_option maxRecDepth 20000 in
theorem gX3_gainOf_X1_needOf : GoodIn wsX3_gainOf (wsV RX3 82 RX1 yX1_needOf wsX1_needOf) := goodIn_app (goodIn_of _ (by decide +kernel)) ggX3_gainOf_X1_needOf
theorem dX3_gainOf_0 : decode cX3_gainOf 0 = .ok (.iconst 0, 1) := by decide +kernel
theorem dX3_gainOf_1 : decode cX3_gainOf 1 = .ok (.istore_n 3, 1) := by decide +kernel
theorem dX3_gainOf_2 : decode cX3_gainOf 2 = .ok (.iconst 0, 1) := by decide +kernel
theorem dX3_gainOf_3 : decode cX3_gainOf 3 = .ok (.istore 4, 2) := by decide +kernel
theorem dX3_gainOf_5 : decode cX3_gainOf 5 = .ok (.iload 4, 2) := by decide +kernel
theorem dX3_gainOf_7 : decode cX3_gainOf 7 = .ok (.aload_n 1, 1) := by decide +kernel
theorem dX3_gainOf_8 : decode cX3_gainOf 8 = .ok (.getfield 60, 3) := by decide +kernel
theorem dX3_gainOf_11 : decode cX3_gainOf 11 = .ok (.if_icmp .ge 87, 3) := by decide +kernel
theorem dX3_gainOf_14 : decode cX3_gainOf 14 = .ok (.aload_n 1, 1) := by decide +kernel
theorem dX3_gainOf_15 : decode cX3_gainOf 15 = .ok (.getfield 63, 3) := by decide +kernel
theorem dX3_gainOf_18 : decode cX3_gainOf 18 = .ok (.iload 4, 2) := by decide +kernel
theorem dX3_gainOf_20 : decode cX3_gainOf 20 = .ok (.iaload, 1) := by decide +kernel
theorem dX3_gainOf_21 : decode cX3_gainOf 21 = .ok (.istore 5, 2) := by decide +kernel
theorem dX3_gainOf_23 : decode cX3_gainOf 23 = .ok (.aload_n 2, 1) := by decide +kernel
theorem dX3_gainOf_24 : decode cX3_gainOf 24 = .ok (.getfield 70, 3) := by decide +kernel
theorem dX3_gainOf_27 : decode cX3_gainOf 27 = .ok (.iload 5, 2) := by decide +kernel
theorem dX3_gainOf_29 : decode cX3_gainOf 29 = .ok (.invokevirtual 74, 3) := by decide +kernel
theorem dX3_gainOf_32 : decode cX3_gainOf 32 = .ok (.ifCond .eq 13, 3) := by decide +kernel
theorem dX3_gainOf_35 : decode cX3_gainOf 35 = .ok (.iload_n 3, 1) := by decide +kernel
theorem dX3_gainOf_36 : decode cX3_gainOf 36 = .ok (.aload_n 2, 1) := by decide +kernel
theorem dX3_gainOf_37 : decode cX3_gainOf 37 = .ok (.getfield 79, 3) := by decide +kernel
theorem dX3_gainOf_40 : decode cX3_gainOf 40 = .ok (.iadd, 1) := by decide +kernel
theorem dX3_gainOf_41 : decode cX3_gainOf 41 = .ok (.istore_n 3, 1) := by decide +kernel
theorem dX3_gainOf_42 : decode cX3_gainOf 42 = .ok (.goto 50, 3) := by decide +kernel
theorem dX3_gainOf_45 : decode cX3_gainOf 45 = .ok (.iload 5, 2) := by decide +kernel
theorem dX3_gainOf_47 : decode cX3_gainOf 47 = .ok (.invokestatic 66, 3) := by decide +kernel
theorem dX3_gainOf_50 : decode cX3_gainOf 50 = .ok (.ifCond .eq 30, 3) := by decide +kernel
theorem dX3_gainOf_53 : decode cX3_gainOf 53 = .ok (.aload_n 0, 1) := by decide +kernel
theorem dX3_gainOf_54 : decode cX3_gainOf 54 = .ok (.getfield 18, 3) := by decide +kernel
theorem dX3_gainOf_57 : decode cX3_gainOf 57 = .ok (.iload 5, 2) := by decide +kernel
theorem dX3_gainOf_59 : decode cX3_gainOf 59 = .ok (.baload, 1) := by decide +kernel
theorem dX3_gainOf_60 : decode cX3_gainOf 60 = .ok (.ifCond .eq 20, 3) := by decide +kernel
theorem dX3_gainOf_63 : decode cX3_gainOf 63 = .ok (.iload_n 3, 1) := by decide +kernel
theorem dX3_gainOf_64 : decode cX3_gainOf 64 = .ok (.aload_n 2, 1) := by decide +kernel
theorem dX3_gainOf_65 : decode cX3_gainOf 65 = .ok (.getfield 70, 3) := by decide +kernel
theorem dX3_gainOf_68 : decode cX3_gainOf 68 = .ok (.iload 5, 2) := by decide +kernel
theorem dX3_gainOf_70 : decode cX3_gainOf 70 = .ok (.invokevirtual 82, 3) := by decide +kernel
theorem dX3_gainOf_73 : decode cX3_gainOf 73 = .ok (.iconst 2, 1) := by decide +kernel
theorem dX3_gainOf_74 : decode cX3_gainOf 74 = .ok (.idiv, 1) := by decide +kernel
theorem dX3_gainOf_75 : decode cX3_gainOf 75 = .ok (.iadd, 1) := by decide +kernel
theorem dX3_gainOf_76 : decode cX3_gainOf 76 = .ok (.istore_n 3, 1) := by decide +kernel
theorem dX3_gainOf_77 : decode cX3_gainOf 77 = .ok (.goto 15, 3) := by decide +kernel
theorem dX3_gainOf_80 : decode cX3_gainOf 80 = .ok (.iload_n 3, 1) := by decide +kernel
theorem dX3_gainOf_81 : decode cX3_gainOf 81 = .ok (.aload_n 2, 1) := by decide +kernel
theorem dX3_gainOf_82 : decode cX3_gainOf 82 = .ok (.getfield 70, 3) := by decide +kernel
theorem dX3_gainOf_85 : decode cX3_gainOf 85 = .ok (.iload 5, 2) := by decide +kernel
theorem dX3_gainOf_87 : decode cX3_gainOf 87 = .ok (.invokevirtual 82, 3) := by decide +kernel
theorem dX3_gainOf_90 : decode cX3_gainOf 90 = .ok (.iadd, 1) := by decide +kernel
theorem dX3_gainOf_91 : decode cX3_gainOf 91 = .ok (.istore_n 3, 1) := by decide +kernel
theorem dX3_gainOf_92 : decode cX3_gainOf 92 = .ok (.iinc 4 1, 3) := by decide +kernel
theorem dX3_gainOf_95 : decode cX3_gainOf 95 = .ok (.goto (-90), 3) := by decide +kernel
theorem dX3_gainOf_98 : decode cX3_gainOf 98 = .ok (.iload_n 3, 1) := by decide +kernel
theorem dX3_gainOf_99 : decode cX3_gainOf 99 = .ok (.ireturn, 1) := by decide +kernel
theorem dX3_coveredFrom_0 : decode cX3_coveredFrom 0 = .ok (.iconst 0, 1) := by decide +kernel
theorem dX3_coveredFrom_1 : decode cX3_coveredFrom 1 = .ok (.istore_n 3, 1) := by decide +kernel
theorem dX3_coveredFrom_2 : decode cX3_coveredFrom 2 = .ok (.iload_n 1, 1) := by decide +kernel
theorem dX3_coveredFrom_3 : decode cX3_coveredFrom 3 = .ok (.istore 4, 2) := by decide +kernel
theorem dX3_coveredFrom_5 : decode cX3_coveredFrom 5 = .ok (.iload 4, 2) := by decide +kernel
theorem dX3_coveredFrom_7 : decode cX3_coveredFrom 7 = .ok (.iload_n 2, 1) := by decide +kernel
theorem dX3_coveredFrom_8 : decode cX3_coveredFrom 8 = .ok (.if_icmp .ge 22, 3) := by decide +kernel
theorem dX3_coveredFrom_11 : decode cX3_coveredFrom 11 = .ok (.aload_n 0, 1) := by decide +kernel
theorem dX3_coveredFrom_12 : decode cX3_coveredFrom 12 = .ok (.getfield 18, 3) := by decide +kernel
theorem dX3_coveredFrom_15 : decode cX3_coveredFrom 15 = .ok (.iload 4, 2) := by decide +kernel
theorem dX3_coveredFrom_17 : decode cX3_coveredFrom 17 = .ok (.baload, 1) := by decide +kernel
theorem dX3_coveredFrom_18 : decode cX3_coveredFrom 18 = .ok (.ifCond .eq 6, 3) := by decide +kernel
theorem dX3_coveredFrom_21 : decode cX3_coveredFrom 21 = .ok (.iinc 3 1, 3) := by decide +kernel
theorem dX3_coveredFrom_24 : decode cX3_coveredFrom 24 = .ok (.iinc 4 1, 3) := by decide +kernel
theorem dX3_coveredFrom_27 : decode cX3_coveredFrom 27 = .ok (.goto (-22), 3) := by decide +kernel
theorem dX3_coveredFrom_30 : decode cX3_coveredFrom 30 = .ok (.iload_n 3, 1) := by decide +kernel
theorem dX3_coveredFrom_31 : decode cX3_coveredFrom 31 = .ok (.ireturn, 1) := by decide +kernel
set_option maxRecDepth 20000 in
theorem ggX3_needCovered_X1_needOf : GoodIn wsX3_needCovered wsX1_needOf := goodIn_r _ [6, 7, 8, 9, 10, 11, 12, 13, 5, 14, 15, 16, 17, 18, 19, 20, 21, 22, 23, 29, 30] (by decide +kernel) (by decide +kernel)
set_option maxRecDepth 20000 in
theorem gX3_needCovered_X1_needOf : GoodIn wsX3_needCovered (wsV RX3 82 RX1 yX1_needOf wsX1_needOf) := goodIn_app (goodIn_of _ (by decide +kernel)) ggX3_needCovered_X1_needOf
theorem dX3_needCovered_0 : decode cX3_needCovered 0 = .ok (.iconst 0, 1) := by decide +kernel
theorem dX3_needCovered_1 : decode cX3_needCovered 1 = .ok (.istore_n 2, 1) := by decide +kernel
theorem dX3_needCovered_2 : decode cX3_needCovered 2 = .ok (.iconst 0, 1) := by decide +kernel
theorem dX3_needCovered_3 : decode cX3_needCovered 3 = .ok (.istore_n 3, 1) := by decide +kernel
theorem dX3_needCovered_4 : decode cX3_needCovered 4 = .ok (.iload_n 3, 1) := by decide +kernel
theorem dX3_needCovered_5 : decode cX3_needCovered 5 = .ok (.sipush 702, 3) := by decide +kernel
theorem dX3_needCovered_8 : decode cX3_needCovered 8 = .ok (.if_icmp .ge 26, 3) := by decide +kernel
theorem dX3_needCovered_11 : decode cX3_needCovered 11 = .ok (.aload_n 0, 1) := by decide +kernel
theorem dX3_needCovered_12 : decode cX3_needCovered 12 = .ok (.getfield 18, 3) := by decide +kernel
theorem dX3_needCovered_15 : decode cX3_needCovered 15 = .ok (.iload_n 3, 1) := by decide +kernel
theorem dX3_needCovered_16 : decode cX3_needCovered 16 = .ok (.baload, 1) := by decide +kernel
theorem dX3_needCovered_17 : decode cX3_needCovered 17 = .ok (.ifCond .eq 11, 3) := by decide +kernel
theorem dX3_needCovered_20 : decode cX3_needCovered 20 = .ok (.iload_n 2, 1) := by decide +kernel
theorem dX3_needCovered_21 : decode cX3_needCovered 21 = .ok (.aload_n 1, 1) := by decide +kernel
theorem dX3_needCovered_22 : decode cX3_needCovered 22 = .ok (.iload_n 3, 1) := by decide +kernel
theorem dX3_needCovered_23 : decode cX3_needCovered 23 = .ok (.invokevirtual 82, 3) := by decide +kernel
theorem dX3_needCovered_26 : decode cX3_needCovered 26 = .ok (.iadd, 1) := by decide +kernel
theorem dX3_needCovered_27 : decode cX3_needCovered 27 = .ok (.istore_n 2, 1) := by decide +kernel
theorem dX3_needCovered_28 : decode cX3_needCovered 28 = .ok (.iinc 3 1, 3) := by decide +kernel
theorem dX3_needCovered_31 : decode cX3_needCovered 31 = .ok (.goto (-27), 3) := by decide +kernel
theorem dX3_needCovered_34 : decode cX3_needCovered 34 = .ok (.iload_n 2, 1) := by decide +kernel
theorem dX3_needCovered_35 : decode cX3_needCovered 35 = .ok (.ireturn, 1) := by decide +kernel
theorem dX3_sumOfGains_0 : decode cX3_sumOfGains 0 = .ok (.iconst 0, 1) := by decide +kernel
theorem dX3_sumOfGains_1 : decode cX3_sumOfGains 1 = .ok (.istore_n 1, 1) := by decide +kernel
theorem dX3_sumOfGains_2 : decode cX3_sumOfGains 2 = .ok (.iconst 0, 1) := by decide +kernel
theorem dX3_sumOfGains_3 : decode cX3_sumOfGains 3 = .ok (.istore_n 2, 1) := by decide +kernel
theorem dX3_sumOfGains_4 : decode cX3_sumOfGains 4 = .ok (.iload_n 2, 1) := by decide +kernel
theorem dX3_sumOfGains_5 : decode cX3_sumOfGains 5 = .ok (.aload_n 0, 1) := by decide +kernel
theorem dX3_sumOfGains_6 : decode cX3_sumOfGains 6 = .ok (.getfield 25, 3) := by decide +kernel
theorem dX3_sumOfGains_9 : decode cX3_sumOfGains 9 = .ok (.if_icmp .ge 18, 3) := by decide +kernel
theorem dX3_sumOfGains_12 : decode cX3_sumOfGains 12 = .ok (.iload_n 1, 1) := by decide +kernel
theorem dX3_sumOfGains_13 : decode cX3_sumOfGains 13 = .ok (.aload_n 0, 1) := by decide +kernel
theorem dX3_sumOfGains_14 : decode cX3_sumOfGains 14 = .ok (.getfield 15, 3) := by decide +kernel
theorem dX3_sumOfGains_17 : decode cX3_sumOfGains 17 = .ok (.iload_n 2, 1) := by decide +kernel
theorem dX3_sumOfGains_18 : decode cX3_sumOfGains 18 = .ok (.iaload, 1) := by decide +kernel
theorem dX3_sumOfGains_19 : decode cX3_sumOfGains 19 = .ok (.iadd, 1) := by decide +kernel
theorem dX3_sumOfGains_20 : decode cX3_sumOfGains 20 = .ok (.istore_n 1, 1) := by decide +kernel
theorem dX3_sumOfGains_21 : decode cX3_sumOfGains 21 = .ok (.iinc 2 1, 3) := by decide +kernel
theorem dX3_sumOfGains_24 : decode cX3_sumOfGains 24 = .ok (.goto (-20), 3) := by decide +kernel
theorem dX3_sumOfGains_27 : decode cX3_sumOfGains 27 = .ok (.iload_n 1, 1) := by decide +kernel
theorem dX3_sumOfGains_28 : decode cX3_sumOfGains 28 = .ok (.ireturn, 1) := by decide +kernel
set_option maxRecDepth 20000 in
theorem ggX4_init_X1_init : GoodIn wsX4_init wsX1_init := goodIn_r _ [19, 20, 2, 3, 21, 22, 23, 41, 42] (by decide +kernel) (by decide +kernel)
set_option maxRecDepth 20000 in
theorem gX4_init_X1_init : GoodIn wsX4_init (wsX1_init) := ggX4_init_X1_init
set_option maxRecDepth 20000 in
theorem ggX4_init_X7_init : GoodIn wsX4_init wsX7_init := goodIn_r _ [26, 27, 2, 3, 28, 29, 30, 31, 32, 33, 34, 35, 36, 21, 37, 38, 39, 40, 50, 51, 52, 53, 54, 55] (by decide +kernel) (by decide +kernel)
set_option maxRecDepth 20000 in
theorem gX4_init_X7_init : GoodIn wsX4_init (wsX7_init) := ggX4_init_X7_init
theorem dX4_init_0 : decode cX4_init 0 = .ok (.aload_n 0, 1) := by decide +kernel
theorem dX4_init_1 : decode cX4_init 1 = .ok (.invokespecial 3, 3) := by decide +kernel
theorem dX4_init_4 : decode cX4_init 4 = .ok (.aload_n 0, 1) := by decide +kernel
theorem dX4_init_5 : decode cX4_init 5 = .ok (.new 9, 3) := by decide +kernel
theorem dX4_init_8 : decode cX4_init 8 = .ok (.dup, 1) := by decide +kernel
theorem dX4_init_9 : decode cX4_init 9 = .ok (.invokespecial 11, 3) := by decide +kernel
theorem dX4_init_12 : decode cX4_init 12 = .ok (.putfield 12, 3) := by decide +kernel
theorem dX4_init_15 : decode cX4_init 15 = .ok (.aload_n 0, 1) := by decide +kernel
theorem dX4_init_16 : decode cX4_init 16 = .ok (.new 18, 3) := by decide +kernel
theorem dX4_init_19 : decode cX4_init 19 = .ok (.dup, 1) := by decide +kernel
theorem dX4_init_20 : decode cX4_init 20 = .ok (.invokespecial 20, 3) := by decide +kernel
theorem dX4_init_23 : decode cX4_init 23 = .ok (.putfield 21, 3) := by decide +kernel
theorem dX4_init_26 : decode cX4_init 26 = .ok (.aload_n 0, 1) := by decide +kernel
theorem dX4_init_27 : decode cX4_init 27 = .ok (.iconst 0, 1) := by decide +kernel
theorem dX4_init_28 : decode cX4_init 28 = .ok (.putfield 25, 3) := by decide +kernel
theorem dX4_init_31 : decode cX4_init 31 = .ok (.aload_n 0, 1) := by decide +kernel
theorem dX4_init_32 : decode cX4_init 32 = .ok (.iconst 5, 1) := by decide +kernel
theorem dX4_init_33 : decode cX4_init 33 = .ok (.putfield 29, 3) := by decide +kernel
theorem dX4_init_36 : decode cX4_init 36 = .ok (.aload_n 0, 1) := by decide +kernel
theorem dX4_init_37 : decode cX4_init 37 = .ok (.iconst 0, 1) := by decide +kernel
theorem dX4_init_38 : decode cX4_init 38 = .ok (.putfield 32, 3) := by decide +kernel
theorem dX4_init_41 : decode cX4_init 41 = .ok (.aload_n 0, 1) := by decide +kernel
theorem dX4_init_42 : decode cX4_init 42 = .ok (.iconst 0, 1) := by decide +kernel
theorem dX4_init_43 : decode cX4_init 43 = .ok (.putfield 35, 3) := by decide +kernel
theorem dX4_init_46 : decode cX4_init 46 = .ok (.aload_n 0, 1) := by decide +kernel
theorem dX4_init_47 : decode cX4_init 47 = .ok (.iconst 0, 1) := by decide +kernel
theorem dX4_init_48 : decode cX4_init 48 = .ok (.putfield 38, 3) := by decide +kernel
theorem dX4_init_51 : decode cX4_init 51 = .ok (.return_, 1) := by decide +kernel
set_option maxRecDepth 20000 in
theorem ggX4_practise_X7_at : GoodIn wsX4_practise wsX7_at := goodIn_r _ [9, 10, 11, 39, 40] (by decide +kernel) (by decide +kernel)
set_option maxRecDepth 20000 in
theorem gX4_practise_X7_at : GoodIn wsX4_practise (wsV RX4 49 RX7 yX7_at wsX7_at) := goodIn_app (goodIn_of _ (by decide +kernel)) ggX4_practise_X7_at
set_option maxRecDepth 20000 in
theorem ggX4_practise_X1_addTriesOf : GoodIn wsX4_practise wsX1_addTriesOf := goodIn_r _ [16, 17, 18, 19, 15, 20, 21, 22, 23, 24, 25, 26, 41, 42, 43, 44, 45, 46] (by decide +kernel) (by decide +kernel)
set_option maxRecDepth 20000 in
theorem gX4_practise_X1_addTriesOf : GoodIn wsX4_practise (wsV RX4 53 RX1 yX1_addTriesOf wsX1_addTriesOf) := goodIn_app (goodIn_of _ (by decide +kernel)) ggX4_practise_X1_addTriesOf
theorem dX4_practise_0 : decode cX4_practise 0 = .ok (.iconst 0, 1) := by decide +kernel
theorem dX4_practise_1 : decode cX4_practise 1 = .ok (.istore_n 2, 1) := by decide +kernel
theorem dX4_practise_2 : decode cX4_practise 2 = .ok (.iload_n 2, 1) := by decide +kernel
theorem dX4_practise_3 : decode cX4_practise 3 = .ok (.aload_n 1, 1) := by decide +kernel
theorem dX4_practise_4 : decode cX4_practise 4 = .ok (.getfield 41, 3) := by decide +kernel
theorem dX4_practise_7 : decode cX4_practise 7 = .ok (.if_icmp .ge 45, 3) := by decide +kernel
theorem dX4_practise_10 : decode cX4_practise 10 = .ok (.aload_n 0, 1) := by decide +kernel
theorem dX4_practise_11 : decode cX4_practise 11 = .ok (.getfield 21, 3) := by decide +kernel
theorem dX4_practise_14 : decode cX4_practise 14 = .ok (.aload_n 1, 1) := by decide +kernel
theorem dX4_practise_15 : decode cX4_practise 15 = .ok (.getfield 46, 3) := by decide +kernel
theorem dX4_practise_18 : decode cX4_practise 18 = .ok (.iload_n 2, 1) := by decide +kernel
theorem dX4_practise_19 : decode cX4_practise 19 = .ok (.iaload, 1) := by decide +kernel
theorem dX4_practise_20 : decode cX4_practise 20 = .ok (.invokevirtual 49, 3) := by decide +kernel
theorem dX4_practise_23 : decode cX4_practise 23 = .ok (.astore_n 3, 1) := by decide +kernel
theorem dX4_practise_24 : decode cX4_practise 24 = .ok (.aload_n 3, 1) := by decide +kernel
theorem dX4_practise_25 : decode cX4_practise 25 = .ok (.ifnull 21, 3) := by decide +kernel
theorem dX4_practise_28 : decode cX4_practise 28 = .ok (.aload_n 0, 1) := by decide +kernel
theorem dX4_practise_29 : decode cX4_practise 29 = .ok (.getfield 12, 3) := by decide +kernel
theorem dX4_practise_32 : decode cX4_practise 32 = .ok (.aload_n 3, 1) := by decide +kernel
theorem dX4_practise_33 : decode cX4_practise 33 = .ok (.invokevirtual 53, 3) := by decide +kernel
theorem dX4_practise_36 : decode cX4_practise 36 = .ok (.aload_n 0, 1) := by decide +kernel
theorem dX4_practise_37 : decode cX4_practise 37 = .ok (.dup, 1) := by decide +kernel
theorem dX4_practise_38 : decode cX4_practise 38 = .ok (.getfield 32, 3) := by decide +kernel
theorem dX4_practise_41 : decode cX4_practise 41 = .ok (.iconst 1, 1) := by decide +kernel
theorem dX4_practise_42 : decode cX4_practise 42 = .ok (.iadd, 1) := by decide +kernel
theorem dX4_practise_43 : decode cX4_practise 43 = .ok (.putfield 32, 3) := by decide +kernel
theorem dX4_practise_46 : decode cX4_practise 46 = .ok (.iinc 2 1, 3) := by decide +kernel
theorem dX4_practise_49 : decode cX4_practise 49 = .ok (.goto (-47), 3) := by decide +kernel
theorem dX4_practise_52 : decode cX4_practise 52 = .ok (.aload_n 0, 1) := by decide +kernel
theorem dX4_practise_53 : decode cX4_practise 53 = .ok (.dup, 1) := by decide +kernel
theorem dX4_practise_54 : decode cX4_practise 54 = .ok (.getfield 38, 3) := by decide +kernel
theorem dX4_practise_57 : decode cX4_practise 57 = .ok (.iconst 1, 1) := by decide +kernel
theorem dX4_practise_58 : decode cX4_practise 58 = .ok (.iadd, 1) := by decide +kernel
theorem dX4_practise_59 : decode cX4_practise 59 = .ok (.putfield 38, 3) := by decide +kernel
theorem dX4_practise_62 : decode cX4_practise 62 = .ok (.return_, 1) := by decide +kernel
set_option maxRecDepth 20000 in
theorem ggX4_greatestNeedOfWords_X1_greatestNeedOf : GoodIn wsX4_greatestNeedOfWords wsX1_greatestNeedOf := goodIn_r _ [11, 12, 4, 5, 6, 13, 14, 15, 10, 16, 17, 18, 19, 20, 21, 22, 23, 24, 25, 26, 27, 28, 29, 39, 40, 41, 42, 43, 44] (by decide +kernel) (by decide +kernel)
set_option maxRecDepth 20000 in
theorem gX4_greatestNeedOfWords_X1_greatestNeedOf : GoodIn wsX4_greatestNeedOfWords (wsV RX4 61 RX1 yX1_greatestNeedOf wsX1_greatestNeedOf) := goodIn_app (goodIn_of _ (by decide +kernel)) ggX4_greatestNeedOfWords_X1_greatestNeedOf
theorem dX4_greatestNeedOfWords_0 : decode cX4_greatestNeedOfWords 0 = .ok (.iconst 0, 1) := by decide +kernel
theorem dX4_greatestNeedOfWords_1 : decode cX4_greatestNeedOfWords 1 = .ok (.istore_n 1, 1) := by decide +kernel
theorem dX4_greatestNeedOfWords_2 : decode cX4_greatestNeedOfWords 2 = .ok (.iconst 0, 1) := by decide +kernel
theorem dX4_greatestNeedOfWords_3 : decode cX4_greatestNeedOfWords 3 = .ok (.istore_n 2, 1) := by decide +kernel
theorem dX4_greatestNeedOfWords_4 : decode cX4_greatestNeedOfWords 4 = .ok (.iload_n 2, 1) := by decide +kernel
theorem dX4_greatestNeedOfWords_5 : decode cX4_greatestNeedOfWords 5 = .ok (.aload_n 0, 1) := by decide +kernel
theorem dX4_greatestNeedOfWords_6 : decode cX4_greatestNeedOfWords 6 = .ok (.getfield 21, 3) := by decide +kernel
theorem dX4_greatestNeedOfWords_9 : decode cX4_greatestNeedOfWords 9 = .ok (.getfield 57, 3) := by decide +kernel
theorem dX4_greatestNeedOfWords_12 : decode cX4_greatestNeedOfWords 12 = .ok (.if_icmp .ge 30, 3) := by decide +kernel
theorem dX4_greatestNeedOfWords_15 : decode cX4_greatestNeedOfWords 15 = .ok (.iload_n 1, 1) := by decide +kernel
theorem dX4_greatestNeedOfWords_16 : decode cX4_greatestNeedOfWords 16 = .ok (.aload_n 0, 1) := by decide +kernel
theorem dX4_greatestNeedOfWords_17 : decode cX4_greatestNeedOfWords 17 = .ok (.getfield 12, 3) := by decide +kernel
theorem dX4_greatestNeedOfWords_20 : decode cX4_greatestNeedOfWords 20 = .ok (.aload_n 0, 1) := by decide +kernel
theorem dX4_greatestNeedOfWords_21 : decode cX4_greatestNeedOfWords 21 = .ok (.getfield 21, 3) := by decide +kernel
theorem dX4_greatestNeedOfWords_24 : decode cX4_greatestNeedOfWords 24 = .ok (.getfield 58, 3) := by decide +kernel
theorem dX4_greatestNeedOfWords_27 : decode cX4_greatestNeedOfWords 27 = .ok (.iload_n 2, 1) := by decide +kernel
theorem dX4_greatestNeedOfWords_28 : decode cX4_greatestNeedOfWords 28 = .ok (.aaload, 1) := by decide +kernel
theorem dX4_greatestNeedOfWords_29 : decode cX4_greatestNeedOfWords 29 = .ok (.invokevirtual 61, 3) := by decide +kernel
theorem dX4_greatestNeedOfWords_32 : decode cX4_greatestNeedOfWords 32 = .ok (.invokestatic 65, 3) := by decide +kernel
theorem dX4_greatestNeedOfWords_35 : decode cX4_greatestNeedOfWords 35 = .ok (.istore_n 1, 1) := by decide +kernel
theorem dX4_greatestNeedOfWords_36 : decode cX4_greatestNeedOfWords 36 = .ok (.iinc 2 1, 3) := by decide +kernel
theorem dX4_greatestNeedOfWords_39 : decode cX4_greatestNeedOfWords 39 = .ok (.goto (-35), 3) := by decide +kernel
theorem dX4_greatestNeedOfWords_42 : decode cX4_greatestNeedOfWords 42 = .ok (.iload_n 1, 1) := by decide +kernel
theorem dX4_greatestNeedOfWords_43 : decode cX4_greatestNeedOfWords 43 = .ok (.ireturn, 1) := by decide +kernel
set_option maxRecDepth 20000 in
theorem ggX4_copyFrom_X1_copyFrom : GoodIn wsX4_copyFrom wsX1_copyFrom := goodIn_r _ [12, 13, 14, 15, 16, 17, 18, 43, 44] (by decide +kernel) (by decide +kernel)
set_option maxRecDepth 20000 in
theorem gX4_copyFrom_X1_copyFrom : GoodIn wsX4_copyFrom (wsV RX4 71 RX1 yX1_copyFrom wsX1_copyFrom) := goodIn_app (goodIn_of _ (by decide +kernel)) ggX4_copyFrom_X1_copyFrom
set_option maxRecDepth 20000 in
theorem ggX4_copyFrom_X7_copyFrom : GoodIn wsX4_copyFrom wsX7_copyFrom := goodIn_r _ [23, 24, 25, 26, 27, 28, 29, 30, 31, 32, 15, 16, 17, 33, 34, 35, 45, 46, 47, 48, 49, 50] (by decide +kernel) (by decide +kernel)
set_option maxRecDepth 20000 in
theorem gX4_copyFrom_X7_copyFrom : GoodIn wsX4_copyFrom (wsV RX4 75 RX7 yX7_copyFrom wsX7_copyFrom) := goodIn_app (goodIn_of _ (by decide +kernel)) ggX4_copyFrom_X7_copyFrom
theorem dX4_copyFrom_0 : decode cX4_copyFrom 0 = .ok (.aload_n 0, 1) := by decide +kernel
theorem dX4_copyFrom_1 : decode cX4_copyFrom 1 = .ok (.getfield 12, 3) := by decide +kernel
theorem dX4_copyFrom_4 : decode cX4_copyFrom 4 = .ok (.aload_n 1, 1) := by decide +kernel
theorem dX4_copyFrom_5 : decode cX4_copyFrom 5 = .ok (.getfield 12, 3) := by decide +kernel
theorem dX4_copyFrom_8 : decode cX4_copyFrom 8 = .ok (.invokevirtual 71, 3) := by decide +kernel
theorem dX4_copyFrom_11 : decode cX4_copyFrom 11 = .ok (.aload_n 0, 1) := by decide +kernel
theorem dX4_copyFrom_12 : decode cX4_copyFrom 12 = .ok (.getfield 21, 3) := by decide +kernel
theorem dX4_copyFrom_15 : decode cX4_copyFrom 15 = .ok (.aload_n 1, 1) := by decide +kernel
theorem dX4_copyFrom_16 : decode cX4_copyFrom 16 = .ok (.getfield 21, 3) := by decide +kernel
theorem dX4_copyFrom_19 : decode cX4_copyFrom 19 = .ok (.invokevirtual 75, 3) := by decide +kernel
theorem dX4_copyFrom_22 : decode cX4_copyFrom 22 = .ok (.aload_n 0, 1) := by decide +kernel
theorem dX4_copyFrom_23 : decode cX4_copyFrom 23 = .ok (.aload_n 1, 1) := by decide +kernel
theorem dX4_copyFrom_24 : decode cX4_copyFrom 24 = .ok (.getfield 25, 3) := by decide +kernel
theorem dX4_copyFrom_27 : decode cX4_copyFrom 27 = .ok (.putfield 25, 3) := by decide +kernel
theorem dX4_copyFrom_30 : decode cX4_copyFrom 30 = .ok (.aload_n 0, 1) := by decide +kernel
theorem dX4_copyFrom_31 : decode cX4_copyFrom 31 = .ok (.aload_n 1, 1) := by decide +kernel
theorem dX4_copyFrom_32 : decode cX4_copyFrom 32 = .ok (.getfield 29, 3) := by decide +kernel
theorem dX4_copyFrom_35 : decode cX4_copyFrom 35 = .ok (.putfield 29, 3) := by decide +kernel
theorem dX4_copyFrom_38 : decode cX4_copyFrom 38 = .ok (.aload_n 0, 1) := by decide +kernel
theorem dX4_copyFrom_39 : decode cX4_copyFrom 39 = .ok (.aload_n 1, 1) := by decide +kernel
theorem dX4_copyFrom_40 : decode cX4_copyFrom 40 = .ok (.getfield 32, 3) := by decide +kernel
theorem dX4_copyFrom_43 : decode cX4_copyFrom 43 = .ok (.putfield 32, 3) := by decide +kernel
theorem dX4_copyFrom_46 : decode cX4_copyFrom 46 = .ok (.aload_n 0, 1) := by decide +kernel
theorem dX4_copyFrom_47 : decode cX4_copyFrom 47 = .ok (.aload_n 1, 1) := by decide +kernel
theorem dX4_copyFrom_48 : decode cX4_copyFrom 48 = .ok (.getfield 35, 3) := by decide +kernel
theorem dX4_copyFrom_51 : decode cX4_copyFrom 51 = .ok (.putfield 35, 3) := by decide +kernel
theorem dX4_copyFrom_54 : decode cX4_copyFrom 54 = .ok (.aload_n 0, 1) := by decide +kernel
theorem dX4_copyFrom_55 : decode cX4_copyFrom 55 = .ok (.aload_n 1, 1) := by decide +kernel
theorem dX4_copyFrom_56 : decode cX4_copyFrom 56 = .ok (.getfield 38, 3) := by decide +kernel
theorem dX4_copyFrom_59 : decode cX4_copyFrom 59 = .ok (.putfield 38, 3) := by decide +kernel
theorem dX4_copyFrom_62 : decode cX4_copyFrom 62 = .ok (.return_, 1) := by decide +kernel
set_option maxRecDepth 20000 in
theorem ggX5_init_X6_init : GoodIn wsX5_init wsX6_init := goodIn_r _ [13, 14, 2, 3, 15, 16, 17, 18, 19, 23, 24, 25, 26] (by decide +kernel) (by decide +kernel)
set_option maxRecDepth 20000 in
theorem gX5_init_X6_init : GoodIn wsX5_init (wsX6_init) := ggX5_init_X6_init
theorem dX5_init_0 : decode cX5_init 0 = .ok (.aload_n 0, 1) := by decide +kernel
theorem dX5_init_1 : decode cX5_init 1 = .ok (.invokespecial 3, 3) := by decide +kernel
theorem dX5_init_4 : decode cX5_init 4 = .ok (.aload_n 0, 1) := by decide +kernel
theorem dX5_init_5 : decode cX5_init 5 = .ok (.bipush 60, 2) := by decide +kernel
theorem dX5_init_7 : decode cX5_init 7 = .ok (.newarray .char, 2) := by decide +kernel
theorem dX5_init_9 : decode cX5_init 9 = .ok (.putfield 9, 3) := by decide +kernel
theorem dX5_init_12 : decode cX5_init 12 = .ok (.aload_n 0, 1) := by decide +kernel
theorem dX5_init_13 : decode cX5_init 13 = .ok (.new 15, 3) := by decide +kernel
theorem dX5_init_16 : decode cX5_init 16 = .ok (.dup, 1) := by decide +kernel
theorem dX5_init_17 : decode cX5_init 17 = .ok (.invokespecial 17, 3) := by decide +kernel
theorem dX5_init_20 : decode cX5_init 20 = .ok (.putfield 18, 3) := by decide +kernel
theorem dX5_init_23 : decode cX5_init 23 = .ok (.aload_n 0, 1) := by decide +kernel
theorem dX5_init_24 : decode cX5_init 24 = .ok (.iconst 0, 1) := by decide +kernel
theorem dX5_init_25 : decode cX5_init 25 = .ok (.putfield 22, 3) := by decide +kernel
theorem dX5_init_28 : decode cX5_init 28 = .ok (.return_, 1) := by decide +kernel
theorem dX5_append_0 : decode cX5_append 0 = .ok (.aload_n 0, 1) := by decide +kernel
theorem dX5_append_1 : decode cX5_append 1 = .ok (.getfield 22, 3) := by decide +kernel
theorem dX5_append_4 : decode cX5_append 4 = .ok (.bipush 60, 2) := by decide +kernel
theorem dX5_append_6 : decode cX5_append 6 = .ok (.if_icmp .lt 5, 3) := by decide +kernel
theorem dX5_append_9 : decode cX5_append 9 = .ok (.iconst 0, 1) := by decide +kernel
theorem dX5_append_10 : decode cX5_append 10 = .ok (.ireturn, 1) := by decide +kernel
theorem dX5_append_11 : decode cX5_append 11 = .ok (.aload_n 0, 1) := by decide +kernel
theorem dX5_append_12 : decode cX5_append 12 = .ok (.getfield 9, 3) := by decide +kernel
theorem dX5_append_15 : decode cX5_append 15 = .ok (.aload_n 0, 1) := by decide +kernel
theorem dX5_append_16 : decode cX5_append 16 = .ok (.getfield 22, 3) := by decide +kernel
theorem dX5_append_19 : decode cX5_append 19 = .ok (.iload_n 1, 1) := by decide +kernel
theorem dX5_append_20 : decode cX5_append 20 = .ok (.castore, 1) := by decide +kernel
theorem dX5_append_21 : decode cX5_append 21 = .ok (.aload_n 0, 1) := by decide +kernel
theorem dX5_append_22 : decode cX5_append 22 = .ok (.dup, 1) := by decide +kernel
theorem dX5_append_23 : decode cX5_append 23 = .ok (.getfield 22, 3) := by decide +kernel
theorem dX5_append_26 : decode cX5_append 26 = .ok (.iconst 1, 1) := by decide +kernel
theorem dX5_append_27 : decode cX5_append 27 = .ok (.iadd, 1) := by decide +kernel
theorem dX5_append_28 : decode cX5_append 28 = .ok (.putfield 22, 3) := by decide +kernel
theorem dX5_append_31 : decode cX5_append 31 = .ok (.iconst 1, 1) := by decide +kernel
theorem dX5_append_32 : decode cX5_append 32 = .ok (.ireturn, 1) := by decide +kernel
set_option maxRecDepth 20000 in
theorem ggX5_faultAsWritten_X5_mayBeWritten : GoodIn wsX5_faultAsWritten wsX5_mayBeWritten := goodIn_r _ [6, 7, 8, 9] (by decide +kernel) (by decide +kernel)
set_option maxRecDepth 20000 in
theorem gX5_faultAsWritten_X5_mayBeWritten : GoodIn wsX5_faultAsWritten (va_wsS RX5 26 yX5_mayBeWritten wsX5_mayBeWritten) := goodIn_app (goodIn_of _ (by decide +kernel)) ggX5_faultAsWritten_X5_mayBeWritten
set_option maxRecDepth 20000 in
theorem ggX5_faultAsWritten_X8_isLetter : GoodIn wsX5_faultAsWritten wsX8_isLetter := goodIn_r _ [9] (by decide +kernel) (by decide +kernel)
set_option maxRecDepth 20000 in
theorem gX5_faultAsWritten_X8_isLetter_n30 : GoodIn wsX5_faultAsWritten (wsX8_isLetter) := ggX5_faultAsWritten_X8_isLetter
theorem dX5_faultAsWritten_0 : decode cX5_faultAsWritten 0 = .ok (.bipush 45, 2) := by decide +kernel
theorem dX5_faultAsWritten_2 : decode cX5_faultAsWritten 2 = .ok (.istore_n 1, 1) := by decide +kernel
theorem dX5_faultAsWritten_3 : decode cX5_faultAsWritten 3 = .ok (.iconst 0, 1) := by decide +kernel
theorem dX5_faultAsWritten_4 : decode cX5_faultAsWritten 4 = .ok (.istore_n 2, 1) := by decide +kernel
theorem dX5_faultAsWritten_5 : decode cX5_faultAsWritten 5 = .ok (.iconst 0, 1) := by decide +kernel
theorem dX5_faultAsWritten_6 : decode cX5_faultAsWritten 6 = .ok (.istore_n 3, 1) := by decide +kernel
theorem dX5_faultAsWritten_7 : decode cX5_faultAsWritten 7 = .ok (.iload_n 3, 1) := by decide +kernel
theorem dX5_faultAsWritten_8 : decode cX5_faultAsWritten 8 = .ok (.aload_n 0, 1) := by decide +kernel
theorem dX5_faultAsWritten_9 : decode cX5_faultAsWritten 9 = .ok (.getfield 22, 3) := by decide +kernel
theorem dX5_faultAsWritten_12 : decode cX5_faultAsWritten 12 = .ok (.if_icmp .ge 43, 3) := by decide +kernel
theorem dX5_faultAsWritten_15 : decode cX5_faultAsWritten 15 = .ok (.aload_n 0, 1) := by decide +kernel
theorem dX5_faultAsWritten_16 : decode cX5_faultAsWritten 16 = .ok (.getfield 9, 3) := by decide +kernel
theorem dX5_faultAsWritten_19 : decode cX5_faultAsWritten 19 = .ok (.iload_n 3, 1) := by decide +kernel
theorem dX5_faultAsWritten_20 : decode cX5_faultAsWritten 20 = .ok (.caload, 1) := by decide +kernel
theorem dX5_faultAsWritten_21 : decode cX5_faultAsWritten 21 = .ok (.istore 4, 2) := by decide +kernel
theorem dX5_faultAsWritten_23 : decode cX5_faultAsWritten 23 = .ok (.iload 4, 2) := by decide +kernel
theorem dX5_faultAsWritten_25 : decode cX5_faultAsWritten 25 = .ok (.iload_n 1, 1) := by decide +kernel
theorem dX5_faultAsWritten_26 : decode cX5_faultAsWritten 26 = .ok (.iload_n 2, 1) := by decide +kernel
theorem dX5_faultAsWritten_27 : decode cX5_faultAsWritten 27 = .ok (.invokestatic 26, 3) := by decide +kernel
theorem dX5_faultAsWritten_30 : decode cX5_faultAsWritten 30 = .ok (.ifCond .ne 5, 3) := by decide +kernel
theorem dX5_faultAsWritten_33 : decode cX5_faultAsWritten 33 = .ok (.iload_n 3, 1) := by decide +kernel
theorem dX5_faultAsWritten_34 : decode cX5_faultAsWritten 34 = .ok (.ireturn, 1) := by decide +kernel
theorem dX5_faultAsWritten_35 : decode cX5_faultAsWritten 35 = .ok (.iload 4, 2) := by decide +kernel
theorem dX5_faultAsWritten_37 : decode cX5_faultAsWritten 37 = .ok (.invokestatic 30, 3) := by decide +kernel
theorem dX5_faultAsWritten_40 : decode cX5_faultAsWritten 40 = .ok (.ifCond .eq 6, 3) := by decide +kernel
theorem dX5_faultAsWritten_43 : decode cX5_faultAsWritten 43 = .ok (.iinc 2 1, 3) := by decide +kernel
theorem dX5_faultAsWritten_46 : decode cX5_faultAsWritten 46 = .ok (.iload 4, 2) := by decide +kernel
theorem dX5_faultAsWritten_48 : decode cX5_faultAsWritten 48 = .ok (.istore_n 1, 1) := by decide +kernel
theorem dX5_faultAsWritten_49 : decode cX5_faultAsWritten 49 = .ok (.iinc 3 1, 3) := by decide +kernel
theorem dX5_faultAsWritten_52 : decode cX5_faultAsWritten 52 = .ok (.goto (-45), 3) := by decide +kernel
theorem dX5_faultAsWritten_55 : decode cX5_faultAsWritten 55 = .ok (.iload_n 1, 1) := by decide +kernel
theorem dX5_faultAsWritten_56 : decode cX5_faultAsWritten 56 = .ok (.bipush 45, 2) := by decide +kernel
theorem dX5_faultAsWritten_58 : decode cX5_faultAsWritten 58 = .ok (.if_icmp .ne 10, 3) := by decide +kernel
theorem dX5_faultAsWritten_61 : decode cX5_faultAsWritten 61 = .ok (.aload_n 0, 1) := by decide +kernel
theorem dX5_faultAsWritten_62 : decode cX5_faultAsWritten 62 = .ok (.getfield 22, 3) := by decide +kernel
theorem dX5_faultAsWritten_65 : decode cX5_faultAsWritten 65 = .ok (.goto 4, 3) := by decide +kernel
theorem dX5_faultAsWritten_68 : decode cX5_faultAsWritten 68 = .ok (.iconst (-1), 1) := by decide +kernel
theorem dX5_faultAsWritten_69 : decode cX5_faultAsWritten 69 = .ok (.ireturn, 1) := by decide +kernel
set_option maxRecDepth 20000 in
theorem ggX5_mayBeWritten_X8_isLetter : GoodIn wsX5_mayBeWritten wsX8_isLetter := goodIn_r _ [3] (by decide +kernel) (by decide +kernel)
set_option maxRecDepth 20000 in
theorem gX5_mayBeWritten_X8_isLetter_n30 : GoodIn wsX5_mayBeWritten (wsX8_isLetter) := ggX5_mayBeWritten_X8_isLetter
theorem dX5_mayBeWritten_0 : decode cX5_mayBeWritten 0 = .ok (.iload_n 0, 1) := by decide +kernel
theorem dX5_mayBeWritten_1 : decode cX5_mayBeWritten 1 = .ok (.bipush 33, 2) := by decide +kernel
theorem dX5_mayBeWritten_3 : decode cX5_mayBeWritten 3 = .ok (.if_icmp .ne 8, 3) := by decide +kernel
theorem dX5_mayBeWritten_6 : decode cX5_mayBeWritten 6 = .ok (.iload_n 1, 1) := by decide +kernel
theorem dX5_mayBeWritten_7 : decode cX5_mayBeWritten 7 = .ok (.invokestatic 30, 3) := by decide +kernel
theorem dX5_mayBeWritten_10 : decode cX5_mayBeWritten 10 = .ok (.ireturn, 1) := by decide +kernel
theorem dX5_mayBeWritten_11 : decode cX5_mayBeWritten 11 = .ok (.iload_n 0, 1) := by decide +kernel
theorem dX5_mayBeWritten_12 : decode cX5_mayBeWritten 12 = .ok (.bipush 45, 2) := by decide +kernel
theorem dX5_mayBeWritten_14 : decode cX5_mayBeWritten 14 = .ok (.if_icmp .ne 21, 3) := by decide +kernel
theorem dX5_mayBeWritten_17 : decode cX5_mayBeWritten 17 = .ok (.iload_n 1, 1) := by decide +kernel
theorem dX5_mayBeWritten_18 : decode cX5_mayBeWritten 18 = .ok (.bipush 45, 2) := by decide +kernel
theorem dX5_mayBeWritten_20 : decode cX5_mayBeWritten 20 = .ok (.if_icmp .eq 13, 3) := by decide +kernel
theorem dX5_mayBeWritten_23 : decode cX5_mayBeWritten 23 = .ok (.iload_n 2, 1) := by decide +kernel
theorem dX5_mayBeWritten_24 : decode cX5_mayBeWritten 24 = .ok (.bipush 15, 2) := by decide +kernel
theorem dX5_mayBeWritten_26 : decode cX5_mayBeWritten 26 = .ok (.if_icmp .ge 7, 3) := by decide +kernel
theorem dX5_mayBeWritten_29 : decode cX5_mayBeWritten 29 = .ok (.iconst 1, 1) := by decide +kernel
theorem dX5_mayBeWritten_30 : decode cX5_mayBeWritten 30 = .ok (.goto 4, 3) := by decide +kernel
theorem dX5_mayBeWritten_33 : decode cX5_mayBeWritten 33 = .ok (.iconst 0, 1) := by decide +kernel
theorem dX5_mayBeWritten_34 : decode cX5_mayBeWritten 34 = .ok (.ireturn, 1) := by decide +kernel
theorem dX5_mayBeWritten_35 : decode cX5_mayBeWritten 35 = .ok (.iload_n 0, 1) := by decide +kernel
theorem dX5_mayBeWritten_36 : decode cX5_mayBeWritten 36 = .ok (.invokestatic 30, 3) := by decide +kernel
theorem dX5_mayBeWritten_39 : decode cX5_mayBeWritten 39 = .ok (.ifCond .eq 13, 3) := by decide +kernel
theorem dX5_mayBeWritten_42 : decode cX5_mayBeWritten 42 = .ok (.iload_n 2, 1) := by decide +kernel
theorem dX5_mayBeWritten_43 : decode cX5_mayBeWritten 43 = .ok (.bipush 15, 2) := by decide +kernel
theorem dX5_mayBeWritten_45 : decode cX5_mayBeWritten 45 = .ok (.if_icmp .ge 7, 3) := by decide +kernel
theorem dX5_mayBeWritten_48 : decode cX5_mayBeWritten 48 = .ok (.iconst 1, 1) := by decide +kernel
theorem dX5_mayBeWritten_49 : decode cX5_mayBeWritten 49 = .ok (.goto 4, 3) := by decide +kernel
theorem dX5_mayBeWritten_52 : decode cX5_mayBeWritten 52 = .ok (.iconst 0, 1) := by decide +kernel
theorem dX5_mayBeWritten_53 : decode cX5_mayBeWritten 53 = .ok (.ireturn, 1) := by decide +kernel
set_option maxRecDepth 20000 in
theorem ggX5_faultAsWords_X8_isLetter : GoodIn wsX5_faultAsWords wsX8_isLetter := goodIn_r _ [5] (by decide +kernel) (by decide +kernel)
set_option maxRecDepth 20000 in
theorem gX5_faultAsWords_X8_isLetter_n30 : GoodIn wsX5_faultAsWords (wsX8_isLetter) := ggX5_faultAsWords_X8_isLetter
theorem dX5_faultAsWords_0 : decode cX5_faultAsWords 0 = .ok (.iconst 0, 1) := by decide +kernel
theorem dX5_faultAsWords_1 : decode cX5_faultAsWords 1 = .ok (.istore_n 1, 1) := by decide +kernel
theorem dX5_faultAsWords_2 : decode cX5_faultAsWords 2 = .ok (.iconst 0, 1) := by decide +kernel
theorem dX5_faultAsWords_3 : decode cX5_faultAsWords 3 = .ok (.istore_n 2, 1) := by decide +kernel
theorem dX5_faultAsWords_4 : decode cX5_faultAsWords 4 = .ok (.iload_n 2, 1) := by decide +kernel
theorem dX5_faultAsWords_5 : decode cX5_faultAsWords 5 = .ok (.aload_n 0, 1) := by decide +kernel
theorem dX5_faultAsWords_6 : decode cX5_faultAsWords 6 = .ok (.getfield 22, 3) := by decide +kernel
theorem dX5_faultAsWords_9 : decode cX5_faultAsWords 9 = .ok (.if_icmp .ge 55, 3) := by decide +kernel
theorem dX5_faultAsWords_12 : decode cX5_faultAsWords 12 = .ok (.aload_n 0, 1) := by decide +kernel
theorem dX5_faultAsWords_13 : decode cX5_faultAsWords 13 = .ok (.getfield 9, 3) := by decide +kernel
theorem dX5_faultAsWords_16 : decode cX5_faultAsWords 16 = .ok (.iload_n 2, 1) := by decide +kernel
theorem dX5_faultAsWords_17 : decode cX5_faultAsWords 17 = .ok (.caload, 1) := by decide +kernel
theorem dX5_faultAsWords_18 : decode cX5_faultAsWords 18 = .ok (.invokestatic 30, 3) := by decide +kernel
theorem dX5_faultAsWords_21 : decode cX5_faultAsWords 21 = .ok (.ifCond .eq 15, 3) := by decide +kernel
theorem dX5_faultAsWords_24 : decode cX5_faultAsWords 24 = .ok (.iload_n 1, 1) := by decide +kernel
theorem dX5_faultAsWords_25 : decode cX5_faultAsWords 25 = .ok (.bipush 15, 2) := by decide +kernel
theorem dX5_faultAsWords_27 : decode cX5_faultAsWords 27 = .ok (.if_icmp .ge 9, 3) := by decide +kernel
theorem dX5_faultAsWords_30 : decode cX5_faultAsWords 30 = .ok (.iinc 1 1, 3) := by decide +kernel
theorem dX5_faultAsWords_33 : decode cX5_faultAsWords 33 = .ok (.goto 25, 3) := by decide +kernel
theorem dX5_faultAsWords_36 : decode cX5_faultAsWords 36 = .ok (.aload_n 0, 1) := by decide +kernel
theorem dX5_faultAsWords_37 : decode cX5_faultAsWords 37 = .ok (.getfield 9, 3) := by decide +kernel
theorem dX5_faultAsWords_40 : decode cX5_faultAsWords 40 = .ok (.iload_n 2, 1) := by decide +kernel
theorem dX5_faultAsWords_41 : decode cX5_faultAsWords 41 = .ok (.caload, 1) := by decide +kernel
theorem dX5_faultAsWords_42 : decode cX5_faultAsWords 42 = .ok (.bipush 44, 2) := by decide +kernel
theorem dX5_faultAsWords_44 : decode cX5_faultAsWords 44 = .ok (.if_icmp .ne 12, 3) := by decide +kernel
theorem dX5_faultAsWords_47 : decode cX5_faultAsWords 47 = .ok (.iload_n 1, 1) := by decide +kernel
theorem dX5_faultAsWords_48 : decode cX5_faultAsWords 48 = .ok (.ifCond .le 8, 3) := by decide +kernel
theorem dX5_faultAsWords_51 : decode cX5_faultAsWords 51 = .ok (.iconst 0, 1) := by decide +kernel
theorem dX5_faultAsWords_52 : decode cX5_faultAsWords 52 = .ok (.istore_n 1, 1) := by decide +kernel
theorem dX5_faultAsWords_53 : decode cX5_faultAsWords 53 = .ok (.goto 5, 3) := by decide +kernel
theorem dX5_faultAsWords_56 : decode cX5_faultAsWords 56 = .ok (.iload_n 2, 1) := by decide +kernel
theorem dX5_faultAsWords_57 : decode cX5_faultAsWords 57 = .ok (.ireturn, 1) := by decide +kernel
theorem dX5_faultAsWords_58 : decode cX5_faultAsWords 58 = .ok (.iinc 2 1, 3) := by decide +kernel
theorem dX5_faultAsWords_61 : decode cX5_faultAsWords 61 = .ok (.goto (-57), 3) := by decide +kernel
theorem dX5_faultAsWords_64 : decode cX5_faultAsWords 64 = .ok (.iload_n 1, 1) := by decide +kernel
theorem dX5_faultAsWords_65 : decode cX5_faultAsWords 65 = .ok (.ifCond .ne 10, 3) := by decide +kernel
theorem dX5_faultAsWords_68 : decode cX5_faultAsWords 68 = .ok (.aload_n 0, 1) := by decide +kernel
theorem dX5_faultAsWords_69 : decode cX5_faultAsWords 69 = .ok (.getfield 22, 3) := by decide +kernel
theorem dX5_faultAsWords_72 : decode cX5_faultAsWords 72 = .ok (.goto 4, 3) := by decide +kernel
theorem dX5_faultAsWords_75 : decode cX5_faultAsWords 75 = .ok (.iconst (-1), 1) := by decide +kernel
theorem dX5_faultAsWords_76 : decode cX5_faultAsWords 76 = .ok (.ireturn, 1) := by decide +kernel
set_option maxRecDepth 20000 in
theorem ggX5_practiseIn_X1_addSlip : GoodIn wsX5_practiseIn wsX1_addSlip := goodIn_r _ [7, 8, 9, 10, 11, 28, 29] (by decide +kernel) (by decide +kernel)
set_option maxRecDepth 20000 in
theorem gX5_practiseIn_X1_addSlip : GoodIn wsX5_practiseIn (wsV RX5 34 RX1 yX1_addSlip wsX1_addSlip) := goodIn_app (goodIn_of _ (by decide +kernel)) ggX5_practiseIn_X1_addSlip
set_option maxRecDepth 20000 in
theorem ggX5_practiseIn_X8_letterNumber : GoodIn wsX5_practiseIn wsX8_letterNumber := goodIn_r _ [13] (by decide +kernel) (by decide +kernel)
set_option maxRecDepth 20000 in
theorem gX5_practiseIn_X8_letterNumber_n40 : GoodIn wsX5_practiseIn (wsX8_letterNumber) := ggX5_practiseIn_X8_letterNumber
set_option maxRecDepth 20000 in
theorem ggX5_practiseIn_X1_addTry : GoodIn wsX5_practiseIn wsX1_addTry := goodIn_r _ [17, 18, 9, 10, 11, 28, 29] (by decide +kernel) (by decide +kernel)
set_option maxRecDepth 20000 in
theorem gX5_practiseIn_X1_addTry : GoodIn wsX5_practiseIn (wsV RX5 44 RX1 yX1_addTry wsX1_addTry) := goodIn_app (goodIn_of _ (by decide +kernel)) ggX5_practiseIn_X1_addTry
set_option maxRecDepth 20000 in
theorem ggX5_practiseIn_X8_joinPart : GoodIn wsX5_practiseIn wsX8_joinPart := goodIn_r _ [20] (by decide +kernel) (by decide +kernel)
set_option maxRecDepth 20000 in
theorem gX5_practiseIn_X8_joinPart_n47 : GoodIn wsX5_practiseIn (wsX8_joinPart) := ggX5_practiseIn_X8_joinPart
set_option maxRecDepth 20000 in
theorem ggX5_practiseIn_X5_tryJoin : GoodIn wsX5_practiseIn wsX5_tryJoin := goodIn_r _ [24, 14, 15, 16, 6, 17, 18, 9, 10, 11, 3, 4, 5, 7, 8, 28, 29] (by decide +kernel) (by decide +kernel)
set_option maxRecDepth 20000 in
theorem gX5_practiseIn_X5_tryJoin : GoodIn wsX5_practiseIn (va_wsS RX5 51 yX5_tryJoin wsX5_tryJoin) := goodIn_app (goodIn_of _ (by decide +kernel)) ggX5_practiseIn_X5_tryJoin
theorem dX5_practiseIn_0 : decode cX5_practiseIn 0 = .ok (.iconst 0, 1) := by decide +kernel
theorem dX5_practiseIn_1 : decode cX5_practiseIn 1 = .ok (.istore_n 2, 1) := by decide +kernel
theorem dX5_practiseIn_2 : decode cX5_practiseIn 2 = .ok (.bipush (-5), 2) := by decide +kernel
theorem dX5_practiseIn_4 : decode cX5_practiseIn 4 = .ok (.istore_n 3, 1) := by decide +kernel
theorem dX5_practiseIn_5 : decode cX5_practiseIn 5 = .ok (.iconst 0, 1) := by decide +kernel
theorem dX5_practiseIn_6 : decode cX5_practiseIn 6 = .ok (.istore 4, 2) := by decide +kernel
theorem dX5_practiseIn_8 : decode cX5_practiseIn 8 = .ok (.iconst 0, 1) := by decide +kernel
theorem dX5_practiseIn_9 : decode cX5_practiseIn 9 = .ok (.istore 5, 2) := by decide +kernel
theorem dX5_practiseIn_11 : decode cX5_practiseIn 11 = .ok (.iload 5, 2) := by decide +kernel
theorem dX5_practiseIn_13 : decode cX5_practiseIn 13 = .ok (.aload_n 0, 1) := by decide +kernel
theorem dX5_practiseIn_14 : decode cX5_practiseIn 14 = .ok (.getfield 22, 3) := by decide +kernel
theorem dX5_practiseIn_17 : decode cX5_practiseIn 17 = .ok (.if_icmp .ge 89, 3) := by decide +kernel
theorem dX5_practiseIn_20 : decode cX5_practiseIn 20 = .ok (.aload_n 0, 1) := by decide +kernel
theorem dX5_practiseIn_21 : decode cX5_practiseIn 21 = .ok (.getfield 9, 3) := by decide +kernel
theorem dX5_practiseIn_24 : decode cX5_practiseIn 24 = .ok (.iload 5, 2) := by decide +kernel
theorem dX5_practiseIn_26 : decode cX5_practiseIn 26 = .ok (.caload, 1) := by decide +kernel
theorem dX5_practiseIn_27 : decode cX5_practiseIn 27 = .ok (.istore 6, 2) := by decide +kernel
theorem dX5_practiseIn_29 : decode cX5_practiseIn 29 = .ok (.iload 6, 2) := by decide +kernel
theorem dX5_practiseIn_31 : decode cX5_practiseIn 31 = .ok (.bipush 33, 2) := by decide +kernel
theorem dX5_practiseIn_33 : decode cX5_practiseIn 33 = .ok (.if_icmp .ne 14, 3) := by decide +kernel
theorem dX5_practiseIn_36 : decode cX5_practiseIn 36 = .ok (.aload_n 1, 1) := by decide +kernel
theorem dX5_practiseIn_37 : decode cX5_practiseIn 37 = .ok (.iload_n 3, 1) := by decide +kernel
theorem dX5_practiseIn_38 : decode cX5_practiseIn 38 = .ok (.invokevirtual 34, 3) := by decide +kernel
theorem dX5_practiseIn_41 : decode cX5_practiseIn 41 = .ok (.iinc 2 1, 3) := by decide +kernel
theorem dX5_practiseIn_44 : decode cX5_practiseIn 44 = .ok (.goto 56, 3) := by decide +kernel
theorem dX5_practiseIn_47 : decode cX5_practiseIn 47 = .ok (.iload 6, 2) := by decide +kernel
theorem dX5_practiseIn_49 : decode cX5_practiseIn 49 = .ok (.bipush 45, 2) := by decide +kernel
theorem dX5_practiseIn_51 : decode cX5_practiseIn 51 = .ok (.if_icmp .ne 12, 3) := by decide +kernel
theorem dX5_practiseIn_54 : decode cX5_practiseIn 54 = .ok (.iconst 1, 1) := by decide +kernel
theorem dX5_practiseIn_55 : decode cX5_practiseIn 55 = .ok (.istore 4, 2) := by decide +kernel
theorem dX5_practiseIn_57 : decode cX5_practiseIn 57 = .ok (.iinc 2 1, 3) := by decide +kernel
theorem dX5_practiseIn_60 : decode cX5_practiseIn 60 = .ok (.goto 40, 3) := by decide +kernel
theorem dX5_practiseIn_63 : decode cX5_practiseIn 63 = .ok (.iload 6, 2) := by decide +kernel
theorem dX5_practiseIn_65 : decode cX5_practiseIn 65 = .ok (.invokestatic 40, 3) := by decide +kernel
theorem dX5_practiseIn_68 : decode cX5_practiseIn 68 = .ok (.istore 7, 2) := by decide +kernel
theorem dX5_practiseIn_70 : decode cX5_practiseIn 70 = .ok (.aload_n 1, 1) := by decide +kernel
theorem dX5_practiseIn_71 : decode cX5_practiseIn 71 = .ok (.iload 7, 2) := by decide +kernel
theorem dX5_practiseIn_73 : decode cX5_practiseIn 73 = .ok (.invokevirtual 44, 3) := by decide +kernel
theorem dX5_practiseIn_76 : decode cX5_practiseIn 76 = .ok (.iload_n 3, 1) := by decide +kernel
theorem dX5_practiseIn_77 : decode cX5_practiseIn 77 = .ok (.bipush (-5), 2) := by decide +kernel
theorem dX5_practiseIn_79 : decode cX5_practiseIn 79 = .ok (.if_icmp .eq 15, 3) := by decide +kernel
theorem dX5_practiseIn_82 : decode cX5_practiseIn 82 = .ok (.aload_n 1, 1) := by decide +kernel
theorem dX5_practiseIn_83 : decode cX5_practiseIn 83 = .ok (.iload_n 3, 1) := by decide +kernel
theorem dX5_practiseIn_84 : decode cX5_practiseIn 84 = .ok (.iload 7, 2) := by decide +kernel
theorem dX5_practiseIn_86 : decode cX5_practiseIn 86 = .ok (.invokestatic 47, 3) := by decide +kernel
theorem dX5_practiseIn_89 : decode cX5_practiseIn 89 = .ok (.iload 4, 2) := by decide +kernel
theorem dX5_practiseIn_91 : decode cX5_practiseIn 91 = .ok (.invokestatic 51, 3) := by decide +kernel
theorem dX5_practiseIn_94 : decode cX5_practiseIn 94 = .ok (.iconst 0, 1) := by decide +kernel
theorem dX5_practiseIn_95 : decode cX5_practiseIn 95 = .ok (.istore 4, 2) := by decide +kernel
theorem dX5_practiseIn_97 : decode cX5_practiseIn 97 = .ok (.iload 7, 2) := by decide +kernel
theorem dX5_practiseIn_99 : decode cX5_practiseIn 99 = .ok (.istore_n 3, 1) := by decide +kernel
theorem dX5_practiseIn_100 : decode cX5_practiseIn 100 = .ok (.iinc 5 1, 3) := by decide +kernel
theorem dX5_practiseIn_103 : decode cX5_practiseIn 103 = .ok (.goto (-92), 3) := by decide +kernel
theorem dX5_practiseIn_106 : decode cX5_practiseIn 106 = .ok (.iload_n 2, 1) := by decide +kernel
theorem dX5_practiseIn_107 : decode cX5_practiseIn 107 = .ok (.ireturn, 1) := by decide +kernel
set_option maxRecDepth 20000 in
theorem ggX5_tryJoin_X1_addTry : GoodIn wsX5_tryJoin wsX1_addTry := goodIn_r _ [5, 6, 7, 8, 9, 15, 16] (by decide +kernel) (by decide +kernel)
set_option maxRecDepth 20000 in
theorem gX5_tryJoin_X1_addTry : GoodIn wsX5_tryJoin (wsV RX5 44 RX1 yX1_addTry wsX1_addTry) := goodIn_app (goodIn_of _ (by decide +kernel)) ggX5_tryJoin_X1_addTry
set_option maxRecDepth 20000 in
theorem ggX5_tryJoin_X1_addSlip : GoodIn wsX5_tryJoin wsX1_addSlip := goodIn_r _ [13, 14, 7, 8, 9, 15, 16] (by decide +kernel) (by decide +kernel)
set_option maxRecDepth 20000 in
theorem gX5_tryJoin_X1_addSlip : GoodIn wsX5_tryJoin (wsV RX5 34 RX1 yX1_addSlip wsX1_addSlip) := goodIn_app (goodIn_of _ (by decide +kernel)) ggX5_tryJoin_X1_addSlip
theorem dX5_tryJoin_0 : decode cX5_tryJoin 0 = .ok (.aload_n 0, 1) := by decide +kernel
theorem dX5_tryJoin_1 : decode cX5_tryJoin 1 = .ok (.iload_n 1, 1) := by decide +kernel
theorem dX5_tryJoin_2 : decode cX5_tryJoin 2 = .ok (.invokevirtual 44, 3) := by decide +kernel
theorem dX5_tryJoin_5 : decode cX5_tryJoin 5 = .ok (.iload_n 2, 1) := by decide +kernel
theorem dX5_tryJoin_6 : decode cX5_tryJoin 6 = .ok (.ifCond .eq 8, 3) := by decide +kernel
theorem dX5_tryJoin_9 : decode cX5_tryJoin 9 = .ok (.aload_n 0, 1) := by decide +kernel
theorem dX5_tryJoin_10 : decode cX5_tryJoin 10 = .ok (.iload_n 1, 1) := by decide +kernel
theorem dX5_tryJoin_11 : decode cX5_tryJoin 11 = .ok (.invokevirtual 34, 3) := by decide +kernel
theorem dX5_tryJoin_14 : decode cX5_tryJoin 14 = .ok (.return_, 1) := by decide +kernel
set_option maxRecDepth 20000 in
theorem ggX5_spellInto_X6_clear : GoodIn wsX5_spellInto wsX6_clear := goodIn_r _ [8, 9, 10, 52, 53, 54, 55] (by decide +kernel) (by decide +kernel)
set_option maxRecDepth 20000 in
theorem gX5_spellInto_X6_clear : GoodIn wsX5_spellInto (wsV RX5 55 RX6 yX6_clear wsX6_clear) := goodIn_app (goodIn_of _ (by decide +kernel)) ggX5_spellInto_X6_clear
set_option maxRecDepth 20000 in
theorem ggX5_spellInto_X8_letterNumber : GoodIn wsX5_spellInto wsX8_letterNumber := goodIn_r _ [13] (by decide +kernel) (by decide +kernel)
set_option maxRecDepth 20000 in
theorem gX5_spellInto_X8_letterNumber_n40 : GoodIn wsX5_spellInto (wsX8_letterNumber) := ggX5_spellInto_X8_letterNumber
set_option maxRecDepth 20000 in
theorem ggX5_spellInto_X6_append : GoodIn wsX5_spellInto wsX6_append := goodIn_r _ [17, 9, 18, 19, 20, 21, 7, 22, 10, 23, 24, 25, 26, 27, 28, 12, 29, 52, 53, 54, 55] (by decide +kernel) (by decide +kernel)
set_option maxRecDepth 20000 in
theorem gX5_spellInto_X6_append : GoodIn wsX5_spellInto (wsV RX5 58 RX6 yX6_append wsX6_append) := goodIn_app (goodIn_of _ (by decide +kernel)) ggX5_spellInto_X6_append
set_option maxRecDepth 20000 in
theorem ggX5_spellInto_X7_take : GoodIn wsX5_spellInto wsX7_take := goodIn_r _ [34, 35, 36, 37, 38, 39, 7, 40, 9, 18, 41, 42, 43, 44, 45, 46, 47, 48, 23, 10, 56, 57, 52, 53, 54, 55] (by decide +kernel) (by decide +kernel)
set_option maxRecDepth 20000 in
theorem gX5_spellInto_X7_take : GoodIn wsX5_spellInto (wsV RX5 61 RX7 yX7_take wsX7_take) := goodIn_app (goodIn_of _ (by decide +kernel)) ggX5_spellInto_X7_take
theorem dX5_spellInto_0 : decode cX5_spellInto 0 = .ok (.aload_n 0, 1) := by decide +kernel
theorem dX5_spellInto_1 : decode cX5_spellInto 1 = .ok (.getfield 18, 3) := by decide +kernel
theorem dX5_spellInto_4 : decode cX5_spellInto 4 = .ok (.invokevirtual 55, 3) := by decide +kernel
theorem dX5_spellInto_7 : decode cX5_spellInto 7 = .ok (.iconst 0, 1) := by decide +kernel
theorem dX5_spellInto_8 : decode cX5_spellInto 8 = .ok (.istore_n 2, 1) := by decide +kernel
theorem dX5_spellInto_9 : decode cX5_spellInto 9 = .ok (.iload_n 2, 1) := by decide +kernel
theorem dX5_spellInto_10 : decode cX5_spellInto 10 = .ok (.aload_n 0, 1) := by decide +kernel
theorem dX5_spellInto_11 : decode cX5_spellInto 11 = .ok (.getfield 22, 3) := by decide +kernel
theorem dX5_spellInto_14 : decode cX5_spellInto 14 = .ok (.if_icmp .ge 62, 3) := by decide +kernel
theorem dX5_spellInto_17 : decode cX5_spellInto 17 = .ok (.aload_n 0, 1) := by decide +kernel
theorem dX5_spellInto_18 : decode cX5_spellInto 18 = .ok (.getfield 9, 3) := by decide +kernel
theorem dX5_spellInto_21 : decode cX5_spellInto 21 = .ok (.iload_n 2, 1) := by decide +kernel
theorem dX5_spellInto_22 : decode cX5_spellInto 22 = .ok (.caload, 1) := by decide +kernel
theorem dX5_spellInto_23 : decode cX5_spellInto 23 = .ok (.bipush 44, 2) := by decide +kernel
theorem dX5_spellInto_25 : decode cX5_spellInto 25 = .ok (.if_icmp .eq 22, 3) := by decide +kernel
theorem dX5_spellInto_28 : decode cX5_spellInto 28 = .ok (.aload_n 0, 1) := by decide +kernel
theorem dX5_spellInto_29 : decode cX5_spellInto 29 = .ok (.getfield 18, 3) := by decide +kernel
theorem dX5_spellInto_32 : decode cX5_spellInto 32 = .ok (.aload_n 0, 1) := by decide +kernel
theorem dX5_spellInto_33 : decode cX5_spellInto 33 = .ok (.getfield 9, 3) := by decide +kernel
theorem dX5_spellInto_36 : decode cX5_spellInto 36 = .ok (.iload_n 2, 1) := by decide +kernel
theorem dX5_spellInto_37 : decode cX5_spellInto 37 = .ok (.caload, 1) := by decide +kernel
theorem dX5_spellInto_38 : decode cX5_spellInto 38 = .ok (.invokestatic 40, 3) := by decide +kernel
theorem dX5_spellInto_41 : decode cX5_spellInto 41 = .ok (.invokevirtual 58, 3) := by decide +kernel
theorem dX5_spellInto_44 : decode cX5_spellInto 44 = .ok (.goto 26, 3) := by decide +kernel
theorem dX5_spellInto_47 : decode cX5_spellInto 47 = .ok (.aload_n 1, 1) := by decide +kernel
theorem dX5_spellInto_48 : decode cX5_spellInto 48 = .ok (.aload_n 0, 1) := by decide +kernel
theorem dX5_spellInto_49 : decode cX5_spellInto 49 = .ok (.getfield 18, 3) := by decide +kernel
theorem dX5_spellInto_52 : decode cX5_spellInto 52 = .ok (.invokevirtual 61, 3) := by decide +kernel
theorem dX5_spellInto_55 : decode cX5_spellInto 55 = .ok (.ifCond .eq 13, 3) := by decide +kernel
theorem dX5_spellInto_58 : decode cX5_spellInto 58 = .ok (.aload_n 0, 1) := by decide +kernel
theorem dX5_spellInto_59 : decode cX5_spellInto 59 = .ok (.getfield 18, 3) := by decide +kernel
theorem dX5_spellInto_62 : decode cX5_spellInto 62 = .ok (.invokevirtual 55, 3) := by decide +kernel
theorem dX5_spellInto_65 : decode cX5_spellInto 65 = .ok (.goto 5, 3) := by decide +kernel
theorem dX5_spellInto_68 : decode cX5_spellInto 68 = .ok (.iconst 0, 1) := by decide +kernel
theorem dX5_spellInto_69 : decode cX5_spellInto 69 = .ok (.ireturn, 1) := by decide +kernel
theorem dX5_spellInto_70 : decode cX5_spellInto 70 = .ok (.iinc 2 1, 3) := by decide +kernel
theorem dX5_spellInto_73 : decode cX5_spellInto 73 = .ok (.goto (-64), 3) := by decide +kernel
theorem dX5_spellInto_76 : decode cX5_spellInto 76 = .ok (.aload_n 1, 1) := by decide +kernel
theorem dX5_spellInto_77 : decode cX5_spellInto 77 = .ok (.aload_n 0, 1) := by decide +kernel
theorem dX5_spellInto_78 : decode cX5_spellInto 78 = .ok (.getfield 18, 3) := by decide +kernel
theorem dX5_spellInto_81 : decode cX5_spellInto 81 = .ok (.invokevirtual 61, 3) := by decide +kernel
theorem dX5_spellInto_84 : decode cX5_spellInto 84 = .ok (.ireturn, 1) := by decide +kernel
theorem dX6_init_0 : decode cX6_init 0 = .ok (.aload_n 0, 1) := by decide +kernel
theorem dX6_init_1 : decode cX6_init 1 = .ok (.invokespecial 3, 3) := by decide +kernel
theorem dX6_init_4 : decode cX6_init 4 = .ok (.aload_n 0, 1) := by decide +kernel
theorem dX6_init_5 : decode cX6_init 5 = .ok (.bipush 15, 2) := by decide +kernel
theorem dX6_init_7 : decode cX6_init 7 = .ok (.newarray .int, 2) := by decide +kernel
theorem dX6_init_9 : decode cX6_init 9 = .ok (.putfield 9, 3) := by decide +kernel
theorem dX6_init_12 : decode cX6_init 12 = .ok (.aload_n 0, 1) := by decide +kernel
theorem dX6_init_13 : decode cX6_init 13 = .ok (.bipush 29, 2) := by decide +kernel
theorem dX6_init_15 : decode cX6_init 15 = .ok (.newarray .int, 2) := by decide +kernel
theorem dX6_init_17 : decode cX6_init 17 = .ok (.putfield 15, 3) := by decide +kernel
theorem dX6_init_20 : decode cX6_init 20 = .ok (.aload_n 0, 1) := by decide +kernel
theorem dX6_init_21 : decode cX6_init 21 = .ok (.iconst 0, 1) := by decide +kernel
theorem dX6_init_22 : decode cX6_init 22 = .ok (.putfield 18, 3) := by decide +kernel
theorem dX6_init_25 : decode cX6_init 25 = .ok (.aload_n 0, 1) := by decide +kernel
theorem dX6_init_26 : decode cX6_init 26 = .ok (.iconst 0, 1) := by decide +kernel
theorem dX6_init_27 : decode cX6_init 27 = .ok (.putfield 22, 3) := by decide +kernel
theorem dX6_init_30 : decode cX6_init 30 = .ok (.return_, 1) := by decide +kernel
theorem dX6_clear_0 : decode cX6_clear 0 = .ok (.aload_n 0, 1) := by decide +kernel
theorem dX6_clear_1 : decode cX6_clear 1 = .ok (.iconst 0, 1) := by decide +kernel
theorem dX6_clear_2 : decode cX6_clear 2 = .ok (.putfield 18, 3) := by decide +kernel
theorem dX6_clear_5 : decode cX6_clear 5 = .ok (.aload_n 0, 1) := by decide +kernel
theorem dX6_clear_6 : decode cX6_clear 6 = .ok (.iconst 0, 1) := by decide +kernel
theorem dX6_clear_7 : decode cX6_clear 7 = .ok (.putfield 22, 3) := by decide +kernel
theorem dX6_clear_10 : decode cX6_clear 10 = .ok (.return_, 1) := by decide +kernel
set_option maxRecDepth 20000 in
theorem ggX6_append_X6_addPart : GoodIn wsX6_append wsX6_addPart := goodIn_r _ [7, 8, 9, 10, 11, 12, 6, 13, 17, 18, 19, 20] (by decide +kernel) (by decide +kernel)
set_option maxRecDepth 20000 in
theorem gX6_append_X6_addPart : GoodIn wsX6_append (wsV RX6 25 RX6 yX6_addPart wsX6_addPart) := goodIn_app (goodIn_of _ (by decide +kernel)) ggX6_append_X6_addPart
set_option maxRecDepth 20000 in
theorem ggX6_append_X8_joinPart : GoodIn wsX6_append wsX8_joinPart := goodIn_r _ [16] (by decide +kernel) (by decide +kernel)
set_option maxRecDepth 20000 in
theorem gX6_append_X8_joinPart_n29 : GoodIn wsX6_append (wsX8_joinPart) := ggX6_append_X8_joinPart
theorem dX6_append_0 : decode cX6_append 0 = .ok (.aload_n 0, 1) := by decide +kernel
theorem dX6_append_1 : decode cX6_append 1 = .ok (.getfield 18, 3) := by decide +kernel
theorem dX6_append_4 : decode cX6_append 4 = .ok (.bipush 15, 2) := by decide +kernel
theorem dX6_append_6 : decode cX6_append 6 = .ok (.if_icmp .lt 4, 3) := by decide +kernel
theorem dX6_append_9 : decode cX6_append 9 = .ok (.return_, 1) := by decide +kernel
theorem dX6_append_10 : decode cX6_append 10 = .ok (.aload_n 0, 1) := by decide +kernel
theorem dX6_append_11 : decode cX6_append 11 = .ok (.iload_n 1, 1) := by decide +kernel
theorem dX6_append_12 : decode cX6_append 12 = .ok (.invokevirtual 25, 3) := by decide +kernel
theorem dX6_append_15 : decode cX6_append 15 = .ok (.aload_n 0, 1) := by decide +kernel
theorem dX6_append_16 : decode cX6_append 16 = .ok (.getfield 18, 3) := by decide +kernel
theorem dX6_append_19 : decode cX6_append 19 = .ok (.ifCond .le 22, 3) := by decide +kernel
theorem dX6_append_22 : decode cX6_append 22 = .ok (.aload_n 0, 1) := by decide +kernel
theorem dX6_append_23 : decode cX6_append 23 = .ok (.aload_n 0, 1) := by decide +kernel
theorem dX6_append_24 : decode cX6_append 24 = .ok (.getfield 9, 3) := by decide +kernel
theorem dX6_append_27 : decode cX6_append 27 = .ok (.aload_n 0, 1) := by decide +kernel
theorem dX6_append_28 : decode cX6_append 28 = .ok (.getfield 18, 3) := by decide +kernel
theorem dX6_append_31 : decode cX6_append 31 = .ok (.iconst 1, 1) := by decide +kernel
theorem dX6_append_32 : decode cX6_append 32 = .ok (.isub, 1) := by decide +kernel
theorem dX6_append_33 : decode cX6_append 33 = .ok (.iaload, 1) := by decide +kernel
theorem dX6_append_34 : decode cX6_append 34 = .ok (.iload_n 1, 1) := by decide +kernel
theorem dX6_append_35 : decode cX6_append 35 = .ok (.invokestatic 29, 3) := by decide +kernel
theorem dX6_append_38 : decode cX6_append 38 = .ok (.invokevirtual 25, 3) := by decide +kernel
theorem dX6_append_41 : decode cX6_append 41 = .ok (.aload_n 0, 1) := by decide +kernel
theorem dX6_append_42 : decode cX6_append 42 = .ok (.getfield 9, 3) := by decide +kernel
theorem dX6_append_45 : decode cX6_append 45 = .ok (.aload_n 0, 1) := by decide +kernel
theorem dX6_append_46 : decode cX6_append 46 = .ok (.getfield 18, 3) := by decide +kernel
theorem dX6_append_49 : decode cX6_append 49 = .ok (.iload_n 1, 1) := by decide +kernel
theorem dX6_append_50 : decode cX6_append 50 = .ok (.iastore, 1) := by decide +kernel
theorem dX6_append_51 : decode cX6_append 51 = .ok (.aload_n 0, 1) := by decide +kernel
theorem dX6_append_52 : decode cX6_append 52 = .ok (.dup, 1) := by decide +kernel
theorem dX6_append_53 : decode cX6_append 53 = .ok (.getfield 18, 3) := by decide +kernel
theorem dX6_append_56 : decode cX6_append 56 = .ok (.iconst 1, 1) := by decide +kernel
theorem dX6_append_57 : decode cX6_append 57 = .ok (.iadd, 1) := by decide +kernel
theorem dX6_append_58 : decode cX6_append 58 = .ok (.putfield 18, 3) := by decide +kernel
theorem dX6_append_61 : decode cX6_append 61 = .ok (.return_, 1) := by decide +kernel
set_option maxRecDepth 20000 in
theorem ggX6_addPart_X6_has : GoodIn wsX6_addPart wsX6_has := goodIn_r _ [7, 1, 2, 8, 9, 10, 11] (by decide +kernel) (by decide +kernel)
set_option maxRecDepth 20000 in
theorem gX6_addPart_X6_has : GoodIn wsX6_addPart (wsV RX6 33 RX6 yX6_has wsX6_has) := goodIn_app (goodIn_of _ (by decide +kernel)) ggX6_addPart_X6_has
theorem dX6_addPart_0 : decode cX6_addPart 0 = .ok (.aload_n 0, 1) := by decide +kernel
theorem dX6_addPart_1 : decode cX6_addPart 1 = .ok (.getfield 22, 3) := by decide +kernel
theorem dX6_addPart_4 : decode cX6_addPart 4 = .ok (.bipush 29, 2) := by decide +kernel
theorem dX6_addPart_6 : decode cX6_addPart 6 = .ok (.if_icmp .ge 31, 3) := by decide +kernel
theorem dX6_addPart_9 : decode cX6_addPart 9 = .ok (.aload_n 0, 1) := by decide +kernel
theorem dX6_addPart_10 : decode cX6_addPart 10 = .ok (.iload_n 1, 1) := by decide +kernel
theorem dX6_addPart_11 : decode cX6_addPart 11 = .ok (.invokevirtual 33, 3) := by decide +kernel
theorem dX6_addPart_14 : decode cX6_addPart 14 = .ok (.ifCond .ne 23, 3) := by decide +kernel
theorem dX6_addPart_17 : decode cX6_addPart 17 = .ok (.aload_n 0, 1) := by decide +kernel
theorem dX6_addPart_18 : decode cX6_addPart 18 = .ok (.getfield 15, 3) := by decide +kernel
theorem dX6_addPart_21 : decode cX6_addPart 21 = .ok (.aload_n 0, 1) := by decide +kernel
theorem dX6_addPart_22 : decode cX6_addPart 22 = .ok (.getfield 22, 3) := by decide +kernel
theorem dX6_addPart_25 : decode cX6_addPart 25 = .ok (.iload_n 1, 1) := by decide +kernel
theorem dX6_addPart_26 : decode cX6_addPart 26 = .ok (.iastore, 1) := by decide +kernel
theorem dX6_addPart_27 : decode cX6_addPart 27 = .ok (.aload_n 0, 1) := by decide +kernel
theorem dX6_addPart_28 : decode cX6_addPart 28 = .ok (.dup, 1) := by decide +kernel
theorem dX6_addPart_29 : decode cX6_addPart 29 = .ok (.getfield 22, 3) := by decide +kernel
theorem dX6_addPart_32 : decode cX6_addPart 32 = .ok (.iconst 1, 1) := by decide +kernel
theorem dX6_addPart_33 : decode cX6_addPart 33 = .ok (.iadd, 1) := by decide +kernel
theorem dX6_addPart_34 : decode cX6_addPart 34 = .ok (.putfield 22, 3) := by decide +kernel
theorem dX6_addPart_37 : decode cX6_addPart 37 = .ok (.return_, 1) := by decide +kernel
theorem dX6_has_0 : decode cX6_has 0 = .ok (.iconst 0, 1) := by decide +kernel
theorem dX6_has_1 : decode cX6_has 1 = .ok (.istore_n 2, 1) := by decide +kernel
theorem dX6_has_2 : decode cX6_has 2 = .ok (.iload_n 2, 1) := by decide +kernel
theorem dX6_has_3 : decode cX6_has 3 = .ok (.aload_n 0, 1) := by decide +kernel
theorem dX6_has_4 : decode cX6_has 4 = .ok (.getfield 22, 3) := by decide +kernel
theorem dX6_has_7 : decode cX6_has 7 = .ok (.if_icmp .ge 21, 3) := by decide +kernel
theorem dX6_has_10 : decode cX6_has 10 = .ok (.aload_n 0, 1) := by decide +kernel
theorem dX6_has_11 : decode cX6_has 11 = .ok (.getfield 15, 3) := by decide +kernel
theorem dX6_has_14 : decode cX6_has 14 = .ok (.iload_n 2, 1) := by decide +kernel
theorem dX6_has_15 : decode cX6_has 15 = .ok (.iaload, 1) := by decide +kernel
theorem dX6_has_16 : decode cX6_has 16 = .ok (.iload_n 1, 1) := by decide +kernel
theorem dX6_has_17 : decode cX6_has 17 = .ok (.if_icmp .ne 5, 3) := by decide +kernel
theorem dX6_has_20 : decode cX6_has 20 = .ok (.iconst 1, 1) := by decide +kernel
theorem dX6_has_21 : decode cX6_has 21 = .ok (.ireturn, 1) := by decide +kernel
theorem dX6_has_22 : decode cX6_has 22 = .ok (.iinc 2 1, 3) := by decide +kernel
theorem dX6_has_25 : decode cX6_has 25 = .ok (.goto (-23), 3) := by decide +kernel
theorem dX6_has_28 : decode cX6_has 28 = .ok (.iconst 0, 1) := by decide +kernel
theorem dX6_has_29 : decode cX6_has 29 = .ok (.ireturn, 1) := by decide +kernel
theorem dX6_isSpelledAs_0 : decode cX6_isSpelledAs 0 = .ok (.aload_n 0, 1) := by decide +kernel
theorem dX6_isSpelledAs_1 : decode cX6_isSpelledAs 1 = .ok (.getfield 18, 3) := by decide +kernel
theorem dX6_isSpelledAs_4 : decode cX6_isSpelledAs 4 = .ok (.aload_n 1, 1) := by decide +kernel
theorem dX6_isSpelledAs_5 : decode cX6_isSpelledAs 5 = .ok (.getfield 18, 3) := by decide +kernel
theorem dX6_isSpelledAs_8 : decode cX6_isSpelledAs 8 = .ok (.if_icmp .eq 5, 3) := by decide +kernel
theorem dX6_isSpelledAs_11 : decode cX6_isSpelledAs 11 = .ok (.iconst 0, 1) := by decide +kernel
theorem dX6_isSpelledAs_12 : decode cX6_isSpelledAs 12 = .ok (.ireturn, 1) := by decide +kernel
theorem dX6_isSpelledAs_13 : decode cX6_isSpelledAs 13 = .ok (.iconst 0, 1) := by decide +kernel
theorem dX6_isSpelledAs_14 : decode cX6_isSpelledAs 14 = .ok (.istore_n 2, 1) := by decide +kernel
theorem dX6_isSpelledAs_15 : decode cX6_isSpelledAs 15 = .ok (.iload_n 2, 1) := by decide +kernel
theorem dX6_isSpelledAs_16 : decode cX6_isSpelledAs 16 = .ok (.aload_n 0, 1) := by decide +kernel
theorem dX6_isSpelledAs_17 : decode cX6_isSpelledAs 17 = .ok (.getfield 18, 3) := by decide +kernel
theorem dX6_isSpelledAs_20 : decode cX6_isSpelledAs 20 = .ok (.if_icmp .ge 26, 3) := by decide +kernel
theorem dX6_isSpelledAs_23 : decode cX6_isSpelledAs 23 = .ok (.aload_n 0, 1) := by decide +kernel
theorem dX6_isSpelledAs_24 : decode cX6_isSpelledAs 24 = .ok (.getfield 9, 3) := by decide +kernel
theorem dX6_isSpelledAs_27 : decode cX6_isSpelledAs 27 = .ok (.iload_n 2, 1) := by decide +kernel
theorem dX6_isSpelledAs_28 : decode cX6_isSpelledAs 28 = .ok (.iaload, 1) := by decide +kernel
theorem dX6_isSpelledAs_29 : decode cX6_isSpelledAs 29 = .ok (.aload_n 1, 1) := by decide +kernel
theorem dX6_isSpelledAs_30 : decode cX6_isSpelledAs 30 = .ok (.getfield 9, 3) := by decide +kernel
theorem dX6_isSpelledAs_33 : decode cX6_isSpelledAs 33 = .ok (.iload_n 2, 1) := by decide +kernel
theorem dX6_isSpelledAs_34 : decode cX6_isSpelledAs 34 = .ok (.iaload, 1) := by decide +kernel
theorem dX6_isSpelledAs_35 : decode cX6_isSpelledAs 35 = .ok (.if_icmp .eq 5, 3) := by decide +kernel
theorem dX6_isSpelledAs_38 : decode cX6_isSpelledAs 38 = .ok (.iconst 0, 1) := by decide +kernel
theorem dX6_isSpelledAs_39 : decode cX6_isSpelledAs 39 = .ok (.ireturn, 1) := by decide +kernel
theorem dX6_isSpelledAs_40 : decode cX6_isSpelledAs 40 = .ok (.iinc 2 1, 3) := by decide +kernel
theorem dX6_isSpelledAs_43 : decode cX6_isSpelledAs 43 = .ok (.goto (-28), 3) := by decide +kernel
theorem dX6_isSpelledAs_46 : decode cX6_isSpelledAs 46 = .ok (.iconst 1, 1) := by decide +kernel
theorem dX6_isSpelledAs_47 : decode cX6_isSpelledAs 47 = .ok (.ireturn, 1) := by decide +kernel
theorem dX6_copyFrom_0 : decode cX6_copyFrom 0 = .ok (.aload_n 1, 1) := by decide +kernel
theorem dX6_copyFrom_1 : decode cX6_copyFrom 1 = .ok (.getfield 9, 3) := by decide +kernel
theorem dX6_copyFrom_4 : decode cX6_copyFrom 4 = .ok (.iconst 0, 1) := by decide +kernel
theorem dX6_copyFrom_5 : decode cX6_copyFrom 5 = .ok (.aload_n 0, 1) := by decide +kernel
theorem dX6_copyFrom_6 : decode cX6_copyFrom 6 = .ok (.getfield 9, 3) := by decide +kernel
theorem dX6_copyFrom_9 : decode cX6_copyFrom 9 = .ok (.iconst 0, 1) := by decide +kernel
theorem dX6_copyFrom_10 : decode cX6_copyFrom 10 = .ok (.bipush 15, 2) := by decide +kernel
theorem dX6_copyFrom_12 : decode cX6_copyFrom 12 = .ok (.invokestatic 37, 3) := by decide +kernel
theorem dX6_copyFrom_15 : decode cX6_copyFrom 15 = .ok (.aload_n 1, 1) := by decide +kernel
theorem dX6_copyFrom_16 : decode cX6_copyFrom 16 = .ok (.getfield 15, 3) := by decide +kernel
theorem dX6_copyFrom_19 : decode cX6_copyFrom 19 = .ok (.iconst 0, 1) := by decide +kernel
theorem dX6_copyFrom_20 : decode cX6_copyFrom 20 = .ok (.aload_n 0, 1) := by decide +kernel
theorem dX6_copyFrom_21 : decode cX6_copyFrom 21 = .ok (.getfield 15, 3) := by decide +kernel
theorem dX6_copyFrom_24 : decode cX6_copyFrom 24 = .ok (.iconst 0, 1) := by decide +kernel
theorem dX6_copyFrom_25 : decode cX6_copyFrom 25 = .ok (.bipush 29, 2) := by decide +kernel
theorem dX6_copyFrom_27 : decode cX6_copyFrom 27 = .ok (.invokestatic 37, 3) := by decide +kernel
theorem dX6_copyFrom_30 : decode cX6_copyFrom 30 = .ok (.aload_n 0, 1) := by decide +kernel
theorem dX6_copyFrom_31 : decode cX6_copyFrom 31 = .ok (.aload_n 1, 1) := by decide +kernel
theorem dX6_copyFrom_32 : decode cX6_copyFrom 32 = .ok (.getfield 18, 3) := by decide +kernel
theorem dX6_copyFrom_35 : decode cX6_copyFrom 35 = .ok (.putfield 18, 3) := by decide +kernel
theorem dX6_copyFrom_38 : decode cX6_copyFrom 38 = .ok (.aload_n 0, 1) := by decide +kernel
theorem dX6_copyFrom_39 : decode cX6_copyFrom 39 = .ok (.aload_n 1, 1) := by decide +kernel
theorem dX6_copyFrom_40 : decode cX6_copyFrom 40 = .ok (.getfield 22, 3) := by decide +kernel
theorem dX6_copyFrom_43 : decode cX6_copyFrom 43 = .ok (.putfield 22, 3) := by decide +kernel
theorem dX6_copyFrom_46 : decode cX6_copyFrom 46 = .ok (.return_, 1) := by decide +kernel
set_option maxRecDepth 20000 in
theorem ggX7_init_X6_init : GoodIn wsX7_init wsX6_init := goodIn_r _ [11, 12, 2, 3, 13, 14, 15, 16, 17, 20, 21, 22, 23] (by decide +kernel) (by decide +kernel)
set_option maxRecDepth 20000 in
theorem gX7_init_X6_init : GoodIn wsX7_init (wsX6_init) := ggX7_init_X6_init
theorem dX7_init_0 : decode cX7_init 0 = .ok (.aload_n 0, 1) := by decide +kernel
theorem dX7_init_1 : decode cX7_init 1 = .ok (.invokespecial 3, 3) := by decide +kernel
theorem dX7_init_4 : decode cX7_init 4 = .ok (.aload_n 0, 1) := by decide +kernel
theorem dX7_init_5 : decode cX7_init 5 = .ok (.bipush 20, 2) := by decide +kernel
theorem dX7_init_7 : decode cX7_init 7 = .ok (.anewarray 9, 3) := by decide +kernel
theorem dX7_init_10 : decode cX7_init 10 = .ok (.putfield 11, 3) := by decide +kernel
theorem dX7_init_13 : decode cX7_init 13 = .ok (.iconst 0, 1) := by decide +kernel
theorem dX7_init_14 : decode cX7_init 14 = .ok (.istore_n 1, 1) := by decide +kernel
theorem dX7_init_15 : decode cX7_init 15 = .ok (.iload_n 1, 1) := by decide +kernel
theorem dX7_init_16 : decode cX7_init 16 = .ok (.bipush 20, 2) := by decide +kernel
theorem dX7_init_18 : decode cX7_init 18 = .ok (.if_icmp .ge 22, 3) := by decide +kernel
theorem dX7_init_21 : decode cX7_init 21 = .ok (.aload_n 0, 1) := by decide +kernel
theorem dX7_init_22 : decode cX7_init 22 = .ok (.getfield 11, 3) := by decide +kernel
theorem dX7_init_25 : decode cX7_init 25 = .ok (.iload_n 1, 1) := by decide +kernel
theorem dX7_init_26 : decode cX7_init 26 = .ok (.new 9, 3) := by decide +kernel
theorem dX7_init_29 : decode cX7_init 29 = .ok (.dup, 1) := by decide +kernel
theorem dX7_init_30 : decode cX7_init 30 = .ok (.invokespecial 17, 3) := by decide +kernel
theorem dX7_init_33 : decode cX7_init 33 = .ok (.aastore, 1) := by decide +kernel
theorem dX7_init_34 : decode cX7_init 34 = .ok (.iinc 1 1, 3) := by decide +kernel
theorem dX7_init_37 : decode cX7_init 37 = .ok (.goto (-22), 3) := by decide +kernel
theorem dX7_init_40 : decode cX7_init 40 = .ok (.aload_n 0, 1) := by decide +kernel
theorem dX7_init_41 : decode cX7_init 41 = .ok (.iconst 0, 1) := by decide +kernel
theorem dX7_init_42 : decode cX7_init 42 = .ok (.putfield 18, 3) := by decide +kernel
theorem dX7_init_45 : decode cX7_init 45 = .ok (.return_, 1) := by decide +kernel
theorem dX7_at_0 : decode cX7_at 0 = .ok (.iload_n 1, 1) := by decide +kernel
theorem dX7_at_1 : decode cX7_at 1 = .ok (.ifCond .lt 20, 3) := by decide +kernel
theorem dX7_at_4 : decode cX7_at 4 = .ok (.iload_n 1, 1) := by decide +kernel
theorem dX7_at_5 : decode cX7_at 5 = .ok (.aload_n 0, 1) := by decide +kernel
theorem dX7_at_6 : decode cX7_at 6 = .ok (.getfield 18, 3) := by decide +kernel
theorem dX7_at_9 : decode cX7_at 9 = .ok (.if_icmp .ge 12, 3) := by decide +kernel
theorem dX7_at_12 : decode cX7_at 12 = .ok (.aload_n 0, 1) := by decide +kernel
theorem dX7_at_13 : decode cX7_at 13 = .ok (.getfield 11, 3) := by decide +kernel
theorem dX7_at_16 : decode cX7_at 16 = .ok (.iload_n 1, 1) := by decide +kernel
theorem dX7_at_17 : decode cX7_at 17 = .ok (.aaload, 1) := by decide +kernel
theorem dX7_at_18 : decode cX7_at 18 = .ok (.goto 4, 3) := by decide +kernel
theorem dX7_at_21 : decode cX7_at 21 = .ok (.aconst_null, 1) := by decide +kernel
theorem dX7_at_22 : decode cX7_at 22 = .ok (.areturn, 1) := by decide +kernel
set_option maxRecDepth 20000 in
theorem ggX7_take_X6_isSpelledAs : GoodIn wsX7_take wsX6_isSpelledAs := goodIn_r _ [7, 8, 9, 22, 23, 24, 25] (by decide +kernel) (by decide +kernel)
set_option maxRecDepth 20000 in
theorem gX7_take_X6_isSpelledAs : GoodIn wsX7_take (wsV RX7 22 RX6 yX6_isSpelledAs wsX6_isSpelledAs) := goodIn_app (goodIn_of _ (by decide +kernel)) ggX7_take_X6_isSpelledAs
set_option maxRecDepth 20000 in
theorem ggX7_take_X6_copyFrom : GoodIn wsX7_take wsX6_copyFrom := goodIn_r _ [13, 9, 14, 15, 16, 17, 18, 8, 19, 22, 23, 24, 25] (by decide +kernel) (by decide +kernel)
set_option maxRecDepth 20000 in
theorem gX7_take_X6_copyFrom : GoodIn wsX7_take (wsV RX7 26 RX6 yX6_copyFrom wsX6_copyFrom) := goodIn_app (goodIn_of _ (by decide +kernel)) ggX7_take_X6_copyFrom
theorem dX7_take_0 : decode cX7_take 0 = .ok (.iconst 0, 1) := by decide +kernel
theorem dX7_take_1 : decode cX7_take 1 = .ok (.istore_n 2, 1) := by decide +kernel
theorem dX7_take_2 : decode cX7_take 2 = .ok (.iload_n 2, 1) := by decide +kernel
theorem dX7_take_3 : decode cX7_take 3 = .ok (.aload_n 0, 1) := by decide +kernel
theorem dX7_take_4 : decode cX7_take 4 = .ok (.getfield 18, 3) := by decide +kernel
theorem dX7_take_7 : decode cX7_take 7 = .ok (.if_icmp .ge 24, 3) := by decide +kernel
theorem dX7_take_10 : decode cX7_take 10 = .ok (.aload_n 0, 1) := by decide +kernel
theorem dX7_take_11 : decode cX7_take 11 = .ok (.getfield 11, 3) := by decide +kernel
theorem dX7_take_14 : decode cX7_take 14 = .ok (.iload_n 2, 1) := by decide +kernel
theorem dX7_take_15 : decode cX7_take 15 = .ok (.aaload, 1) := by decide +kernel
theorem dX7_take_16 : decode cX7_take 16 = .ok (.aload_n 1, 1) := by decide +kernel
theorem dX7_take_17 : decode cX7_take 17 = .ok (.invokevirtual 22, 3) := by decide +kernel
theorem dX7_take_20 : decode cX7_take 20 = .ok (.ifCond .eq 5, 3) := by decide +kernel
theorem dX7_take_23 : decode cX7_take 23 = .ok (.iconst 1, 1) := by decide +kernel
theorem dX7_take_24 : decode cX7_take 24 = .ok (.ireturn, 1) := by decide +kernel
theorem dX7_take_25 : decode cX7_take 25 = .ok (.iinc 2 1, 3) := by decide +kernel
theorem dX7_take_28 : decode cX7_take 28 = .ok (.goto (-26), 3) := by decide +kernel
theorem dX7_take_31 : decode cX7_take 31 = .ok (.aload_n 0, 1) := by decide +kernel
theorem dX7_take_32 : decode cX7_take 32 = .ok (.getfield 18, 3) := by decide +kernel
theorem dX7_take_35 : decode cX7_take 35 = .ok (.bipush 20, 2) := by decide +kernel
theorem dX7_take_37 : decode cX7_take 37 = .ok (.if_icmp .lt 5, 3) := by decide +kernel
theorem dX7_take_40 : decode cX7_take 40 = .ok (.iconst 0, 1) := by decide +kernel
theorem dX7_take_41 : decode cX7_take 41 = .ok (.ireturn, 1) := by decide +kernel
theorem dX7_take_42 : decode cX7_take 42 = .ok (.aload_n 0, 1) := by decide +kernel
theorem dX7_take_43 : decode cX7_take 43 = .ok (.getfield 11, 3) := by decide +kernel
theorem dX7_take_46 : decode cX7_take 46 = .ok (.aload_n 0, 1) := by decide +kernel
theorem dX7_take_47 : decode cX7_take 47 = .ok (.getfield 18, 3) := by decide +kernel
theorem dX7_take_50 : decode cX7_take 50 = .ok (.aaload, 1) := by decide +kernel
theorem dX7_take_51 : decode cX7_take 51 = .ok (.aload_n 1, 1) := by decide +kernel
theorem dX7_take_52 : decode cX7_take 52 = .ok (.invokevirtual 26, 3) := by decide +kernel
theorem dX7_take_55 : decode cX7_take 55 = .ok (.aload_n 0, 1) := by decide +kernel
theorem dX7_take_56 : decode cX7_take 56 = .ok (.dup, 1) := by decide +kernel
theorem dX7_take_57 : decode cX7_take 57 = .ok (.getfield 18, 3) := by decide +kernel
theorem dX7_take_60 : decode cX7_take 60 = .ok (.iconst 1, 1) := by decide +kernel
theorem dX7_take_61 : decode cX7_take 61 = .ok (.iadd, 1) := by decide +kernel
theorem dX7_take_62 : decode cX7_take 62 = .ok (.putfield 18, 3) := by decide +kernel
theorem dX7_take_65 : decode cX7_take 65 = .ok (.iconst 1, 1) := by decide +kernel
theorem dX7_take_66 : decode cX7_take 66 = .ok (.ireturn, 1) := by decide +kernel
set_option maxRecDepth 20000 in
theorem ggX7_drop_X6_copyFrom : GoodIn wsX7_drop wsX6_copyFrom := goodIn_r _ [7, 8, 9, 10, 11, 12, 13, 14, 15, 18, 19, 20, 21] (by decide +kernel) (by decide +kernel)
set_option maxRecDepth 20000 in
theorem gX7_drop_X6_copyFrom : GoodIn wsX7_drop (wsV RX7 26 RX6 yX6_copyFrom wsX6_copyFrom) := goodIn_app (goodIn_of _ (by decide +kernel)) ggX7_drop_X6_copyFrom
theorem dX7_drop_0 : decode cX7_drop 0 = .ok (.iload_n 1, 1) := by decide +kernel
theorem dX7_drop_1 : decode cX7_drop 1 = .ok (.ifCond .lt 11, 3) := by decide +kernel
theorem dX7_drop_4 : decode cX7_drop 4 = .ok (.iload_n 1, 1) := by decide +kernel
theorem dX7_drop_5 : decode cX7_drop 5 = .ok (.aload_n 0, 1) := by decide +kernel
theorem dX7_drop_6 : decode cX7_drop 6 = .ok (.getfield 18, 3) := by decide +kernel
theorem dX7_drop_9 : decode cX7_drop 9 = .ok (.if_icmp .lt 4, 3) := by decide +kernel
theorem dX7_drop_12 : decode cX7_drop 12 = .ok (.return_, 1) := by decide +kernel
theorem dX7_drop_13 : decode cX7_drop 13 = .ok (.iload_n 1, 1) := by decide +kernel
theorem dX7_drop_14 : decode cX7_drop 14 = .ok (.iconst 1, 1) := by decide +kernel
theorem dX7_drop_15 : decode cX7_drop 15 = .ok (.iadd, 1) := by decide +kernel
theorem dX7_drop_16 : decode cX7_drop 16 = .ok (.istore_n 2, 1) := by decide +kernel
theorem dX7_drop_17 : decode cX7_drop 17 = .ok (.iload_n 2, 1) := by decide +kernel
theorem dX7_drop_18 : decode cX7_drop 18 = .ok (.aload_n 0, 1) := by decide +kernel
theorem dX7_drop_19 : decode cX7_drop 19 = .ok (.getfield 18, 3) := by decide +kernel
theorem dX7_drop_22 : decode cX7_drop 22 = .ok (.if_icmp .ge 26, 3) := by decide +kernel
theorem dX7_drop_25 : decode cX7_drop 25 = .ok (.aload_n 0, 1) := by decide +kernel
theorem dX7_drop_26 : decode cX7_drop 26 = .ok (.getfield 11, 3) := by decide +kernel
theorem dX7_drop_29 : decode cX7_drop 29 = .ok (.iload_n 2, 1) := by decide +kernel
theorem dX7_drop_30 : decode cX7_drop 30 = .ok (.iconst 1, 1) := by decide +kernel
theorem dX7_drop_31 : decode cX7_drop 31 = .ok (.isub, 1) := by decide +kernel
theorem dX7_drop_32 : decode cX7_drop 32 = .ok (.aaload, 1) := by decide +kernel
theorem dX7_drop_33 : decode cX7_drop 33 = .ok (.aload_n 0, 1) := by decide +kernel
theorem dX7_drop_34 : decode cX7_drop 34 = .ok (.getfield 11, 3) := by decide +kernel
theorem dX7_drop_37 : decode cX7_drop 37 = .ok (.iload_n 2, 1) := by decide +kernel
theorem dX7_drop_38 : decode cX7_drop 38 = .ok (.aaload, 1) := by decide +kernel
theorem dX7_drop_39 : decode cX7_drop 39 = .ok (.invokevirtual 26, 3) := by decide +kernel
theorem dX7_drop_42 : decode cX7_drop 42 = .ok (.iinc 2 1, 3) := by decide +kernel
theorem dX7_drop_45 : decode cX7_drop 45 = .ok (.goto (-28), 3) := by decide +kernel
theorem dX7_drop_48 : decode cX7_drop 48 = .ok (.aload_n 0, 1) := by decide +kernel
theorem dX7_drop_49 : decode cX7_drop 49 = .ok (.dup, 1) := by decide +kernel
theorem dX7_drop_50 : decode cX7_drop 50 = .ok (.getfield 18, 3) := by decide +kernel
theorem dX7_drop_53 : decode cX7_drop 53 = .ok (.iconst 1, 1) := by decide +kernel
theorem dX7_drop_54 : decode cX7_drop 54 = .ok (.isub, 1) := by decide +kernel
theorem dX7_drop_55 : decode cX7_drop 55 = .ok (.putfield 18, 3) := by decide +kernel
theorem dX7_drop_58 : decode cX7_drop 58 = .ok (.return_, 1) := by decide +kernel
set_option maxRecDepth 20000 in
theorem ggX7_howManyHave_X6_has : GoodIn wsX7_howManyHave wsX6_has := goodIn_r _ [7, 8, 9, 12, 13, 14, 15] (by decide +kernel) (by decide +kernel)
set_option maxRecDepth 20000 in
theorem gX7_howManyHave_X6_has : GoodIn wsX7_howManyHave (wsV RX7 30 RX6 yX6_has wsX6_has) := goodIn_app (goodIn_of _ (by decide +kernel)) ggX7_howManyHave_X6_has
theorem dX7_howManyHave_0 : decode cX7_howManyHave 0 = .ok (.iconst 0, 1) := by decide +kernel
theorem dX7_howManyHave_1 : decode cX7_howManyHave 1 = .ok (.istore_n 2, 1) := by decide +kernel
theorem dX7_howManyHave_2 : decode cX7_howManyHave 2 = .ok (.iconst 0, 1) := by decide +kernel
theorem dX7_howManyHave_3 : decode cX7_howManyHave 3 = .ok (.istore_n 3, 1) := by decide +kernel
theorem dX7_howManyHave_4 : decode cX7_howManyHave 4 = .ok (.iload_n 3, 1) := by decide +kernel
theorem dX7_howManyHave_5 : decode cX7_howManyHave 5 = .ok (.aload_n 0, 1) := by decide +kernel
theorem dX7_howManyHave_6 : decode cX7_howManyHave 6 = .ok (.getfield 18, 3) := by decide +kernel
theorem dX7_howManyHave_9 : decode cX7_howManyHave 9 = .ok (.if_icmp .ge 25, 3) := by decide +kernel
theorem dX7_howManyHave_12 : decode cX7_howManyHave 12 = .ok (.aload_n 0, 1) := by decide +kernel
theorem dX7_howManyHave_13 : decode cX7_howManyHave 13 = .ok (.getfield 11, 3) := by decide +kernel
theorem dX7_howManyHave_16 : decode cX7_howManyHave 16 = .ok (.iload_n 3, 1) := by decide +kernel
theorem dX7_howManyHave_17 : decode cX7_howManyHave 17 = .ok (.aaload, 1) := by decide +kernel
theorem dX7_howManyHave_18 : decode cX7_howManyHave 18 = .ok (.iload_n 1, 1) := by decide +kernel
theorem dX7_howManyHave_19 : decode cX7_howManyHave 19 = .ok (.invokevirtual 30, 3) := by decide +kernel
theorem dX7_howManyHave_22 : decode cX7_howManyHave 22 = .ok (.ifCond .eq 6, 3) := by decide +kernel
theorem dX7_howManyHave_25 : decode cX7_howManyHave 25 = .ok (.iinc 2 1, 3) := by decide +kernel
theorem dX7_howManyHave_28 : decode cX7_howManyHave 28 = .ok (.iinc 3 1, 3) := by decide +kernel
theorem dX7_howManyHave_31 : decode cX7_howManyHave 31 = .ok (.goto (-27), 3) := by decide +kernel
theorem dX7_howManyHave_34 : decode cX7_howManyHave 34 = .ok (.iload_n 2, 1) := by decide +kernel
theorem dX7_howManyHave_35 : decode cX7_howManyHave 35 = .ok (.ireturn, 1) := by decide +kernel
set_option maxRecDepth 20000 in
theorem ggX7_copyFrom_X6_copyFrom : GoodIn wsX7_copyFrom wsX6_copyFrom := goodIn_r _ [7, 8, 9, 10, 11, 12, 13, 14, 15, 18, 19, 20, 21] (by decide +kernel) (by decide +kernel)
set_option maxRecDepth 20000 in
theorem gX7_copyFrom_X6_copyFrom : GoodIn wsX7_copyFrom (wsV RX7 26 RX6 yX6_copyFrom wsX6_copyFrom) := goodIn_app (goodIn_of _ (by decide +kernel)) ggX7_copyFrom_X6_copyFrom
theorem dX7_copyFrom_0 : decode cX7_copyFrom 0 = .ok (.iconst 0, 1) := by decide +kernel
theorem dX7_copyFrom_1 : decode cX7_copyFrom 1 = .ok (.istore_n 2, 1) := by decide +kernel
theorem dX7_copyFrom_2 : decode cX7_copyFrom 2 = .ok (.iload_n 2, 1) := by decide +kernel
theorem dX7_copyFrom_3 : decode cX7_copyFrom 3 = .ok (.aload_n 1, 1) := by decide +kernel
theorem dX7_copyFrom_4 : decode cX7_copyFrom 4 = .ok (.getfield 18, 3) := by decide +kernel
theorem dX7_copyFrom_7 : decode cX7_copyFrom 7 = .ok (.if_icmp .ge 24, 3) := by decide +kernel
theorem dX7_copyFrom_10 : decode cX7_copyFrom 10 = .ok (.aload_n 0, 1) := by decide +kernel
theorem dX7_copyFrom_11 : decode cX7_copyFrom 11 = .ok (.getfield 11, 3) := by decide +kernel
theorem dX7_copyFrom_14 : decode cX7_copyFrom 14 = .ok (.iload_n 2, 1) := by decide +kernel
theorem dX7_copyFrom_15 : decode cX7_copyFrom 15 = .ok (.aaload, 1) := by decide +kernel
theorem dX7_copyFrom_16 : decode cX7_copyFrom 16 = .ok (.aload_n 1, 1) := by decide +kernel
theorem dX7_copyFrom_17 : decode cX7_copyFrom 17 = .ok (.getfield 11, 3) := by decide +kernel
theorem dX7_copyFrom_20 : decode cX7_copyFrom 20 = .ok (.iload_n 2, 1) := by decide +kernel
theorem dX7_copyFrom_21 : decode cX7_copyFrom 21 = .ok (.aaload, 1) := by decide +kernel
theorem dX7_copyFrom_22 : decode cX7_copyFrom 22 = .ok (.invokevirtual 26, 3) := by decide +kernel
theorem dX7_copyFrom_25 : decode cX7_copyFrom 25 = .ok (.iinc 2 1, 3) := by decide +kernel
theorem dX7_copyFrom_28 : decode cX7_copyFrom 28 = .ok (.goto (-26), 3) := by decide +kernel
theorem dX7_copyFrom_31 : decode cX7_copyFrom 31 = .ok (.aload_n 0, 1) := by decide +kernel
theorem dX7_copyFrom_32 : decode cX7_copyFrom 32 = .ok (.aload_n 1, 1) := by decide +kernel
theorem dX7_copyFrom_33 : decode cX7_copyFrom 33 = .ok (.getfield 18, 3) := by decide +kernel
theorem dX7_copyFrom_36 : decode cX7_copyFrom 36 = .ok (.putfield 18, 3) := by decide +kernel
theorem dX7_copyFrom_39 : decode cX7_copyFrom 39 = .ok (.return_, 1) := by decide +kernel
end
section
/-! decode rows and calls' words, printed -/
set_option maxRecDepth 20000 in
theorem ggX8_init_X4_init : GoodIn wsX8_init wsX4_init := goodIn_r _ [29, 30, 2, 3, 31, 32, 33, 34, 35, 36, 37, 38, 39, 40, 41, 42, 43, 44, 45, 46, 47, 48, 49, 50, 51, 52, 53, 54, 55, 56, 57, 58, 59, 60, 61, 62, 63, 64, 65, 66, 67, 127, 128, 101, 102, 103, 104, 105, 106, 107, 129, 130, 131, 132, 133, 134] (by decide +kernel) (by decide +kernel)
set_option maxRecDepth 20000 in
theorem gX8_init_X4_init : GoodIn wsX8_init (wsX4_init) := ggX8_init_X4_init
set_option maxRecDepth 20000 in
theorem ggX8_init_X0_init : GoodIn wsX8_init wsX0_init := goodIn_r _ [70, 71, 2, 3, 72, 73, 5, 6, 74, 75, 28, 29, 30, 31, 32, 33, 34, 35, 36, 37, 38, 39, 40, 41, 42, 43, 44, 45, 46, 47, 48, 49, 50, 51, 52, 53, 54, 55, 56, 57, 58, 59, 60, 61, 62, 63, 64, 65, 66, 67, 116, 117, 101, 102, 103, 104, 105, 106, 107, 127, 128, 129, 130, 131, 132, 133, 134] (by decide +kernel) (by decide +kernel)
set_option maxRecDepth 20000 in
theorem gX8_init_X0_init : GoodIn wsX8_init (wsX0_init) := ggX8_init_X0_init
set_option maxRecDepth 20000 in
theorem ggX8_init_X5_init : GoodIn wsX8_init wsX5_init := goodIn_r _ [78, 79, 2, 3, 80, 81, 82, 57, 58, 83, 84, 85, 61, 62, 63, 48, 64, 65, 66, 67, 118, 119, 120, 131, 132, 133, 134] (by decide +kernel) (by decide +kernel)
set_option maxRecDepth 20000 in
theorem gX8_init_X5_init : GoodIn wsX8_init (wsX5_init) := ggX8_init_X5_init
set_option maxRecDepth 20000 in
theorem ggX8_init_X3_init : GoodIn wsX8_init wsX3_init := goodIn_r _ [88, 89, 2, 3, 48, 90, 91, 92, 93, 94, 95, 121, 122, 123, 124, 125] (by decide +kernel) (by decide +kernel)
set_option maxRecDepth 20000 in
theorem gX8_init_X3_init : GoodIn wsX8_init (wsX3_init) := ggX8_init_X3_init
set_option maxRecDepth 20000 in
theorem ggX8_init_X2_init : GoodIn wsX8_init wsX2_init := goodIn_r _ [98, 99, 2, 3, 48, 100, 126] (by decide +kernel) (by decide +kernel)
set_option maxRecDepth 20000 in
theorem gX8_init_X2_init : GoodIn wsX8_init (wsX2_init) := ggX8_init_X2_init
theorem dX8_init_0 : decode cX8_init 0 = .ok (.aload_n 0, 1) := by decide +kernel
theorem dX8_init_1 : decode cX8_init 1 = .ok (.invokespecial 3, 3) := by decide +kernel
theorem dX8_init_4 : decode cX8_init 4 = .ok (.aload_n 0, 1) := by decide +kernel
theorem dX8_init_5 : decode cX8_init 5 = .ok (.new 9, 3) := by decide +kernel
theorem dX8_init_8 : decode cX8_init 8 = .ok (.dup, 1) := by decide +kernel
theorem dX8_init_9 : decode cX8_init 9 = .ok (.invokespecial 11, 3) := by decide +kernel
theorem dX8_init_12 : decode cX8_init 12 = .ok (.putfield 12, 3) := by decide +kernel
theorem dX8_init_15 : decode cX8_init 15 = .ok (.aload_n 0, 1) := by decide +kernel
theorem dX8_init_16 : decode cX8_init 16 = .ok (.new 9, 3) := by decide +kernel
theorem dX8_init_19 : decode cX8_init 19 = .ok (.dup, 1) := by decide +kernel
theorem dX8_init_20 : decode cX8_init 20 = .ok (.invokespecial 11, 3) := by decide +kernel
theorem dX8_init_23 : decode cX8_init 23 = .ok (.putfield 16, 3) := by decide +kernel
theorem dX8_init_26 : decode cX8_init 26 = .ok (.aload_n 0, 1) := by decide +kernel
theorem dX8_init_27 : decode cX8_init 27 = .ok (.new 9, 3) := by decide +kernel
theorem dX8_init_30 : decode cX8_init 30 = .ok (.dup, 1) := by decide +kernel
theorem dX8_init_31 : decode cX8_init 31 = .ok (.invokespecial 11, 3) := by decide +kernel
theorem dX8_init_34 : decode cX8_init 34 = .ok (.putfield 19, 3) := by decide +kernel
theorem dX8_init_37 : decode cX8_init 37 = .ok (.aload_n 0, 1) := by decide +kernel
theorem dX8_init_38 : decode cX8_init 38 = .ok (.new 22, 3) := by decide +kernel
theorem dX8_init_41 : decode cX8_init 41 = .ok (.dup, 1) := by decide +kernel
theorem dX8_init_42 : decode cX8_init 42 = .ok (.invokespecial 24, 3) := by decide +kernel
theorem dX8_init_45 : decode cX8_init 45 = .ok (.putfield 25, 3) := by decide +kernel
theorem dX8_init_48 : decode cX8_init 48 = .ok (.aload_n 0, 1) := by decide +kernel
theorem dX8_init_49 : decode cX8_init 49 = .ok (.new 29, 3) := by decide +kernel
theorem dX8_init_52 : decode cX8_init 52 = .ok (.dup, 1) := by decide +kernel
theorem dX8_init_53 : decode cX8_init 53 = .ok (.invokespecial 31, 3) := by decide +kernel
theorem dX8_init_56 : decode cX8_init 56 = .ok (.putfield 32, 3) := by decide +kernel
theorem dX8_init_59 : decode cX8_init 59 = .ok (.aload_n 0, 1) := by decide +kernel
theorem dX8_init_60 : decode cX8_init 60 = .ok (.new 36, 3) := by decide +kernel
theorem dX8_init_63 : decode cX8_init 63 = .ok (.dup, 1) := by decide +kernel
theorem dX8_init_64 : decode cX8_init 64 = .ok (.invokespecial 38, 3) := by decide +kernel
theorem dX8_init_67 : decode cX8_init 67 = .ok (.putfield 39, 3) := by decide +kernel
theorem dX8_init_70 : decode cX8_init 70 = .ok (.aload_n 0, 1) := by decide +kernel
theorem dX8_init_71 : decode cX8_init 71 = .ok (.new 43, 3) := by decide +kernel
theorem dX8_init_74 : decode cX8_init 74 = .ok (.dup, 1) := by decide +kernel
theorem dX8_init_75 : decode cX8_init 75 = .ok (.invokespecial 45, 3) := by decide +kernel
theorem dX8_init_78 : decode cX8_init 78 = .ok (.putfield 46, 3) := by decide +kernel
theorem dX8_init_81 : decode cX8_init 81 = .ok (.aload_n 0, 1) := by decide +kernel
theorem dX8_init_82 : decode cX8_init 82 = .ok (.iconst 0, 1) := by decide +kernel
theorem dX8_init_83 : decode cX8_init 83 = .ok (.putfield 50, 3) := by decide +kernel
theorem dX8_init_86 : decode cX8_init 86 = .ok (.return_, 1) := by decide +kernel
set_option maxRecDepth 20000 in
theorem ggX8_write_X5_faultAsWritten : GoodIn wsX8_write wsX5_faultAsWritten := goodIn_r _ [8, 9, 10, 11, 12, 7, 13, 14, 15, 16, 104, 105, 106] (by decide +kernel) (by decide +kernel)
set_option maxRecDepth 20000 in
theorem gX8_write_X5_faultAsWritten : GoodIn wsX8_write (wsV RX8 54 RX5 yX5_faultAsWritten wsX5_faultAsWritten) := goodIn_app (goodIn_of _ (by decide +kernel)) ggX8_write_X5_faultAsWritten
set_option maxRecDepth 20000 in
theorem ggX8_write_X0_remember : GoodIn wsX8_write wsX0_remember := goodIn_r _ [21, 22, 23, 24, 25, 26, 20, 27, 28, 29, 30, 31, 32, 33, 34, 35, 36, 37, 38, 39, 40, 41, 42, 43, 44, 45, 46, 47, 48, 49, 50, 51, 52, 53, 54, 55, 56, 57, 58, 59, 60, 61, 62, 63, 64, 65, 66, 67, 107, 108, 97, 98, 99, 100, 101, 102, 103, 109, 110, 111, 112, 113, 114, 115, 116] (by decide +kernel) (by decide +kernel)
set_option maxRecDepth 20000 in
theorem gX8_write_X0_remember : GoodIn wsX8_write (wsV RX8 58 RX0 yX0_remember wsX0_remember) := goodIn_app (goodIn_of _ (by decide +kernel)) ggX8_write_X0_remember
set_option maxRecDepth 20000 in
theorem ggX8_write_X5_practiseIn : GoodIn wsX8_write wsX5_practiseIn := goodIn_r _ [71, 9, 10, 72, 73, 74, 43, 75, 50, 76, 15, 77, 78, 79, 80, 81, 82, 83, 45, 84, 85, 86, 87, 7, 88, 104, 105, 106, 109, 110] (by decide +kernel) (by decide +kernel)
set_option maxRecDepth 20000 in
theorem gX8_write_X5_practiseIn : GoodIn wsX8_write (wsV RX8 66 RX5 yX5_practiseIn wsX5_practiseIn) := goodIn_app (goodIn_of _ (by decide +kernel)) ggX8_write_X5_practiseIn
theorem dX8_write_0 : decode cX8_write 0 = .ok (.aload_n 0, 1) := by decide +kernel
theorem dX8_write_1 : decode cX8_write 1 = .ok (.getfield 32, 3) := by decide +kernel
theorem dX8_write_4 : decode cX8_write 4 = .ok (.invokevirtual 54, 3) := by decide +kernel
theorem dX8_write_7 : decode cX8_write 7 = .ok (.istore_n 1, 1) := by decide +kernel
theorem dX8_write_8 : decode cX8_write 8 = .ok (.iload_n 1, 1) := by decide +kernel
theorem dX8_write_9 : decode cX8_write 9 = .ok (.iconst (-1), 1) := by decide +kernel
theorem dX8_write_10 : decode cX8_write 10 = .ok (.if_icmp .eq 8, 3) := by decide +kernel
theorem dX8_write_13 : decode cX8_write 13 = .ok (.bipush (-100), 2) := by decide +kernel
theorem dX8_write_15 : decode cX8_write 15 = .ok (.iload_n 1, 1) := by decide +kernel
theorem dX8_write_16 : decode cX8_write 16 = .ok (.isub, 1) := by decide +kernel
theorem dX8_write_17 : decode cX8_write 17 = .ok (.ireturn, 1) := by decide +kernel
theorem dX8_write_18 : decode cX8_write 18 = .ok (.aload_n 0, 1) := by decide +kernel
theorem dX8_write_19 : decode cX8_write 19 = .ok (.getfield 25, 3) := by decide +kernel
theorem dX8_write_22 : decode cX8_write 22 = .ok (.aload_n 0, 1) := by decide +kernel
theorem dX8_write_23 : decode cX8_write 23 = .ok (.getfield 12, 3) := by decide +kernel
theorem dX8_write_26 : decode cX8_write 26 = .ok (.invokevirtual 58, 3) := by decide +kernel
theorem dX8_write_29 : decode cX8_write 29 = .ok (.aload_n 0, 1) := by decide +kernel
theorem dX8_write_30 : decode cX8_write 30 = .ok (.getfield 32, 3) := by decide +kernel
theorem dX8_write_33 : decode cX8_write 33 = .ok (.aload_n 0, 1) := by decide +kernel
theorem dX8_write_34 : decode cX8_write 34 = .ok (.getfield 12, 3) := by decide +kernel
theorem dX8_write_37 : decode cX8_write 37 = .ok (.getfield 62, 3) := by decide +kernel
theorem dX8_write_40 : decode cX8_write 40 = .ok (.invokevirtual 66, 3) := by decide +kernel
theorem dX8_write_43 : decode cX8_write 43 = .ok (.istore_n 2, 1) := by decide +kernel
theorem dX8_write_44 : decode cX8_write 44 = .ok (.aload_n 0, 1) := by decide +kernel
theorem dX8_write_45 : decode cX8_write 45 = .ok (.getfield 12, 3) := by decide +kernel
theorem dX8_write_48 : decode cX8_write 48 = .ok (.dup, 1) := by decide +kernel
theorem dX8_write_49 : decode cX8_write 49 = .ok (.getfield 70, 3) := by decide +kernel
theorem dX8_write_52 : decode cX8_write 52 = .ok (.iconst 1, 1) := by decide +kernel
theorem dX8_write_53 : decode cX8_write 53 = .ok (.iadd, 1) := by decide +kernel
theorem dX8_write_54 : decode cX8_write 54 = .ok (.putfield 70, 3) := by decide +kernel
theorem dX8_write_57 : decode cX8_write 57 = .ok (.aload_n 0, 1) := by decide +kernel
theorem dX8_write_58 : decode cX8_write 58 = .ok (.getfield 12, 3) := by decide +kernel
theorem dX8_write_61 : decode cX8_write 61 = .ok (.dup, 1) := by decide +kernel
theorem dX8_write_62 : decode cX8_write 62 = .ok (.getfield 74, 3) := by decide +kernel
theorem dX8_write_65 : decode cX8_write 65 = .ok (.iload_n 2, 1) := by decide +kernel
theorem dX8_write_66 : decode cX8_write 66 = .ok (.iadd, 1) := by decide +kernel
theorem dX8_write_67 : decode cX8_write 67 = .ok (.putfield 74, 3) := by decide +kernel
theorem dX8_write_70 : decode cX8_write 70 = .ok (.iload_n 2, 1) := by decide +kernel
theorem dX8_write_71 : decode cX8_write 71 = .ok (.ireturn, 1) := by decide +kernel
set_option maxRecDepth 20000 in
theorem ggX8_pass_X0_remember : GoodIn wsX8_pass wsX0_remember := goodIn_r _ [7, 8, 9, 10, 11, 12, 6, 13, 14, 15, 16, 17, 18, 19, 20, 21, 22, 23, 24, 25, 26, 27, 28, 29, 30, 31, 32, 33, 34, 35, 36, 37, 38, 39, 40, 41, 42, 43, 44, 45, 46, 47, 48, 49, 50, 51, 52, 53, 73, 74, 66, 67, 68, 69, 70, 71, 72, 75, 76, 77, 78, 79, 80, 81, 82] (by decide +kernel) (by decide +kernel)
set_option maxRecDepth 20000 in
theorem gX8_pass_X0_remember : GoodIn wsX8_pass (wsV RX8 58 RX0 yX0_remember wsX0_remember) := goodIn_app (goodIn_of _ (by decide +kernel)) ggX8_pass_X0_remember
set_option maxRecDepth 20000 in
theorem ggX8_pass_X1_fade : GoodIn wsX8_pass wsX1_fade := goodIn_r _ [57, 31, 36, 75, 76] (by decide +kernel) (by decide +kernel)
set_option maxRecDepth 20000 in
theorem gX8_pass_X1_fade : GoodIn wsX8_pass (wsV RX8 80 RX1 yX1_fade wsX1_fade) := goodIn_app (goodIn_of _ (by decide +kernel)) ggX8_pass_X1_fade
theorem dX8_pass_0 : decode cX8_pass 0 = .ok (.iload_n 1, 1) := by decide +kernel
theorem dX8_pass_1 : decode cX8_pass 1 = .ok (.iconst 1, 1) := by decide +kernel
theorem dX8_pass_2 : decode cX8_pass 2 = .ok (.if_icmp .lt 9, 3) := by decide +kernel
theorem dX8_pass_5 : decode cX8_pass 5 = .ok (.iload_n 1, 1) := by decide +kernel
theorem dX8_pass_6 : decode cX8_pass 6 = .ok (.bipush 20, 2) := by decide +kernel
theorem dX8_pass_8 : decode cX8_pass 8 = .ok (.if_icmp .le 6, 3) := by decide +kernel
theorem dX8_pass_11 : decode cX8_pass 11 = .ok (.bipush (-2), 2) := by decide +kernel
theorem dX8_pass_13 : decode cX8_pass 13 = .ok (.ireturn, 1) := by decide +kernel
theorem dX8_pass_14 : decode cX8_pass 14 = .ok (.aload_n 0, 1) := by decide +kernel
theorem dX8_pass_15 : decode cX8_pass 15 = .ok (.getfield 12, 3) := by decide +kernel
theorem dX8_pass_18 : decode cX8_pass 18 = .ok (.getfield 77, 3) := by decide +kernel
theorem dX8_pass_21 : decode cX8_pass 21 = .ok (.iload_n 1, 1) := by decide +kernel
theorem dX8_pass_22 : decode cX8_pass 22 = .ok (.iadd, 1) := by decide +kernel
theorem dX8_pass_23 : decode cX8_pass 23 = .ok (.sipush 999, 3) := by decide +kernel
theorem dX8_pass_26 : decode cX8_pass 26 = .ok (.if_icmp .le 6, 3) := by decide +kernel
theorem dX8_pass_29 : decode cX8_pass 29 = .ok (.bipush (-3), 2) := by decide +kernel
theorem dX8_pass_31 : decode cX8_pass 31 = .ok (.ireturn, 1) := by decide +kernel
theorem dX8_pass_32 : decode cX8_pass 32 = .ok (.aload_n 0, 1) := by decide +kernel
theorem dX8_pass_33 : decode cX8_pass 33 = .ok (.getfield 25, 3) := by decide +kernel
theorem dX8_pass_36 : decode cX8_pass 36 = .ok (.aload_n 0, 1) := by decide +kernel
theorem dX8_pass_37 : decode cX8_pass 37 = .ok (.getfield 12, 3) := by decide +kernel
theorem dX8_pass_40 : decode cX8_pass 40 = .ok (.invokevirtual 58, 3) := by decide +kernel
theorem dX8_pass_43 : decode cX8_pass 43 = .ok (.aload_n 0, 1) := by decide +kernel
theorem dX8_pass_44 : decode cX8_pass 44 = .ok (.getfield 12, 3) := by decide +kernel
theorem dX8_pass_47 : decode cX8_pass 47 = .ok (.dup, 1) := by decide +kernel
theorem dX8_pass_48 : decode cX8_pass 48 = .ok (.getfield 77, 3) := by decide +kernel
theorem dX8_pass_51 : decode cX8_pass 51 = .ok (.iload_n 1, 1) := by decide +kernel
theorem dX8_pass_52 : decode cX8_pass 52 = .ok (.iadd, 1) := by decide +kernel
theorem dX8_pass_53 : decode cX8_pass 53 = .ok (.putfield 77, 3) := by decide +kernel
theorem dX8_pass_56 : decode cX8_pass 56 = .ok (.aload_n 0, 1) := by decide +kernel
theorem dX8_pass_57 : decode cX8_pass 57 = .ok (.getfield 12, 3) := by decide +kernel
theorem dX8_pass_60 : decode cX8_pass 60 = .ok (.getfield 62, 3) := by decide +kernel
theorem dX8_pass_63 : decode cX8_pass 63 = .ok (.iload_n 1, 1) := by decide +kernel
theorem dX8_pass_64 : decode cX8_pass 64 = .ok (.invokevirtual 80, 3) := by decide +kernel
theorem dX8_pass_67 : decode cX8_pass 67 = .ok (.ireturn, 1) := by decide +kernel
set_option maxRecDepth 20000 in
theorem ggX8_setUntried_X0_remember : GoodIn wsX8_setUntried wsX0_remember := goodIn_r _ [7, 8, 9, 10, 11, 12, 6, 13, 14, 15, 16, 17, 18, 19, 20, 21, 22, 23, 24, 25, 26, 27, 28, 29, 30, 31, 32, 33, 34, 35, 36, 37, 38, 39, 40, 41, 42, 43, 44, 45, 46, 47, 48, 49, 50, 51, 52, 53, 69, 70, 62, 63, 64, 65, 66, 67, 68, 71, 72, 73, 74, 75, 76, 77, 78] (by decide +kernel) (by decide +kernel)
set_option maxRecDepth 20000 in
theorem gX8_setUntried_X0_remember : GoodIn wsX8_setUntried (wsV RX8 58 RX0 yX0_remember wsX0_remember) := goodIn_app (goodIn_of _ (by decide +kernel)) ggX8_setUntried_X0_remember
theorem dX8_setUntried_0 : decode cX8_setUntried 0 = .ok (.iload_n 1, 1) := by decide +kernel
theorem dX8_setUntried_1 : decode cX8_setUntried 1 = .ok (.ifCond .lt 9, 3) := by decide +kernel
theorem dX8_setUntried_4 : decode cX8_setUntried 4 = .ok (.iload_n 1, 1) := by decide +kernel
theorem dX8_setUntried_5 : decode cX8_setUntried 5 = .ok (.bipush 99, 2) := by decide +kernel
theorem dX8_setUntried_7 : decode cX8_setUntried 7 = .ok (.if_icmp .le 6, 3) := by decide +kernel
theorem dX8_setUntried_10 : decode cX8_setUntried 10 = .ok (.bipush (-2), 2) := by decide +kernel
theorem dX8_setUntried_12 : decode cX8_setUntried 12 = .ok (.ireturn, 1) := by decide +kernel
theorem dX8_setUntried_13 : decode cX8_setUntried 13 = .ok (.aload_n 0, 1) := by decide +kernel
theorem dX8_setUntried_14 : decode cX8_setUntried 14 = .ok (.getfield 12, 3) := by decide +kernel
theorem dX8_setUntried_17 : decode cX8_setUntried 17 = .ok (.getfield 86, 3) := by decide +kernel
theorem dX8_setUntried_20 : decode cX8_setUntried 20 = .ok (.istore_n 2, 1) := by decide +kernel
theorem dX8_setUntried_21 : decode cX8_setUntried 21 = .ok (.iload_n 1, 1) := by decide +kernel
theorem dX8_setUntried_22 : decode cX8_setUntried 22 = .ok (.iload_n 2, 1) := by decide +kernel
theorem dX8_setUntried_23 : decode cX8_setUntried 23 = .ok (.if_icmp .ne 6, 3) := by decide +kernel
theorem dX8_setUntried_26 : decode cX8_setUntried 26 = .ok (.bipush (-5), 2) := by decide +kernel
theorem dX8_setUntried_28 : decode cX8_setUntried 28 = .ok (.ireturn, 1) := by decide +kernel
theorem dX8_setUntried_29 : decode cX8_setUntried 29 = .ok (.aload_n 0, 1) := by decide +kernel
theorem dX8_setUntried_30 : decode cX8_setUntried 30 = .ok (.getfield 25, 3) := by decide +kernel
theorem dX8_setUntried_33 : decode cX8_setUntried 33 = .ok (.aload_n 0, 1) := by decide +kernel
theorem dX8_setUntried_34 : decode cX8_setUntried 34 = .ok (.getfield 12, 3) := by decide +kernel
theorem dX8_setUntried_37 : decode cX8_setUntried 37 = .ok (.invokevirtual 58, 3) := by decide +kernel
theorem dX8_setUntried_40 : decode cX8_setUntried 40 = .ok (.aload_n 0, 1) := by decide +kernel
theorem dX8_setUntried_41 : decode cX8_setUntried 41 = .ok (.getfield 12, 3) := by decide +kernel
theorem dX8_setUntried_44 : decode cX8_setUntried 44 = .ok (.iload_n 1, 1) := by decide +kernel
theorem dX8_setUntried_45 : decode cX8_setUntried 45 = .ok (.putfield 86, 3) := by decide +kernel
theorem dX8_setUntried_48 : decode cX8_setUntried 48 = .ok (.iload_n 2, 1) := by decide +kernel
theorem dX8_setUntried_49 : decode cX8_setUntried 49 = .ok (.ireturn, 1) := by decide +kernel
set_option maxRecDepth 20000 in
theorem ggX8_addWords_X5_faultAsWords : GoodIn wsX8_addWords wsX5_faultAsWords := goodIn_r _ [9, 10, 11, 12, 13, 14, 117, 118, 119] (by decide +kernel) (by decide +kernel)
set_option maxRecDepth 20000 in
theorem gX8_addWords_X5_faultAsWords : GoodIn wsX8_addWords (wsV RX8 89 RX5 yX5_faultAsWords wsX5_faultAsWords) := goodIn_app (goodIn_of _ (by decide +kernel)) ggX8_addWords_X5_faultAsWords
set_option maxRecDepth 20000 in
theorem ggX8_addWords_X7_copyFrom : GoodIn wsX8_addWords wsX7_copyFrom := goodIn_r _ [19, 20, 21, 22, 23, 24, 25, 26, 27, 28, 29, 30, 31, 32, 33, 34, 115, 116, 120, 121, 122, 123] (by decide +kernel) (by decide +kernel)
set_option maxRecDepth 20000 in
theorem gX8_addWords_X7_copyFrom : GoodIn wsX8_addWords (wsV RX8 96 RX7 yX7_copyFrom wsX7_copyFrom) := goodIn_app (goodIn_of _ (by decide +kernel)) ggX8_addWords_X7_copyFrom
set_option maxRecDepth 20000 in
theorem ggX8_addWords_X5_spellInto : GoodIn wsX8_addWords wsX5_spellInto := goodIn_r _ [38, 39, 10, 11, 40, 41, 42, 25, 43, 33, 34, 44, 13, 45, 46, 47, 48, 49, 27, 50, 51, 52, 53, 32, 54, 55, 56, 57, 58, 59, 60, 61, 62, 18, 63, 20, 21, 64, 65, 66, 67, 22, 23, 24, 26, 28, 29, 30, 31, 117, 118, 119, 120, 121, 122, 123, 115, 116] (by decide +kernel) (by decide +kernel)
set_option maxRecDepth 20000 in
theorem gX8_addWords_X5_spellInto : GoodIn wsX8_addWords (wsV RX8 102 RX5 yX5_spellInto wsX5_spellInto) := goodIn_app (goodIn_of _ (by decide +kernel)) ggX8_addWords_X5_spellInto
set_option maxRecDepth 20000 in
theorem ggX8_addWords_X0_remember : GoodIn wsX8_addWords wsX0_remember := goodIn_r _ [72, 73, 74, 75, 76, 77, 71, 78, 79, 80, 81, 82, 83, 84, 85, 86, 87, 88, 89, 90, 91, 92, 93, 94, 95, 96, 97, 29, 30, 31, 98, 99, 16, 17, 18, 19, 20, 21, 22, 23, 24, 25, 26, 27, 28, 32, 33, 34, 124, 125, 108, 109, 110, 111, 112, 113, 114, 126, 127, 115, 116, 120, 121, 122, 123] (by decide +kernel) (by decide +kernel)
set_option maxRecDepth 20000 in
theorem gX8_addWords_X0_remember : GoodIn wsX8_addWords (wsV RX8 58 RX0 yX0_remember wsX0_remember) := goodIn_app (goodIn_of _ (by decide +kernel)) ggX8_addWords_X0_remember
theorem dX8_addWords_0 : decode cX8_addWords 0 = .ok (.aload_n 0, 1) := by decide +kernel
theorem dX8_addWords_1 : decode cX8_addWords 1 = .ok (.getfield 32, 3) := by decide +kernel
theorem dX8_addWords_4 : decode cX8_addWords 4 = .ok (.invokevirtual 89, 3) := by decide +kernel
theorem dX8_addWords_7 : decode cX8_addWords 7 = .ok (.istore_n 1, 1) := by decide +kernel
theorem dX8_addWords_8 : decode cX8_addWords 8 = .ok (.iload_n 1, 1) := by decide +kernel
theorem dX8_addWords_9 : decode cX8_addWords 9 = .ok (.iconst (-1), 1) := by decide +kernel
theorem dX8_addWords_10 : decode cX8_addWords 10 = .ok (.if_icmp .eq 8, 3) := by decide +kernel
theorem dX8_addWords_13 : decode cX8_addWords 13 = .ok (.bipush (-100), 2) := by decide +kernel
theorem dX8_addWords_15 : decode cX8_addWords 15 = .ok (.iload_n 1, 1) := by decide +kernel
theorem dX8_addWords_16 : decode cX8_addWords 16 = .ok (.isub, 1) := by decide +kernel
theorem dX8_addWords_17 : decode cX8_addWords 17 = .ok (.ireturn, 1) := by decide +kernel
theorem dX8_addWords_18 : decode cX8_addWords 18 = .ok (.aload_n 0, 1) := by decide +kernel
theorem dX8_addWords_19 : decode cX8_addWords 19 = .ok (.getfield 19, 3) := by decide +kernel
theorem dX8_addWords_22 : decode cX8_addWords 22 = .ok (.getfield 92, 3) := by decide +kernel
theorem dX8_addWords_25 : decode cX8_addWords 25 = .ok (.astore_n 2, 1) := by decide +kernel
theorem dX8_addWords_26 : decode cX8_addWords 26 = .ok (.aload_n 2, 1) := by decide +kernel
theorem dX8_addWords_27 : decode cX8_addWords 27 = .ok (.aload_n 0, 1) := by decide +kernel
theorem dX8_addWords_28 : decode cX8_addWords 28 = .ok (.getfield 12, 3) := by decide +kernel
theorem dX8_addWords_31 : decode cX8_addWords 31 = .ok (.getfield 92, 3) := by decide +kernel
theorem dX8_addWords_34 : decode cX8_addWords 34 = .ok (.invokevirtual 96, 3) := by decide +kernel
theorem dX8_addWords_37 : decode cX8_addWords 37 = .ok (.aload_n 0, 1) := by decide +kernel
theorem dX8_addWords_38 : decode cX8_addWords 38 = .ok (.getfield 32, 3) := by decide +kernel
theorem dX8_addWords_41 : decode cX8_addWords 41 = .ok (.aload_n 2, 1) := by decide +kernel
theorem dX8_addWords_42 : decode cX8_addWords 42 = .ok (.invokevirtual 102, 3) := by decide +kernel
theorem dX8_addWords_45 : decode cX8_addWords 45 = .ok (.ifCond .ne 6, 3) := by decide +kernel
theorem dX8_addWords_48 : decode cX8_addWords 48 = .ok (.bipush (-3), 2) := by decide +kernel
theorem dX8_addWords_50 : decode cX8_addWords 50 = .ok (.ireturn, 1) := by decide +kernel
theorem dX8_addWords_51 : decode cX8_addWords 51 = .ok (.aload_n 2, 1) := by decide +kernel
theorem dX8_addWords_52 : decode cX8_addWords 52 = .ok (.getfield 106, 3) := by decide +kernel
theorem dX8_addWords_55 : decode cX8_addWords 55 = .ok (.aload_n 0, 1) := by decide +kernel
theorem dX8_addWords_56 : decode cX8_addWords 56 = .ok (.getfield 12, 3) := by decide +kernel
theorem dX8_addWords_59 : decode cX8_addWords 59 = .ok (.getfield 92, 3) := by decide +kernel
theorem dX8_addWords_62 : decode cX8_addWords 62 = .ok (.getfield 106, 3) := by decide +kernel
theorem dX8_addWords_65 : decode cX8_addWords 65 = .ok (.isub, 1) := by decide +kernel
theorem dX8_addWords_66 : decode cX8_addWords 66 = .ok (.istore_n 3, 1) := by decide +kernel
theorem dX8_addWords_67 : decode cX8_addWords 67 = .ok (.iload_n 3, 1) := by decide +kernel
theorem dX8_addWords_68 : decode cX8_addWords 68 = .ok (.ifCond .ne 6, 3) := by decide +kernel
theorem dX8_addWords_71 : decode cX8_addWords 71 = .ok (.bipush (-5), 2) := by decide +kernel
theorem dX8_addWords_73 : decode cX8_addWords 73 = .ok (.ireturn, 1) := by decide +kernel
theorem dX8_addWords_74 : decode cX8_addWords 74 = .ok (.aload_n 0, 1) := by decide +kernel
theorem dX8_addWords_75 : decode cX8_addWords 75 = .ok (.getfield 25, 3) := by decide +kernel
theorem dX8_addWords_78 : decode cX8_addWords 78 = .ok (.aload_n 0, 1) := by decide +kernel
theorem dX8_addWords_79 : decode cX8_addWords 79 = .ok (.getfield 12, 3) := by decide +kernel
theorem dX8_addWords_82 : decode cX8_addWords 82 = .ok (.invokevirtual 58, 3) := by decide +kernel
theorem dX8_addWords_85 : decode cX8_addWords 85 = .ok (.aload_n 0, 1) := by decide +kernel
theorem dX8_addWords_86 : decode cX8_addWords 86 = .ok (.getfield 12, 3) := by decide +kernel
theorem dX8_addWords_89 : decode cX8_addWords 89 = .ok (.getfield 92, 3) := by decide +kernel
theorem dX8_addWords_92 : decode cX8_addWords 92 = .ok (.aload_n 2, 1) := by decide +kernel
theorem dX8_addWords_93 : decode cX8_addWords 93 = .ok (.invokevirtual 96, 3) := by decide +kernel
theorem dX8_addWords_96 : decode cX8_addWords 96 = .ok (.iload_n 3, 1) := by decide +kernel
theorem dX8_addWords_97 : decode cX8_addWords 97 = .ok (.ireturn, 1) := by decide +kernel
set_option maxRecDepth 20000 in
theorem ggX8_removeWord_X7_at : GoodIn wsX8_removeWord wsX7_at := goodIn_r _ [7, 8, 9, 77, 78] (by decide +kernel) (by decide +kernel)
set_option maxRecDepth 20000 in
theorem gX8_removeWord_X7_at : GoodIn wsX8_removeWord (wsV RX8 109 RX7 yX7_at wsX7_at) := goodIn_app (goodIn_of _ (by decide +kernel)) ggX8_removeWord_X7_at
set_option maxRecDepth 20000 in
theorem ggX8_removeWord_X0_remember : GoodIn wsX8_removeWord wsX0_remember := goodIn_r _ [14, 15, 16, 17, 18, 19, 13, 20, 21, 22, 23, 24, 25, 26, 27, 28, 29, 30, 31, 32, 33, 34, 35, 36, 37, 38, 39, 40, 41, 42, 43, 44, 45, 46, 6, 47, 8, 9, 48, 49, 50, 51, 52, 53, 54, 55, 56, 57, 79, 80, 70, 71, 72, 73, 74, 75, 76, 81, 82, 77, 78, 83, 84, 85, 86] (by decide +kernel) (by decide +kernel)
set_option maxRecDepth 20000 in
theorem gX8_removeWord_X0_remember : GoodIn wsX8_removeWord (wsV RX8 58 RX0 yX0_remember wsX0_remember) := goodIn_app (goodIn_of _ (by decide +kernel)) ggX8_removeWord_X0_remember
set_option maxRecDepth 20000 in
theorem ggX8_removeWord_X7_drop : GoodIn wsX8_removeWord wsX7_drop := goodIn_r _ [61, 8, 9, 48, 49, 50, 51, 52, 53, 54, 40, 41, 42, 55, 56, 57, 77, 78, 83, 84, 85, 86] (by decide +kernel) (by decide +kernel)
set_option maxRecDepth 20000 in
theorem gX8_removeWord_X7_drop : GoodIn wsX8_removeWord (wsV RX8 113 RX7 yX7_drop wsX7_drop) := goodIn_app (goodIn_of _ (by decide +kernel)) ggX8_removeWord_X7_drop
theorem dX8_removeWord_0 : decode cX8_removeWord 0 = .ok (.aload_n 0, 1) := by decide +kernel
theorem dX8_removeWord_1 : decode cX8_removeWord 1 = .ok (.getfield 12, 3) := by decide +kernel
theorem dX8_removeWord_4 : decode cX8_removeWord 4 = .ok (.getfield 92, 3) := by decide +kernel
theorem dX8_removeWord_7 : decode cX8_removeWord 7 = .ok (.iload_n 1, 1) := by decide +kernel
theorem dX8_removeWord_8 : decode cX8_removeWord 8 = .ok (.invokevirtual 109, 3) := by decide +kernel
theorem dX8_removeWord_11 : decode cX8_removeWord 11 = .ok (.ifnonnull 5, 3) := by decide +kernel
theorem dX8_removeWord_14 : decode cX8_removeWord 14 = .ok (.iconst (-1), 1) := by decide +kernel
theorem dX8_removeWord_15 : decode cX8_removeWord 15 = .ok (.ireturn, 1) := by decide +kernel
theorem dX8_removeWord_16 : decode cX8_removeWord 16 = .ok (.aload_n 0, 1) := by decide +kernel
theorem dX8_removeWord_17 : decode cX8_removeWord 17 = .ok (.getfield 25, 3) := by decide +kernel
theorem dX8_removeWord_20 : decode cX8_removeWord 20 = .ok (.aload_n 0, 1) := by decide +kernel
theorem dX8_removeWord_21 : decode cX8_removeWord 21 = .ok (.getfield 12, 3) := by decide +kernel
theorem dX8_removeWord_24 : decode cX8_removeWord 24 = .ok (.invokevirtual 58, 3) := by decide +kernel
theorem dX8_removeWord_27 : decode cX8_removeWord 27 = .ok (.aload_n 0, 1) := by decide +kernel
theorem dX8_removeWord_28 : decode cX8_removeWord 28 = .ok (.getfield 12, 3) := by decide +kernel
theorem dX8_removeWord_31 : decode cX8_removeWord 31 = .ok (.getfield 92, 3) := by decide +kernel
theorem dX8_removeWord_34 : decode cX8_removeWord 34 = .ok (.iload_n 1, 1) := by decide +kernel
theorem dX8_removeWord_35 : decode cX8_removeWord 35 = .ok (.invokevirtual 113, 3) := by decide +kernel
theorem dX8_removeWord_38 : decode cX8_removeWord 38 = .ok (.aload_n 0, 1) := by decide +kernel
theorem dX8_removeWord_39 : decode cX8_removeWord 39 = .ok (.getfield 12, 3) := by decide +kernel
theorem dX8_removeWord_42 : decode cX8_removeWord 42 = .ok (.getfield 92, 3) := by decide +kernel
theorem dX8_removeWord_45 : decode cX8_removeWord 45 = .ok (.getfield 106, 3) := by decide +kernel
theorem dX8_removeWord_48 : decode cX8_removeWord 48 = .ok (.ireturn, 1) := by decide +kernel
set_option maxRecDepth 20000 in
theorem ggX8_doSheet_X8_areLines : GoodIn wsX8_doSheet wsX8_areLines := goodIn_r _ [7] (by decide +kernel) (by decide +kernel)
set_option maxRecDepth 20000 in
theorem gX8_doSheet_X8_areLines : GoodIn wsX8_doSheet (va_wsS RX8 117 yX8_areLines wsX8_areLines) := goodIn_app (goodIn_of _ (by decide +kernel)) ggX8_doSheet_X8_areLines
set_option maxRecDepth 20000 in
theorem ggX8_doSheet_X3_choose : GoodIn wsX8_doSheet wsX3_choose := goodIn_r _ [12, 13, 14, 15, 11, 16, 17, 18, 19, 20, 21, 22, 23, 24, 25, 26, 27, 28, 29, 30, 31, 32, 33, 34, 35, 36, 37, 38, 6, 39, 40, 41, 42, 43, 44, 45, 46, 47, 48, 49, 50, 51, 52, 53, 54, 55, 56, 57, 58, 133, 134, 135, 136, 137, 138, 139, 140, 141, 142, 143, 144, 145, 146, 147, 148, 149, 150, 151, 152] (by decide +kernel) (by decide +kernel)
set_option maxRecDepth 20000 in
theorem gX8_doSheet_X3_choose : GoodIn wsX8_doSheet (wsV RX8 121 RX3 yX3_choose wsX3_choose) := goodIn_app (goodIn_of _ (by decide +kernel)) ggX8_doSheet_X3_choose
set_option maxRecDepth 20000 in
theorem ggX8_doSheet_X0_remember : GoodIn wsX8_doSheet wsX0_remember := goodIn_r _ [63, 64, 65, 66, 67, 68, 62, 69, 70, 71, 72, 73, 74, 75, 76, 77, 78, 79, 80, 81, 82, 83, 84, 31, 85, 37, 86, 87, 88, 89, 52, 90, 91, 92, 93, 94, 95, 96, 97, 98, 99, 100, 101, 102, 103, 104, 105, 106, 153, 154, 138, 139, 140, 141, 142, 143, 144, 151, 152, 145, 146, 147, 148, 149, 150] (by decide +kernel) (by decide +kernel)
set_option maxRecDepth 20000 in
theorem gX8_doSheet_X0_remember : GoodIn wsX8_doSheet (wsV RX8 58 RX0 yX0_remember wsX0_remember) := goodIn_app (goodIn_of _ (by decide +kernel)) ggX8_doSheet_X0_remember
set_option maxRecDepth 20000 in
theorem ggX8_doSheet_X4_practise : GoodIn wsX8_doSheet wsX4_practise := goodIn_r _ [110, 76, 75, 79, 81, 111, 112, 113, 93, 114, 95, 96, 115, 116, 117, 31, 118, 119, 120, 121, 122, 37, 38, 6, 39, 123, 124, 133, 134, 135, 136, 137, 138, 139, 140, 141, 142, 143, 144, 145, 146, 147, 148, 149, 150, 151, 152] (by decide +kernel) (by decide +kernel)
set_option maxRecDepth 20000 in
theorem gX8_doSheet_X4_practise : GoodIn wsX8_doSheet (wsV RX8 126 RX4 yX4_practise wsX4_practise) := goodIn_app (goodIn_of _ (by decide +kernel)) ggX8_doSheet_X4_practise
theorem dX8_doSheet_0 : decode cX8_doSheet 0 = .ok (.iload_n 1, 1) := by decide +kernel
theorem dX8_doSheet_1 : decode cX8_doSheet 1 = .ok (.invokestatic 117, 3) := by decide +kernel
theorem dX8_doSheet_4 : decode cX8_doSheet 4 = .ok (.ifCond .ne 6, 3) := by decide +kernel
theorem dX8_doSheet_7 : decode cX8_doSheet 7 = .ok (.bipush (-2), 2) := by decide +kernel
theorem dX8_doSheet_9 : decode cX8_doSheet 9 = .ok (.ireturn, 1) := by decide +kernel
theorem dX8_doSheet_10 : decode cX8_doSheet 10 = .ok (.aload_n 0, 1) := by decide +kernel
theorem dX8_doSheet_11 : decode cX8_doSheet 11 = .ok (.getfield 39, 3) := by decide +kernel
theorem dX8_doSheet_14 : decode cX8_doSheet 14 = .ok (.aload_n 0, 1) := by decide +kernel
theorem dX8_doSheet_15 : decode cX8_doSheet 15 = .ok (.getfield 12, 3) := by decide +kernel
theorem dX8_doSheet_18 : decode cX8_doSheet 18 = .ok (.iload_n 1, 1) := by decide +kernel
theorem dX8_doSheet_19 : decode cX8_doSheet 19 = .ok (.invokevirtual 121, 3) := by decide +kernel
theorem dX8_doSheet_22 : decode cX8_doSheet 22 = .ok (.aload_n 0, 1) := by decide +kernel
theorem dX8_doSheet_23 : decode cX8_doSheet 23 = .ok (.getfield 39, 3) := by decide +kernel
theorem dX8_doSheet_26 : decode cX8_doSheet 26 = .ok (.getfield 125, 3) := by decide +kernel
theorem dX8_doSheet_29 : decode cX8_doSheet 29 = .ok (.ifCond .ne 6, 3) := by decide +kernel
theorem dX8_doSheet_32 : decode cX8_doSheet 32 = .ok (.bipush (-5), 2) := by decide +kernel
theorem dX8_doSheet_34 : decode cX8_doSheet 34 = .ok (.ireturn, 1) := by decide +kernel
theorem dX8_doSheet_35 : decode cX8_doSheet 35 = .ok (.aload_n 0, 1) := by decide +kernel
theorem dX8_doSheet_36 : decode cX8_doSheet 36 = .ok (.getfield 25, 3) := by decide +kernel
theorem dX8_doSheet_39 : decode cX8_doSheet 39 = .ok (.aload_n 0, 1) := by decide +kernel
theorem dX8_doSheet_40 : decode cX8_doSheet 40 = .ok (.getfield 12, 3) := by decide +kernel
theorem dX8_doSheet_43 : decode cX8_doSheet 43 = .ok (.invokevirtual 58, 3) := by decide +kernel
theorem dX8_doSheet_46 : decode cX8_doSheet 46 = .ok (.aload_n 0, 1) := by decide +kernel
theorem dX8_doSheet_47 : decode cX8_doSheet 47 = .ok (.getfield 12, 3) := by decide +kernel
theorem dX8_doSheet_50 : decode cX8_doSheet 50 = .ok (.aload_n 0, 1) := by decide +kernel
theorem dX8_doSheet_51 : decode cX8_doSheet 51 = .ok (.getfield 39, 3) := by decide +kernel
theorem dX8_doSheet_54 : decode cX8_doSheet 54 = .ok (.invokevirtual 126, 3) := by decide +kernel
theorem dX8_doSheet_57 : decode cX8_doSheet 57 = .ok (.aload_n 0, 1) := by decide +kernel
theorem dX8_doSheet_58 : decode cX8_doSheet 58 = .ok (.getfield 39, 3) := by decide +kernel
theorem dX8_doSheet_61 : decode cX8_doSheet 61 = .ok (.getfield 125, 3) := by decide +kernel
theorem dX8_doSheet_64 : decode cX8_doSheet 64 = .ok (.ireturn, 1) := by decide +kernel
set_option maxRecDepth 20000 in
theorem ggX8_type_X5_append : GoodIn wsX8_type wsX5_append := goodIn_r _ [6, 7, 8, 17, 18, 19] (by decide +kernel) (by decide +kernel)
set_option maxRecDepth 20000 in
theorem gX8_type_X5_append : GoodIn wsX8_type (wsV RX8 130 RX5 yX5_append wsX5_append) := goodIn_app (goodIn_of _ (by decide +kernel)) ggX8_type_X5_append
theorem dX8_type_0 : decode cX8_type 0 = .ok (.aload_n 0, 1) := by decide +kernel
theorem dX8_type_1 : decode cX8_type 1 = .ok (.getfield 32, 3) := by decide +kernel
theorem dX8_type_4 : decode cX8_type 4 = .ok (.iload_n 1, 1) := by decide +kernel
theorem dX8_type_5 : decode cX8_type 5 = .ok (.invokevirtual 130, 3) := by decide +kernel
theorem dX8_type_8 : decode cX8_type 8 = .ok (.ifCond .eq 13, 3) := by decide +kernel
theorem dX8_type_11 : decode cX8_type 11 = .ok (.aload_n 0, 1) := by decide +kernel
theorem dX8_type_12 : decode cX8_type 12 = .ok (.getfield 32, 3) := by decide +kernel
theorem dX8_type_15 : decode cX8_type 15 = .ok (.getfield 134, 3) := by decide +kernel
theorem dX8_type_18 : decode cX8_type 18 = .ok (.goto 5, 3) := by decide +kernel
theorem dX8_type_21 : decode cX8_type 21 = .ok (.bipush (-3), 2) := by decide +kernel
theorem dX8_type_23 : decode cX8_type 23 = .ok (.ireturn, 1) := by decide +kernel
theorem dX8_clearText_0 : decode cX8_clearText 0 = .ok (.aload_n 0, 1) := by decide +kernel
theorem dX8_clearText_1 : decode cX8_clearText 1 = .ok (.getfield 32, 3) := by decide +kernel
theorem dX8_clearText_4 : decode cX8_clearText 4 = .ok (.getfield 134, 3) := by decide +kernel
theorem dX8_clearText_7 : decode cX8_clearText 7 = .ok (.istore_n 1, 1) := by decide +kernel
theorem dX8_clearText_8 : decode cX8_clearText 8 = .ok (.aload_n 0, 1) := by decide +kernel
theorem dX8_clearText_9 : decode cX8_clearText 9 = .ok (.getfield 32, 3) := by decide +kernel
theorem dX8_clearText_12 : decode cX8_clearText 12 = .ok (.iconst 0, 1) := by decide +kernel
theorem dX8_clearText_13 : decode cX8_clearText 13 = .ok (.putfield 134, 3) := by decide +kernel
theorem dX8_clearText_16 : decode cX8_clearText 16 = .ok (.iload_n 1, 1) := by decide +kernel
theorem dX8_clearText_17 : decode cX8_clearText 17 = .ok (.ireturn, 1) := by decide +kernel
set_option maxRecDepth 20000 in
theorem ggX8_undo_X0_takeBack : GoodIn wsX8_undo wsX0_takeBack := goodIn_r _ [7, 8, 9, 10, 11, 12, 13, 14, 15, 16, 17, 18, 19, 20, 21, 22, 23, 24, 25, 26, 27, 28, 29, 30, 31, 32, 33, 34, 35, 36, 37, 38, 39, 40, 41, 42, 43, 44, 45, 46, 47, 48, 49, 58, 59, 60, 61, 62, 63, 64, 65, 66, 67, 68, 69, 70, 71, 72, 73, 74] (by decide +kernel) (by decide +kernel)
set_option maxRecDepth 20000 in
theorem gX8_undo_X0_takeBack : GoodIn wsX8_undo (wsV RX8 137 RX0 yX0_takeBack wsX0_takeBack) := goodIn_app (goodIn_of _ (by decide +kernel)) ggX8_undo_X0_takeBack
theorem dX8_undo_0 : decode cX8_undo 0 = .ok (.aload_n 0, 1) := by decide +kernel
theorem dX8_undo_1 : decode cX8_undo 1 = .ok (.getfield 25, 3) := by decide +kernel
theorem dX8_undo_4 : decode cX8_undo 4 = .ok (.aload_n 0, 1) := by decide +kernel
theorem dX8_undo_5 : decode cX8_undo 5 = .ok (.getfield 12, 3) := by decide +kernel
theorem dX8_undo_8 : decode cX8_undo 8 = .ok (.invokevirtual 137, 3) := by decide +kernel
theorem dX8_undo_11 : decode cX8_undo 11 = .ok (.ifCond .eq 13, 3) := by decide +kernel
theorem dX8_undo_14 : decode cX8_undo 14 = .ok (.aload_n 0, 1) := by decide +kernel
theorem dX8_undo_15 : decode cX8_undo 15 = .ok (.getfield 25, 3) := by decide +kernel
theorem dX8_undo_18 : decode cX8_undo 18 = .ok (.getfield 141, 3) := by decide +kernel
theorem dX8_undo_21 : decode cX8_undo 21 = .ok (.goto 5, 3) := by decide +kernel
theorem dX8_undo_24 : decode cX8_undo 24 = .ok (.bipush (-5), 2) := by decide +kernel
theorem dX8_undo_26 : decode cX8_undo 26 = .ok (.ireturn, 1) := by decide +kernel
set_option maxRecDepth 20000 in
theorem ggX8_keep_X4_copyFrom : GoodIn wsX8_keep wsX4_copyFrom := goodIn_r _ [8, 9, 10, 11, 12, 13, 14, 15, 16, 17, 18, 19, 20, 21, 22, 23, 24, 25, 26, 27, 28, 29, 30, 31, 32, 33, 34, 35, 36, 37, 38, 39, 40, 41, 42, 43, 52, 53, 54, 55, 56, 57, 58, 61, 62, 59, 60, 63, 64, 65, 66] (by decide +kernel) (by decide +kernel)
set_option maxRecDepth 20000 in
theorem gX8_keep_X4_copyFrom : GoodIn wsX8_keep (wsV RX8 142 RX4 yX4_copyFrom wsX4_copyFrom) := goodIn_app (goodIn_of _ (by decide +kernel)) ggX8_keep_X4_copyFrom
theorem dX8_keep_0 : decode cX8_keep 0 = .ok (.aload_n 0, 1) := by decide +kernel
theorem dX8_keep_1 : decode cX8_keep 1 = .ok (.getfield 16, 3) := by decide +kernel
theorem dX8_keep_4 : decode cX8_keep 4 = .ok (.aload_n 0, 1) := by decide +kernel
theorem dX8_keep_5 : decode cX8_keep 5 = .ok (.getfield 12, 3) := by decide +kernel
theorem dX8_keep_8 : decode cX8_keep 8 = .ok (.invokevirtual 142, 3) := by decide +kernel
theorem dX8_keep_11 : decode cX8_keep 11 = .ok (.aload_n 0, 1) := by decide +kernel
theorem dX8_keep_12 : decode cX8_keep 12 = .ok (.iconst 1, 1) := by decide +kernel
theorem dX8_keep_13 : decode cX8_keep 13 = .ok (.putfield 50, 3) := by decide +kernel
theorem dX8_keep_16 : decode cX8_keep 16 = .ok (.aload_n 0, 1) := by decide +kernel
theorem dX8_keep_17 : decode cX8_keep 17 = .ok (.getfield 12, 3) := by decide +kernel
theorem dX8_keep_20 : decode cX8_keep 20 = .ok (.getfield 92, 3) := by decide +kernel
theorem dX8_keep_23 : decode cX8_keep 23 = .ok (.getfield 106, 3) := by decide +kernel
theorem dX8_keep_26 : decode cX8_keep 26 = .ok (.ireturn, 1) := by decide +kernel
set_option maxRecDepth 20000 in
theorem ggX8_restore_X0_remember : GoodIn wsX8_restore wsX0_remember := goodIn_r _ [9, 10, 11, 12, 13, 14, 8, 15, 16, 17, 18, 19, 20, 21, 22, 23, 24, 25, 26, 27, 28, 29, 30, 31, 32, 33, 34, 35, 36, 37, 38, 39, 40, 41, 42, 43, 44, 45, 46, 47, 48, 49, 50, 51, 52, 53, 54, 55, 74, 75, 65, 66, 67, 68, 69, 70, 71, 76, 77, 72, 73, 78, 79, 80, 81] (by decide +kernel) (by decide +kernel)
set_option maxRecDepth 20000 in
theorem gX8_restore_X0_remember : GoodIn wsX8_restore (wsV RX8 58 RX0 yX0_remember wsX0_remember) := goodIn_app (goodIn_of _ (by decide +kernel)) ggX8_restore_X0_remember
set_option maxRecDepth 20000 in
theorem ggX8_restore_X4_copyFrom : GoodIn wsX8_restore wsX4_copyFrom := goodIn_r _ [20, 21, 22, 23, 24, 25, 26, 27, 28, 29, 30, 31, 32, 33, 34, 35, 36, 37, 38, 39, 40, 41, 42, 43, 44, 45, 46, 47, 48, 49, 50, 51, 52, 53, 54, 55, 65, 66, 67, 68, 69, 70, 71, 76, 77, 72, 73, 78, 79, 80, 81] (by decide +kernel) (by decide +kernel)
set_option maxRecDepth 20000 in
theorem gX8_restore_X4_copyFrom : GoodIn wsX8_restore (wsV RX8 142 RX4 yX4_copyFrom wsX4_copyFrom) := goodIn_app (goodIn_of _ (by decide +kernel)) ggX8_restore_X4_copyFrom
theorem dX8_restore_0 : decode cX8_restore 0 = .ok (.aload_n 0, 1) := by decide +kernel
theorem dX8_restore_1 : decode cX8_restore 1 = .ok (.getfield 50, 3) := by decide +kernel
theorem dX8_restore_4 : decode cX8_restore 4 = .ok (.ifCond .ne 6, 3) := by decide +kernel
theorem dX8_restore_7 : decode cX8_restore 7 = .ok (.bipush (-5), 2) := by decide +kernel
theorem dX8_restore_9 : decode cX8_restore 9 = .ok (.ireturn, 1) := by decide +kernel
theorem dX8_restore_10 : decode cX8_restore 10 = .ok (.aload_n 0, 1) := by decide +kernel
theorem dX8_restore_11 : decode cX8_restore 11 = .ok (.getfield 25, 3) := by decide +kernel
theorem dX8_restore_14 : decode cX8_restore 14 = .ok (.aload_n 0, 1) := by decide +kernel
theorem dX8_restore_15 : decode cX8_restore 15 = .ok (.getfield 12, 3) := by decide +kernel
theorem dX8_restore_18 : decode cX8_restore 18 = .ok (.invokevirtual 58, 3) := by decide +kernel
theorem dX8_restore_21 : decode cX8_restore 21 = .ok (.aload_n 0, 1) := by decide +kernel
theorem dX8_restore_22 : decode cX8_restore 22 = .ok (.getfield 12, 3) := by decide +kernel
theorem dX8_restore_25 : decode cX8_restore 25 = .ok (.aload_n 0, 1) := by decide +kernel
theorem dX8_restore_26 : decode cX8_restore 26 = .ok (.getfield 16, 3) := by decide +kernel
theorem dX8_restore_29 : decode cX8_restore 29 = .ok (.invokevirtual 142, 3) := by decide +kernel
theorem dX8_restore_32 : decode cX8_restore 32 = .ok (.aload_n 0, 1) := by decide +kernel
theorem dX8_restore_33 : decode cX8_restore 33 = .ok (.getfield 12, 3) := by decide +kernel
theorem dX8_restore_36 : decode cX8_restore 36 = .ok (.getfield 92, 3) := by decide +kernel
theorem dX8_restore_39 : decode cX8_restore 39 = .ok (.getfield 106, 3) := by decide +kernel
theorem dX8_restore_42 : decode cX8_restore 42 = .ok (.ireturn, 1) := by decide +kernel
set_option maxRecDepth 20000 in
theorem ggX8_letter_X8_isLetter : GoodIn wsX8_letter wsX8_isLetter := goodIn_r _ [4] (by decide +kernel) (by decide +kernel)
set_option maxRecDepth 20000 in
theorem gX8_letter_X8_isLetter : GoodIn wsX8_letter (va_wsS RX8 144 yX8_isLetter wsX8_isLetter) := goodIn_app (goodIn_of _ (by decide +kernel)) ggX8_letter_X8_isLetter
set_option maxRecDepth 20000 in
theorem ggX8_letter_X8_letterNumber : GoodIn wsX8_letter wsX8_letterNumber := goodIn_r _ [7] (by decide +kernel) (by decide +kernel)
set_option maxRecDepth 20000 in
theorem gX8_letter_X8_letterNumber : GoodIn wsX8_letter (va_wsS RX8 147 yX8_letterNumber wsX8_letterNumber) := goodIn_app (goodIn_of _ (by decide +kernel)) ggX8_letter_X8_letterNumber
set_option maxRecDepth 20000 in
theorem ggX8_letter_X8_toldOfPart : GoodIn wsX8_letter wsX8_toldOfPart := goodIn_r _ [11, 12, 13, 14, 15, 16, 17, 18, 19, 3, 20, 21, 22, 23, 24, 25, 26, 27, 28, 29, 30, 31, 32, 33, 34, 35, 36, 37, 38, 39, 40, 41, 42, 43, 44, 45, 46, 47, 48, 49, 50, 51, 52, 53, 54, 55, 56, 57, 58, 59, 60, 61, 62, 63, 64, 65, 66, 67, 68, 69, 70, 71, 72] (by decide +kernel) (by decide +kernel)
set_option maxRecDepth 20000 in
theorem gX8_letter_X8_toldOfPart : GoodIn wsX8_letter (wsV RX8 151 RX8 yX8_toldOfPart wsX8_toldOfPart) := goodIn_app (goodIn_of _ (by decide +kernel)) ggX8_letter_X8_toldOfPart
theorem dX8_letter_0 : decode cX8_letter 0 = .ok (.iload_n 1, 1) := by decide +kernel
theorem dX8_letter_1 : decode cX8_letter 1 = .ok (.invokestatic 144, 3) := by decide +kernel
theorem dX8_letter_4 : decode cX8_letter 4 = .ok (.ifCond .ne 5, 3) := by decide +kernel
theorem dX8_letter_7 : decode cX8_letter 7 = .ok (.iconst (-1), 1) := by decide +kernel
theorem dX8_letter_8 : decode cX8_letter 8 = .ok (.ireturn, 1) := by decide +kernel
theorem dX8_letter_9 : decode cX8_letter 9 = .ok (.aload_n 0, 1) := by decide +kernel
theorem dX8_letter_10 : decode cX8_letter 10 = .ok (.iload_n 1, 1) := by decide +kernel
theorem dX8_letter_11 : decode cX8_letter 11 = .ok (.invokestatic 147, 3) := by decide +kernel
theorem dX8_letter_14 : decode cX8_letter 14 = .ok (.iload_n 2, 1) := by decide +kernel
theorem dX8_letter_15 : decode cX8_letter 15 = .ok (.invokevirtual 151, 3) := by decide +kernel
theorem dX8_letter_18 : decode cX8_letter 18 = .ok (.ireturn, 1) := by decide +kernel
set_option maxRecDepth 20000 in
theorem ggX8_join_X8_isLetter : GoodIn wsX8_join wsX8_isLetter := goodIn_r _ [4] (by decide +kernel) (by decide +kernel)
set_option maxRecDepth 20000 in
theorem gX8_join_X8_isLetter : GoodIn wsX8_join (va_wsS RX8 144 yX8_isLetter wsX8_isLetter) := goodIn_app (goodIn_of _ (by decide +kernel)) ggX8_join_X8_isLetter
set_option maxRecDepth 20000 in
theorem ggX8_join_X8_letterNumber : GoodIn wsX8_join wsX8_letterNumber := goodIn_r _ [7] (by decide +kernel) (by decide +kernel)
set_option maxRecDepth 20000 in
theorem gX8_join_X8_letterNumber : GoodIn wsX8_join (va_wsS RX8 147 yX8_letterNumber wsX8_letterNumber) := goodIn_app (goodIn_of _ (by decide +kernel)) ggX8_join_X8_letterNumber
set_option maxRecDepth 20000 in
theorem ggX8_join_X8_joinPart : GoodIn wsX8_join wsX8_joinPart := goodIn_r _ [10] (by decide +kernel) (by decide +kernel)
set_option maxRecDepth 20000 in
theorem gX8_join_X8_joinPart : GoodIn wsX8_join (va_wsS RX8 155 yX8_joinPart wsX8_joinPart) := goodIn_app (goodIn_of _ (by decide +kernel)) ggX8_join_X8_joinPart
set_option maxRecDepth 20000 in
theorem ggX8_join_X8_toldOfPart : GoodIn wsX8_join wsX8_toldOfPart := goodIn_r _ [14, 15, 16, 17, 18, 19, 20, 21, 22, 3, 23, 24, 25, 26, 27, 28, 29, 30, 31, 32, 33, 34, 35, 36, 37, 38, 39, 40, 41, 42, 43, 44, 45, 46, 47, 48, 49, 50, 51, 52, 53, 54, 55, 56, 57, 58, 59, 60, 61, 62, 63, 64, 65, 66, 67, 68, 69, 70, 71, 72, 73, 74, 75] (by decide +kernel) (by decide +kernel)
set_option maxRecDepth 20000 in
theorem gX8_join_X8_toldOfPart : GoodIn wsX8_join (wsV RX8 151 RX8 yX8_toldOfPart wsX8_toldOfPart) := goodIn_app (goodIn_of _ (by decide +kernel)) ggX8_join_X8_toldOfPart
theorem dX8_join_0 : decode cX8_join 0 = .ok (.iload_n 1, 1) := by decide +kernel
theorem dX8_join_1 : decode cX8_join 1 = .ok (.invokestatic 144, 3) := by decide +kernel
theorem dX8_join_4 : decode cX8_join 4 = .ok (.ifCond .eq 10, 3) := by decide +kernel
theorem dX8_join_7 : decode cX8_join 7 = .ok (.iload_n 2, 1) := by decide +kernel
theorem dX8_join_8 : decode cX8_join 8 = .ok (.invokestatic 144, 3) := by decide +kernel
theorem dX8_join_11 : decode cX8_join 11 = .ok (.ifCond .ne 5, 3) := by decide +kernel
theorem dX8_join_14 : decode cX8_join 14 = .ok (.iconst (-1), 1) := by decide +kernel
theorem dX8_join_15 : decode cX8_join 15 = .ok (.ireturn, 1) := by decide +kernel
theorem dX8_join_16 : decode cX8_join 16 = .ok (.aload_n 0, 1) := by decide +kernel
theorem dX8_join_17 : decode cX8_join 17 = .ok (.iload_n 1, 1) := by decide +kernel
theorem dX8_join_18 : decode cX8_join 18 = .ok (.invokestatic 147, 3) := by decide +kernel
theorem dX8_join_21 : decode cX8_join 21 = .ok (.iload_n 2, 1) := by decide +kernel
theorem dX8_join_22 : decode cX8_join 22 = .ok (.invokestatic 147, 3) := by decide +kernel
theorem dX8_join_25 : decode cX8_join 25 = .ok (.invokestatic 155, 3) := by decide +kernel
theorem dX8_join_28 : decode cX8_join 28 = .ok (.iload_n 3, 1) := by decide +kernel
theorem dX8_join_29 : decode cX8_join 29 = .ok (.invokevirtual 151, 3) := by decide +kernel
theorem dX8_join_32 : decode cX8_join 32 = .ok (.ireturn, 1) := by decide +kernel
set_option maxRecDepth 20000 in
theorem ggX8_word_X7_at : GoodIn wsX8_word wsX7_at := goodIn_r _ [7, 8, 9, 77, 78] (by decide +kernel) (by decide +kernel)
set_option maxRecDepth 20000 in
theorem gX8_word_X7_at : GoodIn wsX8_word (wsV RX8 109 RX7 yX7_at wsX7_at) := goodIn_app (goodIn_of _ (by decide +kernel)) ggX8_word_X7_at
set_option maxRecDepth 20000 in
theorem ggX8_word_X1_needOfAll : GoodIn wsX8_word wsX1_needOfAll := goodIn_r _ [14, 15, 16, 17, 13, 18, 19, 20, 21, 22, 23, 24, 25, 26, 27, 28, 29, 30, 31, 32, 33, 34, 35, 73, 74, 75, 76, 79, 80] (by decide +kernel) (by decide +kernel)
set_option maxRecDepth 20000 in
theorem gX8_word_X1_needOfAll : GoodIn wsX8_word (wsV RX8 161 RX1 yX1_needOfAll wsX1_needOfAll) := goodIn_app (goodIn_of _ (by decide +kernel)) ggX8_word_X1_needOfAll
set_option maxRecDepth 20000 in
theorem ggX8_word_X1_untriedOf : GoodIn wsX8_word wsX1_untriedOf := goodIn_r _ [39, 40, 41, 42, 13, 43, 31, 32, 33, 34, 35, 28, 29, 30, 73, 74, 75, 76, 79, 80] (by decide +kernel) (by decide +kernel)
set_option maxRecDepth 20000 in
theorem gX8_word_X1_untriedOf : GoodIn wsX8_word (wsV RX8 168 RX1 yX1_untriedOf wsX1_untriedOf) := goodIn_app (goodIn_of _ (by decide +kernel)) ggX8_word_X1_untriedOf
set_option maxRecDepth 20000 in
theorem ggX8_word_X3_clear : GoodIn wsX8_word wsX3_clear := goodIn_r _ [48, 49, 50, 51, 81, 82, 83, 84, 85] (by decide +kernel) (by decide +kernel)
set_option maxRecDepth 20000 in
theorem gX8_word_X3_clear : GoodIn wsX8_word (wsV RX8 171 RX3 yX3_clear wsX3_clear) := goodIn_app (goodIn_of _ (by decide +kernel)) ggX8_word_X3_clear
set_option maxRecDepth 20000 in
theorem ggX8_word_X3_gainOf : GoodIn wsX8_word wsX3_gainOf := goodIn_r _ [55, 49, 56, 41, 42, 13, 43, 31, 32, 33, 34, 35, 28, 29, 30, 57, 16, 17, 18, 19, 20, 21, 22, 23, 24, 25, 26, 27, 73, 74, 75, 76, 66, 67, 68, 69, 70, 71, 72, 81, 82, 83, 84, 85, 79, 80] (by decide +kernel) (by decide +kernel)
set_option maxRecDepth 20000 in
theorem gX8_word_X3_gainOf : GoodIn wsX8_word (wsV RX8 174 RX3 yX3_gainOf wsX3_gainOf) := goodIn_app (goodIn_of _ (by decide +kernel)) ggX8_word_X3_gainOf
theorem dX8_word_0 : decode cX8_word 0 = .ok (.aload_n 0, 1) := by decide +kernel
theorem dX8_word_1 : decode cX8_word 1 = .ok (.getfield 12, 3) := by decide +kernel
theorem dX8_word_4 : decode cX8_word 4 = .ok (.getfield 92, 3) := by decide +kernel
theorem dX8_word_7 : decode cX8_word 7 = .ok (.iload_n 1, 1) := by decide +kernel
theorem dX8_word_8 : decode cX8_word 8 = .ok (.invokevirtual 109, 3) := by decide +kernel
theorem dX8_word_11 : decode cX8_word 11 = .ok (.astore_n 3, 1) := by decide +kernel
theorem dX8_word_12 : decode cX8_word 12 = .ok (.aload_n 3, 1) := by decide +kernel
theorem dX8_word_13 : decode cX8_word 13 = .ok (.ifnonnull 5, 3) := by decide +kernel
theorem dX8_word_16 : decode cX8_word 16 = .ok (.iconst (-1), 1) := by decide +kernel
theorem dX8_word_17 : decode cX8_word 17 = .ok (.ireturn, 1) := by decide +kernel
theorem dX8_word_18 : decode cX8_word 18 = .ok (.iload_n 2, 1) := by decide +kernel
theorem dX8_word_19 : decode cX8_word 19 = .ok (.tableswitch 87 0 4 #[33, 38, 50, 55, 67], 33) := by decide +kernel
theorem dX8_word_52 : decode cX8_word 52 = .ok (.aload_n 3, 1) := by decide +kernel
theorem dX8_word_53 : decode cX8_word 53 = .ok (.getfield 158, 3) := by decide +kernel
theorem dX8_word_56 : decode cX8_word 56 = .ok (.ireturn, 1) := by decide +kernel
theorem dX8_word_57 : decode cX8_word 57 = .ok (.aload_n 0, 1) := by decide +kernel
theorem dX8_word_58 : decode cX8_word 58 = .ok (.getfield 12, 3) := by decide +kernel
theorem dX8_word_61 : decode cX8_word 61 = .ok (.getfield 62, 3) := by decide +kernel
theorem dX8_word_64 : decode cX8_word 64 = .ok (.aload_n 3, 1) := by decide +kernel
theorem dX8_word_65 : decode cX8_word 65 = .ok (.invokevirtual 161, 3) := by decide +kernel
theorem dX8_word_68 : decode cX8_word 68 = .ok (.ireturn, 1) := by decide +kernel
theorem dX8_word_69 : decode cX8_word 69 = .ok (.aload_n 3, 1) := by decide +kernel
theorem dX8_word_70 : decode cX8_word 70 = .ok (.getfield 165, 3) := by decide +kernel
theorem dX8_word_73 : decode cX8_word 73 = .ok (.ireturn, 1) := by decide +kernel
theorem dX8_word_74 : decode cX8_word 74 = .ok (.aload_n 0, 1) := by decide +kernel
theorem dX8_word_75 : decode cX8_word 75 = .ok (.getfield 12, 3) := by decide +kernel
theorem dX8_word_78 : decode cX8_word 78 = .ok (.getfield 62, 3) := by decide +kernel
theorem dX8_word_81 : decode cX8_word 81 = .ok (.aload_n 3, 1) := by decide +kernel
theorem dX8_word_82 : decode cX8_word 82 = .ok (.invokevirtual 168, 3) := by decide +kernel
theorem dX8_word_85 : decode cX8_word 85 = .ok (.ireturn, 1) := by decide +kernel
theorem dX8_word_86 : decode cX8_word 86 = .ok (.aload_n 0, 1) := by decide +kernel
theorem dX8_word_87 : decode cX8_word 87 = .ok (.getfield 39, 3) := by decide +kernel
theorem dX8_word_90 : decode cX8_word 90 = .ok (.invokevirtual 171, 3) := by decide +kernel
theorem dX8_word_93 : decode cX8_word 93 = .ok (.aload_n 0, 1) := by decide +kernel
theorem dX8_word_94 : decode cX8_word 94 = .ok (.getfield 39, 3) := by decide +kernel
theorem dX8_word_97 : decode cX8_word 97 = .ok (.aload_n 3, 1) := by decide +kernel
theorem dX8_word_98 : decode cX8_word 98 = .ok (.aload_n 0, 1) := by decide +kernel
theorem dX8_word_99 : decode cX8_word 99 = .ok (.getfield 12, 3) := by decide +kernel
theorem dX8_word_102 : decode cX8_word 102 = .ok (.invokevirtual 174, 3) := by decide +kernel
theorem dX8_word_105 : decode cX8_word 105 = .ok (.ireturn, 1) := by decide +kernel
theorem dX8_word_106 : decode cX8_word 106 = .ok (.bipush (-2), 2) := by decide +kernel
theorem dX8_word_108 : decode cX8_word 108 = .ok (.ireturn, 1) := by decide +kernel
set_option maxRecDepth 20000 in
theorem ggX8_letterOf_X7_at : GoodIn wsX8_letterOf wsX7_at := goodIn_r _ [6, 7, 8, 28, 29] (by decide +kernel) (by decide +kernel)
set_option maxRecDepth 20000 in
theorem gX8_letterOf_X7_at : GoodIn wsX8_letterOf (wsV RX8 109 RX7 yX7_at wsX7_at) := goodIn_app (goodIn_of _ (by decide +kernel)) ggX8_letterOf_X7_at
theorem dX8_letterOf_0 : decode cX8_letterOf 0 = .ok (.aload_n 0, 1) := by decide +kernel
theorem dX8_letterOf_1 : decode cX8_letterOf 1 = .ok (.getfield 12, 3) := by decide +kernel
theorem dX8_letterOf_4 : decode cX8_letterOf 4 = .ok (.getfield 92, 3) := by decide +kernel
theorem dX8_letterOf_7 : decode cX8_letterOf 7 = .ok (.iload_n 1, 1) := by decide +kernel
theorem dX8_letterOf_8 : decode cX8_letterOf 8 = .ok (.invokevirtual 109, 3) := by decide +kernel
theorem dX8_letterOf_11 : decode cX8_letterOf 11 = .ok (.astore_n 3, 1) := by decide +kernel
theorem dX8_letterOf_12 : decode cX8_letterOf 12 = .ok (.aload_n 3, 1) := by decide +kernel
theorem dX8_letterOf_13 : decode cX8_letterOf 13 = .ok (.ifnonnull 5, 3) := by decide +kernel
theorem dX8_letterOf_16 : decode cX8_letterOf 16 = .ok (.iconst (-1), 1) := by decide +kernel
theorem dX8_letterOf_17 : decode cX8_letterOf 17 = .ok (.ireturn, 1) := by decide +kernel
theorem dX8_letterOf_18 : decode cX8_letterOf 18 = .ok (.iload_n 2, 1) := by decide +kernel
theorem dX8_letterOf_19 : decode cX8_letterOf 19 = .ok (.ifCond .ge 6, 3) := by decide +kernel
theorem dX8_letterOf_22 : decode cX8_letterOf 22 = .ok (.bipush (-2), 2) := by decide +kernel
theorem dX8_letterOf_24 : decode cX8_letterOf 24 = .ok (.ireturn, 1) := by decide +kernel
theorem dX8_letterOf_25 : decode cX8_letterOf 25 = .ok (.iload_n 2, 1) := by decide +kernel
theorem dX8_letterOf_26 : decode cX8_letterOf 26 = .ok (.aload_n 3, 1) := by decide +kernel
theorem dX8_letterOf_27 : decode cX8_letterOf 27 = .ok (.getfield 158, 3) := by decide +kernel
theorem dX8_letterOf_30 : decode cX8_letterOf 30 = .ok (.if_icmp .ge 12, 3) := by decide +kernel
theorem dX8_letterOf_33 : decode cX8_letterOf 33 = .ok (.aload_n 3, 1) := by decide +kernel
theorem dX8_letterOf_34 : decode cX8_letterOf 34 = .ok (.getfield 178, 3) := by decide +kernel
theorem dX8_letterOf_37 : decode cX8_letterOf 37 = .ok (.iload_n 2, 1) := by decide +kernel
theorem dX8_letterOf_38 : decode cX8_letterOf 38 = .ok (.iaload, 1) := by decide +kernel
theorem dX8_letterOf_39 : decode cX8_letterOf 39 = .ok (.goto 5, 3) := by decide +kernel
theorem dX8_letterOf_42 : decode cX8_letterOf 42 = .ok (.bipush (-5), 2) := by decide +kernel
theorem dX8_letterOf_44 : decode cX8_letterOf 44 = .ok (.ireturn, 1) := by decide +kernel
set_option maxRecDepth 20000 in
theorem ggX8_sheet_X8_areLines : GoodIn wsX8_sheet wsX8_areLines := goodIn_r _ [6] (by decide +kernel) (by decide +kernel)
set_option maxRecDepth 20000 in
theorem gX8_sheet_X8_areLines : GoodIn wsX8_sheet (va_wsS RX8 117 yX8_areLines wsX8_areLines) := goodIn_app (goodIn_of _ (by decide +kernel)) ggX8_sheet_X8_areLines
set_option maxRecDepth 20000 in
theorem ggX8_sheet_X3_choose : GoodIn wsX8_sheet wsX3_choose := goodIn_r _ [11, 12, 13, 14, 10, 15, 16, 17, 18, 19, 20, 21, 22, 23, 24, 25, 26, 27, 28, 29, 30, 31, 32, 33, 34, 35, 36, 37, 5, 38, 39, 40, 41, 42, 43, 44, 45, 46, 47, 48, 49, 50, 51, 52, 53, 54, 55, 56, 57, 66, 67, 68, 69, 70, 71, 72, 73, 74, 75, 76, 77, 78, 79, 80, 81, 82, 83, 84, 85] (by decide +kernel) (by decide +kernel)
set_option maxRecDepth 20000 in
theorem gX8_sheet_X3_choose : GoodIn wsX8_sheet (wsV RX8 121 RX3 yX3_choose wsX3_choose) := goodIn_app (goodIn_of _ (by decide +kernel)) ggX8_sheet_X3_choose
theorem dX8_sheet_0 : decode cX8_sheet 0 = .ok (.iload_n 1, 1) := by decide +kernel
theorem dX8_sheet_1 : decode cX8_sheet 1 = .ok (.invokestatic 117, 3) := by decide +kernel
theorem dX8_sheet_4 : decode cX8_sheet 4 = .ok (.ifCond .eq 16, 3) := by decide +kernel
theorem dX8_sheet_7 : decode cX8_sheet 7 = .ok (.iload_n 2, 1) := by decide +kernel
theorem dX8_sheet_8 : decode cX8_sheet 8 = .ok (.ifCond .lt 12, 3) := by decide +kernel
theorem dX8_sheet_11 : decode cX8_sheet 11 = .ok (.iload_n 3, 1) := by decide +kernel
theorem dX8_sheet_12 : decode cX8_sheet 12 = .ok (.ifCond .lt 8, 3) := by decide +kernel
theorem dX8_sheet_15 : decode cX8_sheet 15 = .ok (.iload_n 3, 1) := by decide +kernel
theorem dX8_sheet_16 : decode cX8_sheet 16 = .ok (.iconst 1, 1) := by decide +kernel
theorem dX8_sheet_17 : decode cX8_sheet 17 = .ok (.if_icmp .le 6, 3) := by decide +kernel
theorem dX8_sheet_20 : decode cX8_sheet 20 = .ok (.bipush (-2), 2) := by decide +kernel
theorem dX8_sheet_22 : decode cX8_sheet 22 = .ok (.ireturn, 1) := by decide +kernel
theorem dX8_sheet_23 : decode cX8_sheet 23 = .ok (.aload_n 0, 1) := by decide +kernel
theorem dX8_sheet_24 : decode cX8_sheet 24 = .ok (.getfield 39, 3) := by decide +kernel
theorem dX8_sheet_27 : decode cX8_sheet 27 = .ok (.aload_n 0, 1) := by decide +kernel
theorem dX8_sheet_28 : decode cX8_sheet 28 = .ok (.getfield 12, 3) := by decide +kernel
theorem dX8_sheet_31 : decode cX8_sheet 31 = .ok (.iload_n 1, 1) := by decide +kernel
theorem dX8_sheet_32 : decode cX8_sheet 32 = .ok (.invokevirtual 121, 3) := by decide +kernel
theorem dX8_sheet_35 : decode cX8_sheet 35 = .ok (.iload_n 2, 1) := by decide +kernel
theorem dX8_sheet_36 : decode cX8_sheet 36 = .ok (.aload_n 0, 1) := by decide +kernel
theorem dX8_sheet_37 : decode cX8_sheet 37 = .ok (.getfield 39, 3) := by decide +kernel
theorem dX8_sheet_40 : decode cX8_sheet 40 = .ok (.getfield 125, 3) := by decide +kernel
theorem dX8_sheet_43 : decode cX8_sheet 43 = .ok (.if_icmp .lt 6, 3) := by decide +kernel
theorem dX8_sheet_46 : decode cX8_sheet 46 = .ok (.bipush (-5), 2) := by decide +kernel
theorem dX8_sheet_48 : decode cX8_sheet 48 = .ok (.ireturn, 1) := by decide +kernel
theorem dX8_sheet_49 : decode cX8_sheet 49 = .ok (.iload_n 3, 1) := by decide +kernel
theorem dX8_sheet_50 : decode cX8_sheet 50 = .ok (.ifCond .ne 15, 3) := by decide +kernel
theorem dX8_sheet_53 : decode cX8_sheet 53 = .ok (.aload_n 0, 1) := by decide +kernel
theorem dX8_sheet_54 : decode cX8_sheet 54 = .ok (.getfield 39, 3) := by decide +kernel
theorem dX8_sheet_57 : decode cX8_sheet 57 = .ok (.getfield 182, 3) := by decide +kernel
theorem dX8_sheet_60 : decode cX8_sheet 60 = .ok (.iload_n 2, 1) := by decide +kernel
theorem dX8_sheet_61 : decode cX8_sheet 61 = .ok (.iaload, 1) := by decide +kernel
theorem dX8_sheet_62 : decode cX8_sheet 62 = .ok (.goto 12, 3) := by decide +kernel
theorem dX8_sheet_65 : decode cX8_sheet 65 = .ok (.aload_n 0, 1) := by decide +kernel
theorem dX8_sheet_66 : decode cX8_sheet 66 = .ok (.getfield 39, 3) := by decide +kernel
theorem dX8_sheet_69 : decode cX8_sheet 69 = .ok (.getfield 184, 3) := by decide +kernel
theorem dX8_sheet_72 : decode cX8_sheet 72 = .ok (.iload_n 2, 1) := by decide +kernel
theorem dX8_sheet_73 : decode cX8_sheet 73 = .ok (.iaload, 1) := by decide +kernel
theorem dX8_sheet_74 : decode cX8_sheet 74 = .ok (.ireturn, 1) := by decide +kernel
set_option maxRecDepth 20000 in
theorem ggX8_covers_X8_areLines : GoodIn wsX8_covers wsX8_areLines := goodIn_r _ [6] (by decide +kernel) (by decide +kernel)
set_option maxRecDepth 20000 in
theorem gX8_covers_X8_areLines : GoodIn wsX8_covers (va_wsS RX8 117 yX8_areLines wsX8_areLines) := goodIn_app (goodIn_of _ (by decide +kernel)) ggX8_covers_X8_areLines
set_option maxRecDepth 20000 in
theorem ggX8_covers_X3_choose : GoodIn wsX8_covers wsX3_choose := goodIn_r _ [11, 12, 13, 14, 10, 15, 16, 17, 18, 19, 20, 21, 22, 23, 24, 25, 26, 27, 28, 29, 30, 31, 32, 33, 34, 35, 36, 37, 5, 38, 39, 40, 41, 42, 43, 44, 45, 46, 47, 48, 49, 50, 51, 52, 53, 54, 55, 56, 57, 78, 79, 80, 81, 82, 83, 84, 85, 86, 87, 88, 89, 90, 91, 92, 93, 94, 95, 96, 97] (by decide +kernel) (by decide +kernel)
set_option maxRecDepth 20000 in
theorem gX8_covers_X3_choose : GoodIn wsX8_covers (wsV RX8 121 RX3 yX3_choose wsX3_choose) := goodIn_app (goodIn_of _ (by decide +kernel)) ggX8_covers_X3_choose
set_option maxRecDepth 20000 in
theorem ggX8_covers_X3_coveredFrom : GoodIn wsX8_covers wsX3_coveredFrom := goodIn_r _ [61, 16, 78, 79, 80, 81, 82] (by decide +kernel) (by decide +kernel)
set_option maxRecDepth 20000 in
theorem gX8_covers_X3_coveredFrom : GoodIn wsX8_covers (wsV RX8 187 RX3 yX3_coveredFrom wsX3_coveredFrom) := goodIn_app (goodIn_of _ (by decide +kernel)) ggX8_covers_X3_coveredFrom
set_option maxRecDepth 20000 in
theorem ggX8_covers_X3_needCovered : GoodIn wsX8_covers wsX3_needCovered := goodIn_r _ [65, 16, 39, 40, 41, 30, 42, 43, 44, 45, 46, 47, 48, 49, 50, 51, 37, 5, 38, 32, 33, 34, 35, 36, 78, 79, 80, 81, 82, 96, 97] (by decide +kernel) (by decide +kernel)
set_option maxRecDepth 20000 in
theorem gX8_covers_X3_needCovered : GoodIn wsX8_covers (wsV RX8 190 RX3 yX3_needCovered wsX3_needCovered) := goodIn_app (goodIn_of _ (by decide +kernel)) ggX8_covers_X3_needCovered
set_option maxRecDepth 20000 in
theorem ggX8_covers_X3_sumOfGains : GoodIn wsX8_covers wsX3_sumOfGains := goodIn_r _ [69, 18, 57, 78, 79, 80, 81, 82] (by decide +kernel) (by decide +kernel)
set_option maxRecDepth 20000 in
theorem gX8_covers_X3_sumOfGains : GoodIn wsX8_covers (wsV RX8 193 RX3 yX3_sumOfGains wsX3_sumOfGains) := goodIn_app (goodIn_of _ (by decide +kernel)) ggX8_covers_X3_sumOfGains
theorem dX8_covers_0 : decode cX8_covers 0 = .ok (.iload_n 1, 1) := by decide +kernel
theorem dX8_covers_1 : decode cX8_covers 1 = .ok (.invokestatic 117, 3) := by decide +kernel
theorem dX8_covers_4 : decode cX8_covers 4 = .ok (.ifCond .eq 12, 3) := by decide +kernel
theorem dX8_covers_7 : decode cX8_covers 7 = .ok (.iload_n 2, 1) := by decide +kernel
theorem dX8_covers_8 : decode cX8_covers 8 = .ok (.ifCond .lt 8, 3) := by decide +kernel
theorem dX8_covers_11 : decode cX8_covers 11 = .ok (.iload_n 2, 1) := by decide +kernel
theorem dX8_covers_12 : decode cX8_covers 12 = .ok (.iconst 4, 1) := by decide +kernel
theorem dX8_covers_13 : decode cX8_covers 13 = .ok (.if_icmp .le 6, 3) := by decide +kernel
theorem dX8_covers_16 : decode cX8_covers 16 = .ok (.bipush (-2), 2) := by decide +kernel
theorem dX8_covers_18 : decode cX8_covers 18 = .ok (.ireturn, 1) := by decide +kernel
theorem dX8_covers_19 : decode cX8_covers 19 = .ok (.aload_n 0, 1) := by decide +kernel
theorem dX8_covers_20 : decode cX8_covers 20 = .ok (.getfield 39, 3) := by decide +kernel
theorem dX8_covers_23 : decode cX8_covers 23 = .ok (.aload_n 0, 1) := by decide +kernel
theorem dX8_covers_24 : decode cX8_covers 24 = .ok (.getfield 12, 3) := by decide +kernel
theorem dX8_covers_27 : decode cX8_covers 27 = .ok (.iload_n 1, 1) := by decide +kernel
theorem dX8_covers_28 : decode cX8_covers 28 = .ok (.invokevirtual 121, 3) := by decide +kernel
theorem dX8_covers_31 : decode cX8_covers 31 = .ok (.iload_n 2, 1) := by decide +kernel
theorem dX8_covers_32 : decode cX8_covers 32 = .ok (.tableswitch 79 0 3 #[32, 40, 51, 64], 32) := by decide +kernel
theorem dX8_covers_64 : decode cX8_covers 64 = .ok (.aload_n 0, 1) := by decide +kernel
theorem dX8_covers_65 : decode cX8_covers 65 = .ok (.getfield 39, 3) := by decide +kernel
theorem dX8_covers_68 : decode cX8_covers 68 = .ok (.getfield 125, 3) := by decide +kernel
theorem dX8_covers_71 : decode cX8_covers 71 = .ok (.ireturn, 1) := by decide +kernel
theorem dX8_covers_72 : decode cX8_covers 72 = .ok (.aload_n 0, 1) := by decide +kernel
theorem dX8_covers_73 : decode cX8_covers 73 = .ok (.getfield 39, 3) := by decide +kernel
theorem dX8_covers_76 : decode cX8_covers 76 = .ok (.iconst 0, 1) := by decide +kernel
theorem dX8_covers_77 : decode cX8_covers 77 = .ok (.bipush 26, 2) := by decide +kernel
theorem dX8_covers_79 : decode cX8_covers 79 = .ok (.invokevirtual 187, 3) := by decide +kernel
theorem dX8_covers_82 : decode cX8_covers 82 = .ok (.ireturn, 1) := by decide +kernel
theorem dX8_covers_83 : decode cX8_covers 83 = .ok (.aload_n 0, 1) := by decide +kernel
theorem dX8_covers_84 : decode cX8_covers 84 = .ok (.getfield 39, 3) := by decide +kernel
theorem dX8_covers_87 : decode cX8_covers 87 = .ok (.bipush 26, 2) := by decide +kernel
theorem dX8_covers_89 : decode cX8_covers 89 = .ok (.sipush 702, 3) := by decide +kernel
theorem dX8_covers_92 : decode cX8_covers 92 = .ok (.invokevirtual 187, 3) := by decide +kernel
theorem dX8_covers_95 : decode cX8_covers 95 = .ok (.ireturn, 1) := by decide +kernel
theorem dX8_covers_96 : decode cX8_covers 96 = .ok (.aload_n 0, 1) := by decide +kernel
theorem dX8_covers_97 : decode cX8_covers 97 = .ok (.getfield 39, 3) := by decide +kernel
theorem dX8_covers_100 : decode cX8_covers 100 = .ok (.aload_n 0, 1) := by decide +kernel
theorem dX8_covers_101 : decode cX8_covers 101 = .ok (.getfield 12, 3) := by decide +kernel
theorem dX8_covers_104 : decode cX8_covers 104 = .ok (.getfield 62, 3) := by decide +kernel
theorem dX8_covers_107 : decode cX8_covers 107 = .ok (.invokevirtual 190, 3) := by decide +kernel
theorem dX8_covers_110 : decode cX8_covers 110 = .ok (.ireturn, 1) := by decide +kernel
theorem dX8_covers_111 : decode cX8_covers 111 = .ok (.aload_n 0, 1) := by decide +kernel
theorem dX8_covers_112 : decode cX8_covers 112 = .ok (.getfield 39, 3) := by decide +kernel
theorem dX8_covers_115 : decode cX8_covers 115 = .ok (.invokevirtual 193, 3) := by decide +kernel
theorem dX8_covers_118 : decode cX8_covers 118 = .ok (.ireturn, 1) := by decide +kernel
set_option maxRecDepth 20000 in
theorem ggX8_worst_X8_firstPart : GoodIn wsX8_worst wsX8_firstPart := goodIn_r _ [6] (by decide +kernel) (by decide +kernel)
set_option maxRecDepth 20000 in
theorem gX8_worst_X8_firstPart : GoodIn wsX8_worst (va_wsS RX8 196 yX8_firstPart wsX8_firstPart) := goodIn_app (goodIn_of _ (by decide +kernel)) ggX8_worst_X8_firstPart
set_option maxRecDepth 20000 in
theorem ggX8_worst_X8_endOfParts : GoodIn wsX8_worst wsX8_endOfParts := goodIn_r _ [9] (by decide +kernel) (by decide +kernel)
set_option maxRecDepth 20000 in
theorem gX8_worst_X8_endOfParts : GoodIn wsX8_worst (va_wsS RX8 200 yX8_endOfParts wsX8_endOfParts) := goodIn_app (goodIn_of _ (by decide +kernel)) ggX8_worst_X8_endOfParts
set_option maxRecDepth 20000 in
theorem ggX8_worst_X2_partAt : GoodIn wsX8_worst wsX2_partAt := goodIn_r _ [14, 15, 16, 17, 18, 13, 19, 20, 21, 22, 23, 24, 25, 26, 27, 28, 29, 30, 31, 32, 33, 34, 5, 35, 36, 37, 38, 39, 40, 41, 42, 43, 59, 60, 61] (by decide +kernel) (by decide +kernel)
set_option maxRecDepth 20000 in
theorem gX8_worst_X2_partAt : GoodIn wsX8_worst (wsV RX8 203 RX2 yX2_partAt wsX2_partAt) := goodIn_app (goodIn_of _ (by decide +kernel)) ggX8_worst_X2_partAt
theorem dX8_worst_0 : decode cX8_worst 0 = .ok (.iload_n 2, 1) := by decide +kernel
theorem dX8_worst_1 : decode cX8_worst 1 = .ok (.ifCond .ge 6, 3) := by decide +kernel
theorem dX8_worst_4 : decode cX8_worst 4 = .ok (.bipush (-2), 2) := by decide +kernel
theorem dX8_worst_6 : decode cX8_worst 6 = .ok (.ireturn, 1) := by decide +kernel
theorem dX8_worst_7 : decode cX8_worst 7 = .ok (.iload_n 1, 1) := by decide +kernel
theorem dX8_worst_8 : decode cX8_worst 8 = .ok (.invokestatic 196, 3) := by decide +kernel
theorem dX8_worst_11 : decode cX8_worst 11 = .ok (.istore_n 3, 1) := by decide +kernel
theorem dX8_worst_12 : decode cX8_worst 12 = .ok (.aload_n 0, 1) := by decide +kernel
theorem dX8_worst_13 : decode cX8_worst 13 = .ok (.getfield 46, 3) := by decide +kernel
theorem dX8_worst_16 : decode cX8_worst 16 = .ok (.aload_n 0, 1) := by decide +kernel
theorem dX8_worst_17 : decode cX8_worst 17 = .ok (.getfield 12, 3) := by decide +kernel
theorem dX8_worst_20 : decode cX8_worst 20 = .ok (.getfield 62, 3) := by decide +kernel
theorem dX8_worst_23 : decode cX8_worst 23 = .ok (.iload_n 3, 1) := by decide +kernel
theorem dX8_worst_24 : decode cX8_worst 24 = .ok (.iload_n 1, 1) := by decide +kernel
theorem dX8_worst_25 : decode cX8_worst 25 = .ok (.invokestatic 200, 3) := by decide +kernel
theorem dX8_worst_28 : decode cX8_worst 28 = .ok (.iload_n 2, 1) := by decide +kernel
theorem dX8_worst_29 : decode cX8_worst 29 = .ok (.invokevirtual 203, 3) := by decide +kernel
theorem dX8_worst_32 : decode cX8_worst 32 = .ok (.istore 4, 2) := by decide +kernel
theorem dX8_worst_34 : decode cX8_worst 34 = .ok (.iload 4, 2) := by decide +kernel
theorem dX8_worst_36 : decode cX8_worst 36 = .ok (.bipush (-5), 2) := by decide +kernel
theorem dX8_worst_38 : decode cX8_worst 38 = .ok (.if_icmp .ne 8, 3) := by decide +kernel
theorem dX8_worst_41 : decode cX8_worst 41 = .ok (.bipush (-5), 2) := by decide +kernel
theorem dX8_worst_43 : decode cX8_worst 43 = .ok (.goto 7, 3) := by decide +kernel
theorem dX8_worst_46 : decode cX8_worst 46 = .ok (.iload 4, 2) := by decide +kernel
theorem dX8_worst_48 : decode cX8_worst 48 = .ok (.iload_n 3, 1) := by decide +kernel
theorem dX8_worst_49 : decode cX8_worst 49 = .ok (.isub, 1) := by decide +kernel
theorem dX8_worst_50 : decode cX8_worst 50 = .ok (.ireturn, 1) := by decide +kernel
set_option maxRecDepth 20000 in
theorem ggX8_missing_X8_endOfParts : GoodIn wsX8_missing wsX8_endOfParts := goodIn_r _ [5] (by decide +kernel) (by decide +kernel)
set_option maxRecDepth 20000 in
theorem gX8_missing_X8_endOfParts : GoodIn wsX8_missing (va_wsS RX8 200 yX8_endOfParts wsX8_endOfParts) := goodIn_app (goodIn_of _ (by decide +kernel)) ggX8_missing_X8_endOfParts
set_option maxRecDepth 20000 in
theorem ggX8_missing_X8_firstPart : GoodIn wsX8_missing wsX8_firstPart := goodIn_r _ [8] (by decide +kernel) (by decide +kernel)
set_option maxRecDepth 20000 in
theorem gX8_missing_X8_firstPart : GoodIn wsX8_missing (va_wsS RX8 196 yX8_firstPart wsX8_firstPart) := goodIn_app (goodIn_of _ (by decide +kernel)) ggX8_missing_X8_firstPart
set_option maxRecDepth 20000 in
theorem ggX8_missing_X1_needOf : GoodIn wsX8_missing wsX1_needOf := goodIn_r _ [13, 14, 15, 16, 17, 18, 19, 20, 12, 21, 22, 23, 4, 24, 25, 26, 27, 28, 29, 59, 60] (by decide +kernel) (by decide +kernel)
set_option maxRecDepth 20000 in
theorem gX8_missing_X1_needOf : GoodIn wsX8_missing (wsV RX8 207 RX1 yX1_needOf wsX1_needOf) := goodIn_app (goodIn_of _ (by decide +kernel)) ggX8_missing_X1_needOf
set_option maxRecDepth 20000 in
theorem ggX8_missing_X7_howManyHave : GoodIn wsX8_missing wsX7_howManyHave := goodIn_r _ [34, 35, 36, 37, 38, 39, 40, 41, 42, 43, 61, 62, 63, 64, 65, 66] (by decide +kernel) (by decide +kernel)
set_option maxRecDepth 20000 in
theorem gX8_missing_X7_howManyHave : GoodIn wsX8_missing (wsV RX8 210 RX7 yX7_howManyHave wsX7_howManyHave) := goodIn_app (goodIn_of _ (by decide +kernel)) ggX8_missing_X7_howManyHave
theorem dX8_missing_0 : decode cX8_missing 0 = .ok (.iload_n 1, 1) := by decide +kernel
theorem dX8_missing_1 : decode cX8_missing 1 = .ok (.invokestatic 200, 3) := by decide +kernel
theorem dX8_missing_4 : decode cX8_missing 4 = .ok (.istore_n 2, 1) := by decide +kernel
theorem dX8_missing_5 : decode cX8_missing 5 = .ok (.iconst 0, 1) := by decide +kernel
theorem dX8_missing_6 : decode cX8_missing 6 = .ok (.istore_n 3, 1) := by decide +kernel
theorem dX8_missing_7 : decode cX8_missing 7 = .ok (.iload_n 1, 1) := by decide +kernel
theorem dX8_missing_8 : decode cX8_missing 8 = .ok (.invokestatic 196, 3) := by decide +kernel
theorem dX8_missing_11 : decode cX8_missing 11 = .ok (.istore 4, 2) := by decide +kernel
theorem dX8_missing_13 : decode cX8_missing 13 = .ok (.iload 4, 2) := by decide +kernel
theorem dX8_missing_15 : decode cX8_missing 15 = .ok (.iload_n 2, 1) := by decide +kernel
theorem dX8_missing_16 : decode cX8_missing 16 = .ok (.if_icmp .ge 42, 3) := by decide +kernel
theorem dX8_missing_19 : decode cX8_missing 19 = .ok (.aload_n 0, 1) := by decide +kernel
theorem dX8_missing_20 : decode cX8_missing 20 = .ok (.getfield 12, 3) := by decide +kernel
theorem dX8_missing_23 : decode cX8_missing 23 = .ok (.getfield 62, 3) := by decide +kernel
theorem dX8_missing_26 : decode cX8_missing 26 = .ok (.iload 4, 2) := by decide +kernel
theorem dX8_missing_28 : decode cX8_missing 28 = .ok (.invokevirtual 207, 3) := by decide +kernel
theorem dX8_missing_31 : decode cX8_missing 31 = .ok (.ifCond .le 21, 3) := by decide +kernel
theorem dX8_missing_34 : decode cX8_missing 34 = .ok (.aload_n 0, 1) := by decide +kernel
theorem dX8_missing_35 : decode cX8_missing 35 = .ok (.getfield 12, 3) := by decide +kernel
theorem dX8_missing_38 : decode cX8_missing 38 = .ok (.getfield 92, 3) := by decide +kernel
theorem dX8_missing_41 : decode cX8_missing 41 = .ok (.iload 4, 2) := by decide +kernel
theorem dX8_missing_43 : decode cX8_missing 43 = .ok (.invokevirtual 210, 3) := by decide +kernel
theorem dX8_missing_46 : decode cX8_missing 46 = .ok (.ifCond .ne 6, 3) := by decide +kernel
theorem dX8_missing_49 : decode cX8_missing 49 = .ok (.iinc 3 1, 3) := by decide +kernel
theorem dX8_missing_52 : decode cX8_missing 52 = .ok (.iinc 4 1, 3) := by decide +kernel
theorem dX8_missing_55 : decode cX8_missing 55 = .ok (.goto (-42), 3) := by decide +kernel
theorem dX8_missing_58 : decode cX8_missing 58 = .ok (.iload_n 3, 1) := by decide +kernel
theorem dX8_missing_59 : decode cX8_missing 59 = .ok (.ireturn, 1) := by decide +kernel
set_option maxRecDepth 20000 in
theorem ggX8_sheetsTo_X8_areLines : GoodIn wsX8_sheetsTo wsX8_areLines := goodIn_r _ [7] (by decide +kernel) (by decide +kernel)
set_option maxRecDepth 20000 in
theorem gX8_sheetsTo_X8_areLines : GoodIn wsX8_sheetsTo (va_wsS RX8 117 yX8_areLines wsX8_areLines) := goodIn_app (goodIn_of _ (by decide +kernel)) ggX8_sheetsTo_X8_areLines
set_option maxRecDepth 20000 in
theorem ggX8_sheetsTo_X4_copyFrom : GoodIn wsX8_sheetsTo wsX4_copyFrom := goodIn_r _ [12, 13, 14, 15, 16, 17, 18, 19, 20, 21, 22, 23, 24, 25, 26, 27, 28, 29, 30, 31, 32, 33, 34, 35, 36, 37, 38, 39, 40, 41, 42, 43, 44, 45, 46, 47, 137, 138, 139, 140, 141, 142, 143, 144, 145, 146, 147, 148, 149, 150, 151] (by decide +kernel) (by decide +kernel)
set_option maxRecDepth 20000 in
theorem gX8_sheetsTo_X4_copyFrom : GoodIn wsX8_sheetsTo (wsV RX8 142 RX4 yX4_copyFrom wsX4_copyFrom) := goodIn_app (goodIn_of _ (by decide +kernel)) ggX8_sheetsTo_X4_copyFrom
set_option maxRecDepth 20000 in
theorem ggX8_sheetsTo_X4_greatestNeedOfWords : GoodIn wsX8_sheetsTo wsX4_greatestNeedOfWords := goodIn_r _ [51, 14, 13, 52, 53, 54, 55, 56, 57, 58, 23, 59, 60, 61, 62, 63, 64, 65, 66, 67, 68, 30, 69, 6, 70, 71, 72, 73, 74, 25, 137, 138, 139, 140, 141, 142, 143, 146, 147, 148, 149, 150, 151, 144, 145] (by decide +kernel) (by decide +kernel)
set_option maxRecDepth 20000 in
theorem gX8_sheetsTo_X4_greatestNeedOfWords : GoodIn wsX8_sheetsTo (wsV RX8 213 RX4 yX4_greatestNeedOfWords wsX4_greatestNeedOfWords) := goodIn_app (goodIn_of _ (by decide +kernel)) ggX8_sheetsTo_X4_greatestNeedOfWords
set_option maxRecDepth 20000 in
theorem ggX8_sheetsTo_X3_choose : GoodIn wsX8_sheetsTo wsX3_choose := goodIn_r _ [79, 80, 81, 82, 78, 83, 84, 85, 86, 87, 88, 89, 90, 91, 92, 93, 94, 95, 96, 97, 23, 98, 71, 72, 73, 74, 25, 69, 6, 70, 99, 62, 63, 64, 60, 53, 54, 55, 65, 66, 67, 68, 30, 100, 101, 102, 103, 104, 105, 132, 133, 134, 135, 136, 137, 138, 139, 140, 141, 142, 143, 146, 147, 148, 149, 150, 151, 144, 145] (by decide +kernel) (by decide +kernel)
set_option maxRecDepth 20000 in
theorem gX8_sheetsTo_X3_choose : GoodIn wsX8_sheetsTo (wsV RX8 121 RX3 yX3_choose wsX3_choose) := goodIn_app (goodIn_of _ (by decide +kernel)) ggX8_sheetsTo_X3_choose
set_option maxRecDepth 20000 in
theorem ggX8_sheetsTo_X4_practise : GoodIn wsX8_sheetsTo wsX4_practise := goodIn_r _ [109, 14, 13, 17, 19, 110, 111, 112, 34, 113, 36, 37, 114, 115, 116, 23, 117, 118, 119, 120, 121, 25, 69, 6, 70, 122, 123, 132, 133, 134, 135, 136, 137, 138, 139, 140, 141, 142, 143, 146, 147, 148, 149, 150, 151, 144, 145] (by decide +kernel) (by decide +kernel)
set_option maxRecDepth 20000 in
theorem gX8_sheetsTo_X4_practise : GoodIn wsX8_sheetsTo (wsV RX8 126 RX4 yX4_practise wsX4_practise) := goodIn_app (goodIn_of _ (by decide +kernel)) ggX8_sheetsTo_X4_practise
theorem dX8_sheetsTo_0 : decode cX8_sheetsTo 0 = .ok (.iload_n 1, 1) := by decide +kernel
theorem dX8_sheetsTo_1 : decode cX8_sheetsTo 1 = .ok (.invokestatic 117, 3) := by decide +kernel
theorem dX8_sheetsTo_4 : decode cX8_sheetsTo 4 = .ok (.ifCond .eq 13, 3) := by decide +kernel
theorem dX8_sheetsTo_7 : decode cX8_sheetsTo 7 = .ok (.iload_n 2, 1) := by decide +kernel
theorem dX8_sheetsTo_8 : decode cX8_sheetsTo 8 = .ok (.ifCond .lt 9, 3) := by decide +kernel
theorem dX8_sheetsTo_11 : decode cX8_sheetsTo 11 = .ok (.iload_n 2, 1) := by decide +kernel
theorem dX8_sheetsTo_12 : decode cX8_sheetsTo 12 = .ok (.bipush 99, 2) := by decide +kernel
theorem dX8_sheetsTo_14 : decode cX8_sheetsTo 14 = .ok (.if_icmp .le 6, 3) := by decide +kernel
theorem dX8_sheetsTo_17 : decode cX8_sheetsTo 17 = .ok (.bipush (-2), 2) := by decide +kernel
theorem dX8_sheetsTo_19 : decode cX8_sheetsTo 19 = .ok (.ireturn, 1) := by decide +kernel
theorem dX8_sheetsTo_20 : decode cX8_sheetsTo 20 = .ok (.aload_n 0, 1) := by decide +kernel
theorem dX8_sheetsTo_21 : decode cX8_sheetsTo 21 = .ok (.getfield 19, 3) := by decide +kernel
theorem dX8_sheetsTo_24 : decode cX8_sheetsTo 24 = .ok (.aload_n 0, 1) := by decide +kernel
theorem dX8_sheetsTo_25 : decode cX8_sheetsTo 25 = .ok (.getfield 12, 3) := by decide +kernel
theorem dX8_sheetsTo_28 : decode cX8_sheetsTo 28 = .ok (.invokevirtual 142, 3) := by decide +kernel
theorem dX8_sheetsTo_31 : decode cX8_sheetsTo 31 = .ok (.iconst 0, 1) := by decide +kernel
theorem dX8_sheetsTo_32 : decode cX8_sheetsTo 32 = .ok (.istore_n 3, 1) := by decide +kernel
theorem dX8_sheetsTo_33 : decode cX8_sheetsTo 33 = .ok (.iload_n 3, 1) := by decide +kernel
theorem dX8_sheetsTo_34 : decode cX8_sheetsTo 34 = .ok (.bipush 20, 2) := by decide +kernel
theorem dX8_sheetsTo_36 : decode cX8_sheetsTo 36 = .ok (.if_icmp .gt 58, 3) := by decide +kernel
theorem dX8_sheetsTo_39 : decode cX8_sheetsTo 39 = .ok (.aload_n 0, 1) := by decide +kernel
theorem dX8_sheetsTo_40 : decode cX8_sheetsTo 40 = .ok (.getfield 19, 3) := by decide +kernel
theorem dX8_sheetsTo_43 : decode cX8_sheetsTo 43 = .ok (.invokevirtual 213, 3) := by decide +kernel
theorem dX8_sheetsTo_46 : decode cX8_sheetsTo 46 = .ok (.iload_n 2, 1) := by decide +kernel
theorem dX8_sheetsTo_47 : decode cX8_sheetsTo 47 = .ok (.if_icmp .gt 5, 3) := by decide +kernel
theorem dX8_sheetsTo_50 : decode cX8_sheetsTo 50 = .ok (.iload_n 3, 1) := by decide +kernel
theorem dX8_sheetsTo_51 : decode cX8_sheetsTo 51 = .ok (.ireturn, 1) := by decide +kernel
theorem dX8_sheetsTo_52 : decode cX8_sheetsTo 52 = .ok (.aload_n 0, 1) := by decide +kernel
theorem dX8_sheetsTo_53 : decode cX8_sheetsTo 53 = .ok (.getfield 39, 3) := by decide +kernel
theorem dX8_sheetsTo_56 : decode cX8_sheetsTo 56 = .ok (.aload_n 0, 1) := by decide +kernel
theorem dX8_sheetsTo_57 : decode cX8_sheetsTo 57 = .ok (.getfield 19, 3) := by decide +kernel
theorem dX8_sheetsTo_60 : decode cX8_sheetsTo 60 = .ok (.iload_n 1, 1) := by decide +kernel
theorem dX8_sheetsTo_61 : decode cX8_sheetsTo 61 = .ok (.invokevirtual 121, 3) := by decide +kernel
theorem dX8_sheetsTo_64 : decode cX8_sheetsTo 64 = .ok (.aload_n 0, 1) := by decide +kernel
theorem dX8_sheetsTo_65 : decode cX8_sheetsTo 65 = .ok (.getfield 39, 3) := by decide +kernel
theorem dX8_sheetsTo_68 : decode cX8_sheetsTo 68 = .ok (.getfield 125, 3) := by decide +kernel
theorem dX8_sheetsTo_71 : decode cX8_sheetsTo 71 = .ok (.ifCond .ne 6, 3) := by decide +kernel
theorem dX8_sheetsTo_74 : decode cX8_sheetsTo 74 = .ok (.bipush (-5), 2) := by decide +kernel
theorem dX8_sheetsTo_76 : decode cX8_sheetsTo 76 = .ok (.ireturn, 1) := by decide +kernel
theorem dX8_sheetsTo_77 : decode cX8_sheetsTo 77 = .ok (.aload_n 0, 1) := by decide +kernel
theorem dX8_sheetsTo_78 : decode cX8_sheetsTo 78 = .ok (.getfield 19, 3) := by decide +kernel
theorem dX8_sheetsTo_81 : decode cX8_sheetsTo 81 = .ok (.aload_n 0, 1) := by decide +kernel
theorem dX8_sheetsTo_82 : decode cX8_sheetsTo 82 = .ok (.getfield 39, 3) := by decide +kernel
theorem dX8_sheetsTo_85 : decode cX8_sheetsTo 85 = .ok (.invokevirtual 126, 3) := by decide +kernel
theorem dX8_sheetsTo_88 : decode cX8_sheetsTo 88 = .ok (.iinc 3 1, 3) := by decide +kernel
theorem dX8_sheetsTo_91 : decode cX8_sheetsTo 91 = .ok (.goto (-58), 3) := by decide +kernel
theorem dX8_sheetsTo_94 : decode cX8_sheetsTo 94 = .ok (.bipush (-5), 2) := by decide +kernel
theorem dX8_sheetsTo_96 : decode cX8_sheetsTo 96 = .ok (.ireturn, 1) := by decide +kernel
set_option maxRecDepth 20000 in
theorem ggX8_count_X1_triedFrom : GoodIn wsX8_count wsX1_triedFrom := goodIn_r _ [8, 9, 10, 11, 7, 12, 13, 14, 15, 16, 17, 18, 19, 20, 60, 61] (by decide +kernel) (by decide +kernel)
set_option maxRecDepth 20000 in
theorem gX8_count_X1_triedFrom : GoodIn wsX8_count (wsV RX8 216 RX1 yX1_triedFrom wsX1_triedFrom) := goodIn_app (goodIn_of _ (by decide +kernel)) ggX8_count_X1_triedFrom
set_option maxRecDepth 20000 in
theorem ggX8_count_X1_greatestNeedFrom : GoodIn wsX8_count wsX1_greatestNeedFrom := goodIn_r _ [24, 25, 26, 27, 28, 29, 30, 31, 7, 32, 33, 34, 35, 36, 37, 18, 19, 20, 13, 14, 15, 16, 17, 60, 61] (by decide +kernel) (by decide +kernel)
set_option maxRecDepth 20000 in
theorem gX8_count_X1_greatestNeedFrom : GoodIn wsX8_count (wsV RX8 219 RX1 yX1_greatestNeedFrom wsX1_greatestNeedFrom) := goodIn_app (goodIn_of _ (by decide +kernel)) ggX8_count_X1_greatestNeedFrom
theorem dX8_count_0 : decode cX8_count 0 = .ok (.iload_n 1, 1) := by decide +kernel
theorem dX8_count_1 : decode cX8_count 1 = .ok (.tableswitch 193 0 11 #[63, 74, 82, 90, 107, 123, 137, 153, 161, 169, 177, 185], 63) := by decide +kernel
theorem dX8_count_64 : decode cX8_count 64 = .ok (.aload_n 0, 1) := by decide +kernel
theorem dX8_count_65 : decode cX8_count 65 = .ok (.getfield 12, 3) := by decide +kernel
theorem dX8_count_68 : decode cX8_count 68 = .ok (.getfield 92, 3) := by decide +kernel
theorem dX8_count_71 : decode cX8_count 71 = .ok (.getfield 106, 3) := by decide +kernel
theorem dX8_count_74 : decode cX8_count 74 = .ok (.ireturn, 1) := by decide +kernel
theorem dX8_count_75 : decode cX8_count 75 = .ok (.aload_n 0, 1) := by decide +kernel
theorem dX8_count_76 : decode cX8_count 76 = .ok (.getfield 12, 3) := by decide +kernel
theorem dX8_count_79 : decode cX8_count 79 = .ok (.getfield 77, 3) := by decide +kernel
theorem dX8_count_82 : decode cX8_count 82 = .ok (.ireturn, 1) := by decide +kernel
theorem dX8_count_83 : decode cX8_count 83 = .ok (.aload_n 0, 1) := by decide +kernel
theorem dX8_count_84 : decode cX8_count 84 = .ok (.getfield 12, 3) := by decide +kernel
theorem dX8_count_87 : decode cX8_count 87 = .ok (.getfield 86, 3) := by decide +kernel
theorem dX8_count_90 : decode cX8_count 90 = .ok (.ireturn, 1) := by decide +kernel
theorem dX8_count_91 : decode cX8_count 91 = .ok (.bipush 26, 2) := by decide +kernel
theorem dX8_count_93 : decode cX8_count 93 = .ok (.aload_n 0, 1) := by decide +kernel
theorem dX8_count_94 : decode cX8_count 94 = .ok (.getfield 12, 3) := by decide +kernel
theorem dX8_count_97 : decode cX8_count 97 = .ok (.getfield 62, 3) := by decide +kernel
theorem dX8_count_100 : decode cX8_count 100 = .ok (.iconst 0, 1) := by decide +kernel
theorem dX8_count_101 : decode cX8_count 101 = .ok (.bipush 26, 2) := by decide +kernel
theorem dX8_count_103 : decode cX8_count 103 = .ok (.invokevirtual 216, 3) := by decide +kernel
theorem dX8_count_106 : decode cX8_count 106 = .ok (.isub, 1) := by decide +kernel
theorem dX8_count_107 : decode cX8_count 107 = .ok (.ireturn, 1) := by decide +kernel
theorem dX8_count_108 : decode cX8_count 108 = .ok (.aload_n 0, 1) := by decide +kernel
theorem dX8_count_109 : decode cX8_count 109 = .ok (.getfield 12, 3) := by decide +kernel
theorem dX8_count_112 : decode cX8_count 112 = .ok (.getfield 62, 3) := by decide +kernel
theorem dX8_count_115 : decode cX8_count 115 = .ok (.bipush 26, 2) := by decide +kernel
theorem dX8_count_117 : decode cX8_count 117 = .ok (.sipush 702, 3) := by decide +kernel
theorem dX8_count_120 : decode cX8_count 120 = .ok (.invokevirtual 216, 3) := by decide +kernel
theorem dX8_count_123 : decode cX8_count 123 = .ok (.ireturn, 1) := by decide +kernel
theorem dX8_count_124 : decode cX8_count 124 = .ok (.aload_n 0, 1) := by decide +kernel
theorem dX8_count_125 : decode cX8_count 125 = .ok (.getfield 12, 3) := by decide +kernel
theorem dX8_count_128 : decode cX8_count 128 = .ok (.getfield 62, 3) := by decide +kernel
theorem dX8_count_131 : decode cX8_count 131 = .ok (.iconst 0, 1) := by decide +kernel
theorem dX8_count_132 : decode cX8_count 132 = .ok (.bipush 26, 2) := by decide +kernel
theorem dX8_count_134 : decode cX8_count 134 = .ok (.invokevirtual 219, 3) := by decide +kernel
theorem dX8_count_137 : decode cX8_count 137 = .ok (.ireturn, 1) := by decide +kernel
theorem dX8_count_138 : decode cX8_count 138 = .ok (.aload_n 0, 1) := by decide +kernel
theorem dX8_count_139 : decode cX8_count 139 = .ok (.getfield 12, 3) := by decide +kernel
theorem dX8_count_142 : decode cX8_count 142 = .ok (.getfield 62, 3) := by decide +kernel
theorem dX8_count_145 : decode cX8_count 145 = .ok (.bipush 26, 2) := by decide +kernel
theorem dX8_count_147 : decode cX8_count 147 = .ok (.sipush 702, 3) := by decide +kernel
theorem dX8_count_150 : decode cX8_count 150 = .ok (.invokevirtual 219, 3) := by decide +kernel
theorem dX8_count_153 : decode cX8_count 153 = .ok (.ireturn, 1) := by decide +kernel
theorem dX8_count_154 : decode cX8_count 154 = .ok (.aload_n 0, 1) := by decide +kernel
theorem dX8_count_155 : decode cX8_count 155 = .ok (.getfield 12, 3) := by decide +kernel
theorem dX8_count_158 : decode cX8_count 158 = .ok (.getfield 70, 3) := by decide +kernel
theorem dX8_count_161 : decode cX8_count 161 = .ok (.ireturn, 1) := by decide +kernel
theorem dX8_count_162 : decode cX8_count 162 = .ok (.aload_n 0, 1) := by decide +kernel
theorem dX8_count_163 : decode cX8_count 163 = .ok (.getfield 12, 3) := by decide +kernel
theorem dX8_count_166 : decode cX8_count 166 = .ok (.getfield 74, 3) := by decide +kernel
theorem dX8_count_169 : decode cX8_count 169 = .ok (.ireturn, 1) := by decide +kernel
theorem dX8_count_170 : decode cX8_count 170 = .ok (.aload_n 0, 1) := by decide +kernel
theorem dX8_count_171 : decode cX8_count 171 = .ok (.getfield 12, 3) := by decide +kernel
theorem dX8_count_174 : decode cX8_count 174 = .ok (.getfield 222, 3) := by decide +kernel
theorem dX8_count_177 : decode cX8_count 177 = .ok (.ireturn, 1) := by decide +kernel
theorem dX8_count_178 : decode cX8_count 178 = .ok (.aload_n 0, 1) := by decide +kernel
theorem dX8_count_179 : decode cX8_count 179 = .ok (.getfield 25, 3) := by decide +kernel
theorem dX8_count_182 : decode cX8_count 182 = .ok (.getfield 141, 3) := by decide +kernel
theorem dX8_count_185 : decode cX8_count 185 = .ok (.ireturn, 1) := by decide +kernel
theorem dX8_count_186 : decode cX8_count 186 = .ok (.aload_n 0, 1) := by decide +kernel
theorem dX8_count_187 : decode cX8_count 187 = .ok (.getfield 32, 3) := by decide +kernel
theorem dX8_count_190 : decode cX8_count 190 = .ok (.getfield 134, 3) := by decide +kernel
theorem dX8_count_193 : decode cX8_count 193 = .ok (.ireturn, 1) := by decide +kernel
theorem dX8_count_194 : decode cX8_count 194 = .ok (.bipush (-2), 2) := by decide +kernel
theorem dX8_count_196 : decode cX8_count 196 = .ok (.ireturn, 1) := by decide +kernel
set_option maxRecDepth 20000 in
theorem ggX8_toldOfPart_X1_triesOf : GoodIn wsX8_toldOfPart wsX1_triesOf := goodIn_r _ [6, 7, 8, 9, 10, 55, 56] (by decide +kernel) (by decide +kernel)
set_option maxRecDepth 20000 in
theorem gX8_toldOfPart_X1_triesOf : GoodIn wsX8_toldOfPart (wsV RX8 225 RX1 yX1_triesOf wsX1_triesOf) := goodIn_app (goodIn_of _ (by decide +kernel)) ggX8_toldOfPart_X1_triesOf
set_option maxRecDepth 20000 in
theorem ggX8_toldOfPart_X1_slipsOf : GoodIn wsX8_toldOfPart wsX1_slipsOf := goodIn_r _ [14, 15, 8, 9, 10, 55, 56] (by decide +kernel) (by decide +kernel)
set_option maxRecDepth 20000 in
theorem gX8_toldOfPart_X1_slipsOf : GoodIn wsX8_toldOfPart (wsV RX8 228 RX1 yX1_slipsOf wsX1_slipsOf) := goodIn_app (goodIn_of _ (by decide +kernel)) ggX8_toldOfPart_X1_slipsOf
set_option maxRecDepth 20000 in
theorem ggX8_toldOfPart_X1_needOf : GoodIn wsX8_toldOfPart wsX1_needOf := goodIn_r _ [19, 20, 21, 22, 23, 24, 12, 13, 5, 14, 15, 8, 9, 10, 25, 3, 4, 6, 7, 55, 56] (by decide +kernel) (by decide +kernel)
set_option maxRecDepth 20000 in
theorem gX8_toldOfPart_X1_needOf : GoodIn wsX8_toldOfPart (wsV RX8 207 RX1 yX1_needOf wsX1_needOf) := goodIn_app (goodIn_of _ (by decide +kernel)) ggX8_toldOfPart_X1_needOf
set_option maxRecDepth 20000 in
theorem ggX8_toldOfPart_X7_howManyHave : GoodIn wsX8_toldOfPart wsX7_howManyHave := goodIn_r _ [30, 31, 32, 33, 34, 35, 36, 37, 38, 39, 57, 58, 59, 60, 61, 62] (by decide +kernel) (by decide +kernel)
set_option maxRecDepth 20000 in
theorem gX8_toldOfPart_X7_howManyHave : GoodIn wsX8_toldOfPart (wsV RX8 210 RX7 yX7_howManyHave wsX7_howManyHave) := goodIn_app (goodIn_of _ (by decide +kernel)) ggX8_toldOfPart_X7_howManyHave
theorem dX8_toldOfPart_0 : decode cX8_toldOfPart 0 = .ok (.iload_n 2, 1) := by decide +kernel
theorem dX8_toldOfPart_1 : decode cX8_toldOfPart 1 = .ok (.tableswitch 79 0 3 #[31, 43, 55, 67], 31) := by decide +kernel
theorem dX8_toldOfPart_32 : decode cX8_toldOfPart 32 = .ok (.aload_n 0, 1) := by decide +kernel
theorem dX8_toldOfPart_33 : decode cX8_toldOfPart 33 = .ok (.getfield 12, 3) := by decide +kernel
theorem dX8_toldOfPart_36 : decode cX8_toldOfPart 36 = .ok (.getfield 62, 3) := by decide +kernel
theorem dX8_toldOfPart_39 : decode cX8_toldOfPart 39 = .ok (.iload_n 1, 1) := by decide +kernel
theorem dX8_toldOfPart_40 : decode cX8_toldOfPart 40 = .ok (.invokevirtual 225, 3) := by decide +kernel
theorem dX8_toldOfPart_43 : decode cX8_toldOfPart 43 = .ok (.ireturn, 1) := by decide +kernel
theorem dX8_toldOfPart_44 : decode cX8_toldOfPart 44 = .ok (.aload_n 0, 1) := by decide +kernel
theorem dX8_toldOfPart_45 : decode cX8_toldOfPart 45 = .ok (.getfield 12, 3) := by decide +kernel
theorem dX8_toldOfPart_48 : decode cX8_toldOfPart 48 = .ok (.getfield 62, 3) := by decide +kernel
theorem dX8_toldOfPart_51 : decode cX8_toldOfPart 51 = .ok (.iload_n 1, 1) := by decide +kernel
theorem dX8_toldOfPart_52 : decode cX8_toldOfPart 52 = .ok (.invokevirtual 228, 3) := by decide +kernel
theorem dX8_toldOfPart_55 : decode cX8_toldOfPart 55 = .ok (.ireturn, 1) := by decide +kernel
theorem dX8_toldOfPart_56 : decode cX8_toldOfPart 56 = .ok (.aload_n 0, 1) := by decide +kernel
theorem dX8_toldOfPart_57 : decode cX8_toldOfPart 57 = .ok (.getfield 12, 3) := by decide +kernel
theorem dX8_toldOfPart_60 : decode cX8_toldOfPart 60 = .ok (.getfield 62, 3) := by decide +kernel
theorem dX8_toldOfPart_63 : decode cX8_toldOfPart 63 = .ok (.iload_n 1, 1) := by decide +kernel
theorem dX8_toldOfPart_64 : decode cX8_toldOfPart 64 = .ok (.invokevirtual 207, 3) := by decide +kernel
theorem dX8_toldOfPart_67 : decode cX8_toldOfPart 67 = .ok (.ireturn, 1) := by decide +kernel
theorem dX8_toldOfPart_68 : decode cX8_toldOfPart 68 = .ok (.aload_n 0, 1) := by decide +kernel
theorem dX8_toldOfPart_69 : decode cX8_toldOfPart 69 = .ok (.getfield 12, 3) := by decide +kernel
theorem dX8_toldOfPart_72 : decode cX8_toldOfPart 72 = .ok (.getfield 92, 3) := by decide +kernel
theorem dX8_toldOfPart_75 : decode cX8_toldOfPart 75 = .ok (.iload_n 1, 1) := by decide +kernel
theorem dX8_toldOfPart_76 : decode cX8_toldOfPart 76 = .ok (.invokevirtual 210, 3) := by decide +kernel
theorem dX8_toldOfPart_79 : decode cX8_toldOfPart 79 = .ok (.ireturn, 1) := by decide +kernel
theorem dX8_toldOfPart_80 : decode cX8_toldOfPart 80 = .ok (.bipush (-2), 2) := by decide +kernel
theorem dX8_toldOfPart_82 : decode cX8_toldOfPart 82 = .ok (.ireturn, 1) := by decide +kernel
theorem dX8_areLines_0 : decode cX8_areLines 0 = .ok (.iload_n 0, 1) := by decide +kernel
theorem dX8_areLines_1 : decode cX8_areLines 1 = .ok (.iconst 1, 1) := by decide +kernel
theorem dX8_areLines_2 : decode cX8_areLines 2 = .ok (.if_icmp .lt 13, 3) := by decide +kernel
theorem dX8_areLines_5 : decode cX8_areLines 5 = .ok (.iload_n 0, 1) := by decide +kernel
theorem dX8_areLines_6 : decode cX8_areLines 6 = .ok (.bipush 10, 2) := by decide +kernel
theorem dX8_areLines_8 : decode cX8_areLines 8 = .ok (.if_icmp .gt 7, 3) := by decide +kernel
theorem dX8_areLines_11 : decode cX8_areLines 11 = .ok (.iconst 1, 1) := by decide +kernel
theorem dX8_areLines_12 : decode cX8_areLines 12 = .ok (.goto 4, 3) := by decide +kernel
theorem dX8_areLines_15 : decode cX8_areLines 15 = .ok (.iconst 0, 1) := by decide +kernel
theorem dX8_areLines_16 : decode cX8_areLines 16 = .ok (.ireturn, 1) := by decide +kernel
theorem dX8_isLetter_0 : decode cX8_isLetter 0 = .ok (.iload_n 0, 1) := by decide +kernel
theorem dX8_isLetter_1 : decode cX8_isLetter 1 = .ok (.bipush 97, 2) := by decide +kernel
theorem dX8_isLetter_3 : decode cX8_isLetter 3 = .ok (.if_icmp .lt 13, 3) := by decide +kernel
theorem dX8_isLetter_6 : decode cX8_isLetter 6 = .ok (.iload_n 0, 1) := by decide +kernel
theorem dX8_isLetter_7 : decode cX8_isLetter 7 = .ok (.bipush 122, 2) := by decide +kernel
theorem dX8_isLetter_9 : decode cX8_isLetter 9 = .ok (.if_icmp .gt 7, 3) := by decide +kernel
theorem dX8_isLetter_12 : decode cX8_isLetter 12 = .ok (.iconst 1, 1) := by decide +kernel
theorem dX8_isLetter_13 : decode cX8_isLetter 13 = .ok (.goto 4, 3) := by decide +kernel
theorem dX8_isLetter_16 : decode cX8_isLetter 16 = .ok (.iconst 0, 1) := by decide +kernel
theorem dX8_isLetter_17 : decode cX8_isLetter 17 = .ok (.ireturn, 1) := by decide +kernel
theorem dX8_letterNumber_0 : decode cX8_letterNumber 0 = .ok (.iload_n 0, 1) := by decide +kernel
theorem dX8_letterNumber_1 : decode cX8_letterNumber 1 = .ok (.bipush 97, 2) := by decide +kernel
theorem dX8_letterNumber_3 : decode cX8_letterNumber 3 = .ok (.isub, 1) := by decide +kernel
theorem dX8_letterNumber_4 : decode cX8_letterNumber 4 = .ok (.ireturn, 1) := by decide +kernel
theorem dX8_joinPart_0 : decode cX8_joinPart 0 = .ok (.bipush 26, 2) := by decide +kernel
theorem dX8_joinPart_2 : decode cX8_joinPart 2 = .ok (.bipush 26, 2) := by decide +kernel
theorem dX8_joinPart_4 : decode cX8_joinPart 4 = .ok (.iload_n 0, 1) := by decide +kernel
theorem dX8_joinPart_5 : decode cX8_joinPart 5 = .ok (.imul, 1) := by decide +kernel
theorem dX8_joinPart_6 : decode cX8_joinPart 6 = .ok (.iadd, 1) := by decide +kernel
theorem dX8_joinPart_7 : decode cX8_joinPart 7 = .ok (.iload_n 1, 1) := by decide +kernel
theorem dX8_joinPart_8 : decode cX8_joinPart 8 = .ok (.iadd, 1) := by decide +kernel
theorem dX8_joinPart_9 : decode cX8_joinPart 9 = .ok (.ireturn, 1) := by decide +kernel
theorem dX8_isPart_0 : decode cX8_isPart 0 = .ok (.iload_n 0, 1) := by decide +kernel
theorem dX8_isPart_1 : decode cX8_isPart 1 = .ok (.ifCond .lt 14, 3) := by decide +kernel
theorem dX8_isPart_4 : decode cX8_isPart 4 = .ok (.iload_n 0, 1) := by decide +kernel
theorem dX8_isPart_5 : decode cX8_isPart 5 = .ok (.sipush 702, 3) := by decide +kernel
theorem dX8_isPart_8 : decode cX8_isPart 8 = .ok (.if_icmp .ge 7, 3) := by decide +kernel
theorem dX8_isPart_11 : decode cX8_isPart 11 = .ok (.iconst 1, 1) := by decide +kernel
theorem dX8_isPart_12 : decode cX8_isPart 12 = .ok (.goto 4, 3) := by decide +kernel
theorem dX8_isPart_15 : decode cX8_isPart 15 = .ok (.iconst 0, 1) := by decide +kernel
theorem dX8_isPart_16 : decode cX8_isPart 16 = .ok (.ireturn, 1) := by decide +kernel
theorem dX8_firstPart_0 : decode cX8_firstPart 0 = .ok (.iload_n 0, 1) := by decide +kernel
theorem dX8_firstPart_1 : decode cX8_firstPart 1 = .ok (.ifCond .eq 8, 3) := by decide +kernel
theorem dX8_firstPart_4 : decode cX8_firstPart 4 = .ok (.bipush 26, 2) := by decide +kernel
theorem dX8_firstPart_6 : decode cX8_firstPart 6 = .ok (.goto 4, 3) := by decide +kernel
theorem dX8_firstPart_9 : decode cX8_firstPart 9 = .ok (.iconst 0, 1) := by decide +kernel
theorem dX8_firstPart_10 : decode cX8_firstPart 10 = .ok (.ireturn, 1) := by decide +kernel
theorem dX8_endOfParts_0 : decode cX8_endOfParts 0 = .ok (.iload_n 0, 1) := by decide +kernel
theorem dX8_endOfParts_1 : decode cX8_endOfParts 1 = .ok (.ifCond .eq 9, 3) := by decide +kernel
theorem dX8_endOfParts_4 : decode cX8_endOfParts 4 = .ok (.sipush 702, 3) := by decide +kernel
theorem dX8_endOfParts_7 : decode cX8_endOfParts 7 = .ok (.goto 5, 3) := by decide +kernel
theorem dX8_endOfParts_10 : decode cX8_endOfParts 10 = .ok (.bipush 26, 2) := by decide +kernel
theorem dX8_endOfParts_12 : decode cX8_endOfParts 12 = .ok (.ireturn, 1) := by decide +kernel
end
section
/-! decode rows and calls' words, printed -/
theorem dX9_init_0 : decode cX9_init 0 = .ok (.aload_n 0, 1) := by decide +kernel
theorem dX9_init_1 : decode cX9_init 1 = .ok (.invokespecial 1, 3) := by decide +kernel
theorem dX9_init_4 : decode cX9_init 4 = .ok (.aload_n 0, 1) := by decide +kernel
theorem dX9_init_5 : decode cX9_init 5 = .ok (.sipush 1730, 3) := by decide +kernel
theorem dX9_init_8 : decode cX9_init 8 = .ok (.newarray .int, 2) := by decide +kernel
theorem dX9_init_10 : decode cX9_init 10 = .ok (.putfield 7, 3) := by decide +kernel
theorem dX9_init_13 : decode cX9_init 13 = .ok (.aload_n 0, 1) := by decide +kernel
theorem dX9_init_14 : decode cX9_init 14 = .ok (.sipush 1730, 3) := by decide +kernel
theorem dX9_init_17 : decode cX9_init 17 = .ok (.newarray .int, 2) := by decide +kernel
theorem dX9_init_19 : decode cX9_init 19 = .ok (.putfield 13, 3) := by decide +kernel
theorem dX9_init_22 : decode cX9_init 22 = .ok (.aload_n 0, 1) := by decide +kernel
theorem dX9_init_23 : decode cX9_init 23 = .ok (.sipush 1730, 3) := by decide +kernel
theorem dX9_init_26 : decode cX9_init 26 = .ok (.newarray .int, 2) := by decide +kernel
theorem dX9_init_28 : decode cX9_init 28 = .ok (.putfield 16, 3) := by decide +kernel
theorem dX9_init_31 : decode cX9_init 31 = .ok (.aload_n 0, 1) := by decide +kernel
theorem dX9_init_32 : decode cX9_init 32 = .ok (.sipush 6920, 3) := by decide +kernel
theorem dX9_init_35 : decode cX9_init 35 = .ok (.newarray .int, 2) := by decide +kernel
theorem dX9_init_37 : decode cX9_init 37 = .ok (.putfield 19, 3) := by decide +kernel
theorem dX9_init_40 : decode cX9_init 40 = .ok (.aload_n 0, 1) := by decide +kernel
theorem dX9_init_41 : decode cX9_init 41 = .ok (.sipush 1730, 3) := by decide +kernel
theorem dX9_init_44 : decode cX9_init 44 = .ok (.newarray .int, 2) := by decide +kernel
theorem dX9_init_46 : decode cX9_init 46 = .ok (.putfield 22, 3) := by decide +kernel
theorem dX9_init_49 : decode cX9_init 49 = .ok (.aload_n 0, 1) := by decide +kernel
theorem dX9_init_50 : decode cX9_init 50 = .ok (.bipush 29, 2) := by decide +kernel
theorem dX9_init_52 : decode cX9_init 52 = .ok (.newarray .int, 2) := by decide +kernel
theorem dX9_init_54 : decode cX9_init 54 = .ok (.putfield 25, 3) := by decide +kernel
theorem dX9_init_57 : decode cX9_init 57 = .ok (.aload_n 0, 1) := by decide +kernel
theorem dX9_init_58 : decode cX9_init 58 = .ok (.bipush 10, 2) := by decide +kernel
theorem dX9_init_60 : decode cX9_init 60 = .ok (.newarray .int, 2) := by decide +kernel
theorem dX9_init_62 : decode cX9_init 62 = .ok (.putfield 28, 3) := by decide +kernel
theorem dX9_init_65 : decode cX9_init 65 = .ok (.aload_n 0, 1) := by decide +kernel
theorem dX9_init_66 : decode cX9_init 66 = .ok (.bipush 10, 2) := by decide +kernel
theorem dX9_init_68 : decode cX9_init 68 = .ok (.newarray .int, 2) := by decide +kernel
theorem dX9_init_70 : decode cX9_init 70 = .ok (.putfield 31, 3) := by decide +kernel
theorem dX9_init_73 : decode cX9_init 73 = .ok (.aload_n 0, 1) := by decide +kernel
theorem dX9_init_74 : decode cX9_init 74 = .ok (.sipush 702, 3) := by decide +kernel
theorem dX9_init_77 : decode cX9_init 77 = .ok (.newarray .int, 2) := by decide +kernel
theorem dX9_init_79 : decode cX9_init 79 = .ok (.putfield 34, 3) := by decide +kernel
theorem dX9_init_82 : decode cX9_init 82 = .ok (.aload_n 0, 1) := by decide +kernel
theorem dX9_init_83 : decode cX9_init 83 = .ok (.bipush 60, 2) := by decide +kernel
theorem dX9_init_85 : decode cX9_init 85 = .ok (.newarray .int, 2) := by decide +kernel
theorem dX9_init_87 : decode cX9_init 87 = .ok (.putfield 37, 3) := by decide +kernel
theorem dX9_init_90 : decode cX9_init 90 = .ok (.aload_n 0, 1) := by decide +kernel
theorem dX9_init_91 : decode cX9_init 91 = .ok (.bipush 15, 2) := by decide +kernel
theorem dX9_init_93 : decode cX9_init 93 = .ok (.newarray .int, 2) := by decide +kernel
theorem dX9_init_95 : decode cX9_init 95 = .ok (.putfield 40, 3) := by decide +kernel
theorem dX9_init_98 : decode cX9_init 98 = .ok (.aload_n 0, 1) := by decide +kernel
theorem dX9_init_99 : decode cX9_init 99 = .ok (.bipush 15, 2) := by decide +kernel
theorem dX9_init_101 : decode cX9_init 101 = .ok (.newarray .int, 2) := by decide +kernel
theorem dX9_init_103 : decode cX9_init 103 = .ok (.putfield 43, 3) := by decide +kernel
theorem dX9_init_106 : decode cX9_init 106 = .ok (.aload_n 0, 1) := by decide +kernel
theorem dX9_init_107 : decode cX9_init 107 = .ok (.bipush 15, 2) := by decide +kernel
theorem dX9_init_109 : decode cX9_init 109 = .ok (.newarray .int, 2) := by decide +kernel
theorem dX9_init_111 : decode cX9_init 111 = .ok (.putfield 46, 3) := by decide +kernel
theorem dX9_init_114 : decode cX9_init 114 = .ok (.aload_n 0, 1) := by decide +kernel
theorem dX9_init_115 : decode cX9_init 115 = .ok (.getfield 7, 3) := by decide +kernel
theorem dX9_init_118 : decode cX9_init 118 = .ok (.iconst 0, 1) := by decide +kernel
theorem dX9_init_119 : decode cX9_init 119 = .ok (.iconst 5, 1) := by decide +kernel
theorem dX9_init_120 : decode cX9_init 120 = .ok (.iastore, 1) := by decide +kernel
theorem dX9_init_121 : decode cX9_init 121 = .ok (.return_, 1) := by decide +kernel
theorem dX9_in_0 : decode cX9_in 0 = .ok (.lload_n 0, 1) := by decide +kernel
theorem dX9_in_1 : decode cX9_in 1 = .ok (.lload_n 2, 1) := by decide +kernel
theorem dX9_in_2 : decode cX9_in 2 = .ok (.lcmp, 1) := by decide +kernel
theorem dX9_in_3 : decode cX9_in 3 = .ok (.ifCond .lt 14, 3) := by decide +kernel
theorem dX9_in_6 : decode cX9_in 6 = .ok (.lload_n 0, 1) := by decide +kernel
theorem dX9_in_7 : decode cX9_in 7 = .ok (.lload 4, 2) := by decide +kernel
theorem dX9_in_9 : decode cX9_in 9 = .ok (.lcmp, 1) := by decide +kernel
theorem dX9_in_10 : decode cX9_in 10 = .ok (.ifCond .gt 7, 3) := by decide +kernel
theorem dX9_in_13 : decode cX9_in 13 = .ok (.iconst 1, 1) := by decide +kernel
theorem dX9_in_14 : decode cX9_in 14 = .ok (.goto 4, 3) := by decide +kernel
theorem dX9_in_17 : decode cX9_in 17 = .ok (.iconst 0, 1) := by decide +kernel
theorem dX9_in_18 : decode cX9_in 18 = .ok (.ireturn, 1) := by decide +kernel
theorem dX9_copy_0 : decode cX9_copy 0 = .ok (.iconst 0, 1) := by decide +kernel
theorem dX9_copy_1 : decode cX9_copy 1 = .ok (.istore_n 2, 1) := by decide +kernel
theorem dX9_copy_2 : decode cX9_copy 2 = .ok (.iload_n 2, 1) := by decide +kernel
theorem dX9_copy_3 : decode cX9_copy 3 = .ok (.sipush 1730, 3) := by decide +kernel
theorem dX9_copy_6 : decode cX9_copy 6 = .ok (.if_icmp .ge 15, 3) := by decide +kernel
theorem dX9_copy_9 : decode cX9_copy 9 = .ok (.aload_n 1, 1) := by decide +kernel
theorem dX9_copy_10 : decode cX9_copy 10 = .ok (.iload_n 2, 1) := by decide +kernel
theorem dX9_copy_11 : decode cX9_copy 11 = .ok (.aload_n 0, 1) := by decide +kernel
theorem dX9_copy_12 : decode cX9_copy 12 = .ok (.iload_n 2, 1) := by decide +kernel
theorem dX9_copy_13 : decode cX9_copy 13 = .ok (.iaload, 1) := by decide +kernel
theorem dX9_copy_14 : decode cX9_copy 14 = .ok (.iastore, 1) := by decide +kernel
theorem dX9_copy_15 : decode cX9_copy 15 = .ok (.iinc 2 1, 3) := by decide +kernel
theorem dX9_copy_18 : decode cX9_copy 18 = .ok (.goto (-16), 3) := by decide +kernel
theorem dX9_copy_21 : decode cX9_copy 21 = .ok (.return_, 1) := by decide +kernel
set_option maxRecDepth 20000 in
theorem ggX9_remember_X9_copy : GoodIn wsX9_remember wsX9_copy := goodIn_r _ [6] (by decide +kernel) (by decide +kernel)
set_option maxRecDepth 20000 in
theorem gX9_remember_X9_copy : GoodIn wsX9_remember (va_wsS RX9 49 yX9_copy wsX9_copy) := goodIn_app (goodIn_of _ (by decide +kernel)) ggX9_remember_X9_copy
theorem dX9_remember_0 : decode cX9_remember 0 = .ok (.aload_n 0, 1) := by decide +kernel
theorem dX9_remember_1 : decode cX9_remember 1 = .ok (.getfield 7, 3) := by decide +kernel
theorem dX9_remember_4 : decode cX9_remember 4 = .ok (.aload_n 0, 1) := by decide +kernel
theorem dX9_remember_5 : decode cX9_remember 5 = .ok (.getfield 13, 3) := by decide +kernel
theorem dX9_remember_8 : decode cX9_remember 8 = .ok (.invokestatic 49, 3) := by decide +kernel
theorem dX9_remember_11 : decode cX9_remember 11 = .ok (.return_, 1) := by decide +kernel
theorem dX9_acted_0 : decode cX9_acted 0 = .ok (.aload_n 0, 1) := by decide +kernel
theorem dX9_acted_1 : decode cX9_acted 1 = .ok (.getfield 53, 3) := by decide +kernel
theorem dX9_acted_4 : decode cX9_acted 4 = .ok (.iconst 4, 1) := by decide +kernel
theorem dX9_acted_5 : decode cX9_acted 5 = .ok (.if_icmp .ne 44, 3) := by decide +kernel
theorem dX9_acted_8 : decode cX9_acted 8 = .ok (.iconst 0, 1) := by decide +kernel
theorem dX9_acted_9 : decode cX9_acted 9 = .ok (.istore_n 2, 1) := by decide +kernel
theorem dX9_acted_10 : decode cX9_acted 10 = .ok (.iload_n 2, 1) := by decide +kernel
theorem dX9_acted_11 : decode cX9_acted 11 = .ok (.sipush 5190, 3) := by decide +kernel
theorem dX9_acted_14 : decode cX9_acted 14 = .ok (.if_icmp .ge 25, 3) := by decide +kernel
theorem dX9_acted_17 : decode cX9_acted 17 = .ok (.aload_n 0, 1) := by decide +kernel
theorem dX9_acted_18 : decode cX9_acted 18 = .ok (.getfield 19, 3) := by decide +kernel
theorem dX9_acted_21 : decode cX9_acted 21 = .ok (.iload_n 2, 1) := by decide +kernel
theorem dX9_acted_22 : decode cX9_acted 22 = .ok (.aload_n 0, 1) := by decide +kernel
theorem dX9_acted_23 : decode cX9_acted 23 = .ok (.getfield 19, 3) := by decide +kernel
theorem dX9_acted_26 : decode cX9_acted 26 = .ok (.iload_n 2, 1) := by decide +kernel
theorem dX9_acted_27 : decode cX9_acted 27 = .ok (.sipush 1730, 3) := by decide +kernel
theorem dX9_acted_30 : decode cX9_acted 30 = .ok (.iadd, 1) := by decide +kernel
theorem dX9_acted_31 : decode cX9_acted 31 = .ok (.iaload, 1) := by decide +kernel
theorem dX9_acted_32 : decode cX9_acted 32 = .ok (.iastore, 1) := by decide +kernel
theorem dX9_acted_33 : decode cX9_acted 33 = .ok (.iinc 2 1, 3) := by decide +kernel
theorem dX9_acted_36 : decode cX9_acted 36 = .ok (.goto (-26), 3) := by decide +kernel
theorem dX9_acted_39 : decode cX9_acted 39 = .ok (.aload_n 0, 1) := by decide +kernel
theorem dX9_acted_40 : decode cX9_acted 40 = .ok (.dup, 1) := by decide +kernel
theorem dX9_acted_41 : decode cX9_acted 41 = .ok (.getfield 53, 3) := by decide +kernel
theorem dX9_acted_44 : decode cX9_acted 44 = .ok (.iconst 1, 1) := by decide +kernel
theorem dX9_acted_45 : decode cX9_acted 45 = .ok (.isub, 1) := by decide +kernel
theorem dX9_acted_46 : decode cX9_acted 46 = .ok (.putfield 53, 3) := by decide +kernel
theorem dX9_acted_49 : decode cX9_acted 49 = .ok (.iconst 0, 1) := by decide +kernel
theorem dX9_acted_50 : decode cX9_acted 50 = .ok (.istore_n 2, 1) := by decide +kernel
theorem dX9_acted_51 : decode cX9_acted 51 = .ok (.iload_n 2, 1) := by decide +kernel
theorem dX9_acted_52 : decode cX9_acted 52 = .ok (.sipush 1730, 3) := by decide +kernel
theorem dX9_acted_55 : decode cX9_acted 55 = .ok (.if_icmp .ge 30, 3) := by decide +kernel
theorem dX9_acted_58 : decode cX9_acted 58 = .ok (.aload_n 0, 1) := by decide +kernel
theorem dX9_acted_59 : decode cX9_acted 59 = .ok (.getfield 19, 3) := by decide +kernel
theorem dX9_acted_62 : decode cX9_acted 62 = .ok (.sipush 1730, 3) := by decide +kernel
theorem dX9_acted_65 : decode cX9_acted 65 = .ok (.aload_n 0, 1) := by decide +kernel
theorem dX9_acted_66 : decode cX9_acted 66 = .ok (.getfield 53, 3) := by decide +kernel
theorem dX9_acted_69 : decode cX9_acted 69 = .ok (.imul, 1) := by decide +kernel
theorem dX9_acted_70 : decode cX9_acted 70 = .ok (.iload_n 2, 1) := by decide +kernel
theorem dX9_acted_71 : decode cX9_acted 71 = .ok (.iadd, 1) := by decide +kernel
theorem dX9_acted_72 : decode cX9_acted 72 = .ok (.aload_n 0, 1) := by decide +kernel
theorem dX9_acted_73 : decode cX9_acted 73 = .ok (.getfield 13, 3) := by decide +kernel
theorem dX9_acted_76 : decode cX9_acted 76 = .ok (.iload_n 2, 1) := by decide +kernel
theorem dX9_acted_77 : decode cX9_acted 77 = .ok (.iaload, 1) := by decide +kernel
theorem dX9_acted_78 : decode cX9_acted 78 = .ok (.iastore, 1) := by decide +kernel
theorem dX9_acted_79 : decode cX9_acted 79 = .ok (.iinc 2 1, 3) := by decide +kernel
theorem dX9_acted_82 : decode cX9_acted 82 = .ok (.goto (-31), 3) := by decide +kernel
theorem dX9_acted_85 : decode cX9_acted 85 = .ok (.aload_n 0, 1) := by decide +kernel
theorem dX9_acted_86 : decode cX9_acted 86 = .ok (.dup, 1) := by decide +kernel
theorem dX9_acted_87 : decode cX9_acted 87 = .ok (.getfield 53, 3) := by decide +kernel
theorem dX9_acted_90 : decode cX9_acted 90 = .ok (.iconst 1, 1) := by decide +kernel
theorem dX9_acted_91 : decode cX9_acted 91 = .ok (.iadd, 1) := by decide +kernel
theorem dX9_acted_92 : decode cX9_acted 92 = .ok (.putfield 53, 3) := by decide +kernel
theorem dX9_acted_95 : decode cX9_acted 95 = .ok (.iload_n 1, 1) := by decide +kernel
theorem dX9_acted_96 : decode cX9_acted 96 = .ok (.ireturn, 1) := by decide +kernel
theorem dX9_needOf_0 : decode cX9_needOf 0 = .ok (.bipush 100, 2) := by decide +kernel
theorem dX9_needOf_2 : decode cX9_needOf 2 = .ok (.aload_n 0, 1) := by decide +kernel
theorem dX9_needOf_3 : decode cX9_needOf 3 = .ok (.getfield 7, 3) := by decide +kernel
theorem dX9_needOf_6 : decode cX9_needOf 6 = .ok (.sipush 708, 3) := by decide +kernel
theorem dX9_needOf_9 : decode cX9_needOf 9 = .ok (.iload_n 1, 1) := by decide +kernel
theorem dX9_needOf_10 : decode cX9_needOf 10 = .ok (.iadd, 1) := by decide +kernel
theorem dX9_needOf_11 : decode cX9_needOf 11 = .ok (.iaload, 1) := by decide +kernel
theorem dX9_needOf_12 : decode cX9_needOf 12 = .ok (.imul, 1) := by decide +kernel
theorem dX9_needOf_13 : decode cX9_needOf 13 = .ok (.aload_n 0, 1) := by decide +kernel
theorem dX9_needOf_14 : decode cX9_needOf 14 = .ok (.getfield 7, 3) := by decide +kernel
theorem dX9_needOf_17 : decode cX9_needOf 17 = .ok (.bipush 6, 2) := by decide +kernel
theorem dX9_needOf_19 : decode cX9_needOf 19 = .ok (.iload_n 1, 1) := by decide +kernel
theorem dX9_needOf_20 : decode cX9_needOf 20 = .ok (.iadd, 1) := by decide +kernel
theorem dX9_needOf_21 : decode cX9_needOf 21 = .ok (.iaload, 1) := by decide +kernel
theorem dX9_needOf_22 : decode cX9_needOf 22 = .ok (.iconst 2, 1) := by decide +kernel
theorem dX9_needOf_23 : decode cX9_needOf 23 = .ok (.iadd, 1) := by decide +kernel
theorem dX9_needOf_24 : decode cX9_needOf 24 = .ok (.idiv, 1) := by decide +kernel
theorem dX9_needOf_25 : decode cX9_needOf 25 = .ok (.ireturn, 1) := by decide +kernel
theorem dX9_isUntried_0 : decode cX9_isUntried 0 = .ok (.aload_n 0, 1) := by decide +kernel
theorem dX9_isUntried_1 : decode cX9_isUntried 1 = .ok (.getfield 7, 3) := by decide +kernel
theorem dX9_isUntried_4 : decode cX9_isUntried 4 = .ok (.bipush 6, 2) := by decide +kernel
theorem dX9_isUntried_6 : decode cX9_isUntried 6 = .ok (.iload_n 1, 1) := by decide +kernel
theorem dX9_isUntried_7 : decode cX9_isUntried 7 = .ok (.iadd, 1) := by decide +kernel
theorem dX9_isUntried_8 : decode cX9_isUntried 8 = .ok (.iaload, 1) := by decide +kernel
theorem dX9_isUntried_9 : decode cX9_isUntried 9 = .ok (.ifCond .ne 7, 3) := by decide +kernel
theorem dX9_isUntried_12 : decode cX9_isUntried 12 = .ok (.iconst 1, 1) := by decide +kernel
theorem dX9_isUntried_13 : decode cX9_isUntried 13 = .ok (.goto 4, 3) := by decide +kernel
theorem dX9_isUntried_16 : decode cX9_isUntried 16 = .ok (.iconst 0, 1) := by decide +kernel
theorem dX9_isUntried_17 : decode cX9_isUntried 17 = .ok (.ireturn, 1) := by decide +kernel
theorem dX9_tries_0 : decode cX9_tries 0 = .ok (.aload_n 0, 1) := by decide +kernel
theorem dX9_tries_1 : decode cX9_tries 1 = .ok (.getfield 7, 3) := by decide +kernel
theorem dX9_tries_4 : decode cX9_tries 4 = .ok (.bipush 6, 2) := by decide +kernel
theorem dX9_tries_6 : decode cX9_tries 6 = .ok (.iload_n 1, 1) := by decide +kernel
theorem dX9_tries_7 : decode cX9_tries 7 = .ok (.iadd, 1) := by decide +kernel
theorem dX9_tries_8 : decode cX9_tries 8 = .ok (.dup2, 1) := by decide +kernel
theorem dX9_tries_9 : decode cX9_tries 9 = .ok (.iaload, 1) := by decide +kernel
theorem dX9_tries_10 : decode cX9_tries 10 = .ok (.aload_n 0, 1) := by decide +kernel
theorem dX9_tries_11 : decode cX9_tries 11 = .ok (.getfield 7, 3) := by decide +kernel
theorem dX9_tries_14 : decode cX9_tries 14 = .ok (.bipush 6, 2) := by decide +kernel
theorem dX9_tries_16 : decode cX9_tries 16 = .ok (.iload_n 1, 1) := by decide +kernel
theorem dX9_tries_17 : decode cX9_tries 17 = .ok (.iadd, 1) := by decide +kernel
theorem dX9_tries_18 : decode cX9_tries 18 = .ok (.iaload, 1) := by decide +kernel
theorem dX9_tries_19 : decode cX9_tries 19 = .ok (.sipush 9999, 3) := by decide +kernel
theorem dX9_tries_22 : decode cX9_tries 22 = .ok (.if_icmp .ge 7, 3) := by decide +kernel
theorem dX9_tries_25 : decode cX9_tries 25 = .ok (.iconst 1, 1) := by decide +kernel
theorem dX9_tries_26 : decode cX9_tries 26 = .ok (.goto 4, 3) := by decide +kernel
theorem dX9_tries_29 : decode cX9_tries 29 = .ok (.iconst 0, 1) := by decide +kernel
theorem dX9_tries_30 : decode cX9_tries 30 = .ok (.iadd, 1) := by decide +kernel
theorem dX9_tries_31 : decode cX9_tries 31 = .ok (.iastore, 1) := by decide +kernel
theorem dX9_tries_32 : decode cX9_tries 32 = .ok (.aload_n 0, 1) := by decide +kernel
theorem dX9_tries_33 : decode cX9_tries 33 = .ok (.getfield 7, 3) := by decide +kernel
theorem dX9_tries_36 : decode cX9_tries 36 = .ok (.sipush 708, 3) := by decide +kernel
theorem dX9_tries_39 : decode cX9_tries 39 = .ok (.iload_n 1, 1) := by decide +kernel
theorem dX9_tries_40 : decode cX9_tries 40 = .ok (.iadd, 1) := by decide +kernel
theorem dX9_tries_41 : decode cX9_tries 41 = .ok (.dup2, 1) := by decide +kernel
theorem dX9_tries_42 : decode cX9_tries 42 = .ok (.iaload, 1) := by decide +kernel
theorem dX9_tries_43 : decode cX9_tries 43 = .ok (.iload_n 2, 1) := by decide +kernel
theorem dX9_tries_44 : decode cX9_tries 44 = .ok (.iconst 1, 1) := by decide +kernel
theorem dX9_tries_45 : decode cX9_tries 45 = .ok (.if_icmp .ne 23, 3) := by decide +kernel
theorem dX9_tries_48 : decode cX9_tries 48 = .ok (.aload_n 0, 1) := by decide +kernel
theorem dX9_tries_49 : decode cX9_tries 49 = .ok (.getfield 7, 3) := by decide +kernel
theorem dX9_tries_52 : decode cX9_tries 52 = .ok (.sipush 708, 3) := by decide +kernel
theorem dX9_tries_55 : decode cX9_tries 55 = .ok (.iload_n 1, 1) := by decide +kernel
theorem dX9_tries_56 : decode cX9_tries 56 = .ok (.iadd, 1) := by decide +kernel
theorem dX9_tries_57 : decode cX9_tries 57 = .ok (.iaload, 1) := by decide +kernel
theorem dX9_tries_58 : decode cX9_tries 58 = .ok (.sipush 9999, 3) := by decide +kernel
theorem dX9_tries_61 : decode cX9_tries 61 = .ok (.if_icmp .ge 7, 3) := by decide +kernel
theorem dX9_tries_64 : decode cX9_tries 64 = .ok (.iconst 1, 1) := by decide +kernel
theorem dX9_tries_65 : decode cX9_tries 65 = .ok (.goto 4, 3) := by decide +kernel
theorem dX9_tries_68 : decode cX9_tries 68 = .ok (.iconst 0, 1) := by decide +kernel
theorem dX9_tries_69 : decode cX9_tries 69 = .ok (.iadd, 1) := by decide +kernel
theorem dX9_tries_70 : decode cX9_tries 70 = .ok (.iastore, 1) := by decide +kernel
theorem dX9_tries_71 : decode cX9_tries 71 = .ok (.return_, 1) := by decide +kernel
theorem dX9_joinOf_0 : decode cX9_joinOf 0 = .ok (.bipush 26, 2) := by decide +kernel
theorem dX9_joinOf_2 : decode cX9_joinOf 2 = .ok (.bipush 26, 2) := by decide +kernel
theorem dX9_joinOf_4 : decode cX9_joinOf 4 = .ok (.iload_n 0, 1) := by decide +kernel
theorem dX9_joinOf_5 : decode cX9_joinOf 5 = .ok (.imul, 1) := by decide +kernel
theorem dX9_joinOf_6 : decode cX9_joinOf 6 = .ok (.iadd, 1) := by decide +kernel
theorem dX9_joinOf_7 : decode cX9_joinOf 7 = .ok (.iload_n 1, 1) := by decide +kernel
theorem dX9_joinOf_8 : decode cX9_joinOf 8 = .ok (.iadd, 1) := by decide +kernel
theorem dX9_joinOf_9 : decode cX9_joinOf 9 = .ok (.ireturn, 1) := by decide +kernel
set_option maxRecDepth 20000 in
theorem ggX9_isWord_X9_in : GoodIn wsX9_isWord wsX9_in := goodIn_r _ [5] (by decide +kernel) (by decide +kernel)
set_option maxRecDepth 20000 in
theorem gX9_isWord_X9_in : GoodIn wsX9_isWord (va_wsS RX9 57 yX9_in wsX9_in) := goodIn_app (goodIn_of _ (by decide +kernel)) ggX9_isWord_X9_in
theorem dX9_isWord_0 : decode cX9_isWord 0 = .ok (.iload_n 1, 1) := by decide +kernel
theorem dX9_isWord_1 : decode cX9_isWord 1 = .ok (.i2l, 1) := by decide +kernel
theorem dX9_isWord_2 : decode cX9_isWord 2 = .ok (.lconst 0, 1) := by decide +kernel
theorem dX9_isWord_3 : decode cX9_isWord 3 = .ok (.aload_n 0, 1) := by decide +kernel
theorem dX9_isWord_4 : decode cX9_isWord 4 = .ok (.getfield 7, 3) := by decide +kernel
theorem dX9_isWord_7 : decode cX9_isWord 7 = .ok (.iconst 5, 1) := by decide +kernel
theorem dX9_isWord_8 : decode cX9_isWord 8 = .ok (.iaload, 1) := by decide +kernel
theorem dX9_isWord_9 : decode cX9_isWord 9 = .ok (.i2l, 1) := by decide +kernel
theorem dX9_isWord_10 : decode cX9_isWord 10 = .ok (.lconst 1, 1) := by decide +kernel
theorem dX9_isWord_11 : decode cX9_isWord 11 = .ok (.lsub, 1) := by decide +kernel
theorem dX9_isWord_12 : decode cX9_isWord 12 = .ok (.invokestatic 57, 3) := by decide +kernel
theorem dX9_isWord_15 : decode cX9_isWord 15 = .ok (.ireturn, 1) := by decide +kernel
theorem dX9_sizeOf_0 : decode cX9_sizeOf 0 = .ok (.aload_n 0, 1) := by decide +kernel
theorem dX9_sizeOf_1 : decode cX9_sizeOf 1 = .ok (.getfield 7, 3) := by decide +kernel
theorem dX9_sizeOf_4 : decode cX9_sizeOf 4 = .ok (.sipush 1410, 3) := by decide +kernel
theorem dX9_sizeOf_7 : decode cX9_sizeOf 7 = .ok (.bipush 16, 2) := by decide +kernel
theorem dX9_sizeOf_9 : decode cX9_sizeOf 9 = .ok (.iload_n 1, 1) := by decide +kernel
theorem dX9_sizeOf_10 : decode cX9_sizeOf 10 = .ok (.imul, 1) := by decide +kernel
theorem dX9_sizeOf_11 : decode cX9_sizeOf 11 = .ok (.iadd, 1) := by decide +kernel
theorem dX9_sizeOf_12 : decode cX9_sizeOf 12 = .ok (.iaload, 1) := by decide +kernel
theorem dX9_sizeOf_13 : decode cX9_sizeOf 13 = .ok (.ireturn, 1) := by decide +kernel
theorem dX9_letterAt_0 : decode cX9_letterAt 0 = .ok (.aload_n 0, 1) := by decide +kernel
theorem dX9_letterAt_1 : decode cX9_letterAt 1 = .ok (.getfield 7, 3) := by decide +kernel
theorem dX9_letterAt_4 : decode cX9_letterAt 4 = .ok (.sipush 1410, 3) := by decide +kernel
theorem dX9_letterAt_7 : decode cX9_letterAt 7 = .ok (.bipush 16, 2) := by decide +kernel
theorem dX9_letterAt_9 : decode cX9_letterAt 9 = .ok (.iload_n 1, 1) := by decide +kernel
theorem dX9_letterAt_10 : decode cX9_letterAt 10 = .ok (.imul, 1) := by decide +kernel
theorem dX9_letterAt_11 : decode cX9_letterAt 11 = .ok (.iadd, 1) := by decide +kernel
theorem dX9_letterAt_12 : decode cX9_letterAt 12 = .ok (.iconst 1, 1) := by decide +kernel
theorem dX9_letterAt_13 : decode cX9_letterAt 13 = .ok (.iadd, 1) := by decide +kernel
theorem dX9_letterAt_14 : decode cX9_letterAt 14 = .ok (.iload_n 2, 1) := by decide +kernel
theorem dX9_letterAt_15 : decode cX9_letterAt 15 = .ok (.iadd, 1) := by decide +kernel
theorem dX9_letterAt_16 : decode cX9_letterAt 16 = .ok (.iaload, 1) := by decide +kernel
theorem dX9_letterAt_17 : decode cX9_letterAt 17 = .ok (.ireturn, 1) := by decide +kernel
theorem dX9_addsPart_0 : decode cX9_addsPart 0 = .ok (.iconst 0, 1) := by decide +kernel
theorem dX9_addsPart_1 : decode cX9_addsPart 1 = .ok (.istore_n 2, 1) := by decide +kernel
theorem dX9_addsPart_2 : decode cX9_addsPart 2 = .ok (.iconst 0, 1) := by decide +kernel
theorem dX9_addsPart_3 : decode cX9_addsPart 3 = .ok (.istore_n 3, 1) := by decide +kernel
theorem dX9_addsPart_4 : decode cX9_addsPart 4 = .ok (.iload_n 3, 1) := by decide +kernel
theorem dX9_addsPart_5 : decode cX9_addsPart 5 = .ok (.aload_n 0, 1) := by decide +kernel
theorem dX9_addsPart_6 : decode cX9_addsPart 6 = .ok (.getfield 61, 3) := by decide +kernel
theorem dX9_addsPart_9 : decode cX9_addsPart 9 = .ok (.if_icmp .ge 29, 3) := by decide +kernel
theorem dX9_addsPart_12 : decode cX9_addsPart 12 = .ok (.iload_n 2, 1) := by decide +kernel
theorem dX9_addsPart_13 : decode cX9_addsPart 13 = .ok (.ifCond .ne 13, 3) := by decide +kernel
theorem dX9_addsPart_16 : decode cX9_addsPart 16 = .ok (.aload_n 0, 1) := by decide +kernel
theorem dX9_addsPart_17 : decode cX9_addsPart 17 = .ok (.getfield 25, 3) := by decide +kernel
theorem dX9_addsPart_20 : decode cX9_addsPart 20 = .ok (.iload_n 3, 1) := by decide +kernel
theorem dX9_addsPart_21 : decode cX9_addsPart 21 = .ok (.iaload, 1) := by decide +kernel
theorem dX9_addsPart_22 : decode cX9_addsPart 22 = .ok (.iload_n 1, 1) := by decide +kernel
theorem dX9_addsPart_23 : decode cX9_addsPart 23 = .ok (.if_icmp .ne 7, 3) := by decide +kernel
theorem dX9_addsPart_26 : decode cX9_addsPart 26 = .ok (.iconst 1, 1) := by decide +kernel
theorem dX9_addsPart_27 : decode cX9_addsPart 27 = .ok (.goto 4, 3) := by decide +kernel
theorem dX9_addsPart_30 : decode cX9_addsPart 30 = .ok (.iconst 0, 1) := by decide +kernel
theorem dX9_addsPart_31 : decode cX9_addsPart 31 = .ok (.istore_n 2, 1) := by decide +kernel
theorem dX9_addsPart_32 : decode cX9_addsPart 32 = .ok (.iinc 3 1, 3) := by decide +kernel
theorem dX9_addsPart_35 : decode cX9_addsPart 35 = .ok (.goto (-31), 3) := by decide +kernel
theorem dX9_addsPart_38 : decode cX9_addsPart 38 = .ok (.iload_n 2, 1) := by decide +kernel
theorem dX9_addsPart_39 : decode cX9_addsPart 39 = .ok (.ifCond .ne 23, 3) := by decide +kernel
theorem dX9_addsPart_42 : decode cX9_addsPart 42 = .ok (.aload_n 0, 1) := by decide +kernel
theorem dX9_addsPart_43 : decode cX9_addsPart 43 = .ok (.getfield 25, 3) := by decide +kernel
theorem dX9_addsPart_46 : decode cX9_addsPart 46 = .ok (.aload_n 0, 1) := by decide +kernel
theorem dX9_addsPart_47 : decode cX9_addsPart 47 = .ok (.getfield 61, 3) := by decide +kernel
theorem dX9_addsPart_50 : decode cX9_addsPart 50 = .ok (.iload_n 1, 1) := by decide +kernel
theorem dX9_addsPart_51 : decode cX9_addsPart 51 = .ok (.iastore, 1) := by decide +kernel
theorem dX9_addsPart_52 : decode cX9_addsPart 52 = .ok (.aload_n 0, 1) := by decide +kernel
theorem dX9_addsPart_53 : decode cX9_addsPart 53 = .ok (.dup, 1) := by decide +kernel
theorem dX9_addsPart_54 : decode cX9_addsPart 54 = .ok (.getfield 61, 3) := by decide +kernel
theorem dX9_addsPart_57 : decode cX9_addsPart 57 = .ok (.iconst 1, 1) := by decide +kernel
theorem dX9_addsPart_58 : decode cX9_addsPart 58 = .ok (.iadd, 1) := by decide +kernel
theorem dX9_addsPart_59 : decode cX9_addsPart 59 = .ok (.putfield 61, 3) := by decide +kernel
theorem dX9_addsPart_62 : decode cX9_addsPart 62 = .ok (.return_, 1) := by decide +kernel
set_option maxRecDepth 20000 in
theorem ggX9_findsParts_X9_sizeOf : GoodIn wsX9_findsParts wsX9_sizeOf := goodIn_r _ [6, 7, 20, 21, 22, 23, 24, 25, 26, 27, 28, 29, 30, 31, 32, 33, 34, 35, 36, 37, 38] (by decide +kernel) (by decide +kernel)
set_option maxRecDepth 20000 in
theorem gX9_findsParts_X9_sizeOf : GoodIn wsX9_findsParts (wsV RX9 64 RX9 yX9_sizeOf wsX9_sizeOf) := goodIn_app (goodIn_of _ (by decide +kernel)) ggX9_findsParts_X9_sizeOf
set_option maxRecDepth 20000 in
theorem ggX9_findsParts_X9_letterAt : GoodIn wsX9_findsParts wsX9_letterAt := goodIn_r _ [11, 7, 20, 21, 22, 23, 24, 25, 26, 27, 28, 29, 30, 31, 32, 33, 34, 35, 36, 37, 38] (by decide +kernel) (by decide +kernel)
set_option maxRecDepth 20000 in
theorem gX9_findsParts_X9_letterAt : GoodIn wsX9_findsParts (wsV RX9 68 RX9 yX9_letterAt wsX9_letterAt) := goodIn_app (goodIn_of _ (by decide +kernel)) ggX9_findsParts_X9_letterAt
set_option maxRecDepth 20000 in
theorem ggX9_findsParts_X9_addsPart : GoodIn wsX9_findsParts wsX9_addsPart := goodIn_r _ [15, 1, 16, 20, 21, 22, 23, 24, 25, 26, 27, 28, 29, 30, 31, 32, 33, 34, 35, 36, 37, 38] (by decide +kernel) (by decide +kernel)
set_option maxRecDepth 20000 in
theorem gX9_findsParts_X9_addsPart : GoodIn wsX9_findsParts (wsV RX9 72 RX9 yX9_addsPart wsX9_addsPart) := goodIn_app (goodIn_of _ (by decide +kernel)) ggX9_findsParts_X9_addsPart
set_option maxRecDepth 20000 in
theorem ggX9_findsParts_X9_joinOf : GoodIn wsX9_findsParts wsX9_joinOf := goodIn_r _ [19] (by decide +kernel) (by decide +kernel)
set_option maxRecDepth 20000 in
theorem gX9_findsParts_X9_joinOf : GoodIn wsX9_findsParts (va_wsS RX9 76 yX9_joinOf wsX9_joinOf) := goodIn_app (goodIn_of _ (by decide +kernel)) ggX9_findsParts_X9_joinOf
theorem dX9_findsParts_0 : decode cX9_findsParts 0 = .ok (.aload_n 0, 1) := by decide +kernel
theorem dX9_findsParts_1 : decode cX9_findsParts 1 = .ok (.iconst 0, 1) := by decide +kernel
theorem dX9_findsParts_2 : decode cX9_findsParts 2 = .ok (.putfield 61, 3) := by decide +kernel
theorem dX9_findsParts_5 : decode cX9_findsParts 5 = .ok (.iconst 0, 1) := by decide +kernel
theorem dX9_findsParts_6 : decode cX9_findsParts 6 = .ok (.istore_n 2, 1) := by decide +kernel
theorem dX9_findsParts_7 : decode cX9_findsParts 7 = .ok (.iload_n 2, 1) := by decide +kernel
theorem dX9_findsParts_8 : decode cX9_findsParts 8 = .ok (.aload_n 0, 1) := by decide +kernel
theorem dX9_findsParts_9 : decode cX9_findsParts 9 = .ok (.iload_n 1, 1) := by decide +kernel
theorem dX9_findsParts_10 : decode cX9_findsParts 10 = .ok (.invokevirtual 64, 3) := by decide +kernel
theorem dX9_findsParts_13 : decode cX9_findsParts 13 = .ok (.if_icmp .ge 44, 3) := by decide +kernel
theorem dX9_findsParts_16 : decode cX9_findsParts 16 = .ok (.aload_n 0, 1) := by decide +kernel
theorem dX9_findsParts_17 : decode cX9_findsParts 17 = .ok (.aload_n 0, 1) := by decide +kernel
theorem dX9_findsParts_18 : decode cX9_findsParts 18 = .ok (.iload_n 1, 1) := by decide +kernel
theorem dX9_findsParts_19 : decode cX9_findsParts 19 = .ok (.iload_n 2, 1) := by decide +kernel
theorem dX9_findsParts_20 : decode cX9_findsParts 20 = .ok (.invokevirtual 68, 3) := by decide +kernel
theorem dX9_findsParts_23 : decode cX9_findsParts 23 = .ok (.invokevirtual 72, 3) := by decide +kernel
theorem dX9_findsParts_26 : decode cX9_findsParts 26 = .ok (.iload_n 2, 1) := by decide +kernel
theorem dX9_findsParts_27 : decode cX9_findsParts 27 = .ok (.ifCond .le 24, 3) := by decide +kernel
theorem dX9_findsParts_30 : decode cX9_findsParts 30 = .ok (.aload_n 0, 1) := by decide +kernel
theorem dX9_findsParts_31 : decode cX9_findsParts 31 = .ok (.aload_n 0, 1) := by decide +kernel
theorem dX9_findsParts_32 : decode cX9_findsParts 32 = .ok (.iload_n 1, 1) := by decide +kernel
theorem dX9_findsParts_33 : decode cX9_findsParts 33 = .ok (.iload_n 2, 1) := by decide +kernel
theorem dX9_findsParts_34 : decode cX9_findsParts 34 = .ok (.iconst 1, 1) := by decide +kernel
theorem dX9_findsParts_35 : decode cX9_findsParts 35 = .ok (.isub, 1) := by decide +kernel
theorem dX9_findsParts_36 : decode cX9_findsParts 36 = .ok (.invokevirtual 68, 3) := by decide +kernel
theorem dX9_findsParts_39 : decode cX9_findsParts 39 = .ok (.aload_n 0, 1) := by decide +kernel
theorem dX9_findsParts_40 : decode cX9_findsParts 40 = .ok (.iload_n 1, 1) := by decide +kernel
theorem dX9_findsParts_41 : decode cX9_findsParts 41 = .ok (.iload_n 2, 1) := by decide +kernel
theorem dX9_findsParts_42 : decode cX9_findsParts 42 = .ok (.invokevirtual 68, 3) := by decide +kernel
theorem dX9_findsParts_45 : decode cX9_findsParts 45 = .ok (.invokestatic 76, 3) := by decide +kernel
theorem dX9_findsParts_48 : decode cX9_findsParts 48 = .ok (.invokevirtual 72, 3) := by decide +kernel
theorem dX9_findsParts_51 : decode cX9_findsParts 51 = .ok (.iinc 2 1, 3) := by decide +kernel
theorem dX9_findsParts_54 : decode cX9_findsParts 54 = .ok (.goto (-47), 3) := by decide +kernel
theorem dX9_findsParts_57 : decode cX9_findsParts 57 = .ok (.return_, 1) := by decide +kernel
set_option maxRecDepth 20000 in
theorem ggX9_hasPart_X9_findsParts : GoodIn wsX9_hasPart wsX9_findsParts := goodIn_r _ [7, 1, 8, 9, 10, 6, 11, 12, 13, 14, 15, 16, 17, 18, 19, 20, 2, 21, 22, 23, 24, 25, 26, 27, 28, 29, 30, 31, 32, 33, 34, 35, 36, 37, 38, 39, 40, 41, 42] (by decide +kernel) (by decide +kernel)
set_option maxRecDepth 20000 in
theorem gX9_hasPart_X9_findsParts : GoodIn wsX9_hasPart (wsV RX9 79 RX9 yX9_findsParts wsX9_findsParts) := goodIn_app (goodIn_of _ (by decide +kernel)) ggX9_hasPart_X9_findsParts
theorem dX9_hasPart_0 : decode cX9_hasPart 0 = .ok (.aload_n 0, 1) := by decide +kernel
theorem dX9_hasPart_1 : decode cX9_hasPart 1 = .ok (.iload_n 1, 1) := by decide +kernel
theorem dX9_hasPart_2 : decode cX9_hasPart 2 = .ok (.invokevirtual 79, 3) := by decide +kernel
theorem dX9_hasPart_5 : decode cX9_hasPart 5 = .ok (.iconst 0, 1) := by decide +kernel
theorem dX9_hasPart_6 : decode cX9_hasPart 6 = .ok (.istore_n 3, 1) := by decide +kernel
theorem dX9_hasPart_7 : decode cX9_hasPart 7 = .ok (.iconst 0, 1) := by decide +kernel
theorem dX9_hasPart_8 : decode cX9_hasPart 8 = .ok (.istore 4, 2) := by decide +kernel
theorem dX9_hasPart_10 : decode cX9_hasPart 10 = .ok (.iload 4, 2) := by decide +kernel
theorem dX9_hasPart_12 : decode cX9_hasPart 12 = .ok (.aload_n 0, 1) := by decide +kernel
theorem dX9_hasPart_13 : decode cX9_hasPart 13 = .ok (.getfield 61, 3) := by decide +kernel
theorem dX9_hasPart_16 : decode cX9_hasPart 16 = .ok (.if_icmp .ge 30, 3) := by decide +kernel
theorem dX9_hasPart_19 : decode cX9_hasPart 19 = .ok (.iload_n 3, 1) := by decide +kernel
theorem dX9_hasPart_20 : decode cX9_hasPart 20 = .ok (.ifCond .ne 14, 3) := by decide +kernel
theorem dX9_hasPart_23 : decode cX9_hasPart 23 = .ok (.aload_n 0, 1) := by decide +kernel
theorem dX9_hasPart_24 : decode cX9_hasPart 24 = .ok (.getfield 25, 3) := by decide +kernel
theorem dX9_hasPart_27 : decode cX9_hasPart 27 = .ok (.iload 4, 2) := by decide +kernel
theorem dX9_hasPart_29 : decode cX9_hasPart 29 = .ok (.iaload, 1) := by decide +kernel
theorem dX9_hasPart_30 : decode cX9_hasPart 30 = .ok (.iload_n 2, 1) := by decide +kernel
theorem dX9_hasPart_31 : decode cX9_hasPart 31 = .ok (.if_icmp .ne 7, 3) := by decide +kernel
theorem dX9_hasPart_34 : decode cX9_hasPart 34 = .ok (.iconst 1, 1) := by decide +kernel
theorem dX9_hasPart_35 : decode cX9_hasPart 35 = .ok (.goto 4, 3) := by decide +kernel
theorem dX9_hasPart_38 : decode cX9_hasPart 38 = .ok (.iconst 0, 1) := by decide +kernel
theorem dX9_hasPart_39 : decode cX9_hasPart 39 = .ok (.istore_n 3, 1) := by decide +kernel
theorem dX9_hasPart_40 : decode cX9_hasPart 40 = .ok (.iinc 4 1, 3) := by decide +kernel
theorem dX9_hasPart_43 : decode cX9_hasPart 43 = .ok (.goto (-33), 3) := by decide +kernel
theorem dX9_hasPart_46 : decode cX9_hasPart 46 = .ok (.iload_n 3, 1) := by decide +kernel
theorem dX9_hasPart_47 : decode cX9_hasPart 47 = .ok (.ireturn, 1) := by decide +kernel
set_option maxRecDepth 20000 in
theorem ggX9_wordsWith_X9_hasPart : GoodIn wsX9_wordsWith wsX9_hasPart := goodIn_r _ [6, 7, 8, 9, 10, 11, 5, 12, 13, 14, 15, 16, 1, 17, 18, 19, 20, 21, 22, 23, 24, 25, 26, 27, 28, 29, 30, 31, 32, 33, 34, 35, 36, 37, 38, 39, 40, 41, 42, 43, 44, 45, 46] (by decide +kernel) (by decide +kernel)
set_option maxRecDepth 20000 in
theorem gX9_wordsWith_X9_hasPart : GoodIn wsX9_wordsWith (wsV RX9 82 RX9 yX9_hasPart wsX9_hasPart) := goodIn_app (goodIn_of _ (by decide +kernel)) ggX9_wordsWith_X9_hasPart
theorem dX9_wordsWith_0 : decode cX9_wordsWith 0 = .ok (.iconst 0, 1) := by decide +kernel
theorem dX9_wordsWith_1 : decode cX9_wordsWith 1 = .ok (.istore_n 2, 1) := by decide +kernel
theorem dX9_wordsWith_2 : decode cX9_wordsWith 2 = .ok (.iconst 0, 1) := by decide +kernel
theorem dX9_wordsWith_3 : decode cX9_wordsWith 3 = .ok (.istore_n 3, 1) := by decide +kernel
theorem dX9_wordsWith_4 : decode cX9_wordsWith 4 = .ok (.iload_n 3, 1) := by decide +kernel
theorem dX9_wordsWith_5 : decode cX9_wordsWith 5 = .ok (.aload_n 0, 1) := by decide +kernel
theorem dX9_wordsWith_6 : decode cX9_wordsWith 6 = .ok (.getfield 7, 3) := by decide +kernel
theorem dX9_wordsWith_9 : decode cX9_wordsWith 9 = .ok (.iconst 5, 1) := by decide +kernel
theorem dX9_wordsWith_10 : decode cX9_wordsWith 10 = .ok (.iaload, 1) := by decide +kernel
theorem dX9_wordsWith_11 : decode cX9_wordsWith 11 = .ok (.if_icmp .ge 26, 3) := by decide +kernel
theorem dX9_wordsWith_14 : decode cX9_wordsWith 14 = .ok (.iload_n 2, 1) := by decide +kernel
theorem dX9_wordsWith_15 : decode cX9_wordsWith 15 = .ok (.aload_n 0, 1) := by decide +kernel
theorem dX9_wordsWith_16 : decode cX9_wordsWith 16 = .ok (.iload_n 3, 1) := by decide +kernel
theorem dX9_wordsWith_17 : decode cX9_wordsWith 17 = .ok (.iload_n 1, 1) := by decide +kernel
theorem dX9_wordsWith_18 : decode cX9_wordsWith 18 = .ok (.invokevirtual 82, 3) := by decide +kernel
theorem dX9_wordsWith_21 : decode cX9_wordsWith 21 = .ok (.ifCond .eq 7, 3) := by decide +kernel
theorem dX9_wordsWith_24 : decode cX9_wordsWith 24 = .ok (.iconst 1, 1) := by decide +kernel
theorem dX9_wordsWith_25 : decode cX9_wordsWith 25 = .ok (.goto 4, 3) := by decide +kernel
theorem dX9_wordsWith_28 : decode cX9_wordsWith 28 = .ok (.iconst 0, 1) := by decide +kernel
theorem dX9_wordsWith_29 : decode cX9_wordsWith 29 = .ok (.iadd, 1) := by decide +kernel
theorem dX9_wordsWith_30 : decode cX9_wordsWith 30 = .ok (.istore_n 2, 1) := by decide +kernel
theorem dX9_wordsWith_31 : decode cX9_wordsWith 31 = .ok (.iinc 3 1, 3) := by decide +kernel
theorem dX9_wordsWith_34 : decode cX9_wordsWith 34 = .ok (.goto (-30), 3) := by decide +kernel
theorem dX9_wordsWith_37 : decode cX9_wordsWith 37 = .ok (.iload_n 2, 1) := by decide +kernel
theorem dX9_wordsWith_38 : decode cX9_wordsWith 38 = .ok (.ireturn, 1) := by decide +kernel
set_option maxRecDepth 20000 in
theorem ggX9_gainOf_X9_findsParts : GoodIn wsX9_gainOf wsX9_findsParts := goodIn_r _ [9, 1, 10, 11, 12, 8, 13, 3, 14, 15, 16, 17, 18, 19, 20, 21, 2, 22, 23, 24, 33, 34, 35, 36, 37, 38, 39, 40, 41, 42, 43, 44, 45, 46, 47, 48, 49, 50, 51] (by decide +kernel) (by decide +kernel)
set_option maxRecDepth 20000 in
theorem gX9_gainOf_X9_findsParts : GoodIn wsX9_gainOf (wsV RX9 79 RX9 yX9_findsParts wsX9_findsParts) := goodIn_app (goodIn_of _ (by decide +kernel)) ggX9_gainOf_X9_findsParts
set_option maxRecDepth 20000 in
theorem ggX9_gainOf_X9_isUntried : GoodIn wsX9_gainOf wsX9_isUntried := goodIn_r _ [28, 3, 33, 34, 35, 36, 37, 38, 39, 40, 41, 42, 43, 44, 45, 46, 47, 48, 49, 50, 51] (by decide +kernel) (by decide +kernel)
set_option maxRecDepth 20000 in
theorem gX9_gainOf_X9_isUntried : GoodIn wsX9_gainOf (wsV RX9 86 RX9 yX9_isUntried wsX9_isUntried) := goodIn_app (goodIn_of _ (by decide +kernel)) ggX9_gainOf_X9_isUntried
set_option maxRecDepth 20000 in
theorem ggX9_gainOf_X9_needOf : GoodIn wsX9_gainOf wsX9_needOf := goodIn_r _ [32, 3, 33, 34, 35, 36, 37, 38, 39, 40, 41, 42, 43, 44, 45, 46, 47, 48, 49, 50, 51] (by decide +kernel) (by decide +kernel)
set_option maxRecDepth 20000 in
theorem gX9_gainOf_X9_needOf : GoodIn wsX9_gainOf (wsV RX9 90 RX9 yX9_needOf wsX9_needOf) := goodIn_app (goodIn_of _ (by decide +kernel)) ggX9_gainOf_X9_needOf
theorem dX9_gainOf_0 : decode cX9_gainOf 0 = .ok (.aload_n 0, 1) := by decide +kernel
theorem dX9_gainOf_1 : decode cX9_gainOf 1 = .ok (.iload_n 1, 1) := by decide +kernel
theorem dX9_gainOf_2 : decode cX9_gainOf 2 = .ok (.invokevirtual 79, 3) := by decide +kernel
theorem dX9_gainOf_5 : decode cX9_gainOf 5 = .ok (.iconst 0, 1) := by decide +kernel
theorem dX9_gainOf_6 : decode cX9_gainOf 6 = .ok (.istore_n 2, 1) := by decide +kernel
theorem dX9_gainOf_7 : decode cX9_gainOf 7 = .ok (.iconst 0, 1) := by decide +kernel
theorem dX9_gainOf_8 : decode cX9_gainOf 8 = .ok (.istore_n 3, 1) := by decide +kernel
theorem dX9_gainOf_9 : decode cX9_gainOf 9 = .ok (.iload_n 3, 1) := by decide +kernel
theorem dX9_gainOf_10 : decode cX9_gainOf 10 = .ok (.aload_n 0, 1) := by decide +kernel
theorem dX9_gainOf_11 : decode cX9_gainOf 11 = .ok (.getfield 61, 3) := by decide +kernel
theorem dX9_gainOf_14 : decode cX9_gainOf 14 = .ok (.if_icmp .ge 66, 3) := by decide +kernel
theorem dX9_gainOf_17 : decode cX9_gainOf 17 = .ok (.aload_n 0, 1) := by decide +kernel
theorem dX9_gainOf_18 : decode cX9_gainOf 18 = .ok (.getfield 25, 3) := by decide +kernel
theorem dX9_gainOf_21 : decode cX9_gainOf 21 = .ok (.iload_n 3, 1) := by decide +kernel
theorem dX9_gainOf_22 : decode cX9_gainOf 22 = .ok (.iaload, 1) := by decide +kernel
theorem dX9_gainOf_23 : decode cX9_gainOf 23 = .ok (.istore 4, 2) := by decide +kernel
theorem dX9_gainOf_25 : decode cX9_gainOf 25 = .ok (.iload_n 2, 1) := by decide +kernel
theorem dX9_gainOf_26 : decode cX9_gainOf 26 = .ok (.aload_n 0, 1) := by decide +kernel
theorem dX9_gainOf_27 : decode cX9_gainOf 27 = .ok (.iload 4, 2) := by decide +kernel
theorem dX9_gainOf_29 : decode cX9_gainOf 29 = .ok (.invokevirtual 86, 3) := by decide +kernel
theorem dX9_gainOf_32 : decode cX9_gainOf 32 = .ok (.ifCond .eq 12, 3) := by decide +kernel
theorem dX9_gainOf_35 : decode cX9_gainOf 35 = .ok (.aload_n 0, 1) := by decide +kernel
theorem dX9_gainOf_36 : decode cX9_gainOf 36 = .ok (.getfield 7, 3) := by decide +kernel
theorem dX9_gainOf_39 : decode cX9_gainOf 39 = .ok (.iconst 0, 1) := by decide +kernel
theorem dX9_gainOf_40 : decode cX9_gainOf 40 = .ok (.iaload, 1) := by decide +kernel
theorem dX9_gainOf_41 : decode cX9_gainOf 41 = .ok (.goto 31, 3) := by decide +kernel
theorem dX9_gainOf_44 : decode cX9_gainOf 44 = .ok (.aload_n 0, 1) := by decide +kernel
theorem dX9_gainOf_45 : decode cX9_gainOf 45 = .ok (.getfield 34, 3) := by decide +kernel
theorem dX9_gainOf_48 : decode cX9_gainOf 48 = .ok (.iload 4, 2) := by decide +kernel
theorem dX9_gainOf_50 : decode cX9_gainOf 50 = .ok (.iaload, 1) := by decide +kernel
theorem dX9_gainOf_51 : decode cX9_gainOf 51 = .ok (.iconst 1, 1) := by decide +kernel
theorem dX9_gainOf_52 : decode cX9_gainOf 52 = .ok (.if_icmp .ne 14, 3) := by decide +kernel
theorem dX9_gainOf_55 : decode cX9_gainOf 55 = .ok (.aload_n 0, 1) := by decide +kernel
theorem dX9_gainOf_56 : decode cX9_gainOf 56 = .ok (.iload 4, 2) := by decide +kernel
theorem dX9_gainOf_58 : decode cX9_gainOf 58 = .ok (.invokevirtual 90, 3) := by decide +kernel
theorem dX9_gainOf_61 : decode cX9_gainOf 61 = .ok (.iconst 2, 1) := by decide +kernel
theorem dX9_gainOf_62 : decode cX9_gainOf 62 = .ok (.idiv, 1) := by decide +kernel
theorem dX9_gainOf_63 : decode cX9_gainOf 63 = .ok (.goto 9, 3) := by decide +kernel
theorem dX9_gainOf_66 : decode cX9_gainOf 66 = .ok (.aload_n 0, 1) := by decide +kernel
theorem dX9_gainOf_67 : decode cX9_gainOf 67 = .ok (.iload 4, 2) := by decide +kernel
theorem dX9_gainOf_69 : decode cX9_gainOf 69 = .ok (.invokevirtual 90, 3) := by decide +kernel
theorem dX9_gainOf_72 : decode cX9_gainOf 72 = .ok (.iadd, 1) := by decide +kernel
theorem dX9_gainOf_73 : decode cX9_gainOf 73 = .ok (.istore_n 2, 1) := by decide +kernel
theorem dX9_gainOf_74 : decode cX9_gainOf 74 = .ok (.iinc 3 1, 3) := by decide +kernel
theorem dX9_gainOf_77 : decode cX9_gainOf 77 = .ok (.goto (-68), 3) := by decide +kernel
theorem dX9_gainOf_80 : decode cX9_gainOf 80 = .ok (.iload_n 2, 1) := by decide +kernel
theorem dX9_gainOf_81 : decode cX9_gainOf 81 = .ok (.ireturn, 1) := by decide +kernel
theorem dX9_coversNone_0 : decode cX9_coversNone 0 = .ok (.iconst 0, 1) := by decide +kernel
theorem dX9_coversNone_1 : decode cX9_coversNone 1 = .ok (.istore_n 1, 1) := by decide +kernel
theorem dX9_coversNone_2 : decode cX9_coversNone 2 = .ok (.iload_n 1, 1) := by decide +kernel
theorem dX9_coversNone_3 : decode cX9_coversNone 3 = .ok (.sipush 702, 3) := by decide +kernel
theorem dX9_coversNone_6 : decode cX9_coversNone 6 = .ok (.if_icmp .ge 16, 3) := by decide +kernel
theorem dX9_coversNone_9 : decode cX9_coversNone 9 = .ok (.aload_n 0, 1) := by decide +kernel
theorem dX9_coversNone_10 : decode cX9_coversNone 10 = .ok (.getfield 34, 3) := by decide +kernel
theorem dX9_coversNone_13 : decode cX9_coversNone 13 = .ok (.iload_n 1, 1) := by decide +kernel
theorem dX9_coversNone_14 : decode cX9_coversNone 14 = .ok (.iconst 0, 1) := by decide +kernel
theorem dX9_coversNone_15 : decode cX9_coversNone 15 = .ok (.iastore, 1) := by decide +kernel
theorem dX9_coversNone_16 : decode cX9_coversNone 16 = .ok (.iinc 1 1, 3) := by decide +kernel
theorem dX9_coversNone_19 : decode cX9_coversNone 19 = .ok (.goto (-17), 3) := by decide +kernel
theorem dX9_coversNone_22 : decode cX9_coversNone 22 = .ok (.return_, 1) := by decide +kernel
theorem dX9_isOnSheet_0 : decode cX9_isOnSheet 0 = .ok (.iconst 0, 1) := by decide +kernel
theorem dX9_isOnSheet_1 : decode cX9_isOnSheet 1 = .ok (.istore_n 2, 1) := by decide +kernel
theorem dX9_isOnSheet_2 : decode cX9_isOnSheet 2 = .ok (.iconst 0, 1) := by decide +kernel
theorem dX9_isOnSheet_3 : decode cX9_isOnSheet 3 = .ok (.istore_n 3, 1) := by decide +kernel
theorem dX9_isOnSheet_4 : decode cX9_isOnSheet 4 = .ok (.iload_n 3, 1) := by decide +kernel
theorem dX9_isOnSheet_5 : decode cX9_isOnSheet 5 = .ok (.aload_n 0, 1) := by decide +kernel
theorem dX9_isOnSheet_6 : decode cX9_isOnSheet 6 = .ok (.getfield 93, 3) := by decide +kernel
theorem dX9_isOnSheet_9 : decode cX9_isOnSheet 9 = .ok (.if_icmp .ge 29, 3) := by decide +kernel
theorem dX9_isOnSheet_12 : decode cX9_isOnSheet 12 = .ok (.iload_n 2, 1) := by decide +kernel
theorem dX9_isOnSheet_13 : decode cX9_isOnSheet 13 = .ok (.ifCond .ne 13, 3) := by decide +kernel
theorem dX9_isOnSheet_16 : decode cX9_isOnSheet 16 = .ok (.aload_n 0, 1) := by decide +kernel
theorem dX9_isOnSheet_17 : decode cX9_isOnSheet 17 = .ok (.getfield 28, 3) := by decide +kernel
theorem dX9_isOnSheet_20 : decode cX9_isOnSheet 20 = .ok (.iload_n 3, 1) := by decide +kernel
theorem dX9_isOnSheet_21 : decode cX9_isOnSheet 21 = .ok (.iaload, 1) := by decide +kernel
theorem dX9_isOnSheet_22 : decode cX9_isOnSheet 22 = .ok (.iload_n 1, 1) := by decide +kernel
theorem dX9_isOnSheet_23 : decode cX9_isOnSheet 23 = .ok (.if_icmp .ne 7, 3) := by decide +kernel
theorem dX9_isOnSheet_26 : decode cX9_isOnSheet 26 = .ok (.iconst 1, 1) := by decide +kernel
theorem dX9_isOnSheet_27 : decode cX9_isOnSheet 27 = .ok (.goto 4, 3) := by decide +kernel
theorem dX9_isOnSheet_30 : decode cX9_isOnSheet 30 = .ok (.iconst 0, 1) := by decide +kernel
theorem dX9_isOnSheet_31 : decode cX9_isOnSheet 31 = .ok (.istore_n 2, 1) := by decide +kernel
theorem dX9_isOnSheet_32 : decode cX9_isOnSheet 32 = .ok (.iinc 3 1, 3) := by decide +kernel
theorem dX9_isOnSheet_35 : decode cX9_isOnSheet 35 = .ok (.goto (-31), 3) := by decide +kernel
theorem dX9_isOnSheet_38 : decode cX9_isOnSheet 38 = .ok (.iload_n 2, 1) := by decide +kernel
theorem dX9_isOnSheet_39 : decode cX9_isOnSheet 39 = .ok (.ireturn, 1) := by decide +kernel
set_option maxRecDepth 20000 in
theorem ggX9_nextWord_X9_isOnSheet : GoodIn wsX9_nextWord wsX9_isOnSheet := goodIn_r _ [6, 7, 8, 43, 44, 45, 46, 47, 48, 49, 50, 51, 52, 53, 54, 55, 56, 57, 58, 59, 60, 61] (by decide +kernel) (by decide +kernel)
set_option maxRecDepth 20000 in
theorem gX9_nextWord_X9_isOnSheet : GoodIn wsX9_nextWord (wsV RX9 96 RX9 yX9_isOnSheet wsX9_isOnSheet) := goodIn_app (goodIn_of _ (by decide +kernel)) ggX9_nextWord_X9_isOnSheet
set_option maxRecDepth 20000 in
theorem ggX9_nextWord_X9_gainOf : GoodIn wsX9_nextWord wsX9_gainOf := goodIn_r _ [12, 13, 14, 1, 15, 16, 17, 18, 5, 19, 20, 21, 22, 23, 24, 25, 26, 27, 28, 29, 30, 31, 32, 33, 34, 35, 36, 37, 38, 39, 40, 41, 42, 43, 44, 45, 46, 47, 48, 49, 50, 51, 52, 53, 54, 55, 56, 57, 58, 59, 60, 61] (by decide +kernel) (by decide +kernel)
set_option maxRecDepth 20000 in
theorem gX9_nextWord_X9_gainOf : GoodIn wsX9_nextWord (wsV RX9 99 RX9 yX9_gainOf wsX9_gainOf) := goodIn_app (goodIn_of _ (by decide +kernel)) ggX9_nextWord_X9_gainOf
set_option maxRecDepth 20000 in
theorem ggX9_nextWord_X9_sizeOf : GoodIn wsX9_nextWord wsX9_sizeOf := goodIn_r _ [23, 1, 43, 44, 45, 46, 47, 48, 49, 50, 51, 52, 53, 54, 55, 56, 57, 58, 59, 60, 61] (by decide +kernel) (by decide +kernel)
set_option maxRecDepth 20000 in
theorem gX9_nextWord_X9_sizeOf : GoodIn wsX9_nextWord (wsV RX9 64 RX9 yX9_sizeOf wsX9_sizeOf) := goodIn_app (goodIn_of _ (by decide +kernel)) ggX9_nextWord_X9_sizeOf
theorem dX9_nextWord_0 : decode cX9_nextWord 0 = .ok (.bipush (-5), 2) := by decide +kernel
theorem dX9_nextWord_2 : decode cX9_nextWord 2 = .ok (.istore_n 1, 1) := by decide +kernel
theorem dX9_nextWord_3 : decode cX9_nextWord 3 = .ok (.iconst 0, 1) := by decide +kernel
theorem dX9_nextWord_4 : decode cX9_nextWord 4 = .ok (.istore_n 2, 1) := by decide +kernel
theorem dX9_nextWord_5 : decode cX9_nextWord 5 = .ok (.iconst 0, 1) := by decide +kernel
theorem dX9_nextWord_6 : decode cX9_nextWord 6 = .ok (.istore_n 3, 1) := by decide +kernel
theorem dX9_nextWord_7 : decode cX9_nextWord 7 = .ok (.iload_n 3, 1) := by decide +kernel
theorem dX9_nextWord_8 : decode cX9_nextWord 8 = .ok (.aload_n 0, 1) := by decide +kernel
theorem dX9_nextWord_9 : decode cX9_nextWord 9 = .ok (.getfield 7, 3) := by decide +kernel
theorem dX9_nextWord_12 : decode cX9_nextWord 12 = .ok (.iconst 5, 1) := by decide +kernel
theorem dX9_nextWord_13 : decode cX9_nextWord 13 = .ok (.iaload, 1) := by decide +kernel
theorem dX9_nextWord_14 : decode cX9_nextWord 14 = .ok (.if_icmp .ge 89, 3) := by decide +kernel
theorem dX9_nextWord_17 : decode cX9_nextWord 17 = .ok (.aload_n 0, 1) := by decide +kernel
theorem dX9_nextWord_18 : decode cX9_nextWord 18 = .ok (.iload_n 3, 1) := by decide +kernel
theorem dX9_nextWord_19 : decode cX9_nextWord 19 = .ok (.invokevirtual 96, 3) := by decide +kernel
theorem dX9_nextWord_22 : decode cX9_nextWord 22 = .ok (.ifCond .eq 7, 3) := by decide +kernel
theorem dX9_nextWord_25 : decode cX9_nextWord 25 = .ok (.iconst 0, 1) := by decide +kernel
theorem dX9_nextWord_26 : decode cX9_nextWord 26 = .ok (.goto 8, 3) := by decide +kernel
theorem dX9_nextWord_29 : decode cX9_nextWord 29 = .ok (.aload_n 0, 1) := by decide +kernel
theorem dX9_nextWord_30 : decode cX9_nextWord 30 = .ok (.iload_n 3, 1) := by decide +kernel
theorem dX9_nextWord_31 : decode cX9_nextWord 31 = .ok (.invokevirtual 99, 3) := by decide +kernel
theorem dX9_nextWord_34 : decode cX9_nextWord 34 = .ok (.istore 4, 2) := by decide +kernel
theorem dX9_nextWord_36 : decode cX9_nextWord 36 = .ok (.iload 4, 2) := by decide +kernel
theorem dX9_nextWord_38 : decode cX9_nextWord 38 = .ok (.iload_n 2, 1) := by decide +kernel
theorem dX9_nextWord_39 : decode cX9_nextWord 39 = .ok (.if_icmp .gt 28, 3) := by decide +kernel
theorem dX9_nextWord_42 : decode cX9_nextWord 42 = .ok (.iload_n 1, 1) := by decide +kernel
theorem dX9_nextWord_43 : decode cX9_nextWord 43 = .ok (.bipush (-5), 2) := by decide +kernel
theorem dX9_nextWord_45 : decode cX9_nextWord 45 = .ok (.if_icmp .eq 26, 3) := by decide +kernel
theorem dX9_nextWord_48 : decode cX9_nextWord 48 = .ok (.iload 4, 2) := by decide +kernel
theorem dX9_nextWord_50 : decode cX9_nextWord 50 = .ok (.iload_n 2, 1) := by decide +kernel
theorem dX9_nextWord_51 : decode cX9_nextWord 51 = .ok (.if_icmp .ne 20, 3) := by decide +kernel
theorem dX9_nextWord_54 : decode cX9_nextWord 54 = .ok (.aload_n 0, 1) := by decide +kernel
theorem dX9_nextWord_55 : decode cX9_nextWord 55 = .ok (.iload_n 3, 1) := by decide +kernel
theorem dX9_nextWord_56 : decode cX9_nextWord 56 = .ok (.invokevirtual 64, 3) := by decide +kernel
theorem dX9_nextWord_59 : decode cX9_nextWord 59 = .ok (.aload_n 0, 1) := by decide +kernel
theorem dX9_nextWord_60 : decode cX9_nextWord 60 = .ok (.iload_n 1, 1) := by decide +kernel
theorem dX9_nextWord_61 : decode cX9_nextWord 61 = .ok (.invokevirtual 64, 3) := by decide +kernel
theorem dX9_nextWord_64 : decode cX9_nextWord 64 = .ok (.if_icmp .ge 7, 3) := by decide +kernel
theorem dX9_nextWord_67 : decode cX9_nextWord 67 = .ok (.iconst 1, 1) := by decide +kernel
theorem dX9_nextWord_68 : decode cX9_nextWord 68 = .ok (.goto 4, 3) := by decide +kernel
theorem dX9_nextWord_71 : decode cX9_nextWord 71 = .ok (.iconst 0, 1) := by decide +kernel
theorem dX9_nextWord_72 : decode cX9_nextWord 72 = .ok (.istore 5, 2) := by decide +kernel
theorem dX9_nextWord_74 : decode cX9_nextWord 74 = .ok (.iload 5, 2) := by decide +kernel
theorem dX9_nextWord_76 : decode cX9_nextWord 76 = .ok (.ifCond .eq 7, 3) := by decide +kernel
theorem dX9_nextWord_79 : decode cX9_nextWord 79 = .ok (.iload_n 3, 1) := by decide +kernel
theorem dX9_nextWord_80 : decode cX9_nextWord 80 = .ok (.goto 4, 3) := by decide +kernel
theorem dX9_nextWord_83 : decode cX9_nextWord 83 = .ok (.iload_n 1, 1) := by decide +kernel
theorem dX9_nextWord_84 : decode cX9_nextWord 84 = .ok (.istore_n 1, 1) := by decide +kernel
theorem dX9_nextWord_85 : decode cX9_nextWord 85 = .ok (.iload 5, 2) := by decide +kernel
theorem dX9_nextWord_87 : decode cX9_nextWord 87 = .ok (.ifCond .eq 8, 3) := by decide +kernel
theorem dX9_nextWord_90 : decode cX9_nextWord 90 = .ok (.iload 4, 2) := by decide +kernel
theorem dX9_nextWord_92 : decode cX9_nextWord 92 = .ok (.goto 4, 3) := by decide +kernel
theorem dX9_nextWord_95 : decode cX9_nextWord 95 = .ok (.iload_n 2, 1) := by decide +kernel
theorem dX9_nextWord_96 : decode cX9_nextWord 96 = .ok (.istore_n 2, 1) := by decide +kernel
theorem dX9_nextWord_97 : decode cX9_nextWord 97 = .ok (.iinc 3 1, 3) := by decide +kernel
theorem dX9_nextWord_100 : decode cX9_nextWord 100 = .ok (.goto (-93), 3) := by decide +kernel
theorem dX9_nextWord_103 : decode cX9_nextWord 103 = .ok (.iload_n 1, 1) := by decide +kernel
theorem dX9_nextWord_104 : decode cX9_nextWord 104 = .ok (.ireturn, 1) := by decide +kernel
set_option maxRecDepth 20000 in
theorem ggX9_makesSheet_X9_coversNone : GoodIn wsX9_makesSheet wsX9_coversNone := goodIn_r _ [11, 5, 52, 53, 54, 55, 56, 57, 58, 59, 60, 61, 62, 63, 64, 65, 66, 67, 68, 69, 70] (by decide +kernel) (by decide +kernel)
set_option maxRecDepth 20000 in
theorem gX9_makesSheet_X9_coversNone : GoodIn wsX9_makesSheet (wsV RX9 102 RX9 yX9_coversNone wsX9_coversNone) := goodIn_app (goodIn_of _ (by decide +kernel)) ggX9_makesSheet_X9_coversNone
set_option maxRecDepth 20000 in
theorem ggX9_makesSheet_X9_nextWord : GoodIn wsX9_makesSheet wsX9_nextWord := goodIn_r _ [15, 16, 17, 18, 19, 10, 20, 1, 2, 21, 22, 23, 24, 4, 6, 5, 25, 26, 27, 28, 29, 30, 31, 32, 33, 34, 35, 36, 37, 38, 39, 40, 41, 42, 43, 44, 45, 46, 47, 48, 49, 50, 51, 52, 53, 54, 55, 56, 57, 58, 59, 60, 61, 62, 63, 64, 65, 66, 67, 68, 69, 70] (by decide +kernel) (by decide +kernel)
set_option maxRecDepth 20000 in
theorem gX9_makesSheet_X9_nextWord : GoodIn wsX9_makesSheet (wsV RX9 105 RX9 yX9_nextWord wsX9_nextWord) := goodIn_app (goodIn_of _ (by decide +kernel)) ggX9_makesSheet_X9_nextWord
set_option maxRecDepth 20000 in
theorem ggX9_makesSheet_X9_gainOf : GoodIn wsX9_makesSheet wsX9_gainOf := goodIn_r _ [24, 4, 6, 16, 5, 25, 26, 27, 10, 28, 29, 30, 31, 32, 33, 34, 35, 36, 37, 38, 39, 40, 41, 42, 43, 44, 45, 46, 47, 48, 49, 50, 51, 52, 53, 54, 55, 56, 57, 58, 59, 60, 61, 62, 63, 64, 65, 66, 67, 68, 69, 70] (by decide +kernel) (by decide +kernel)
set_option maxRecDepth 20000 in
theorem gX9_makesSheet_X9_gainOf : GoodIn wsX9_makesSheet (wsV RX9 99 RX9 yX9_gainOf wsX9_gainOf) := goodIn_app (goodIn_of _ (by decide +kernel)) ggX9_makesSheet_X9_gainOf
theorem dX9_makesSheet_0 : decode cX9_makesSheet 0 = .ok (.aload_n 0, 1) := by decide +kernel
theorem dX9_makesSheet_1 : decode cX9_makesSheet 1 = .ok (.iconst 0, 1) := by decide +kernel
theorem dX9_makesSheet_2 : decode cX9_makesSheet 2 = .ok (.putfield 93, 3) := by decide +kernel
theorem dX9_makesSheet_5 : decode cX9_makesSheet 5 = .ok (.aload_n 0, 1) := by decide +kernel
theorem dX9_makesSheet_6 : decode cX9_makesSheet 6 = .ok (.invokevirtual 102, 3) := by decide +kernel
theorem dX9_makesSheet_9 : decode cX9_makesSheet 9 = .ok (.iload_n 1, 1) := by decide +kernel
theorem dX9_makesSheet_10 : decode cX9_makesSheet 10 = .ok (.ifCond .le 10, 3) := by decide +kernel
theorem dX9_makesSheet_13 : decode cX9_makesSheet 13 = .ok (.aload_n 0, 1) := by decide +kernel
theorem dX9_makesSheet_14 : decode cX9_makesSheet 14 = .ok (.invokevirtual 105, 3) := by decide +kernel
theorem dX9_makesSheet_17 : decode cX9_makesSheet 17 = .ok (.goto 5, 3) := by decide +kernel
theorem dX9_makesSheet_20 : decode cX9_makesSheet 20 = .ok (.bipush (-5), 2) := by decide +kernel
theorem dX9_makesSheet_22 : decode cX9_makesSheet 22 = .ok (.istore_n 2, 1) := by decide +kernel
theorem dX9_makesSheet_23 : decode cX9_makesSheet 23 = .ok (.iload_n 2, 1) := by decide +kernel
theorem dX9_makesSheet_24 : decode cX9_makesSheet 24 = .ok (.bipush (-5), 2) := by decide +kernel
theorem dX9_makesSheet_26 : decode cX9_makesSheet 26 = .ok (.if_icmp .eq 86, 3) := by decide +kernel
theorem dX9_makesSheet_29 : decode cX9_makesSheet 29 = .ok (.aload_n 0, 1) := by decide +kernel
theorem dX9_makesSheet_30 : decode cX9_makesSheet 30 = .ok (.getfield 28, 3) := by decide +kernel
theorem dX9_makesSheet_33 : decode cX9_makesSheet 33 = .ok (.aload_n 0, 1) := by decide +kernel
theorem dX9_makesSheet_34 : decode cX9_makesSheet 34 = .ok (.getfield 93, 3) := by decide +kernel
theorem dX9_makesSheet_37 : decode cX9_makesSheet 37 = .ok (.iload_n 2, 1) := by decide +kernel
theorem dX9_makesSheet_38 : decode cX9_makesSheet 38 = .ok (.iastore, 1) := by decide +kernel
theorem dX9_makesSheet_39 : decode cX9_makesSheet 39 = .ok (.aload_n 0, 1) := by decide +kernel
theorem dX9_makesSheet_40 : decode cX9_makesSheet 40 = .ok (.getfield 31, 3) := by decide +kernel
theorem dX9_makesSheet_43 : decode cX9_makesSheet 43 = .ok (.aload_n 0, 1) := by decide +kernel
theorem dX9_makesSheet_44 : decode cX9_makesSheet 44 = .ok (.getfield 93, 3) := by decide +kernel
theorem dX9_makesSheet_47 : decode cX9_makesSheet 47 = .ok (.aload_n 0, 1) := by decide +kernel
theorem dX9_makesSheet_48 : decode cX9_makesSheet 48 = .ok (.iload_n 2, 1) := by decide +kernel
theorem dX9_makesSheet_49 : decode cX9_makesSheet 49 = .ok (.invokevirtual 99, 3) := by decide +kernel
theorem dX9_makesSheet_52 : decode cX9_makesSheet 52 = .ok (.iastore, 1) := by decide +kernel
theorem dX9_makesSheet_53 : decode cX9_makesSheet 53 = .ok (.aload_n 0, 1) := by decide +kernel
theorem dX9_makesSheet_54 : decode cX9_makesSheet 54 = .ok (.dup, 1) := by decide +kernel
theorem dX9_makesSheet_55 : decode cX9_makesSheet 55 = .ok (.getfield 93, 3) := by decide +kernel
theorem dX9_makesSheet_58 : decode cX9_makesSheet 58 = .ok (.iconst 1, 1) := by decide +kernel
theorem dX9_makesSheet_59 : decode cX9_makesSheet 59 = .ok (.iadd, 1) := by decide +kernel
theorem dX9_makesSheet_60 : decode cX9_makesSheet 60 = .ok (.putfield 93, 3) := by decide +kernel
theorem dX9_makesSheet_63 : decode cX9_makesSheet 63 = .ok (.iconst 0, 1) := by decide +kernel
theorem dX9_makesSheet_64 : decode cX9_makesSheet 64 = .ok (.istore_n 3, 1) := by decide +kernel
theorem dX9_makesSheet_65 : decode cX9_makesSheet 65 = .ok (.iload_n 3, 1) := by decide +kernel
theorem dX9_makesSheet_66 : decode cX9_makesSheet 66 = .ok (.aload_n 0, 1) := by decide +kernel
theorem dX9_makesSheet_67 : decode cX9_makesSheet 67 = .ok (.getfield 61, 3) := by decide +kernel
theorem dX9_makesSheet_70 : decode cX9_makesSheet 70 = .ok (.if_icmp .ge 21, 3) := by decide +kernel
theorem dX9_makesSheet_73 : decode cX9_makesSheet 73 = .ok (.aload_n 0, 1) := by decide +kernel
theorem dX9_makesSheet_74 : decode cX9_makesSheet 74 = .ok (.getfield 34, 3) := by decide +kernel
theorem dX9_makesSheet_77 : decode cX9_makesSheet 77 = .ok (.aload_n 0, 1) := by decide +kernel
theorem dX9_makesSheet_78 : decode cX9_makesSheet 78 = .ok (.getfield 25, 3) := by decide +kernel
theorem dX9_makesSheet_81 : decode cX9_makesSheet 81 = .ok (.iload_n 3, 1) := by decide +kernel
theorem dX9_makesSheet_82 : decode cX9_makesSheet 82 = .ok (.iaload, 1) := by decide +kernel
theorem dX9_makesSheet_83 : decode cX9_makesSheet 83 = .ok (.iconst 1, 1) := by decide +kernel
theorem dX9_makesSheet_84 : decode cX9_makesSheet 84 = .ok (.iastore, 1) := by decide +kernel
theorem dX9_makesSheet_85 : decode cX9_makesSheet 85 = .ok (.iinc 3 1, 3) := by decide +kernel
theorem dX9_makesSheet_88 : decode cX9_makesSheet 88 = .ok (.goto (-23), 3) := by decide +kernel
theorem dX9_makesSheet_91 : decode cX9_makesSheet 91 = .ok (.aload_n 0, 1) := by decide +kernel
theorem dX9_makesSheet_92 : decode cX9_makesSheet 92 = .ok (.getfield 93, 3) := by decide +kernel
theorem dX9_makesSheet_95 : decode cX9_makesSheet 95 = .ok (.iload_n 1, 1) := by decide +kernel
theorem dX9_makesSheet_96 : decode cX9_makesSheet 96 = .ok (.if_icmp .ge 10, 3) := by decide +kernel
theorem dX9_makesSheet_99 : decode cX9_makesSheet 99 = .ok (.aload_n 0, 1) := by decide +kernel
theorem dX9_makesSheet_100 : decode cX9_makesSheet 100 = .ok (.invokevirtual 105, 3) := by decide +kernel
theorem dX9_makesSheet_103 : decode cX9_makesSheet 103 = .ok (.goto 5, 3) := by decide +kernel
theorem dX9_makesSheet_106 : decode cX9_makesSheet 106 = .ok (.bipush (-5), 2) := by decide +kernel
theorem dX9_makesSheet_108 : decode cX9_makesSheet 108 = .ok (.istore_n 2, 1) := by decide +kernel
theorem dX9_makesSheet_109 : decode cX9_makesSheet 109 = .ok (.goto (-86), 3) := by decide +kernel
theorem dX9_makesSheet_112 : decode cX9_makesSheet 112 = .ok (.return_, 1) := by decide +kernel
set_option maxRecDepth 20000 in
theorem ggX9_writesSheet_X9_sizeOf : GoodIn wsX9_writesSheet wsX9_sizeOf := goodIn_r _ [8, 3, 20, 21, 22, 23, 24, 25, 26, 27, 28, 29, 30, 31, 32, 33, 34, 35, 36, 37, 38] (by decide +kernel) (by decide +kernel)
set_option maxRecDepth 20000 in
theorem gX9_writesSheet_X9_sizeOf : GoodIn wsX9_writesSheet (wsV RX9 64 RX9 yX9_sizeOf wsX9_sizeOf) := goodIn_app (goodIn_of _ (by decide +kernel)) ggX9_writesSheet_X9_sizeOf
set_option maxRecDepth 20000 in
theorem ggX9_writesSheet_X9_letterAt : GoodIn wsX9_writesSheet wsX9_letterAt := goodIn_r _ [12, 3, 20, 21, 22, 23, 24, 25, 26, 27, 28, 29, 30, 31, 32, 33, 34, 35, 36, 37, 38] (by decide +kernel) (by decide +kernel)
set_option maxRecDepth 20000 in
theorem gX9_writesSheet_X9_letterAt : GoodIn wsX9_writesSheet (wsV RX9 68 RX9 yX9_letterAt wsX9_letterAt) := goodIn_app (goodIn_of _ (by decide +kernel)) ggX9_writesSheet_X9_letterAt
set_option maxRecDepth 20000 in
theorem ggX9_writesSheet_X9_tries : GoodIn wsX9_writesSheet wsX9_tries := goodIn_r _ [16, 3, 20, 21, 22, 23, 24, 25, 26, 27, 28, 29, 30, 31, 32, 33, 34, 35, 36, 37, 38] (by decide +kernel) (by decide +kernel)
set_option maxRecDepth 20000 in
theorem gX9_writesSheet_X9_tries : GoodIn wsX9_writesSheet (wsV RX9 109 RX9 yX9_tries wsX9_tries) := goodIn_app (goodIn_of _ (by decide +kernel)) ggX9_writesSheet_X9_tries
set_option maxRecDepth 20000 in
theorem ggX9_writesSheet_X9_joinOf : GoodIn wsX9_writesSheet wsX9_joinOf := goodIn_r _ [19] (by decide +kernel) (by decide +kernel)
set_option maxRecDepth 20000 in
theorem gX9_writesSheet_X9_joinOf : GoodIn wsX9_writesSheet (va_wsS RX9 76 yX9_joinOf wsX9_joinOf) := goodIn_app (goodIn_of _ (by decide +kernel)) ggX9_writesSheet_X9_joinOf
theorem dX9_writesSheet_0 : decode cX9_writesSheet 0 = .ok (.iconst 0, 1) := by decide +kernel
theorem dX9_writesSheet_1 : decode cX9_writesSheet 1 = .ok (.istore_n 1, 1) := by decide +kernel
theorem dX9_writesSheet_2 : decode cX9_writesSheet 2 = .ok (.iload_n 1, 1) := by decide +kernel
theorem dX9_writesSheet_3 : decode cX9_writesSheet 3 = .ok (.aload_n 0, 1) := by decide +kernel
theorem dX9_writesSheet_4 : decode cX9_writesSheet 4 = .ok (.getfield 93, 3) := by decide +kernel
theorem dX9_writesSheet_7 : decode cX9_writesSheet 7 = .ok (.if_icmp .ge 70, 3) := by decide +kernel
theorem dX9_writesSheet_10 : decode cX9_writesSheet 10 = .ok (.aload_n 0, 1) := by decide +kernel
theorem dX9_writesSheet_11 : decode cX9_writesSheet 11 = .ok (.getfield 28, 3) := by decide +kernel
theorem dX9_writesSheet_14 : decode cX9_writesSheet 14 = .ok (.iload_n 1, 1) := by decide +kernel
theorem dX9_writesSheet_15 : decode cX9_writesSheet 15 = .ok (.iaload, 1) := by decide +kernel
theorem dX9_writesSheet_16 : decode cX9_writesSheet 16 = .ok (.istore_n 2, 1) := by decide +kernel
theorem dX9_writesSheet_17 : decode cX9_writesSheet 17 = .ok (.iconst 0, 1) := by decide +kernel
theorem dX9_writesSheet_18 : decode cX9_writesSheet 18 = .ok (.istore_n 3, 1) := by decide +kernel
theorem dX9_writesSheet_19 : decode cX9_writesSheet 19 = .ok (.iload_n 3, 1) := by decide +kernel
theorem dX9_writesSheet_20 : decode cX9_writesSheet 20 = .ok (.aload_n 0, 1) := by decide +kernel
theorem dX9_writesSheet_21 : decode cX9_writesSheet 21 = .ok (.iload_n 2, 1) := by decide +kernel
theorem dX9_writesSheet_22 : decode cX9_writesSheet 22 = .ok (.invokevirtual 64, 3) := by decide +kernel
theorem dX9_writesSheet_25 : decode cX9_writesSheet 25 = .ok (.if_icmp .ge 46, 3) := by decide +kernel
theorem dX9_writesSheet_28 : decode cX9_writesSheet 28 = .ok (.aload_n 0, 1) := by decide +kernel
theorem dX9_writesSheet_29 : decode cX9_writesSheet 29 = .ok (.aload_n 0, 1) := by decide +kernel
theorem dX9_writesSheet_30 : decode cX9_writesSheet 30 = .ok (.iload_n 2, 1) := by decide +kernel
theorem dX9_writesSheet_31 : decode cX9_writesSheet 31 = .ok (.iload_n 3, 1) := by decide +kernel
theorem dX9_writesSheet_32 : decode cX9_writesSheet 32 = .ok (.invokevirtual 68, 3) := by decide +kernel
theorem dX9_writesSheet_35 : decode cX9_writesSheet 35 = .ok (.iconst 0, 1) := by decide +kernel
theorem dX9_writesSheet_36 : decode cX9_writesSheet 36 = .ok (.invokevirtual 109, 3) := by decide +kernel
theorem dX9_writesSheet_39 : decode cX9_writesSheet 39 = .ok (.iload_n 3, 1) := by decide +kernel
theorem dX9_writesSheet_40 : decode cX9_writesSheet 40 = .ok (.ifCond .le 25, 3) := by decide +kernel
theorem dX9_writesSheet_43 : decode cX9_writesSheet 43 = .ok (.aload_n 0, 1) := by decide +kernel
theorem dX9_writesSheet_44 : decode cX9_writesSheet 44 = .ok (.aload_n 0, 1) := by decide +kernel
theorem dX9_writesSheet_45 : decode cX9_writesSheet 45 = .ok (.iload_n 2, 1) := by decide +kernel
theorem dX9_writesSheet_46 : decode cX9_writesSheet 46 = .ok (.iload_n 3, 1) := by decide +kernel
theorem dX9_writesSheet_47 : decode cX9_writesSheet 47 = .ok (.iconst 1, 1) := by decide +kernel
theorem dX9_writesSheet_48 : decode cX9_writesSheet 48 = .ok (.isub, 1) := by decide +kernel
theorem dX9_writesSheet_49 : decode cX9_writesSheet 49 = .ok (.invokevirtual 68, 3) := by decide +kernel
theorem dX9_writesSheet_52 : decode cX9_writesSheet 52 = .ok (.aload_n 0, 1) := by decide +kernel
theorem dX9_writesSheet_53 : decode cX9_writesSheet 53 = .ok (.iload_n 2, 1) := by decide +kernel
theorem dX9_writesSheet_54 : decode cX9_writesSheet 54 = .ok (.iload_n 3, 1) := by decide +kernel
theorem dX9_writesSheet_55 : decode cX9_writesSheet 55 = .ok (.invokevirtual 68, 3) := by decide +kernel
theorem dX9_writesSheet_58 : decode cX9_writesSheet 58 = .ok (.invokestatic 76, 3) := by decide +kernel
theorem dX9_writesSheet_61 : decode cX9_writesSheet 61 = .ok (.iconst 0, 1) := by decide +kernel
theorem dX9_writesSheet_62 : decode cX9_writesSheet 62 = .ok (.invokevirtual 109, 3) := by decide +kernel
theorem dX9_writesSheet_65 : decode cX9_writesSheet 65 = .ok (.iinc 3 1, 3) := by decide +kernel
theorem dX9_writesSheet_68 : decode cX9_writesSheet 68 = .ok (.goto (-49), 3) := by decide +kernel
theorem dX9_writesSheet_71 : decode cX9_writesSheet 71 = .ok (.iinc 1 1, 3) := by decide +kernel
theorem dX9_writesSheet_74 : decode cX9_writesSheet 74 = .ok (.goto (-72), 3) := by decide +kernel
theorem dX9_writesSheet_77 : decode cX9_writesSheet 77 = .ok (.aload_n 0, 1) := by decide +kernel
theorem dX9_writesSheet_78 : decode cX9_writesSheet 78 = .ok (.getfield 7, 3) := by decide +kernel
theorem dX9_writesSheet_81 : decode cX9_writesSheet 81 = .ok (.iconst 2, 1) := by decide +kernel
theorem dX9_writesSheet_82 : decode cX9_writesSheet 82 = .ok (.dup2, 1) := by decide +kernel
theorem dX9_writesSheet_83 : decode cX9_writesSheet 83 = .ok (.iaload, 1) := by decide +kernel
theorem dX9_writesSheet_84 : decode cX9_writesSheet 84 = .ok (.aload_n 0, 1) := by decide +kernel
theorem dX9_writesSheet_85 : decode cX9_writesSheet 85 = .ok (.getfield 93, 3) := by decide +kernel
theorem dX9_writesSheet_88 : decode cX9_writesSheet 88 = .ok (.iadd, 1) := by decide +kernel
theorem dX9_writesSheet_89 : decode cX9_writesSheet 89 = .ok (.iastore, 1) := by decide +kernel
theorem dX9_writesSheet_90 : decode cX9_writesSheet 90 = .ok (.aload_n 0, 1) := by decide +kernel
theorem dX9_writesSheet_91 : decode cX9_writesSheet 91 = .ok (.getfield 7, 3) := by decide +kernel
theorem dX9_writesSheet_94 : decode cX9_writesSheet 94 = .ok (.iconst 4, 1) := by decide +kernel
theorem dX9_writesSheet_95 : decode cX9_writesSheet 95 = .ok (.dup2, 1) := by decide +kernel
theorem dX9_writesSheet_96 : decode cX9_writesSheet 96 = .ok (.iaload, 1) := by decide +kernel
theorem dX9_writesSheet_97 : decode cX9_writesSheet 97 = .ok (.iconst 1, 1) := by decide +kernel
theorem dX9_writesSheet_98 : decode cX9_writesSheet 98 = .ok (.iadd, 1) := by decide +kernel
theorem dX9_writesSheet_99 : decode cX9_writesSheet 99 = .ok (.iastore, 1) := by decide +kernel
theorem dX9_writesSheet_100 : decode cX9_writesSheet 100 = .ok (.return_, 1) := by decide +kernel
theorem dX9_type_0 : decode cX9_type 0 = .ok (.aload_n 0, 1) := by decide +kernel
theorem dX9_type_1 : decode cX9_type 1 = .ok (.getfield 113, 3) := by decide +kernel
theorem dX9_type_4 : decode cX9_type 4 = .ok (.bipush 60, 2) := by decide +kernel
theorem dX9_type_6 : decode cX9_type 6 = .ok (.if_icmp .ne 6, 3) := by decide +kernel
theorem dX9_type_9 : decode cX9_type 9 = .ok (.bipush (-3), 2) := by decide +kernel
theorem dX9_type_11 : decode cX9_type 11 = .ok (.ireturn, 1) := by decide +kernel
theorem dX9_type_12 : decode cX9_type 12 = .ok (.aload_n 0, 1) := by decide +kernel
theorem dX9_type_13 : decode cX9_type 13 = .ok (.getfield 37, 3) := by decide +kernel
theorem dX9_type_16 : decode cX9_type 16 = .ok (.aload_n 0, 1) := by decide +kernel
theorem dX9_type_17 : decode cX9_type 17 = .ok (.getfield 113, 3) := by decide +kernel
theorem dX9_type_20 : decode cX9_type 20 = .ok (.iload_n 1, 1) := by decide +kernel
theorem dX9_type_21 : decode cX9_type 21 = .ok (.iastore, 1) := by decide +kernel
theorem dX9_type_22 : decode cX9_type 22 = .ok (.aload_n 0, 1) := by decide +kernel
theorem dX9_type_23 : decode cX9_type 23 = .ok (.dup, 1) := by decide +kernel
theorem dX9_type_24 : decode cX9_type 24 = .ok (.getfield 113, 3) := by decide +kernel
theorem dX9_type_27 : decode cX9_type 27 = .ok (.iconst 1, 1) := by decide +kernel
theorem dX9_type_28 : decode cX9_type 28 = .ok (.iadd, 1) := by decide +kernel
theorem dX9_type_29 : decode cX9_type 29 = .ok (.putfield 113, 3) := by decide +kernel
theorem dX9_type_32 : decode cX9_type 32 = .ok (.aload_n 0, 1) := by decide +kernel
theorem dX9_type_33 : decode cX9_type 33 = .ok (.getfield 113, 3) := by decide +kernel
theorem dX9_type_36 : decode cX9_type 36 = .ok (.ireturn, 1) := by decide +kernel
theorem dX9_clearText_0 : decode cX9_clearText 0 = .ok (.aload_n 0, 1) := by decide +kernel
theorem dX9_clearText_1 : decode cX9_clearText 1 = .ok (.getfield 113, 3) := by decide +kernel
theorem dX9_clearText_4 : decode cX9_clearText 4 = .ok (.istore_n 1, 1) := by decide +kernel
theorem dX9_clearText_5 : decode cX9_clearText 5 = .ok (.aload_n 0, 1) := by decide +kernel
theorem dX9_clearText_6 : decode cX9_clearText 6 = .ok (.iconst 0, 1) := by decide +kernel
theorem dX9_clearText_7 : decode cX9_clearText 7 = .ok (.putfield 113, 3) := by decide +kernel
theorem dX9_clearText_10 : decode cX9_clearText 10 = .ok (.iload_n 1, 1) := by decide +kernel
theorem dX9_clearText_11 : decode cX9_clearText 11 = .ok (.ireturn, 1) := by decide +kernel
set_option maxRecDepth 20000 in
theorem ggX9_isLetter_X9_in : GoodIn wsX9_isLetter wsX9_in := goodIn_r _ [8] (by decide +kernel) (by decide +kernel)
set_option maxRecDepth 20000 in
theorem gX9_isLetter_X9_in : GoodIn wsX9_isLetter (va_wsS RX9 57 yX9_in wsX9_in) := goodIn_app (goodIn_of _ (by decide +kernel)) ggX9_isLetter_X9_in
theorem dX9_isLetter_0 : decode cX9_isLetter 0 = .ok (.iload_n 1, 1) := by decide +kernel
theorem dX9_isLetter_1 : decode cX9_isLetter 1 = .ok (.aload_n 0, 1) := by decide +kernel
theorem dX9_isLetter_2 : decode cX9_isLetter 2 = .ok (.getfield 113, 3) := by decide +kernel
theorem dX9_isLetter_5 : decode cX9_isLetter 5 = .ok (.if_icmp .ge 26, 3) := by decide +kernel
theorem dX9_isLetter_8 : decode cX9_isLetter 8 = .ok (.aload_n 0, 1) := by decide +kernel
theorem dX9_isLetter_9 : decode cX9_isLetter 9 = .ok (.getfield 37, 3) := by decide +kernel
theorem dX9_isLetter_12 : decode cX9_isLetter 12 = .ok (.iload_n 1, 1) := by decide +kernel
theorem dX9_isLetter_13 : decode cX9_isLetter 13 = .ok (.iaload, 1) := by decide +kernel
theorem dX9_isLetter_14 : decode cX9_isLetter 14 = .ok (.i2l, 1) := by decide +kernel
theorem dX9_isLetter_15 : decode cX9_isLetter 15 = .ok (.ldc2_w 116, 3) := by decide +kernel
theorem dX9_isLetter_18 : decode cX9_isLetter 18 = .ok (.ldc2_w 118, 3) := by decide +kernel
theorem dX9_isLetter_21 : decode cX9_isLetter 21 = .ok (.invokestatic 57, 3) := by decide +kernel
theorem dX9_isLetter_24 : decode cX9_isLetter 24 = .ok (.ifCond .eq 7, 3) := by decide +kernel
theorem dX9_isLetter_27 : decode cX9_isLetter 27 = .ok (.iconst 1, 1) := by decide +kernel
theorem dX9_isLetter_28 : decode cX9_isLetter 28 = .ok (.goto 4, 3) := by decide +kernel
theorem dX9_isLetter_31 : decode cX9_isLetter 31 = .ok (.iconst 0, 1) := by decide +kernel
theorem dX9_isLetter_32 : decode cX9_isLetter 32 = .ok (.ireturn, 1) := by decide +kernel
theorem dX9_isThere_0 : decode cX9_isThere 0 = .ok (.iload_n 1, 1) := by decide +kernel
theorem dX9_isThere_1 : decode cX9_isThere 1 = .ok (.aload_n 0, 1) := by decide +kernel
theorem dX9_isThere_2 : decode cX9_isThere 2 = .ok (.getfield 113, 3) := by decide +kernel
theorem dX9_isThere_5 : decode cX9_isThere 5 = .ok (.if_icmp .ge 17, 3) := by decide +kernel
theorem dX9_isThere_8 : decode cX9_isThere 8 = .ok (.aload_n 0, 1) := by decide +kernel
theorem dX9_isThere_9 : decode cX9_isThere 9 = .ok (.getfield 37, 3) := by decide +kernel
theorem dX9_isThere_12 : decode cX9_isThere 12 = .ok (.iload_n 1, 1) := by decide +kernel
theorem dX9_isThere_13 : decode cX9_isThere 13 = .ok (.iaload, 1) := by decide +kernel
theorem dX9_isThere_14 : decode cX9_isThere 14 = .ok (.iload_n 2, 1) := by decide +kernel
theorem dX9_isThere_15 : decode cX9_isThere 15 = .ok (.if_icmp .ne 7, 3) := by decide +kernel
theorem dX9_isThere_18 : decode cX9_isThere 18 = .ok (.iconst 1, 1) := by decide +kernel
theorem dX9_isThere_19 : decode cX9_isThere 19 = .ok (.goto 4, 3) := by decide +kernel
theorem dX9_isThere_22 : decode cX9_isThere 22 = .ok (.iconst 0, 1) := by decide +kernel
theorem dX9_isThere_23 : decode cX9_isThere 23 = .ok (.ireturn, 1) := by decide +kernel
set_option maxRecDepth 20000 in
theorem ggX9_faultOfWriting_X9_isLetter : GoodIn wsX9_faultOfWriting wsX9_isLetter := goodIn_r _ [11, 6, 3, 12, 13, 14, 15, 10, 16, 21, 22, 23, 24, 25, 26, 27, 28, 29, 30, 31, 32, 33, 34, 35, 36, 37, 38, 39] (by decide +kernel) (by decide +kernel)
set_option maxRecDepth 20000 in
theorem gX9_faultOfWriting_X9_isLetter : GoodIn wsX9_faultOfWriting (wsV RX9 123 RX9 yX9_isLetter wsX9_isLetter) := goodIn_app (goodIn_of _ (by decide +kernel)) ggX9_faultOfWriting_X9_isLetter
set_option maxRecDepth 20000 in
theorem ggX9_faultOfWriting_X9_isThere : GoodIn wsX9_faultOfWriting wsX9_isThere := goodIn_r _ [20, 6, 3, 21, 22, 23, 24, 25, 26, 27, 28, 29, 30, 31, 32, 33, 34, 35, 36, 37, 38, 39] (by decide +kernel) (by decide +kernel)
set_option maxRecDepth 20000 in
theorem gX9_faultOfWriting_X9_isThere : GoodIn wsX9_faultOfWriting (wsV RX9 126 RX9 yX9_isThere wsX9_isThere) := goodIn_app (goodIn_of _ (by decide +kernel)) ggX9_faultOfWriting_X9_isThere
theorem dX9_faultOfWriting_0 : decode cX9_faultOfWriting 0 = .ok (.aload_n 0, 1) := by decide +kernel
theorem dX9_faultOfWriting_1 : decode cX9_faultOfWriting 1 = .ok (.iconst 0, 1) := by decide +kernel
theorem dX9_faultOfWriting_2 : decode cX9_faultOfWriting 2 = .ok (.putfield 120, 3) := by decide +kernel
theorem dX9_faultOfWriting_5 : decode cX9_faultOfWriting 5 = .ok (.iconst 0, 1) := by decide +kernel
theorem dX9_faultOfWriting_6 : decode cX9_faultOfWriting 6 = .ok (.istore_n 1, 1) := by decide +kernel
theorem dX9_faultOfWriting_7 : decode cX9_faultOfWriting 7 = .ok (.iconst 1, 1) := by decide +kernel
theorem dX9_faultOfWriting_8 : decode cX9_faultOfWriting 8 = .ok (.istore_n 2, 1) := by decide +kernel
theorem dX9_faultOfWriting_9 : decode cX9_faultOfWriting 9 = .ok (.iload_n 2, 1) := by decide +kernel
theorem dX9_faultOfWriting_10 : decode cX9_faultOfWriting 10 = .ok (.ifCond .eq 167, 3) := by decide +kernel
theorem dX9_faultOfWriting_13 : decode cX9_faultOfWriting 13 = .ok (.aload_n 0, 1) := by decide +kernel
theorem dX9_faultOfWriting_14 : decode cX9_faultOfWriting 14 = .ok (.iload_n 1, 1) := by decide +kernel
theorem dX9_faultOfWriting_15 : decode cX9_faultOfWriting 15 = .ok (.invokevirtual 123, 3) := by decide +kernel
theorem dX9_faultOfWriting_18 : decode cX9_faultOfWriting 18 = .ok (.ifCond .eq 12, 3) := by decide +kernel
theorem dX9_faultOfWriting_21 : decode cX9_faultOfWriting 21 = .ok (.aload_n 0, 1) := by decide +kernel
theorem dX9_faultOfWriting_22 : decode cX9_faultOfWriting 22 = .ok (.getfield 120, 3) := by decide +kernel
theorem dX9_faultOfWriting_25 : decode cX9_faultOfWriting 25 = .ok (.bipush 15, 2) := by decide +kernel
theorem dX9_faultOfWriting_27 : decode cX9_faultOfWriting 27 = .ok (.if_icmp .ne 5, 3) := by decide +kernel
theorem dX9_faultOfWriting_30 : decode cX9_faultOfWriting 30 = .ok (.iload_n 1, 1) := by decide +kernel
theorem dX9_faultOfWriting_31 : decode cX9_faultOfWriting 31 = .ok (.ireturn, 1) := by decide +kernel
theorem dX9_faultOfWriting_32 : decode cX9_faultOfWriting 32 = .ok (.aload_n 0, 1) := by decide +kernel
theorem dX9_faultOfWriting_33 : decode cX9_faultOfWriting 33 = .ok (.getfield 40, 3) := by decide +kernel
theorem dX9_faultOfWriting_36 : decode cX9_faultOfWriting 36 = .ok (.aload_n 0, 1) := by decide +kernel
theorem dX9_faultOfWriting_37 : decode cX9_faultOfWriting 37 = .ok (.getfield 120, 3) := by decide +kernel
theorem dX9_faultOfWriting_40 : decode cX9_faultOfWriting 40 = .ok (.aload_n 0, 1) := by decide +kernel
theorem dX9_faultOfWriting_41 : decode cX9_faultOfWriting 41 = .ok (.getfield 37, 3) := by decide +kernel
theorem dX9_faultOfWriting_44 : decode cX9_faultOfWriting 44 = .ok (.iload_n 1, 1) := by decide +kernel
theorem dX9_faultOfWriting_45 : decode cX9_faultOfWriting 45 = .ok (.iaload, 1) := by decide +kernel
theorem dX9_faultOfWriting_46 : decode cX9_faultOfWriting 46 = .ok (.bipush 97, 2) := by decide +kernel
theorem dX9_faultOfWriting_48 : decode cX9_faultOfWriting 48 = .ok (.isub, 1) := by decide +kernel
theorem dX9_faultOfWriting_49 : decode cX9_faultOfWriting 49 = .ok (.iastore, 1) := by decide +kernel
theorem dX9_faultOfWriting_50 : decode cX9_faultOfWriting 50 = .ok (.iinc 1 1, 3) := by decide +kernel
theorem dX9_faultOfWriting_53 : decode cX9_faultOfWriting 53 = .ok (.aload_n 0, 1) := by decide +kernel
theorem dX9_faultOfWriting_54 : decode cX9_faultOfWriting 54 = .ok (.getfield 43, 3) := by decide +kernel
theorem dX9_faultOfWriting_57 : decode cX9_faultOfWriting 57 = .ok (.aload_n 0, 1) := by decide +kernel
theorem dX9_faultOfWriting_58 : decode cX9_faultOfWriting 58 = .ok (.getfield 120, 3) := by decide +kernel
theorem dX9_faultOfWriting_61 : decode cX9_faultOfWriting 61 = .ok (.aload_n 0, 1) := by decide +kernel
theorem dX9_faultOfWriting_62 : decode cX9_faultOfWriting 62 = .ok (.iload_n 1, 1) := by decide +kernel
theorem dX9_faultOfWriting_63 : decode cX9_faultOfWriting 63 = .ok (.bipush 33, 2) := by decide +kernel
theorem dX9_faultOfWriting_65 : decode cX9_faultOfWriting 65 = .ok (.invokevirtual 126, 3) := by decide +kernel
theorem dX9_faultOfWriting_68 : decode cX9_faultOfWriting 68 = .ok (.ifCond .eq 7, 3) := by decide +kernel
theorem dX9_faultOfWriting_71 : decode cX9_faultOfWriting 71 = .ok (.iconst 1, 1) := by decide +kernel
theorem dX9_faultOfWriting_72 : decode cX9_faultOfWriting 72 = .ok (.goto 4, 3) := by decide +kernel
theorem dX9_faultOfWriting_75 : decode cX9_faultOfWriting 75 = .ok (.iconst 0, 1) := by decide +kernel
theorem dX9_faultOfWriting_76 : decode cX9_faultOfWriting 76 = .ok (.iastore, 1) := by decide +kernel
theorem dX9_faultOfWriting_77 : decode cX9_faultOfWriting 77 = .ok (.iload_n 1, 1) := by decide +kernel
theorem dX9_faultOfWriting_78 : decode cX9_faultOfWriting 78 = .ok (.aload_n 0, 1) := by decide +kernel
theorem dX9_faultOfWriting_79 : decode cX9_faultOfWriting 79 = .ok (.getfield 43, 3) := by decide +kernel
theorem dX9_faultOfWriting_82 : decode cX9_faultOfWriting 82 = .ok (.aload_n 0, 1) := by decide +kernel
theorem dX9_faultOfWriting_83 : decode cX9_faultOfWriting 83 = .ok (.getfield 120, 3) := by decide +kernel
theorem dX9_faultOfWriting_86 : decode cX9_faultOfWriting 86 = .ok (.iaload, 1) := by decide +kernel
theorem dX9_faultOfWriting_87 : decode cX9_faultOfWriting 87 = .ok (.iadd, 1) := by decide +kernel
theorem dX9_faultOfWriting_88 : decode cX9_faultOfWriting 88 = .ok (.istore_n 1, 1) := by decide +kernel
theorem dX9_faultOfWriting_89 : decode cX9_faultOfWriting 89 = .ok (.aload_n 0, 1) := by decide +kernel
theorem dX9_faultOfWriting_90 : decode cX9_faultOfWriting 90 = .ok (.iload_n 1, 1) := by decide +kernel
theorem dX9_faultOfWriting_91 : decode cX9_faultOfWriting 91 = .ok (.bipush 45, 2) := by decide +kernel
theorem dX9_faultOfWriting_93 : decode cX9_faultOfWriting 93 = .ok (.invokevirtual 126, 3) := by decide +kernel
theorem dX9_faultOfWriting_96 : decode cX9_faultOfWriting 96 = .ok (.ifCond .eq 18, 3) := by decide +kernel
theorem dX9_faultOfWriting_99 : decode cX9_faultOfWriting 99 = .ok (.aload_n 0, 1) := by decide +kernel
theorem dX9_faultOfWriting_100 : decode cX9_faultOfWriting 100 = .ok (.getfield 120, 3) := by decide +kernel
theorem dX9_faultOfWriting_103 : decode cX9_faultOfWriting 103 = .ok (.iconst 1, 1) := by decide +kernel
theorem dX9_faultOfWriting_104 : decode cX9_faultOfWriting 104 = .ok (.iadd, 1) := by decide +kernel
theorem dX9_faultOfWriting_105 : decode cX9_faultOfWriting 105 = .ok (.bipush 15, 2) := by decide +kernel
theorem dX9_faultOfWriting_107 : decode cX9_faultOfWriting 107 = .ok (.if_icmp .ge 7, 3) := by decide +kernel
theorem dX9_faultOfWriting_110 : decode cX9_faultOfWriting 110 = .ok (.iconst 1, 1) := by decide +kernel
theorem dX9_faultOfWriting_111 : decode cX9_faultOfWriting 111 = .ok (.goto 4, 3) := by decide +kernel
theorem dX9_faultOfWriting_114 : decode cX9_faultOfWriting 114 = .ok (.iconst 0, 1) := by decide +kernel
theorem dX9_faultOfWriting_115 : decode cX9_faultOfWriting 115 = .ok (.istore_n 3, 1) := by decide +kernel
theorem dX9_faultOfWriting_116 : decode cX9_faultOfWriting 116 = .ok (.aload_n 0, 1) := by decide +kernel
theorem dX9_faultOfWriting_117 : decode cX9_faultOfWriting 117 = .ok (.getfield 46, 3) := by decide +kernel
theorem dX9_faultOfWriting_120 : decode cX9_faultOfWriting 120 = .ok (.aload_n 0, 1) := by decide +kernel
theorem dX9_faultOfWriting_121 : decode cX9_faultOfWriting 121 = .ok (.getfield 120, 3) := by decide +kernel
theorem dX9_faultOfWriting_124 : decode cX9_faultOfWriting 124 = .ok (.iload_n 3, 1) := by decide +kernel
theorem dX9_faultOfWriting_125 : decode cX9_faultOfWriting 125 = .ok (.ifCond .eq 7, 3) := by decide +kernel
theorem dX9_faultOfWriting_128 : decode cX9_faultOfWriting 128 = .ok (.iconst 1, 1) := by decide +kernel
theorem dX9_faultOfWriting_129 : decode cX9_faultOfWriting 129 = .ok (.goto 4, 3) := by decide +kernel
theorem dX9_faultOfWriting_132 : decode cX9_faultOfWriting 132 = .ok (.iconst 0, 1) := by decide +kernel
theorem dX9_faultOfWriting_133 : decode cX9_faultOfWriting 133 = .ok (.iastore, 1) := by decide +kernel
theorem dX9_faultOfWriting_134 : decode cX9_faultOfWriting 134 = .ok (.iload_n 1, 1) := by decide +kernel
theorem dX9_faultOfWriting_135 : decode cX9_faultOfWriting 135 = .ok (.aload_n 0, 1) := by decide +kernel
theorem dX9_faultOfWriting_136 : decode cX9_faultOfWriting 136 = .ok (.getfield 46, 3) := by decide +kernel
theorem dX9_faultOfWriting_139 : decode cX9_faultOfWriting 139 = .ok (.aload_n 0, 1) := by decide +kernel
theorem dX9_faultOfWriting_140 : decode cX9_faultOfWriting 140 = .ok (.getfield 120, 3) := by decide +kernel
theorem dX9_faultOfWriting_143 : decode cX9_faultOfWriting 143 = .ok (.iaload, 1) := by decide +kernel
theorem dX9_faultOfWriting_144 : decode cX9_faultOfWriting 144 = .ok (.iadd, 1) := by decide +kernel
theorem dX9_faultOfWriting_145 : decode cX9_faultOfWriting 145 = .ok (.istore_n 1, 1) := by decide +kernel
theorem dX9_faultOfWriting_146 : decode cX9_faultOfWriting 146 = .ok (.aload_n 0, 1) := by decide +kernel
theorem dX9_faultOfWriting_147 : decode cX9_faultOfWriting 147 = .ok (.dup, 1) := by decide +kernel
theorem dX9_faultOfWriting_148 : decode cX9_faultOfWriting 148 = .ok (.getfield 120, 3) := by decide +kernel
theorem dX9_faultOfWriting_151 : decode cX9_faultOfWriting 151 = .ok (.iconst 1, 1) := by decide +kernel
theorem dX9_faultOfWriting_152 : decode cX9_faultOfWriting 152 = .ok (.iadd, 1) := by decide +kernel
theorem dX9_faultOfWriting_153 : decode cX9_faultOfWriting 153 = .ok (.putfield 120, 3) := by decide +kernel
theorem dX9_faultOfWriting_156 : decode cX9_faultOfWriting 156 = .ok (.iload_n 3, 1) := by decide +kernel
theorem dX9_faultOfWriting_157 : decode cX9_faultOfWriting 157 = .ok (.ifCond .ne 11, 3) := by decide +kernel
theorem dX9_faultOfWriting_160 : decode cX9_faultOfWriting 160 = .ok (.aload_n 0, 1) := by decide +kernel
theorem dX9_faultOfWriting_161 : decode cX9_faultOfWriting 161 = .ok (.iload_n 1, 1) := by decide +kernel
theorem dX9_faultOfWriting_162 : decode cX9_faultOfWriting 162 = .ok (.invokevirtual 123, 3) := by decide +kernel
theorem dX9_faultOfWriting_165 : decode cX9_faultOfWriting 165 = .ok (.ifCond .eq 7, 3) := by decide +kernel
theorem dX9_faultOfWriting_168 : decode cX9_faultOfWriting 168 = .ok (.iconst 1, 1) := by decide +kernel
theorem dX9_faultOfWriting_169 : decode cX9_faultOfWriting 169 = .ok (.goto 4, 3) := by decide +kernel
theorem dX9_faultOfWriting_172 : decode cX9_faultOfWriting 172 = .ok (.iconst 0, 1) := by decide +kernel
theorem dX9_faultOfWriting_173 : decode cX9_faultOfWriting 173 = .ok (.istore_n 2, 1) := by decide +kernel
theorem dX9_faultOfWriting_174 : decode cX9_faultOfWriting 174 = .ok (.goto (-165), 3) := by decide +kernel
theorem dX9_faultOfWriting_177 : decode cX9_faultOfWriting 177 = .ok (.iload_n 1, 1) := by decide +kernel
theorem dX9_faultOfWriting_178 : decode cX9_faultOfWriting 178 = .ok (.aload_n 0, 1) := by decide +kernel
theorem dX9_faultOfWriting_179 : decode cX9_faultOfWriting 179 = .ok (.getfield 113, 3) := by decide +kernel
theorem dX9_faultOfWriting_182 : decode cX9_faultOfWriting 182 = .ok (.if_icmp .ne 8, 3) := by decide +kernel
theorem dX9_faultOfWriting_185 : decode cX9_faultOfWriting 185 = .ok (.bipush (-5), 2) := by decide +kernel
theorem dX9_faultOfWriting_187 : decode cX9_faultOfWriting 187 = .ok (.goto 4, 3) := by decide +kernel
theorem dX9_faultOfWriting_190 : decode cX9_faultOfWriting 190 = .ok (.iload_n 1, 1) := by decide +kernel
theorem dX9_faultOfWriting_191 : decode cX9_faultOfWriting 191 = .ok (.ireturn, 1) := by decide +kernel
set_option maxRecDepth 20000 in
theorem ggX9_faultOfWords_X9_isLetter : GoodIn wsX9_faultOfWords wsX9_isLetter := goodIn_r _ [7, 1, 2, 8, 9, 10, 11, 6, 12, 13, 14, 15, 16, 17, 18, 19, 20, 21, 22, 23, 24, 25, 26, 27, 28, 29, 30, 31] (by decide +kernel) (by decide +kernel)
set_option maxRecDepth 20000 in
theorem gX9_faultOfWords_X9_isLetter : GoodIn wsX9_faultOfWords (wsV RX9 123 RX9 yX9_isLetter wsX9_isLetter) := goodIn_app (goodIn_of _ (by decide +kernel)) ggX9_faultOfWords_X9_isLetter
theorem dX9_faultOfWords_0 : decode cX9_faultOfWords 0 = .ok (.iconst 0, 1) := by decide +kernel
theorem dX9_faultOfWords_1 : decode cX9_faultOfWords 1 = .ok (.istore_n 1, 1) := by decide +kernel
theorem dX9_faultOfWords_2 : decode cX9_faultOfWords 2 = .ok (.iconst 0, 1) := by decide +kernel
theorem dX9_faultOfWords_3 : decode cX9_faultOfWords 3 = .ok (.istore_n 2, 1) := by decide +kernel
theorem dX9_faultOfWords_4 : decode cX9_faultOfWords 4 = .ok (.iload_n 2, 1) := by decide +kernel
theorem dX9_faultOfWords_5 : decode cX9_faultOfWords 5 = .ok (.aload_n 0, 1) := by decide +kernel
theorem dX9_faultOfWords_6 : decode cX9_faultOfWords 6 = .ok (.getfield 113, 3) := by decide +kernel
theorem dX9_faultOfWords_9 : decode cX9_faultOfWords 9 = .ok (.if_icmp .ge 62, 3) := by decide +kernel
theorem dX9_faultOfWords_12 : decode cX9_faultOfWords 12 = .ok (.aload_n 0, 1) := by decide +kernel
theorem dX9_faultOfWords_13 : decode cX9_faultOfWords 13 = .ok (.iload_n 2, 1) := by decide +kernel
theorem dX9_faultOfWords_14 : decode cX9_faultOfWords 14 = .ok (.invokevirtual 123, 3) := by decide +kernel
theorem dX9_faultOfWords_17 : decode cX9_faultOfWords 17 = .ok (.ifCond .eq 13, 3) := by decide +kernel
theorem dX9_faultOfWords_20 : decode cX9_faultOfWords 20 = .ok (.iload_n 1, 1) := by decide +kernel
theorem dX9_faultOfWords_21 : decode cX9_faultOfWords 21 = .ok (.bipush 15, 2) := by decide +kernel
theorem dX9_faultOfWords_23 : decode cX9_faultOfWords 23 = .ok (.if_icmp .ge 7, 3) := by decide +kernel
theorem dX9_faultOfWords_26 : decode cX9_faultOfWords 26 = .ok (.iconst 1, 1) := by decide +kernel
theorem dX9_faultOfWords_27 : decode cX9_faultOfWords 27 = .ok (.goto 4, 3) := by decide +kernel
theorem dX9_faultOfWords_30 : decode cX9_faultOfWords 30 = .ok (.iconst 0, 1) := by decide +kernel
theorem dX9_faultOfWords_31 : decode cX9_faultOfWords 31 = .ok (.istore_n 3, 1) := by decide +kernel
theorem dX9_faultOfWords_32 : decode cX9_faultOfWords 32 = .ok (.iload_n 3, 1) := by decide +kernel
theorem dX9_faultOfWords_33 : decode cX9_faultOfWords 33 = .ok (.ifCond .ne 20, 3) := by decide +kernel
theorem dX9_faultOfWords_36 : decode cX9_faultOfWords 36 = .ok (.aload_n 0, 1) := by decide +kernel
theorem dX9_faultOfWords_37 : decode cX9_faultOfWords 37 = .ok (.getfield 37, 3) := by decide +kernel
theorem dX9_faultOfWords_40 : decode cX9_faultOfWords 40 = .ok (.iload_n 2, 1) := by decide +kernel
theorem dX9_faultOfWords_41 : decode cX9_faultOfWords 41 = .ok (.iaload, 1) := by decide +kernel
theorem dX9_faultOfWords_42 : decode cX9_faultOfWords 42 = .ok (.bipush 44, 2) := by decide +kernel
theorem dX9_faultOfWords_44 : decode cX9_faultOfWords 44 = .ok (.if_icmp .ne 7, 3) := by decide +kernel
theorem dX9_faultOfWords_47 : decode cX9_faultOfWords 47 = .ok (.iload_n 1, 1) := by decide +kernel
theorem dX9_faultOfWords_48 : decode cX9_faultOfWords 48 = .ok (.ifCond .ne 5, 3) := by decide +kernel
theorem dX9_faultOfWords_51 : decode cX9_faultOfWords 51 = .ok (.iload_n 2, 1) := by decide +kernel
theorem dX9_faultOfWords_52 : decode cX9_faultOfWords 52 = .ok (.ireturn, 1) := by decide +kernel
theorem dX9_faultOfWords_53 : decode cX9_faultOfWords 53 = .ok (.iload_n 3, 1) := by decide +kernel
theorem dX9_faultOfWords_54 : decode cX9_faultOfWords 54 = .ok (.ifCond .eq 9, 3) := by decide +kernel
theorem dX9_faultOfWords_57 : decode cX9_faultOfWords 57 = .ok (.iload_n 1, 1) := by decide +kernel
theorem dX9_faultOfWords_58 : decode cX9_faultOfWords 58 = .ok (.iconst 1, 1) := by decide +kernel
theorem dX9_faultOfWords_59 : decode cX9_faultOfWords 59 = .ok (.iadd, 1) := by decide +kernel
theorem dX9_faultOfWords_60 : decode cX9_faultOfWords 60 = .ok (.goto 4, 3) := by decide +kernel
theorem dX9_faultOfWords_63 : decode cX9_faultOfWords 63 = .ok (.iconst 0, 1) := by decide +kernel
theorem dX9_faultOfWords_64 : decode cX9_faultOfWords 64 = .ok (.istore_n 1, 1) := by decide +kernel
theorem dX9_faultOfWords_65 : decode cX9_faultOfWords 65 = .ok (.iinc 2 1, 3) := by decide +kernel
theorem dX9_faultOfWords_68 : decode cX9_faultOfWords 68 = .ok (.goto (-64), 3) := by decide +kernel
theorem dX9_faultOfWords_71 : decode cX9_faultOfWords 71 = .ok (.iload_n 1, 1) := by decide +kernel
theorem dX9_faultOfWords_72 : decode cX9_faultOfWords 72 = .ok (.ifCond .ne 10, 3) := by decide +kernel
theorem dX9_faultOfWords_75 : decode cX9_faultOfWords 75 = .ok (.aload_n 0, 1) := by decide +kernel
theorem dX9_faultOfWords_76 : decode cX9_faultOfWords 76 = .ok (.getfield 113, 3) := by decide +kernel
theorem dX9_faultOfWords_79 : decode cX9_faultOfWords 79 = .ok (.goto 5, 3) := by decide +kernel
theorem dX9_faultOfWords_82 : decode cX9_faultOfWords 82 = .ok (.bipush (-5), 2) := by decide +kernel
theorem dX9_faultOfWords_84 : decode cX9_faultOfWords 84 = .ok (.ireturn, 1) := by decide +kernel
set_option maxRecDepth 20000 in
theorem ggX9_write_X9_faultOfWriting : GoodIn wsX9_write wsX9_faultOfWriting := goodIn_r _ [10, 1, 2, 11, 3, 4, 12, 13, 14, 15, 9, 16, 17, 18, 19, 20, 21, 22, 23, 24, 25, 47, 48, 49, 50, 51, 52, 53, 54, 55, 56, 57, 58, 59, 60, 61, 62, 63, 64, 65] (by decide +kernel) (by decide +kernel)
set_option maxRecDepth 20000 in
theorem gX9_write_X9_faultOfWriting : GoodIn wsX9_write (wsV RX9 129 RX9 yX9_faultOfWriting wsX9_faultOfWriting) := goodIn_app (goodIn_of _ (by decide +kernel)) ggX9_write_X9_faultOfWriting
set_option maxRecDepth 20000 in
theorem ggX9_write_X9_remember : GoodIn wsX9_write wsX9_remember := goodIn_r _ [29, 5, 30, 31, 32, 9, 33, 47, 48, 49, 50, 51, 52, 53, 54, 55, 56, 57, 58, 59, 60, 61, 62, 63, 64, 65] (by decide +kernel) (by decide +kernel)
set_option maxRecDepth 20000 in
theorem gX9_write_X9_remember : GoodIn wsX9_write (wsV RX9 132 RX9 yX9_remember wsX9_remember) := goodIn_app (goodIn_of _ (by decide +kernel)) ggX9_write_X9_remember
set_option maxRecDepth 20000 in
theorem ggX9_write_X9_tries : GoodIn wsX9_write wsX9_tries := goodIn_r _ [37, 5, 47, 48, 49, 50, 51, 52, 53, 54, 55, 56, 57, 58, 59, 60, 61, 62, 63, 64, 65] (by decide +kernel) (by decide +kernel)
set_option maxRecDepth 20000 in
theorem gX9_write_X9_tries : GoodIn wsX9_write (wsV RX9 109 RX9 yX9_tries wsX9_tries) := goodIn_app (goodIn_of _ (by decide +kernel)) ggX9_write_X9_tries
set_option maxRecDepth 20000 in
theorem ggX9_write_X9_joinOf : GoodIn wsX9_write wsX9_joinOf := goodIn_r _ [40] (by decide +kernel) (by decide +kernel)
set_option maxRecDepth 20000 in
theorem gX9_write_X9_joinOf : GoodIn wsX9_write (va_wsS RX9 76 yX9_joinOf wsX9_joinOf) := goodIn_app (goodIn_of _ (by decide +kernel)) ggX9_write_X9_joinOf
set_option maxRecDepth 20000 in
theorem ggX9_write_X9_acted : GoodIn wsX9_write wsX9_acted := goodIn_r _ [44, 45, 46, 30, 47, 48, 49, 50, 51, 52, 53, 54, 55, 56, 57, 58, 59, 60, 61, 62, 63, 64, 65] (by decide +kernel) (by decide +kernel)
set_option maxRecDepth 20000 in
theorem gX9_write_X9_acted : GoodIn wsX9_write (wsV RX9 135 RX9 yX9_acted wsX9_acted) := goodIn_app (goodIn_of _ (by decide +kernel)) ggX9_write_X9_acted
theorem dX9_write_0 : decode cX9_write 0 = .ok (.aload_n 0, 1) := by decide +kernel
theorem dX9_write_1 : decode cX9_write 1 = .ok (.invokevirtual 129, 3) := by decide +kernel
theorem dX9_write_4 : decode cX9_write 4 = .ok (.istore_n 1, 1) := by decide +kernel
theorem dX9_write_5 : decode cX9_write 5 = .ok (.iload_n 1, 1) := by decide +kernel
theorem dX9_write_6 : decode cX9_write 6 = .ok (.bipush (-5), 2) := by decide +kernel
theorem dX9_write_8 : decode cX9_write 8 = .ok (.if_icmp .eq 8, 3) := by decide +kernel
theorem dX9_write_11 : decode cX9_write 11 = .ok (.bipush (-100), 2) := by decide +kernel
theorem dX9_write_13 : decode cX9_write 13 = .ok (.iload_n 1, 1) := by decide +kernel
theorem dX9_write_14 : decode cX9_write 14 = .ok (.isub, 1) := by decide +kernel
theorem dX9_write_15 : decode cX9_write 15 = .ok (.ireturn, 1) := by decide +kernel
theorem dX9_write_16 : decode cX9_write 16 = .ok (.aload_n 0, 1) := by decide +kernel
theorem dX9_write_17 : decode cX9_write 17 = .ok (.invokevirtual 132, 3) := by decide +kernel
theorem dX9_write_20 : decode cX9_write 20 = .ok (.iconst 0, 1) := by decide +kernel
theorem dX9_write_21 : decode cX9_write 21 = .ok (.istore_n 2, 1) := by decide +kernel
theorem dX9_write_22 : decode cX9_write 22 = .ok (.iconst 0, 1) := by decide +kernel
theorem dX9_write_23 : decode cX9_write 23 = .ok (.istore_n 3, 1) := by decide +kernel
theorem dX9_write_24 : decode cX9_write 24 = .ok (.iload_n 3, 1) := by decide +kernel
theorem dX9_write_25 : decode cX9_write 25 = .ok (.aload_n 0, 1) := by decide +kernel
theorem dX9_write_26 : decode cX9_write 26 = .ok (.getfield 120, 3) := by decide +kernel
theorem dX9_write_29 : decode cX9_write 29 = .ok (.if_icmp .ge 80, 3) := by decide +kernel
theorem dX9_write_32 : decode cX9_write 32 = .ok (.aload_n 0, 1) := by decide +kernel
theorem dX9_write_33 : decode cX9_write 33 = .ok (.aload_n 0, 1) := by decide +kernel
theorem dX9_write_34 : decode cX9_write 34 = .ok (.getfield 40, 3) := by decide +kernel
theorem dX9_write_37 : decode cX9_write 37 = .ok (.iload_n 3, 1) := by decide +kernel
theorem dX9_write_38 : decode cX9_write 38 = .ok (.iaload, 1) := by decide +kernel
theorem dX9_write_39 : decode cX9_write 39 = .ok (.aload_n 0, 1) := by decide +kernel
theorem dX9_write_40 : decode cX9_write 40 = .ok (.getfield 43, 3) := by decide +kernel
theorem dX9_write_43 : decode cX9_write 43 = .ok (.iload_n 3, 1) := by decide +kernel
theorem dX9_write_44 : decode cX9_write 44 = .ok (.iaload, 1) := by decide +kernel
theorem dX9_write_45 : decode cX9_write 45 = .ok (.invokevirtual 109, 3) := by decide +kernel
theorem dX9_write_48 : decode cX9_write 48 = .ok (.iload_n 2, 1) := by decide +kernel
theorem dX9_write_49 : decode cX9_write 49 = .ok (.aload_n 0, 1) := by decide +kernel
theorem dX9_write_50 : decode cX9_write 50 = .ok (.getfield 43, 3) := by decide +kernel
theorem dX9_write_53 : decode cX9_write 53 = .ok (.iload_n 3, 1) := by decide +kernel
theorem dX9_write_54 : decode cX9_write 54 = .ok (.iaload, 1) := by decide +kernel
theorem dX9_write_55 : decode cX9_write 55 = .ok (.iadd, 1) := by decide +kernel
theorem dX9_write_56 : decode cX9_write 56 = .ok (.istore_n 2, 1) := by decide +kernel
theorem dX9_write_57 : decode cX9_write 57 = .ok (.iload_n 3, 1) := by decide +kernel
theorem dX9_write_58 : decode cX9_write 58 = .ok (.iconst 1, 1) := by decide +kernel
theorem dX9_write_59 : decode cX9_write 59 = .ok (.iadd, 1) := by decide +kernel
theorem dX9_write_60 : decode cX9_write 60 = .ok (.aload_n 0, 1) := by decide +kernel
theorem dX9_write_61 : decode cX9_write 61 = .ok (.getfield 120, 3) := by decide +kernel
theorem dX9_write_64 : decode cX9_write 64 = .ok (.if_icmp .ge 39, 3) := by decide +kernel
theorem dX9_write_67 : decode cX9_write 67 = .ok (.aload_n 0, 1) := by decide +kernel
theorem dX9_write_68 : decode cX9_write 68 = .ok (.aload_n 0, 1) := by decide +kernel
theorem dX9_write_69 : decode cX9_write 69 = .ok (.getfield 40, 3) := by decide +kernel
theorem dX9_write_72 : decode cX9_write 72 = .ok (.iload_n 3, 1) := by decide +kernel
theorem dX9_write_73 : decode cX9_write 73 = .ok (.iaload, 1) := by decide +kernel
theorem dX9_write_74 : decode cX9_write 74 = .ok (.aload_n 0, 1) := by decide +kernel
theorem dX9_write_75 : decode cX9_write 75 = .ok (.getfield 40, 3) := by decide +kernel
theorem dX9_write_78 : decode cX9_write 78 = .ok (.iload_n 3, 1) := by decide +kernel
theorem dX9_write_79 : decode cX9_write 79 = .ok (.iconst 1, 1) := by decide +kernel
theorem dX9_write_80 : decode cX9_write 80 = .ok (.iadd, 1) := by decide +kernel
theorem dX9_write_81 : decode cX9_write 81 = .ok (.iaload, 1) := by decide +kernel
theorem dX9_write_82 : decode cX9_write 82 = .ok (.invokestatic 76, 3) := by decide +kernel
theorem dX9_write_85 : decode cX9_write 85 = .ok (.aload_n 0, 1) := by decide +kernel
theorem dX9_write_86 : decode cX9_write 86 = .ok (.getfield 46, 3) := by decide +kernel
theorem dX9_write_89 : decode cX9_write 89 = .ok (.iload_n 3, 1) := by decide +kernel
theorem dX9_write_90 : decode cX9_write 90 = .ok (.iaload, 1) := by decide +kernel
theorem dX9_write_91 : decode cX9_write 91 = .ok (.invokevirtual 109, 3) := by decide +kernel
theorem dX9_write_94 : decode cX9_write 94 = .ok (.iload_n 2, 1) := by decide +kernel
theorem dX9_write_95 : decode cX9_write 95 = .ok (.aload_n 0, 1) := by decide +kernel
theorem dX9_write_96 : decode cX9_write 96 = .ok (.getfield 46, 3) := by decide +kernel
theorem dX9_write_99 : decode cX9_write 99 = .ok (.iload_n 3, 1) := by decide +kernel
theorem dX9_write_100 : decode cX9_write 100 = .ok (.iaload, 1) := by decide +kernel
theorem dX9_write_101 : decode cX9_write 101 = .ok (.iadd, 1) := by decide +kernel
theorem dX9_write_102 : decode cX9_write 102 = .ok (.istore_n 2, 1) := by decide +kernel
theorem dX9_write_103 : decode cX9_write 103 = .ok (.iinc 3 1, 3) := by decide +kernel
theorem dX9_write_106 : decode cX9_write 106 = .ok (.goto (-82), 3) := by decide +kernel
theorem dX9_write_109 : decode cX9_write 109 = .ok (.aload_n 0, 1) := by decide +kernel
theorem dX9_write_110 : decode cX9_write 110 = .ok (.getfield 7, 3) := by decide +kernel
theorem dX9_write_113 : decode cX9_write 113 = .ok (.iconst 2, 1) := by decide +kernel
theorem dX9_write_114 : decode cX9_write 114 = .ok (.dup2, 1) := by decide +kernel
theorem dX9_write_115 : decode cX9_write 115 = .ok (.iaload, 1) := by decide +kernel
theorem dX9_write_116 : decode cX9_write 116 = .ok (.iconst 1, 1) := by decide +kernel
theorem dX9_write_117 : decode cX9_write 117 = .ok (.iadd, 1) := by decide +kernel
theorem dX9_write_118 : decode cX9_write 118 = .ok (.iastore, 1) := by decide +kernel
theorem dX9_write_119 : decode cX9_write 119 = .ok (.aload_n 0, 1) := by decide +kernel
theorem dX9_write_120 : decode cX9_write 120 = .ok (.getfield 7, 3) := by decide +kernel
theorem dX9_write_123 : decode cX9_write 123 = .ok (.iconst 3, 1) := by decide +kernel
theorem dX9_write_124 : decode cX9_write 124 = .ok (.dup2, 1) := by decide +kernel
theorem dX9_write_125 : decode cX9_write 125 = .ok (.iaload, 1) := by decide +kernel
theorem dX9_write_126 : decode cX9_write 126 = .ok (.iload_n 2, 1) := by decide +kernel
theorem dX9_write_127 : decode cX9_write 127 = .ok (.iadd, 1) := by decide +kernel
theorem dX9_write_128 : decode cX9_write 128 = .ok (.iastore, 1) := by decide +kernel
theorem dX9_write_129 : decode cX9_write 129 = .ok (.aload_n 0, 1) := by decide +kernel
theorem dX9_write_130 : decode cX9_write 130 = .ok (.iload_n 2, 1) := by decide +kernel
theorem dX9_write_131 : decode cX9_write 131 = .ok (.invokevirtual 135, 3) := by decide +kernel
theorem dX9_write_134 : decode cX9_write 134 = .ok (.ireturn, 1) := by decide +kernel
set_option maxRecDepth 20000 in
theorem ggX9_pass_X9_in : GoodIn wsX9_pass wsX9_in := goodIn_r _ [7] (by decide +kernel) (by decide +kernel)
set_option maxRecDepth 20000 in
theorem gX9_pass_X9_in : GoodIn wsX9_pass (va_wsS RX9 57 yX9_in wsX9_in) := goodIn_app (goodIn_of _ (by decide +kernel)) ggX9_pass_X9_in
set_option maxRecDepth 20000 in
theorem ggX9_pass_X9_remember : GoodIn wsX9_pass wsX9_remember := goodIn_r _ [11, 2, 3, 12, 13, 6, 14, 21, 22, 23, 24, 25, 26, 27, 28, 29, 30, 31, 32, 33, 34, 35, 36, 37, 38, 39] (by decide +kernel) (by decide +kernel)
set_option maxRecDepth 20000 in
theorem gX9_pass_X9_remember : GoodIn wsX9_pass (wsV RX9 132 RX9 yX9_remember wsX9_remember) := goodIn_app (goodIn_of _ (by decide +kernel)) ggX9_pass_X9_remember
set_option maxRecDepth 20000 in
theorem ggX9_pass_X9_acted : GoodIn wsX9_pass wsX9_acted := goodIn_r _ [18, 19, 20, 3, 21, 22, 23, 24, 25, 26, 27, 28, 29, 30, 31, 32, 33, 34, 35, 36, 37, 38, 39] (by decide +kernel) (by decide +kernel)
set_option maxRecDepth 20000 in
theorem gX9_pass_X9_acted : GoodIn wsX9_pass (wsV RX9 135 RX9 yX9_acted wsX9_acted) := goodIn_app (goodIn_of _ (by decide +kernel)) ggX9_pass_X9_acted
theorem dX9_pass_0 : decode cX9_pass 0 = .ok (.iload_n 1, 1) := by decide +kernel
theorem dX9_pass_1 : decode cX9_pass 1 = .ok (.i2l, 1) := by decide +kernel
theorem dX9_pass_2 : decode cX9_pass 2 = .ok (.lconst 1, 1) := by decide +kernel
theorem dX9_pass_3 : decode cX9_pass 3 = .ok (.ldc2_w 138, 3) := by decide +kernel
theorem dX9_pass_6 : decode cX9_pass 6 = .ok (.invokestatic 57, 3) := by decide +kernel
theorem dX9_pass_9 : decode cX9_pass 9 = .ok (.ifCond .ne 6, 3) := by decide +kernel
theorem dX9_pass_12 : decode cX9_pass 12 = .ok (.bipush (-2), 2) := by decide +kernel
theorem dX9_pass_14 : decode cX9_pass 14 = .ok (.ireturn, 1) := by decide +kernel
theorem dX9_pass_15 : decode cX9_pass 15 = .ok (.aload_n 0, 1) := by decide +kernel
theorem dX9_pass_16 : decode cX9_pass 16 = .ok (.getfield 7, 3) := by decide +kernel
theorem dX9_pass_19 : decode cX9_pass 19 = .ok (.iconst 1, 1) := by decide +kernel
theorem dX9_pass_20 : decode cX9_pass 20 = .ok (.iaload, 1) := by decide +kernel
theorem dX9_pass_21 : decode cX9_pass 21 = .ok (.iload_n 1, 1) := by decide +kernel
theorem dX9_pass_22 : decode cX9_pass 22 = .ok (.iadd, 1) := by decide +kernel
theorem dX9_pass_23 : decode cX9_pass 23 = .ok (.sipush 999, 3) := by decide +kernel
theorem dX9_pass_26 : decode cX9_pass 26 = .ok (.if_icmp .le 6, 3) := by decide +kernel
theorem dX9_pass_29 : decode cX9_pass 29 = .ok (.bipush (-3), 2) := by decide +kernel
theorem dX9_pass_31 : decode cX9_pass 31 = .ok (.ireturn, 1) := by decide +kernel
theorem dX9_pass_32 : decode cX9_pass 32 = .ok (.aload_n 0, 1) := by decide +kernel
theorem dX9_pass_33 : decode cX9_pass 33 = .ok (.invokevirtual 132, 3) := by decide +kernel
theorem dX9_pass_36 : decode cX9_pass 36 = .ok (.aload_n 0, 1) := by decide +kernel
theorem dX9_pass_37 : decode cX9_pass 37 = .ok (.getfield 7, 3) := by decide +kernel
theorem dX9_pass_40 : decode cX9_pass 40 = .ok (.iconst 1, 1) := by decide +kernel
theorem dX9_pass_41 : decode cX9_pass 41 = .ok (.dup2, 1) := by decide +kernel
theorem dX9_pass_42 : decode cX9_pass 42 = .ok (.iaload, 1) := by decide +kernel
theorem dX9_pass_43 : decode cX9_pass 43 = .ok (.iload_n 1, 1) := by decide +kernel
theorem dX9_pass_44 : decode cX9_pass 44 = .ok (.iadd, 1) := by decide +kernel
theorem dX9_pass_45 : decode cX9_pass 45 = .ok (.iastore, 1) := by decide +kernel
theorem dX9_pass_46 : decode cX9_pass 46 = .ok (.iconst 0, 1) := by decide +kernel
theorem dX9_pass_47 : decode cX9_pass 47 = .ok (.istore_n 2, 1) := by decide +kernel
theorem dX9_pass_48 : decode cX9_pass 48 = .ok (.iconst 0, 1) := by decide +kernel
theorem dX9_pass_49 : decode cX9_pass 49 = .ok (.istore_n 3, 1) := by decide +kernel
theorem dX9_pass_50 : decode cX9_pass 50 = .ok (.iload_n 3, 1) := by decide +kernel
theorem dX9_pass_51 : decode cX9_pass 51 = .ok (.sipush 702, 3) := by decide +kernel
theorem dX9_pass_54 : decode cX9_pass 54 = .ok (.if_icmp .ge 68, 3) := by decide +kernel
theorem dX9_pass_57 : decode cX9_pass 57 = .ok (.aload_n 0, 1) := by decide +kernel
theorem dX9_pass_58 : decode cX9_pass 58 = .ok (.getfield 7, 3) := by decide +kernel
theorem dX9_pass_61 : decode cX9_pass 61 = .ok (.bipush 6, 2) := by decide +kernel
theorem dX9_pass_63 : decode cX9_pass 63 = .ok (.iload_n 3, 1) := by decide +kernel
theorem dX9_pass_64 : decode cX9_pass 64 = .ok (.iadd, 1) := by decide +kernel
theorem dX9_pass_65 : decode cX9_pass 65 = .ok (.dup2, 1) := by decide +kernel
theorem dX9_pass_66 : decode cX9_pass 66 = .ok (.iaload, 1) := by decide +kernel
theorem dX9_pass_67 : decode cX9_pass 67 = .ok (.iload_n 1, 1) := by decide +kernel
theorem dX9_pass_68 : decode cX9_pass 68 = .ok (.ishr, 1) := by decide +kernel
theorem dX9_pass_69 : decode cX9_pass 69 = .ok (.iastore, 1) := by decide +kernel
theorem dX9_pass_70 : decode cX9_pass 70 = .ok (.aload_n 0, 1) := by decide +kernel
theorem dX9_pass_71 : decode cX9_pass 71 = .ok (.getfield 7, 3) := by decide +kernel
theorem dX9_pass_74 : decode cX9_pass 74 = .ok (.sipush 708, 3) := by decide +kernel
theorem dX9_pass_77 : decode cX9_pass 77 = .ok (.iload_n 3, 1) := by decide +kernel
theorem dX9_pass_78 : decode cX9_pass 78 = .ok (.iadd, 1) := by decide +kernel
theorem dX9_pass_79 : decode cX9_pass 79 = .ok (.dup2, 1) := by decide +kernel
theorem dX9_pass_80 : decode cX9_pass 80 = .ok (.iaload, 1) := by decide +kernel
theorem dX9_pass_81 : decode cX9_pass 81 = .ok (.iload_n 1, 1) := by decide +kernel
theorem dX9_pass_82 : decode cX9_pass 82 = .ok (.ishr, 1) := by decide +kernel
theorem dX9_pass_83 : decode cX9_pass 83 = .ok (.iastore, 1) := by decide +kernel
theorem dX9_pass_84 : decode cX9_pass 84 = .ok (.iload_n 2, 1) := by decide +kernel
theorem dX9_pass_85 : decode cX9_pass 85 = .ok (.aload_n 0, 1) := by decide +kernel
theorem dX9_pass_86 : decode cX9_pass 86 = .ok (.getfield 7, 3) := by decide +kernel
theorem dX9_pass_89 : decode cX9_pass 89 = .ok (.bipush 6, 2) := by decide +kernel
theorem dX9_pass_91 : decode cX9_pass 91 = .ok (.iload_n 3, 1) := by decide +kernel
theorem dX9_pass_92 : decode cX9_pass 92 = .ok (.iadd, 1) := by decide +kernel
theorem dX9_pass_93 : decode cX9_pass 93 = .ok (.iaload, 1) := by decide +kernel
theorem dX9_pass_94 : decode cX9_pass 94 = .ok (.ifCond .ne 19, 3) := by decide +kernel
theorem dX9_pass_97 : decode cX9_pass 97 = .ok (.aload_n 0, 1) := by decide +kernel
theorem dX9_pass_98 : decode cX9_pass 98 = .ok (.getfield 13, 3) := by decide +kernel
theorem dX9_pass_101 : decode cX9_pass 101 = .ok (.bipush 6, 2) := by decide +kernel
theorem dX9_pass_103 : decode cX9_pass 103 = .ok (.iload_n 3, 1) := by decide +kernel
theorem dX9_pass_104 : decode cX9_pass 104 = .ok (.iadd, 1) := by decide +kernel
theorem dX9_pass_105 : decode cX9_pass 105 = .ok (.iaload, 1) := by decide +kernel
theorem dX9_pass_106 : decode cX9_pass 106 = .ok (.ifCond .le 7, 3) := by decide +kernel
theorem dX9_pass_109 : decode cX9_pass 109 = .ok (.iconst 1, 1) := by decide +kernel
theorem dX9_pass_110 : decode cX9_pass 110 = .ok (.goto 4, 3) := by decide +kernel
theorem dX9_pass_113 : decode cX9_pass 113 = .ok (.iconst 0, 1) := by decide +kernel
theorem dX9_pass_114 : decode cX9_pass 114 = .ok (.iadd, 1) := by decide +kernel
theorem dX9_pass_115 : decode cX9_pass 115 = .ok (.istore_n 2, 1) := by decide +kernel
theorem dX9_pass_116 : decode cX9_pass 116 = .ok (.iinc 3 1, 3) := by decide +kernel
theorem dX9_pass_119 : decode cX9_pass 119 = .ok (.goto (-69), 3) := by decide +kernel
theorem dX9_pass_122 : decode cX9_pass 122 = .ok (.aload_n 0, 1) := by decide +kernel
theorem dX9_pass_123 : decode cX9_pass 123 = .ok (.iload_n 2, 1) := by decide +kernel
theorem dX9_pass_124 : decode cX9_pass 124 = .ok (.invokevirtual 135, 3) := by decide +kernel
theorem dX9_pass_127 : decode cX9_pass 127 = .ok (.ireturn, 1) := by decide +kernel
set_option maxRecDepth 20000 in
theorem ggX9_setUntried_X9_in : GoodIn wsX9_setUntried wsX9_in := goodIn_r _ [6] (by decide +kernel) (by decide +kernel)
set_option maxRecDepth 20000 in
theorem gX9_setUntried_X9_in : GoodIn wsX9_setUntried (va_wsS RX9 57 yX9_in wsX9_in) := goodIn_app (goodIn_of _ (by decide +kernel)) ggX9_setUntried_X9_in
set_option maxRecDepth 20000 in
theorem ggX9_setUntried_X9_remember : GoodIn wsX9_setUntried wsX9_remember := goodIn_r _ [10, 2, 11, 12, 13, 5, 14, 21, 22, 23, 24, 25, 26, 27, 28, 29, 30, 31, 32, 33, 34, 35, 36, 37, 38, 39] (by decide +kernel) (by decide +kernel)
set_option maxRecDepth 20000 in
theorem gX9_setUntried_X9_remember : GoodIn wsX9_setUntried (wsV RX9 132 RX9 yX9_remember wsX9_remember) := goodIn_app (goodIn_of _ (by decide +kernel)) ggX9_setUntried_X9_remember
set_option maxRecDepth 20000 in
theorem ggX9_setUntried_X9_acted : GoodIn wsX9_setUntried wsX9_acted := goodIn_r _ [18, 19, 20, 11, 21, 22, 23, 24, 25, 26, 27, 28, 29, 30, 31, 32, 33, 34, 35, 36, 37, 38, 39] (by decide +kernel) (by decide +kernel)
set_option maxRecDepth 20000 in
theorem gX9_setUntried_X9_acted : GoodIn wsX9_setUntried (wsV RX9 135 RX9 yX9_acted wsX9_acted) := goodIn_app (goodIn_of _ (by decide +kernel)) ggX9_setUntried_X9_acted
theorem dX9_setUntried_0 : decode cX9_setUntried 0 = .ok (.iload_n 1, 1) := by decide +kernel
theorem dX9_setUntried_1 : decode cX9_setUntried 1 = .ok (.i2l, 1) := by decide +kernel
theorem dX9_setUntried_2 : decode cX9_setUntried 2 = .ok (.lconst 0, 1) := by decide +kernel
theorem dX9_setUntried_3 : decode cX9_setUntried 3 = .ok (.ldc2_w 140, 3) := by decide +kernel
theorem dX9_setUntried_6 : decode cX9_setUntried 6 = .ok (.invokestatic 57, 3) := by decide +kernel
theorem dX9_setUntried_9 : decode cX9_setUntried 9 = .ok (.ifCond .ne 6, 3) := by decide +kernel
theorem dX9_setUntried_12 : decode cX9_setUntried 12 = .ok (.bipush (-2), 2) := by decide +kernel
theorem dX9_setUntried_14 : decode cX9_setUntried 14 = .ok (.ireturn, 1) := by decide +kernel
theorem dX9_setUntried_15 : decode cX9_setUntried 15 = .ok (.aload_n 0, 1) := by decide +kernel
theorem dX9_setUntried_16 : decode cX9_setUntried 16 = .ok (.getfield 7, 3) := by decide +kernel
theorem dX9_setUntried_19 : decode cX9_setUntried 19 = .ok (.iconst 0, 1) := by decide +kernel
theorem dX9_setUntried_20 : decode cX9_setUntried 20 = .ok (.iaload, 1) := by decide +kernel
theorem dX9_setUntried_21 : decode cX9_setUntried 21 = .ok (.istore_n 2, 1) := by decide +kernel
theorem dX9_setUntried_22 : decode cX9_setUntried 22 = .ok (.iload_n 2, 1) := by decide +kernel
theorem dX9_setUntried_23 : decode cX9_setUntried 23 = .ok (.iload_n 1, 1) := by decide +kernel
theorem dX9_setUntried_24 : decode cX9_setUntried 24 = .ok (.if_icmp .ne 6, 3) := by decide +kernel
theorem dX9_setUntried_27 : decode cX9_setUntried 27 = .ok (.bipush (-5), 2) := by decide +kernel
theorem dX9_setUntried_29 : decode cX9_setUntried 29 = .ok (.ireturn, 1) := by decide +kernel
theorem dX9_setUntried_30 : decode cX9_setUntried 30 = .ok (.aload_n 0, 1) := by decide +kernel
theorem dX9_setUntried_31 : decode cX9_setUntried 31 = .ok (.invokevirtual 132, 3) := by decide +kernel
theorem dX9_setUntried_34 : decode cX9_setUntried 34 = .ok (.aload_n 0, 1) := by decide +kernel
theorem dX9_setUntried_35 : decode cX9_setUntried 35 = .ok (.getfield 7, 3) := by decide +kernel
theorem dX9_setUntried_38 : decode cX9_setUntried 38 = .ok (.iconst 0, 1) := by decide +kernel
theorem dX9_setUntried_39 : decode cX9_setUntried 39 = .ok (.iload_n 1, 1) := by decide +kernel
theorem dX9_setUntried_40 : decode cX9_setUntried 40 = .ok (.iastore, 1) := by decide +kernel
theorem dX9_setUntried_41 : decode cX9_setUntried 41 = .ok (.aload_n 0, 1) := by decide +kernel
theorem dX9_setUntried_42 : decode cX9_setUntried 42 = .ok (.iload_n 2, 1) := by decide +kernel
theorem dX9_setUntried_43 : decode cX9_setUntried 43 = .ok (.invokevirtual 135, 3) := by decide +kernel
theorem dX9_setUntried_46 : decode cX9_setUntried 46 = .ok (.ireturn, 1) := by decide +kernel
set_option maxRecDepth 20000 in
theorem ggX9_isOnList_X9_sizeOf : GoodIn wsX9_isOnList wsX9_sizeOf := goodIn_r _ [7, 1, 12, 13, 14, 15, 16, 17, 18, 19, 20, 21, 22, 23, 24, 25, 26, 27, 28, 29, 30] (by decide +kernel) (by decide +kernel)
set_option maxRecDepth 20000 in
theorem gX9_isOnList_X9_sizeOf : GoodIn wsX9_isOnList (wsV RX9 64 RX9 yX9_sizeOf wsX9_sizeOf) := goodIn_app (goodIn_of _ (by decide +kernel)) ggX9_isOnList_X9_sizeOf
set_option maxRecDepth 20000 in
theorem ggX9_isOnList_X9_letterAt : GoodIn wsX9_isOnList wsX9_letterAt := goodIn_r _ [11, 1, 12, 13, 14, 15, 16, 17, 18, 19, 20, 21, 22, 23, 24, 25, 26, 27, 28, 29, 30] (by decide +kernel) (by decide +kernel)
set_option maxRecDepth 20000 in
theorem gX9_isOnList_X9_letterAt : GoodIn wsX9_isOnList (wsV RX9 68 RX9 yX9_letterAt wsX9_letterAt) := goodIn_app (goodIn_of _ (by decide +kernel)) ggX9_isOnList_X9_letterAt
theorem dX9_isOnList_0 : decode cX9_isOnList 0 = .ok (.iconst 0, 1) := by decide +kernel
theorem dX9_isOnList_1 : decode cX9_isOnList 1 = .ok (.istore_n 3, 1) := by decide +kernel
theorem dX9_isOnList_2 : decode cX9_isOnList 2 = .ok (.iconst 0, 1) := by decide +kernel
theorem dX9_isOnList_3 : decode cX9_isOnList 3 = .ok (.istore 4, 2) := by decide +kernel
theorem dX9_isOnList_5 : decode cX9_isOnList 5 = .ok (.iload 4, 2) := by decide +kernel
theorem dX9_isOnList_7 : decode cX9_isOnList 7 = .ok (.aload_n 0, 1) := by decide +kernel
theorem dX9_isOnList_8 : decode cX9_isOnList 8 = .ok (.getfield 7, 3) := by decide +kernel
theorem dX9_isOnList_11 : decode cX9_isOnList 11 = .ok (.iconst 5, 1) := by decide +kernel
theorem dX9_isOnList_12 : decode cX9_isOnList 12 = .ok (.iaload, 1) := by decide +kernel
theorem dX9_isOnList_13 : decode cX9_isOnList 13 = .ok (.if_icmp .ge 91, 3) := by decide +kernel
theorem dX9_isOnList_16 : decode cX9_isOnList 16 = .ok (.aload_n 0, 1) := by decide +kernel
theorem dX9_isOnList_17 : decode cX9_isOnList 17 = .ok (.iload 4, 2) := by decide +kernel
theorem dX9_isOnList_19 : decode cX9_isOnList 19 = .ok (.invokevirtual 64, 3) := by decide +kernel
theorem dX9_isOnList_22 : decode cX9_isOnList 22 = .ok (.iload_n 2, 1) := by decide +kernel
theorem dX9_isOnList_23 : decode cX9_isOnList 23 = .ok (.if_icmp .ne 7, 3) := by decide +kernel
theorem dX9_isOnList_26 : decode cX9_isOnList 26 = .ok (.iconst 1, 1) := by decide +kernel
theorem dX9_isOnList_27 : decode cX9_isOnList 27 = .ok (.goto 4, 3) := by decide +kernel
theorem dX9_isOnList_30 : decode cX9_isOnList 30 = .ok (.iconst 0, 1) := by decide +kernel
theorem dX9_isOnList_31 : decode cX9_isOnList 31 = .ok (.istore 5, 2) := by decide +kernel
theorem dX9_isOnList_33 : decode cX9_isOnList 33 = .ok (.iconst 0, 1) := by decide +kernel
theorem dX9_isOnList_34 : decode cX9_isOnList 34 = .ok (.istore 6, 2) := by decide +kernel
theorem dX9_isOnList_36 : decode cX9_isOnList 36 = .ok (.iload 6, 2) := by decide +kernel
theorem dX9_isOnList_38 : decode cX9_isOnList 38 = .ok (.iload_n 2, 1) := by decide +kernel
theorem dX9_isOnList_39 : decode cX9_isOnList 39 = .ok (.if_icmp .ge 44, 3) := by decide +kernel
theorem dX9_isOnList_42 : decode cX9_isOnList 42 = .ok (.iload 5, 2) := by decide +kernel
theorem dX9_isOnList_44 : decode cX9_isOnList 44 = .ok (.ifCond .eq 39, 3) := by decide +kernel
theorem dX9_isOnList_47 : decode cX9_isOnList 47 = .ok (.aload_n 0, 1) := by decide +kernel
theorem dX9_isOnList_48 : decode cX9_isOnList 48 = .ok (.iload 4, 2) := by decide +kernel
theorem dX9_isOnList_50 : decode cX9_isOnList 50 = .ok (.iload 6, 2) := by decide +kernel
theorem dX9_isOnList_52 : decode cX9_isOnList 52 = .ok (.invokevirtual 68, 3) := by decide +kernel
theorem dX9_isOnList_55 : decode cX9_isOnList 55 = .ok (.aload_n 0, 1) := by decide +kernel
theorem dX9_isOnList_56 : decode cX9_isOnList 56 = .ok (.getfield 37, 3) := by decide +kernel
theorem dX9_isOnList_59 : decode cX9_isOnList 59 = .ok (.iload_n 1, 1) := by decide +kernel
theorem dX9_isOnList_60 : decode cX9_isOnList 60 = .ok (.iload 6, 2) := by decide +kernel
theorem dX9_isOnList_62 : decode cX9_isOnList 62 = .ok (.iadd, 1) := by decide +kernel
theorem dX9_isOnList_63 : decode cX9_isOnList 63 = .ok (.iaload, 1) := by decide +kernel
theorem dX9_isOnList_64 : decode cX9_isOnList 64 = .ok (.bipush 97, 2) := by decide +kernel
theorem dX9_isOnList_66 : decode cX9_isOnList 66 = .ok (.isub, 1) := by decide +kernel
theorem dX9_isOnList_67 : decode cX9_isOnList 67 = .ok (.if_icmp .ne 7, 3) := by decide +kernel
theorem dX9_isOnList_70 : decode cX9_isOnList 70 = .ok (.iconst 1, 1) := by decide +kernel
theorem dX9_isOnList_71 : decode cX9_isOnList 71 = .ok (.goto 4, 3) := by decide +kernel
theorem dX9_isOnList_74 : decode cX9_isOnList 74 = .ok (.iconst 0, 1) := by decide +kernel
theorem dX9_isOnList_75 : decode cX9_isOnList 75 = .ok (.istore 5, 2) := by decide +kernel
theorem dX9_isOnList_77 : decode cX9_isOnList 77 = .ok (.iinc 6 1, 3) := by decide +kernel
theorem dX9_isOnList_80 : decode cX9_isOnList 80 = .ok (.goto (-44), 3) := by decide +kernel
theorem dX9_isOnList_83 : decode cX9_isOnList 83 = .ok (.iload_n 3, 1) := by decide +kernel
theorem dX9_isOnList_84 : decode cX9_isOnList 84 = .ok (.ifCond .ne 8, 3) := by decide +kernel
theorem dX9_isOnList_87 : decode cX9_isOnList 87 = .ok (.iload 5, 2) := by decide +kernel
theorem dX9_isOnList_89 : decode cX9_isOnList 89 = .ok (.ifCond .eq 7, 3) := by decide +kernel
theorem dX9_isOnList_92 : decode cX9_isOnList 92 = .ok (.iconst 1, 1) := by decide +kernel
theorem dX9_isOnList_93 : decode cX9_isOnList 93 = .ok (.goto 4, 3) := by decide +kernel
theorem dX9_isOnList_96 : decode cX9_isOnList 96 = .ok (.iconst 0, 1) := by decide +kernel
theorem dX9_isOnList_97 : decode cX9_isOnList 97 = .ok (.istore_n 3, 1) := by decide +kernel
theorem dX9_isOnList_98 : decode cX9_isOnList 98 = .ok (.iinc 4 1, 3) := by decide +kernel
theorem dX9_isOnList_101 : decode cX9_isOnList 101 = .ok (.goto (-96), 3) := by decide +kernel
theorem dX9_isOnList_104 : decode cX9_isOnList 104 = .ok (.iload_n 3, 1) := by decide +kernel
theorem dX9_isOnList_105 : decode cX9_isOnList 105 = .ok (.ireturn, 1) := by decide +kernel
set_option maxRecDepth 20000 in
theorem ggX9_addsAll_X9_isLetter : GoodIn wsX9_addsAll wsX9_isLetter := goodIn_r _ [8, 1, 3, 9, 10, 11, 12, 7, 13, 26, 27, 28, 29, 30, 31, 32, 33, 34, 35, 36, 37, 38, 39, 40, 41, 42, 43, 44] (by decide +kernel) (by decide +kernel)
set_option maxRecDepth 20000 in
theorem gX9_addsAll_X9_isLetter : GoodIn wsX9_addsAll (wsV RX9 123 RX9 yX9_isLetter wsX9_isLetter) := goodIn_app (goodIn_of _ (by decide +kernel)) ggX9_addsAll_X9_isLetter
set_option maxRecDepth 20000 in
theorem ggX9_addsAll_X9_isOnList : GoodIn wsX9_addsAll wsX9_isOnList := goodIn_r _ [17, 2, 3, 18, 19, 20, 7, 21, 22, 23, 24, 25, 26, 27, 28, 29, 30, 31, 32, 33, 34, 35, 36, 37, 38, 39, 40, 41, 42, 43, 44] (by decide +kernel) (by decide +kernel)
set_option maxRecDepth 20000 in
theorem gX9_addsAll_X9_isOnList : GoodIn wsX9_addsAll (wsV RX9 142 RX9 yX9_isOnList wsX9_isOnList) := goodIn_app (goodIn_of _ (by decide +kernel)) ggX9_addsAll_X9_isOnList
theorem dX9_addsAll_0 : decode cX9_addsAll 0 = .ok (.iconst 0, 1) := by decide +kernel
theorem dX9_addsAll_1 : decode cX9_addsAll 1 = .ok (.istore_n 1, 1) := by decide +kernel
theorem dX9_addsAll_2 : decode cX9_addsAll 2 = .ok (.iload_n 1, 1) := by decide +kernel
theorem dX9_addsAll_3 : decode cX9_addsAll 3 = .ok (.aload_n 0, 1) := by decide +kernel
theorem dX9_addsAll_4 : decode cX9_addsAll 4 = .ok (.getfield 113, 3) := by decide +kernel
theorem dX9_addsAll_7 : decode cX9_addsAll 7 = .ok (.if_icmp .ge 121, 3) := by decide +kernel
theorem dX9_addsAll_10 : decode cX9_addsAll 10 = .ok (.iconst 0, 1) := by decide +kernel
theorem dX9_addsAll_11 : decode cX9_addsAll 11 = .ok (.istore_n 2, 1) := by decide +kernel
theorem dX9_addsAll_12 : decode cX9_addsAll 12 = .ok (.aload_n 0, 1) := by decide +kernel
theorem dX9_addsAll_13 : decode cX9_addsAll 13 = .ok (.iload_n 1, 1) := by decide +kernel
theorem dX9_addsAll_14 : decode cX9_addsAll 14 = .ok (.iload_n 2, 1) := by decide +kernel
theorem dX9_addsAll_15 : decode cX9_addsAll 15 = .ok (.iadd, 1) := by decide +kernel
theorem dX9_addsAll_16 : decode cX9_addsAll 16 = .ok (.invokevirtual 123, 3) := by decide +kernel
theorem dX9_addsAll_19 : decode cX9_addsAll 19 = .ok (.ifCond .eq 9, 3) := by decide +kernel
theorem dX9_addsAll_22 : decode cX9_addsAll 22 = .ok (.iinc 2 1, 3) := by decide +kernel
theorem dX9_addsAll_25 : decode cX9_addsAll 25 = .ok (.goto (-13), 3) := by decide +kernel
theorem dX9_addsAll_28 : decode cX9_addsAll 28 = .ok (.aload_n 0, 1) := by decide +kernel
theorem dX9_addsAll_29 : decode cX9_addsAll 29 = .ok (.iload_n 1, 1) := by decide +kernel
theorem dX9_addsAll_30 : decode cX9_addsAll 30 = .ok (.iload_n 2, 1) := by decide +kernel
theorem dX9_addsAll_31 : decode cX9_addsAll 31 = .ok (.invokevirtual 142, 3) := by decide +kernel
theorem dX9_addsAll_34 : decode cX9_addsAll 34 = .ok (.ifCond .ne 85, 3) := by decide +kernel
theorem dX9_addsAll_37 : decode cX9_addsAll 37 = .ok (.aload_n 0, 1) := by decide +kernel
theorem dX9_addsAll_38 : decode cX9_addsAll 38 = .ok (.getfield 7, 3) := by decide +kernel
theorem dX9_addsAll_41 : decode cX9_addsAll 41 = .ok (.iconst 5, 1) := by decide +kernel
theorem dX9_addsAll_42 : decode cX9_addsAll 42 = .ok (.iaload, 1) := by decide +kernel
theorem dX9_addsAll_43 : decode cX9_addsAll 43 = .ok (.bipush 20, 2) := by decide +kernel
theorem dX9_addsAll_45 : decode cX9_addsAll 45 = .ok (.if_icmp .ne 5, 3) := by decide +kernel
theorem dX9_addsAll_48 : decode cX9_addsAll 48 = .ok (.iconst 0, 1) := by decide +kernel
theorem dX9_addsAll_49 : decode cX9_addsAll 49 = .ok (.ireturn, 1) := by decide +kernel
theorem dX9_addsAll_50 : decode cX9_addsAll 50 = .ok (.sipush 1410, 3) := by decide +kernel
theorem dX9_addsAll_53 : decode cX9_addsAll 53 = .ok (.bipush 16, 2) := by decide +kernel
theorem dX9_addsAll_55 : decode cX9_addsAll 55 = .ok (.aload_n 0, 1) := by decide +kernel
theorem dX9_addsAll_56 : decode cX9_addsAll 56 = .ok (.getfield 7, 3) := by decide +kernel
theorem dX9_addsAll_59 : decode cX9_addsAll 59 = .ok (.iconst 5, 1) := by decide +kernel
theorem dX9_addsAll_60 : decode cX9_addsAll 60 = .ok (.iaload, 1) := by decide +kernel
theorem dX9_addsAll_61 : decode cX9_addsAll 61 = .ok (.imul, 1) := by decide +kernel
theorem dX9_addsAll_62 : decode cX9_addsAll 62 = .ok (.iadd, 1) := by decide +kernel
theorem dX9_addsAll_63 : decode cX9_addsAll 63 = .ok (.istore_n 3, 1) := by decide +kernel
theorem dX9_addsAll_64 : decode cX9_addsAll 64 = .ok (.aload_n 0, 1) := by decide +kernel
theorem dX9_addsAll_65 : decode cX9_addsAll 65 = .ok (.getfield 7, 3) := by decide +kernel
theorem dX9_addsAll_68 : decode cX9_addsAll 68 = .ok (.iload_n 3, 1) := by decide +kernel
theorem dX9_addsAll_69 : decode cX9_addsAll 69 = .ok (.iload_n 2, 1) := by decide +kernel
theorem dX9_addsAll_70 : decode cX9_addsAll 70 = .ok (.iastore, 1) := by decide +kernel
theorem dX9_addsAll_71 : decode cX9_addsAll 71 = .ok (.iconst 0, 1) := by decide +kernel
theorem dX9_addsAll_72 : decode cX9_addsAll 72 = .ok (.istore 4, 2) := by decide +kernel
theorem dX9_addsAll_74 : decode cX9_addsAll 74 = .ok (.iload 4, 2) := by decide +kernel
theorem dX9_addsAll_76 : decode cX9_addsAll 76 = .ok (.iload_n 2, 1) := by decide +kernel
theorem dX9_addsAll_77 : decode cX9_addsAll 77 = .ok (.if_icmp .ge 32, 3) := by decide +kernel
theorem dX9_addsAll_80 : decode cX9_addsAll 80 = .ok (.aload_n 0, 1) := by decide +kernel
theorem dX9_addsAll_81 : decode cX9_addsAll 81 = .ok (.getfield 7, 3) := by decide +kernel
theorem dX9_addsAll_84 : decode cX9_addsAll 84 = .ok (.iload_n 3, 1) := by decide +kernel
theorem dX9_addsAll_85 : decode cX9_addsAll 85 = .ok (.iconst 1, 1) := by decide +kernel
theorem dX9_addsAll_86 : decode cX9_addsAll 86 = .ok (.iadd, 1) := by decide +kernel
theorem dX9_addsAll_87 : decode cX9_addsAll 87 = .ok (.iload 4, 2) := by decide +kernel
theorem dX9_addsAll_89 : decode cX9_addsAll 89 = .ok (.iadd, 1) := by decide +kernel
theorem dX9_addsAll_90 : decode cX9_addsAll 90 = .ok (.aload_n 0, 1) := by decide +kernel
theorem dX9_addsAll_91 : decode cX9_addsAll 91 = .ok (.getfield 37, 3) := by decide +kernel
theorem dX9_addsAll_94 : decode cX9_addsAll 94 = .ok (.iload_n 1, 1) := by decide +kernel
theorem dX9_addsAll_95 : decode cX9_addsAll 95 = .ok (.iload 4, 2) := by decide +kernel
theorem dX9_addsAll_97 : decode cX9_addsAll 97 = .ok (.iadd, 1) := by decide +kernel
theorem dX9_addsAll_98 : decode cX9_addsAll 98 = .ok (.iaload, 1) := by decide +kernel
theorem dX9_addsAll_99 : decode cX9_addsAll 99 = .ok (.bipush 97, 2) := by decide +kernel
theorem dX9_addsAll_101 : decode cX9_addsAll 101 = .ok (.isub, 1) := by decide +kernel
theorem dX9_addsAll_102 : decode cX9_addsAll 102 = .ok (.iastore, 1) := by decide +kernel
theorem dX9_addsAll_103 : decode cX9_addsAll 103 = .ok (.iinc 4 1, 3) := by decide +kernel
theorem dX9_addsAll_106 : decode cX9_addsAll 106 = .ok (.goto (-32), 3) := by decide +kernel
theorem dX9_addsAll_109 : decode cX9_addsAll 109 = .ok (.aload_n 0, 1) := by decide +kernel
theorem dX9_addsAll_110 : decode cX9_addsAll 110 = .ok (.getfield 7, 3) := by decide +kernel
theorem dX9_addsAll_113 : decode cX9_addsAll 113 = .ok (.iconst 5, 1) := by decide +kernel
theorem dX9_addsAll_114 : decode cX9_addsAll 114 = .ok (.dup2, 1) := by decide +kernel
theorem dX9_addsAll_115 : decode cX9_addsAll 115 = .ok (.iaload, 1) := by decide +kernel
theorem dX9_addsAll_116 : decode cX9_addsAll 116 = .ok (.iconst 1, 1) := by decide +kernel
theorem dX9_addsAll_117 : decode cX9_addsAll 117 = .ok (.iadd, 1) := by decide +kernel
theorem dX9_addsAll_118 : decode cX9_addsAll 118 = .ok (.iastore, 1) := by decide +kernel
theorem dX9_addsAll_119 : decode cX9_addsAll 119 = .ok (.iload_n 1, 1) := by decide +kernel
theorem dX9_addsAll_120 : decode cX9_addsAll 120 = .ok (.iload_n 2, 1) := by decide +kernel
theorem dX9_addsAll_121 : decode cX9_addsAll 121 = .ok (.iconst 1, 1) := by decide +kernel
theorem dX9_addsAll_122 : decode cX9_addsAll 122 = .ok (.iadd, 1) := by decide +kernel
theorem dX9_addsAll_123 : decode cX9_addsAll 123 = .ok (.iadd, 1) := by decide +kernel
theorem dX9_addsAll_124 : decode cX9_addsAll 124 = .ok (.istore_n 1, 1) := by decide +kernel
theorem dX9_addsAll_125 : decode cX9_addsAll 125 = .ok (.goto (-123), 3) := by decide +kernel
theorem dX9_addsAll_128 : decode cX9_addsAll 128 = .ok (.iconst 1, 1) := by decide +kernel
theorem dX9_addsAll_129 : decode cX9_addsAll 129 = .ok (.ireturn, 1) := by decide +kernel
set_option maxRecDepth 20000 in
theorem ggX9_addWords_X9_faultOfWords : GoodIn wsX9_addWords wsX9_faultOfWords := goodIn_r _ [7, 8, 9, 10, 11, 12, 6, 13, 14, 15, 16, 17, 18, 48, 49, 50, 51, 52, 53, 54, 55, 56, 57, 58, 59, 60, 61, 62, 63, 64, 65, 66] (by decide +kernel) (by decide +kernel)
set_option maxRecDepth 20000 in
theorem gX9_addWords_X9_faultOfWords : GoodIn wsX9_addWords (wsV RX9 145 RX9 yX9_faultOfWords wsX9_faultOfWords) := goodIn_app (goodIn_of _ (by decide +kernel)) ggX9_addWords_X9_faultOfWords
set_option maxRecDepth 20000 in
theorem ggX9_addWords_X9_remember : GoodIn wsX9_addWords wsX9_remember := goodIn_r _ [22, 2, 1, 23, 24, 6, 25, 48, 49, 50, 51, 52, 53, 54, 55, 56, 57, 58, 59, 60, 61, 62, 63, 64, 65, 66] (by decide +kernel) (by decide +kernel)
set_option maxRecDepth 20000 in
theorem gX9_addWords_X9_remember : GoodIn wsX9_addWords (wsV RX9 132 RX9 yX9_remember wsX9_remember) := goodIn_app (goodIn_of _ (by decide +kernel)) ggX9_addWords_X9_remember
set_option maxRecDepth 20000 in
theorem ggX9_addWords_X9_addsAll : GoodIn wsX9_addWords wsX9_addsAll := goodIn_r _ [29, 8, 2, 9, 10, 11, 12, 6, 13, 14, 15, 16, 17, 18, 30, 31, 32, 33, 34, 35, 36, 37, 38, 39, 40, 41, 48, 49, 50, 51, 52, 53, 54, 55, 56, 57, 58, 59, 60, 61, 62, 63, 64, 65, 66] (by decide +kernel) (by decide +kernel)
set_option maxRecDepth 20000 in
theorem gX9_addWords_X9_addsAll : GoodIn wsX9_addWords (wsV RX9 148 RX9 yX9_addsAll wsX9_addsAll) := goodIn_app (goodIn_of _ (by decide +kernel)) ggX9_addWords_X9_addsAll
set_option maxRecDepth 20000 in
theorem ggX9_addWords_X9_copy : GoodIn wsX9_addWords wsX9_copy := goodIn_r _ [25] (by decide +kernel) (by decide +kernel)
set_option maxRecDepth 20000 in
theorem gX9_addWords_X9_copy : GoodIn wsX9_addWords (va_wsS RX9 49 yX9_copy wsX9_copy) := goodIn_app (goodIn_of _ (by decide +kernel)) ggX9_addWords_X9_copy
set_option maxRecDepth 20000 in
theorem ggX9_addWords_X9_acted : GoodIn wsX9_addWords wsX9_acted := goodIn_r _ [45, 46, 47, 1, 48, 49, 50, 51, 52, 53, 54, 55, 56, 57, 58, 59, 60, 61, 62, 63, 64, 65, 66] (by decide +kernel) (by decide +kernel)
set_option maxRecDepth 20000 in
theorem gX9_addWords_X9_acted : GoodIn wsX9_addWords (wsV RX9 135 RX9 yX9_acted wsX9_acted) := goodIn_app (goodIn_of _ (by decide +kernel)) ggX9_addWords_X9_acted
end
section
/-! decode rows and calls' words, printed -/
theorem dX9_addWords_0 : decode cX9_addWords 0 = .ok (.aload_n 0, 1) := by decide +kernel
theorem dX9_addWords_1 : decode cX9_addWords 1 = .ok (.invokevirtual 145, 3) := by decide +kernel
theorem dX9_addWords_4 : decode cX9_addWords 4 = .ok (.istore_n 1, 1) := by decide +kernel
theorem dX9_addWords_5 : decode cX9_addWords 5 = .ok (.iload_n 1, 1) := by decide +kernel
theorem dX9_addWords_6 : decode cX9_addWords 6 = .ok (.bipush (-5), 2) := by decide +kernel
theorem dX9_addWords_8 : decode cX9_addWords 8 = .ok (.if_icmp .eq 8, 3) := by decide +kernel
theorem dX9_addWords_11 : decode cX9_addWords 11 = .ok (.bipush (-100), 2) := by decide +kernel
theorem dX9_addWords_13 : decode cX9_addWords 13 = .ok (.iload_n 1, 1) := by decide +kernel
theorem dX9_addWords_14 : decode cX9_addWords 14 = .ok (.isub, 1) := by decide +kernel
theorem dX9_addWords_15 : decode cX9_addWords 15 = .ok (.ireturn, 1) := by decide +kernel
theorem dX9_addWords_16 : decode cX9_addWords 16 = .ok (.aload_n 0, 1) := by decide +kernel
theorem dX9_addWords_17 : decode cX9_addWords 17 = .ok (.invokevirtual 132, 3) := by decide +kernel
theorem dX9_addWords_20 : decode cX9_addWords 20 = .ok (.aload_n 0, 1) := by decide +kernel
theorem dX9_addWords_21 : decode cX9_addWords 21 = .ok (.invokevirtual 148, 3) := by decide +kernel
theorem dX9_addWords_24 : decode cX9_addWords 24 = .ok (.ifCond .ne 17, 3) := by decide +kernel
theorem dX9_addWords_27 : decode cX9_addWords 27 = .ok (.aload_n 0, 1) := by decide +kernel
theorem dX9_addWords_28 : decode cX9_addWords 28 = .ok (.getfield 13, 3) := by decide +kernel
theorem dX9_addWords_31 : decode cX9_addWords 31 = .ok (.aload_n 0, 1) := by decide +kernel
theorem dX9_addWords_32 : decode cX9_addWords 32 = .ok (.getfield 7, 3) := by decide +kernel
theorem dX9_addWords_35 : decode cX9_addWords 35 = .ok (.invokestatic 49, 3) := by decide +kernel
theorem dX9_addWords_38 : decode cX9_addWords 38 = .ok (.bipush (-3), 2) := by decide +kernel
theorem dX9_addWords_40 : decode cX9_addWords 40 = .ok (.ireturn, 1) := by decide +kernel
theorem dX9_addWords_41 : decode cX9_addWords 41 = .ok (.aload_n 0, 1) := by decide +kernel
theorem dX9_addWords_42 : decode cX9_addWords 42 = .ok (.getfield 7, 3) := by decide +kernel
theorem dX9_addWords_45 : decode cX9_addWords 45 = .ok (.iconst 5, 1) := by decide +kernel
theorem dX9_addWords_46 : decode cX9_addWords 46 = .ok (.iaload, 1) := by decide +kernel
theorem dX9_addWords_47 : decode cX9_addWords 47 = .ok (.aload_n 0, 1) := by decide +kernel
theorem dX9_addWords_48 : decode cX9_addWords 48 = .ok (.getfield 13, 3) := by decide +kernel
theorem dX9_addWords_51 : decode cX9_addWords 51 = .ok (.iconst 5, 1) := by decide +kernel
theorem dX9_addWords_52 : decode cX9_addWords 52 = .ok (.iaload, 1) := by decide +kernel
theorem dX9_addWords_53 : decode cX9_addWords 53 = .ok (.isub, 1) := by decide +kernel
theorem dX9_addWords_54 : decode cX9_addWords 54 = .ok (.istore_n 2, 1) := by decide +kernel
theorem dX9_addWords_55 : decode cX9_addWords 55 = .ok (.iload_n 2, 1) := by decide +kernel
theorem dX9_addWords_56 : decode cX9_addWords 56 = .ok (.ifCond .ne 8, 3) := by decide +kernel
theorem dX9_addWords_59 : decode cX9_addWords 59 = .ok (.bipush (-5), 2) := by decide +kernel
theorem dX9_addWords_61 : decode cX9_addWords 61 = .ok (.goto 8, 3) := by decide +kernel
theorem dX9_addWords_64 : decode cX9_addWords 64 = .ok (.aload_n 0, 1) := by decide +kernel
theorem dX9_addWords_65 : decode cX9_addWords 65 = .ok (.iload_n 2, 1) := by decide +kernel
theorem dX9_addWords_66 : decode cX9_addWords 66 = .ok (.invokevirtual 135, 3) := by decide +kernel
theorem dX9_addWords_69 : decode cX9_addWords 69 = .ok (.ireturn, 1) := by decide +kernel
set_option maxRecDepth 20000 in
theorem ggX9_removeWord_X9_isWord : GoodIn wsX9_removeWord wsX9_isWord := goodIn_r _ [6, 1, 7, 8, 5, 9, 24, 25, 26, 27, 28, 29, 30, 31, 32, 33, 34, 35, 36, 37, 38, 39, 40, 41, 42] (by decide +kernel) (by decide +kernel)
set_option maxRecDepth 20000 in
theorem gX9_removeWord_X9_isWord : GoodIn wsX9_removeWord (wsV RX9 152 RX9 yX9_isWord wsX9_isWord) := goodIn_app (goodIn_of _ (by decide +kernel)) ggX9_removeWord_X9_isWord
set_option maxRecDepth 20000 in
theorem ggX9_removeWord_X9_remember : GoodIn wsX9_removeWord wsX9_remember := goodIn_r _ [13, 1, 14, 15, 16, 5, 17, 24, 25, 26, 27, 28, 29, 30, 31, 32, 33, 34, 35, 36, 37, 38, 39, 40, 41, 42] (by decide +kernel) (by decide +kernel)
set_option maxRecDepth 20000 in
theorem gX9_removeWord_X9_remember : GoodIn wsX9_removeWord (wsV RX9 132 RX9 yX9_remember wsX9_remember) := goodIn_app (goodIn_of _ (by decide +kernel)) ggX9_removeWord_X9_remember
set_option maxRecDepth 20000 in
theorem ggX9_removeWord_X9_acted : GoodIn wsX9_removeWord wsX9_acted := goodIn_r _ [21, 22, 23, 14, 24, 25, 26, 27, 28, 29, 30, 31, 32, 33, 34, 35, 36, 37, 38, 39, 40, 41, 42] (by decide +kernel) (by decide +kernel)
set_option maxRecDepth 20000 in
theorem gX9_removeWord_X9_acted : GoodIn wsX9_removeWord (wsV RX9 135 RX9 yX9_acted wsX9_acted) := goodIn_app (goodIn_of _ (by decide +kernel)) ggX9_removeWord_X9_acted
theorem dX9_removeWord_0 : decode cX9_removeWord 0 = .ok (.aload_n 0, 1) := by decide +kernel
theorem dX9_removeWord_1 : decode cX9_removeWord 1 = .ok (.iload_n 1, 1) := by decide +kernel
theorem dX9_removeWord_2 : decode cX9_removeWord 2 = .ok (.invokevirtual 152, 3) := by decide +kernel
theorem dX9_removeWord_5 : decode cX9_removeWord 5 = .ok (.ifCond .ne 5, 3) := by decide +kernel
theorem dX9_removeWord_8 : decode cX9_removeWord 8 = .ok (.iconst (-1), 1) := by decide +kernel
theorem dX9_removeWord_9 : decode cX9_removeWord 9 = .ok (.ireturn, 1) := by decide +kernel
theorem dX9_removeWord_10 : decode cX9_removeWord 10 = .ok (.aload_n 0, 1) := by decide +kernel
theorem dX9_removeWord_11 : decode cX9_removeWord 11 = .ok (.invokevirtual 132, 3) := by decide +kernel
theorem dX9_removeWord_14 : decode cX9_removeWord 14 = .ok (.aload_n 0, 1) := by decide +kernel
theorem dX9_removeWord_15 : decode cX9_removeWord 15 = .ok (.getfield 7, 3) := by decide +kernel
theorem dX9_removeWord_18 : decode cX9_removeWord 18 = .ok (.iconst 5, 1) := by decide +kernel
theorem dX9_removeWord_19 : decode cX9_removeWord 19 = .ok (.dup2, 1) := by decide +kernel
theorem dX9_removeWord_20 : decode cX9_removeWord 20 = .ok (.iaload, 1) := by decide +kernel
theorem dX9_removeWord_21 : decode cX9_removeWord 21 = .ok (.iconst 1, 1) := by decide +kernel
theorem dX9_removeWord_22 : decode cX9_removeWord 22 = .ok (.isub, 1) := by decide +kernel
theorem dX9_removeWord_23 : decode cX9_removeWord 23 = .ok (.iastore, 1) := by decide +kernel
theorem dX9_removeWord_24 : decode cX9_removeWord 24 = .ok (.sipush 1410, 3) := by decide +kernel
theorem dX9_removeWord_27 : decode cX9_removeWord 27 = .ok (.bipush 16, 2) := by decide +kernel
theorem dX9_removeWord_29 : decode cX9_removeWord 29 = .ok (.iload_n 1, 1) := by decide +kernel
theorem dX9_removeWord_30 : decode cX9_removeWord 30 = .ok (.imul, 1) := by decide +kernel
theorem dX9_removeWord_31 : decode cX9_removeWord 31 = .ok (.iadd, 1) := by decide +kernel
theorem dX9_removeWord_32 : decode cX9_removeWord 32 = .ok (.istore_n 2, 1) := by decide +kernel
theorem dX9_removeWord_33 : decode cX9_removeWord 33 = .ok (.iload_n 2, 1) := by decide +kernel
theorem dX9_removeWord_34 : decode cX9_removeWord 34 = .ok (.sipush 1410, 3) := by decide +kernel
theorem dX9_removeWord_37 : decode cX9_removeWord 37 = .ok (.bipush 16, 2) := by decide +kernel
theorem dX9_removeWord_39 : decode cX9_removeWord 39 = .ok (.aload_n 0, 1) := by decide +kernel
theorem dX9_removeWord_40 : decode cX9_removeWord 40 = .ok (.getfield 7, 3) := by decide +kernel
theorem dX9_removeWord_43 : decode cX9_removeWord 43 = .ok (.iconst 5, 1) := by decide +kernel
theorem dX9_removeWord_44 : decode cX9_removeWord 44 = .ok (.iaload, 1) := by decide +kernel
theorem dX9_removeWord_45 : decode cX9_removeWord 45 = .ok (.imul, 1) := by decide +kernel
theorem dX9_removeWord_46 : decode cX9_removeWord 46 = .ok (.iadd, 1) := by decide +kernel
theorem dX9_removeWord_47 : decode cX9_removeWord 47 = .ok (.if_icmp .ge 24, 3) := by decide +kernel
theorem dX9_removeWord_50 : decode cX9_removeWord 50 = .ok (.aload_n 0, 1) := by decide +kernel
theorem dX9_removeWord_51 : decode cX9_removeWord 51 = .ok (.getfield 7, 3) := by decide +kernel
theorem dX9_removeWord_54 : decode cX9_removeWord 54 = .ok (.iload_n 2, 1) := by decide +kernel
theorem dX9_removeWord_55 : decode cX9_removeWord 55 = .ok (.aload_n 0, 1) := by decide +kernel
theorem dX9_removeWord_56 : decode cX9_removeWord 56 = .ok (.getfield 7, 3) := by decide +kernel
theorem dX9_removeWord_59 : decode cX9_removeWord 59 = .ok (.iload_n 2, 1) := by decide +kernel
theorem dX9_removeWord_60 : decode cX9_removeWord 60 = .ok (.bipush 16, 2) := by decide +kernel
theorem dX9_removeWord_62 : decode cX9_removeWord 62 = .ok (.iadd, 1) := by decide +kernel
theorem dX9_removeWord_63 : decode cX9_removeWord 63 = .ok (.iaload, 1) := by decide +kernel
theorem dX9_removeWord_64 : decode cX9_removeWord 64 = .ok (.iastore, 1) := by decide +kernel
theorem dX9_removeWord_65 : decode cX9_removeWord 65 = .ok (.iinc 2 1, 3) := by decide +kernel
theorem dX9_removeWord_68 : decode cX9_removeWord 68 = .ok (.goto (-35), 3) := by decide +kernel
theorem dX9_removeWord_71 : decode cX9_removeWord 71 = .ok (.aload_n 0, 1) := by decide +kernel
theorem dX9_removeWord_72 : decode cX9_removeWord 72 = .ok (.aload_n 0, 1) := by decide +kernel
theorem dX9_removeWord_73 : decode cX9_removeWord 73 = .ok (.getfield 7, 3) := by decide +kernel
theorem dX9_removeWord_76 : decode cX9_removeWord 76 = .ok (.iconst 5, 1) := by decide +kernel
theorem dX9_removeWord_77 : decode cX9_removeWord 77 = .ok (.iaload, 1) := by decide +kernel
theorem dX9_removeWord_78 : decode cX9_removeWord 78 = .ok (.invokevirtual 135, 3) := by decide +kernel
theorem dX9_removeWord_81 : decode cX9_removeWord 81 = .ok (.ireturn, 1) := by decide +kernel
set_option maxRecDepth 20000 in
theorem ggX9_isLines_X9_in : GoodIn wsX9_isLines wsX9_in := goodIn_r _ [5] (by decide +kernel) (by decide +kernel)
set_option maxRecDepth 20000 in
theorem gX9_isLines_X9_in : GoodIn wsX9_isLines (va_wsS RX9 57 yX9_in wsX9_in) := goodIn_app (goodIn_of _ (by decide +kernel)) ggX9_isLines_X9_in
theorem dX9_isLines_0 : decode cX9_isLines 0 = .ok (.iload_n 0, 1) := by decide +kernel
theorem dX9_isLines_1 : decode cX9_isLines 1 = .ok (.i2l, 1) := by decide +kernel
theorem dX9_isLines_2 : decode cX9_isLines 2 = .ok (.lconst 1, 1) := by decide +kernel
theorem dX9_isLines_3 : decode cX9_isLines 3 = .ok (.ldc2_w 155, 3) := by decide +kernel
theorem dX9_isLines_6 : decode cX9_isLines 6 = .ok (.invokestatic 57, 3) := by decide +kernel
theorem dX9_isLines_9 : decode cX9_isLines 9 = .ok (.ireturn, 1) := by decide +kernel
set_option maxRecDepth 20000 in
theorem ggX9_doSheet_X9_isLines : GoodIn wsX9_doSheet wsX9_isLines := goodIn_r _ [5, 6, 7, 8, 4, 9] (by decide +kernel) (by decide +kernel)
set_option maxRecDepth 20000 in
theorem gX9_doSheet_X9_isLines : GoodIn wsX9_doSheet (va_wsS RX9 157 yX9_isLines wsX9_isLines) := goodIn_app (goodIn_of _ (by decide +kernel)) ggX9_doSheet_X9_isLines
set_option maxRecDepth 20000 in
theorem ggX9_doSheet_X9_makesSheet : GoodIn wsX9_doSheet wsX9_makesSheet := goodIn_r _ [13, 1, 14, 15, 16, 17, 18, 19, 20, 21, 4, 22, 23, 24, 25, 26, 27, 28, 29, 30, 31, 32, 33, 34, 35, 36, 37, 38, 39, 40, 41, 42, 43, 44, 45, 46, 47, 48, 49, 50, 51, 52, 53, 54, 55, 56, 57, 58, 59, 60, 61, 62, 85, 86, 87, 88, 89, 90, 91, 92, 93, 94, 95, 96, 97, 98, 99, 100, 101, 102, 103] (by decide +kernel) (by decide +kernel)
set_option maxRecDepth 20000 in
theorem gX9_doSheet_X9_makesSheet : GoodIn wsX9_doSheet (wsV RX9 160 RX9 yX9_makesSheet wsX9_makesSheet) := goodIn_app (goodIn_of _ (by decide +kernel)) ggX9_doSheet_X9_makesSheet
set_option maxRecDepth 20000 in
theorem ggX9_doSheet_X9_remember : GoodIn wsX9_doSheet wsX9_remember := goodIn_r _ [66, 27, 67, 68, 69, 4, 70, 85, 86, 87, 88, 89, 90, 91, 92, 93, 94, 95, 96, 97, 98, 99, 100, 101, 102, 103] (by decide +kernel) (by decide +kernel)
set_option maxRecDepth 20000 in
theorem gX9_doSheet_X9_remember : GoodIn wsX9_doSheet (wsV RX9 132 RX9 yX9_remember wsX9_remember) := goodIn_app (goodIn_of _ (by decide +kernel)) ggX9_doSheet_X9_remember
set_option maxRecDepth 20000 in
theorem ggX9_doSheet_X9_writesSheet : GoodIn wsX9_doSheet wsX9_writesSheet := goodIn_r _ [74, 1, 14, 27, 40, 41, 42, 4, 43, 44, 45, 46, 47, 75, 76, 77, 78, 52, 53, 54, 85, 86, 87, 88, 89, 90, 91, 92, 93, 94, 95, 96, 97, 98, 99, 100, 101, 102, 103] (by decide +kernel) (by decide +kernel)
set_option maxRecDepth 20000 in
theorem gX9_doSheet_X9_writesSheet : GoodIn wsX9_doSheet (wsV RX9 163 RX9 yX9_writesSheet wsX9_writesSheet) := goodIn_app (goodIn_of _ (by decide +kernel)) ggX9_doSheet_X9_writesSheet
set_option maxRecDepth 20000 in
theorem ggX9_doSheet_X9_acted : GoodIn wsX9_doSheet wsX9_acted := goodIn_r _ [82, 83, 84, 67, 85, 86, 87, 88, 89, 90, 91, 92, 93, 94, 95, 96, 97, 98, 99, 100, 101, 102, 103] (by decide +kernel) (by decide +kernel)
set_option maxRecDepth 20000 in
theorem gX9_doSheet_X9_acted : GoodIn wsX9_doSheet (wsV RX9 135 RX9 yX9_acted wsX9_acted) := goodIn_app (goodIn_of _ (by decide +kernel)) ggX9_doSheet_X9_acted
theorem dX9_doSheet_0 : decode cX9_doSheet 0 = .ok (.iload_n 1, 1) := by decide +kernel
theorem dX9_doSheet_1 : decode cX9_doSheet 1 = .ok (.invokestatic 157, 3) := by decide +kernel
theorem dX9_doSheet_4 : decode cX9_doSheet 4 = .ok (.ifCond .ne 6, 3) := by decide +kernel
theorem dX9_doSheet_7 : decode cX9_doSheet 7 = .ok (.bipush (-2), 2) := by decide +kernel
theorem dX9_doSheet_9 : decode cX9_doSheet 9 = .ok (.ireturn, 1) := by decide +kernel
theorem dX9_doSheet_10 : decode cX9_doSheet 10 = .ok (.aload_n 0, 1) := by decide +kernel
theorem dX9_doSheet_11 : decode cX9_doSheet 11 = .ok (.iload_n 1, 1) := by decide +kernel
theorem dX9_doSheet_12 : decode cX9_doSheet 12 = .ok (.invokevirtual 160, 3) := by decide +kernel
theorem dX9_doSheet_15 : decode cX9_doSheet 15 = .ok (.aload_n 0, 1) := by decide +kernel
theorem dX9_doSheet_16 : decode cX9_doSheet 16 = .ok (.getfield 93, 3) := by decide +kernel
theorem dX9_doSheet_19 : decode cX9_doSheet 19 = .ok (.ifCond .ne 6, 3) := by decide +kernel
theorem dX9_doSheet_22 : decode cX9_doSheet 22 = .ok (.bipush (-5), 2) := by decide +kernel
theorem dX9_doSheet_24 : decode cX9_doSheet 24 = .ok (.ireturn, 1) := by decide +kernel
theorem dX9_doSheet_25 : decode cX9_doSheet 25 = .ok (.aload_n 0, 1) := by decide +kernel
theorem dX9_doSheet_26 : decode cX9_doSheet 26 = .ok (.invokevirtual 132, 3) := by decide +kernel
theorem dX9_doSheet_29 : decode cX9_doSheet 29 = .ok (.aload_n 0, 1) := by decide +kernel
theorem dX9_doSheet_30 : decode cX9_doSheet 30 = .ok (.invokevirtual 163, 3) := by decide +kernel
theorem dX9_doSheet_33 : decode cX9_doSheet 33 = .ok (.aload_n 0, 1) := by decide +kernel
theorem dX9_doSheet_34 : decode cX9_doSheet 34 = .ok (.aload_n 0, 1) := by decide +kernel
theorem dX9_doSheet_35 : decode cX9_doSheet 35 = .ok (.getfield 93, 3) := by decide +kernel
theorem dX9_doSheet_38 : decode cX9_doSheet 38 = .ok (.invokevirtual 135, 3) := by decide +kernel
theorem dX9_doSheet_41 : decode cX9_doSheet 41 = .ok (.ireturn, 1) := by decide +kernel
theorem dX9_undo_0 : decode cX9_undo 0 = .ok (.aload_n 0, 1) := by decide +kernel
theorem dX9_undo_1 : decode cX9_undo 1 = .ok (.getfield 53, 3) := by decide +kernel
theorem dX9_undo_4 : decode cX9_undo 4 = .ok (.ifCond .ne 6, 3) := by decide +kernel
theorem dX9_undo_7 : decode cX9_undo 7 = .ok (.bipush (-5), 2) := by decide +kernel
theorem dX9_undo_9 : decode cX9_undo 9 = .ok (.ireturn, 1) := by decide +kernel
theorem dX9_undo_10 : decode cX9_undo 10 = .ok (.aload_n 0, 1) := by decide +kernel
theorem dX9_undo_11 : decode cX9_undo 11 = .ok (.dup, 1) := by decide +kernel
theorem dX9_undo_12 : decode cX9_undo 12 = .ok (.getfield 53, 3) := by decide +kernel
theorem dX9_undo_15 : decode cX9_undo 15 = .ok (.iconst 1, 1) := by decide +kernel
theorem dX9_undo_16 : decode cX9_undo 16 = .ok (.isub, 1) := by decide +kernel
theorem dX9_undo_17 : decode cX9_undo 17 = .ok (.putfield 53, 3) := by decide +kernel
theorem dX9_undo_20 : decode cX9_undo 20 = .ok (.iconst 0, 1) := by decide +kernel
theorem dX9_undo_21 : decode cX9_undo 21 = .ok (.istore_n 1, 1) := by decide +kernel
theorem dX9_undo_22 : decode cX9_undo 22 = .ok (.iload_n 1, 1) := by decide +kernel
theorem dX9_undo_23 : decode cX9_undo 23 = .ok (.sipush 1730, 3) := by decide +kernel
theorem dX9_undo_26 : decode cX9_undo 26 = .ok (.if_icmp .ge 30, 3) := by decide +kernel
theorem dX9_undo_29 : decode cX9_undo 29 = .ok (.aload_n 0, 1) := by decide +kernel
theorem dX9_undo_30 : decode cX9_undo 30 = .ok (.getfield 7, 3) := by decide +kernel
theorem dX9_undo_33 : decode cX9_undo 33 = .ok (.iload_n 1, 1) := by decide +kernel
theorem dX9_undo_34 : decode cX9_undo 34 = .ok (.aload_n 0, 1) := by decide +kernel
theorem dX9_undo_35 : decode cX9_undo 35 = .ok (.getfield 19, 3) := by decide +kernel
theorem dX9_undo_38 : decode cX9_undo 38 = .ok (.sipush 1730, 3) := by decide +kernel
theorem dX9_undo_41 : decode cX9_undo 41 = .ok (.aload_n 0, 1) := by decide +kernel
theorem dX9_undo_42 : decode cX9_undo 42 = .ok (.getfield 53, 3) := by decide +kernel
theorem dX9_undo_45 : decode cX9_undo 45 = .ok (.imul, 1) := by decide +kernel
theorem dX9_undo_46 : decode cX9_undo 46 = .ok (.iload_n 1, 1) := by decide +kernel
theorem dX9_undo_47 : decode cX9_undo 47 = .ok (.iadd, 1) := by decide +kernel
theorem dX9_undo_48 : decode cX9_undo 48 = .ok (.iaload, 1) := by decide +kernel
theorem dX9_undo_49 : decode cX9_undo 49 = .ok (.iastore, 1) := by decide +kernel
theorem dX9_undo_50 : decode cX9_undo 50 = .ok (.iinc 1 1, 3) := by decide +kernel
theorem dX9_undo_53 : decode cX9_undo 53 = .ok (.goto (-31), 3) := by decide +kernel
theorem dX9_undo_56 : decode cX9_undo 56 = .ok (.aload_n 0, 1) := by decide +kernel
theorem dX9_undo_57 : decode cX9_undo 57 = .ok (.getfield 53, 3) := by decide +kernel
theorem dX9_undo_60 : decode cX9_undo 60 = .ok (.ireturn, 1) := by decide +kernel
set_option maxRecDepth 20000 in
theorem ggX9_keep_X9_copy : GoodIn wsX9_keep wsX9_copy := goodIn_r _ [7] (by decide +kernel) (by decide +kernel)
set_option maxRecDepth 20000 in
theorem gX9_keep_X9_copy : GoodIn wsX9_keep (va_wsS RX9 49 yX9_copy wsX9_copy) := goodIn_app (goodIn_of _ (by decide +kernel)) ggX9_keep_X9_copy
theorem dX9_keep_0 : decode cX9_keep 0 = .ok (.aload_n 0, 1) := by decide +kernel
theorem dX9_keep_1 : decode cX9_keep 1 = .ok (.getfield 7, 3) := by decide +kernel
theorem dX9_keep_4 : decode cX9_keep 4 = .ok (.aload_n 0, 1) := by decide +kernel
theorem dX9_keep_5 : decode cX9_keep 5 = .ok (.getfield 22, 3) := by decide +kernel
theorem dX9_keep_8 : decode cX9_keep 8 = .ok (.invokestatic 49, 3) := by decide +kernel
theorem dX9_keep_11 : decode cX9_keep 11 = .ok (.aload_n 0, 1) := by decide +kernel
theorem dX9_keep_12 : decode cX9_keep 12 = .ok (.iconst 1, 1) := by decide +kernel
theorem dX9_keep_13 : decode cX9_keep 13 = .ok (.putfield 166, 3) := by decide +kernel
theorem dX9_keep_16 : decode cX9_keep 16 = .ok (.aload_n 0, 1) := by decide +kernel
theorem dX9_keep_17 : decode cX9_keep 17 = .ok (.getfield 7, 3) := by decide +kernel
theorem dX9_keep_20 : decode cX9_keep 20 = .ok (.iconst 5, 1) := by decide +kernel
theorem dX9_keep_21 : decode cX9_keep 21 = .ok (.iaload, 1) := by decide +kernel
theorem dX9_keep_22 : decode cX9_keep 22 = .ok (.ireturn, 1) := by decide +kernel
set_option maxRecDepth 20000 in
theorem ggX9_restore_X9_remember : GoodIn wsX9_restore wsX9_remember := goodIn_r _ [8, 3, 9, 10, 11, 7, 12, 19, 20, 21, 22, 23, 24, 25, 26, 27, 28, 29, 30, 31, 32, 33, 34, 35, 36, 37] (by decide +kernel) (by decide +kernel)
set_option maxRecDepth 20000 in
theorem gX9_restore_X9_remember : GoodIn wsX9_restore (wsV RX9 132 RX9 yX9_remember wsX9_remember) := goodIn_app (goodIn_of _ (by decide +kernel)) ggX9_restore_X9_remember
set_option maxRecDepth 20000 in
theorem ggX9_restore_X9_copy : GoodIn wsX9_restore wsX9_copy := goodIn_r _ [12] (by decide +kernel) (by decide +kernel)
set_option maxRecDepth 20000 in
theorem gX9_restore_X9_copy : GoodIn wsX9_restore (va_wsS RX9 49 yX9_copy wsX9_copy) := goodIn_app (goodIn_of _ (by decide +kernel)) ggX9_restore_X9_copy
set_option maxRecDepth 20000 in
theorem ggX9_restore_X9_acted : GoodIn wsX9_restore wsX9_acted := goodIn_r _ [16, 17, 18, 9, 19, 20, 21, 22, 23, 24, 25, 26, 27, 28, 29, 30, 31, 32, 33, 34, 35, 36, 37] (by decide +kernel) (by decide +kernel)
set_option maxRecDepth 20000 in
theorem gX9_restore_X9_acted : GoodIn wsX9_restore (wsV RX9 135 RX9 yX9_acted wsX9_acted) := goodIn_app (goodIn_of _ (by decide +kernel)) ggX9_restore_X9_acted
theorem dX9_restore_0 : decode cX9_restore 0 = .ok (.aload_n 0, 1) := by decide +kernel
theorem dX9_restore_1 : decode cX9_restore 1 = .ok (.getfield 166, 3) := by decide +kernel
theorem dX9_restore_4 : decode cX9_restore 4 = .ok (.ifCond .ne 6, 3) := by decide +kernel
theorem dX9_restore_7 : decode cX9_restore 7 = .ok (.bipush (-5), 2) := by decide +kernel
theorem dX9_restore_9 : decode cX9_restore 9 = .ok (.ireturn, 1) := by decide +kernel
theorem dX9_restore_10 : decode cX9_restore 10 = .ok (.aload_n 0, 1) := by decide +kernel
theorem dX9_restore_11 : decode cX9_restore 11 = .ok (.invokevirtual 132, 3) := by decide +kernel
theorem dX9_restore_14 : decode cX9_restore 14 = .ok (.aload_n 0, 1) := by decide +kernel
theorem dX9_restore_15 : decode cX9_restore 15 = .ok (.getfield 22, 3) := by decide +kernel
theorem dX9_restore_18 : decode cX9_restore 18 = .ok (.aload_n 0, 1) := by decide +kernel
theorem dX9_restore_19 : decode cX9_restore 19 = .ok (.getfield 7, 3) := by decide +kernel
theorem dX9_restore_22 : decode cX9_restore 22 = .ok (.invokestatic 49, 3) := by decide +kernel
theorem dX9_restore_25 : decode cX9_restore 25 = .ok (.aload_n 0, 1) := by decide +kernel
theorem dX9_restore_26 : decode cX9_restore 26 = .ok (.aload_n 0, 1) := by decide +kernel
theorem dX9_restore_27 : decode cX9_restore 27 = .ok (.getfield 7, 3) := by decide +kernel
theorem dX9_restore_30 : decode cX9_restore 30 = .ok (.iconst 5, 1) := by decide +kernel
theorem dX9_restore_31 : decode cX9_restore 31 = .ok (.iaload, 1) := by decide +kernel
theorem dX9_restore_32 : decode cX9_restore 32 = .ok (.invokevirtual 135, 3) := by decide +kernel
theorem dX9_restore_35 : decode cX9_restore 35 = .ok (.ireturn, 1) := by decide +kernel
set_option maxRecDepth 20000 in
theorem ggX9_ofPart_X9_needOf : GoodIn wsX9_ofPart wsX9_needOf := goodIn_r _ [6, 1, 36, 37, 38, 39, 40, 41, 42, 43, 44, 45, 46, 47, 48, 49, 50, 51, 52, 53, 54] (by decide +kernel) (by decide +kernel)
set_option maxRecDepth 20000 in
theorem gX9_ofPart_X9_needOf : GoodIn wsX9_ofPart (wsV RX9 90 RX9 yX9_needOf wsX9_needOf) := goodIn_app (goodIn_of _ (by decide +kernel)) ggX9_ofPart_X9_needOf
set_option maxRecDepth 20000 in
theorem ggX9_ofPart_X9_wordsWith : GoodIn wsX9_ofPart wsX9_wordsWith := goodIn_r _ [10, 1, 11, 12, 13, 5, 14, 15, 16, 17, 18, 19, 20, 21, 22, 23, 24, 25, 26, 27, 28, 29, 30, 31, 32, 33, 34, 35, 36, 37, 38, 39, 40, 41, 42, 43, 44, 45, 46, 47, 48, 49, 50, 51, 52, 53, 54] (by decide +kernel) (by decide +kernel)
set_option maxRecDepth 20000 in
theorem gX9_ofPart_X9_wordsWith : GoodIn wsX9_ofPart (wsV RX9 169 RX9 yX9_wordsWith wsX9_wordsWith) := goodIn_app (goodIn_of _ (by decide +kernel)) ggX9_ofPart_X9_wordsWith
theorem dX9_ofPart_0 : decode cX9_ofPart 0 = .ok (.iload_n 2, 1) := by decide +kernel
theorem dX9_ofPart_1 : decode cX9_ofPart 1 = .ok (.tableswitch 64 0 3 #[31, 41, 52, 58], 31) := by decide +kernel
theorem dX9_ofPart_32 : decode cX9_ofPart 32 = .ok (.aload_n 0, 1) := by decide +kernel
theorem dX9_ofPart_33 : decode cX9_ofPart 33 = .ok (.getfield 7, 3) := by decide +kernel
theorem dX9_ofPart_36 : decode cX9_ofPart 36 = .ok (.bipush 6, 2) := by decide +kernel
theorem dX9_ofPart_38 : decode cX9_ofPart 38 = .ok (.iload_n 1, 1) := by decide +kernel
theorem dX9_ofPart_39 : decode cX9_ofPart 39 = .ok (.iadd, 1) := by decide +kernel
theorem dX9_ofPart_40 : decode cX9_ofPart 40 = .ok (.iaload, 1) := by decide +kernel
theorem dX9_ofPart_41 : decode cX9_ofPart 41 = .ok (.ireturn, 1) := by decide +kernel
theorem dX9_ofPart_42 : decode cX9_ofPart 42 = .ok (.aload_n 0, 1) := by decide +kernel
theorem dX9_ofPart_43 : decode cX9_ofPart 43 = .ok (.getfield 7, 3) := by decide +kernel
theorem dX9_ofPart_46 : decode cX9_ofPart 46 = .ok (.sipush 708, 3) := by decide +kernel
theorem dX9_ofPart_49 : decode cX9_ofPart 49 = .ok (.iload_n 1, 1) := by decide +kernel
theorem dX9_ofPart_50 : decode cX9_ofPart 50 = .ok (.iadd, 1) := by decide +kernel
theorem dX9_ofPart_51 : decode cX9_ofPart 51 = .ok (.iaload, 1) := by decide +kernel
theorem dX9_ofPart_52 : decode cX9_ofPart 52 = .ok (.ireturn, 1) := by decide +kernel
theorem dX9_ofPart_53 : decode cX9_ofPart 53 = .ok (.aload_n 0, 1) := by decide +kernel
theorem dX9_ofPart_54 : decode cX9_ofPart 54 = .ok (.iload_n 1, 1) := by decide +kernel
theorem dX9_ofPart_55 : decode cX9_ofPart 55 = .ok (.invokevirtual 90, 3) := by decide +kernel
theorem dX9_ofPart_58 : decode cX9_ofPart 58 = .ok (.ireturn, 1) := by decide +kernel
theorem dX9_ofPart_59 : decode cX9_ofPart 59 = .ok (.aload_n 0, 1) := by decide +kernel
theorem dX9_ofPart_60 : decode cX9_ofPart 60 = .ok (.iload_n 1, 1) := by decide +kernel
theorem dX9_ofPart_61 : decode cX9_ofPart 61 = .ok (.invokevirtual 169, 3) := by decide +kernel
theorem dX9_ofPart_64 : decode cX9_ofPart 64 = .ok (.ireturn, 1) := by decide +kernel
theorem dX9_ofPart_65 : decode cX9_ofPart 65 = .ok (.bipush (-2), 2) := by decide +kernel
theorem dX9_ofPart_67 : decode cX9_ofPart 67 = .ok (.ireturn, 1) := by decide +kernel
set_option maxRecDepth 20000 in
theorem ggX9_letter_X9_in : GoodIn wsX9_letter wsX9_in := goodIn_r _ [6] (by decide +kernel) (by decide +kernel)
set_option maxRecDepth 20000 in
theorem gX9_letter_X9_in : GoodIn wsX9_letter (va_wsS RX9 57 yX9_in wsX9_in) := goodIn_app (goodIn_of _ (by decide +kernel)) ggX9_letter_X9_in
set_option maxRecDepth 20000 in
theorem ggX9_letter_X9_ofPart : GoodIn wsX9_letter wsX9_ofPart := goodIn_r _ [10, 11, 12, 13, 14, 5, 15, 16, 17, 18, 19, 20, 21, 22, 23, 24, 25, 26, 27, 28, 29, 30, 31, 32, 33, 34, 35, 36, 37, 38, 39, 40, 41, 42, 43, 44, 45, 46, 47, 48, 49, 50, 51, 52, 53, 54, 55, 56, 57, 58, 59, 60, 61, 62, 63] (by decide +kernel) (by decide +kernel)
set_option maxRecDepth 20000 in
theorem gX9_letter_X9_ofPart : GoodIn wsX9_letter (wsV RX9 172 RX9 yX9_ofPart wsX9_ofPart) := goodIn_app (goodIn_of _ (by decide +kernel)) ggX9_letter_X9_ofPart
theorem dX9_letter_0 : decode cX9_letter 0 = .ok (.iload_n 1, 1) := by decide +kernel
theorem dX9_letter_1 : decode cX9_letter 1 = .ok (.i2l, 1) := by decide +kernel
theorem dX9_letter_2 : decode cX9_letter 2 = .ok (.ldc2_w 116, 3) := by decide +kernel
theorem dX9_letter_5 : decode cX9_letter 5 = .ok (.ldc2_w 118, 3) := by decide +kernel
theorem dX9_letter_8 : decode cX9_letter 8 = .ok (.invokestatic 57, 3) := by decide +kernel
theorem dX9_letter_11 : decode cX9_letter 11 = .ok (.ifCond .eq 15, 3) := by decide +kernel
theorem dX9_letter_14 : decode cX9_letter 14 = .ok (.aload_n 0, 1) := by decide +kernel
theorem dX9_letter_15 : decode cX9_letter 15 = .ok (.iload_n 1, 1) := by decide +kernel
theorem dX9_letter_16 : decode cX9_letter 16 = .ok (.bipush 97, 2) := by decide +kernel
theorem dX9_letter_18 : decode cX9_letter 18 = .ok (.isub, 1) := by decide +kernel
theorem dX9_letter_19 : decode cX9_letter 19 = .ok (.iload_n 2, 1) := by decide +kernel
theorem dX9_letter_20 : decode cX9_letter 20 = .ok (.invokevirtual 172, 3) := by decide +kernel
theorem dX9_letter_23 : decode cX9_letter 23 = .ok (.goto 4, 3) := by decide +kernel
theorem dX9_letter_26 : decode cX9_letter 26 = .ok (.iconst (-1), 1) := by decide +kernel
theorem dX9_letter_27 : decode cX9_letter 27 = .ok (.ireturn, 1) := by decide +kernel
set_option maxRecDepth 20000 in
theorem ggX9_join_X9_in : GoodIn wsX9_join wsX9_in := goodIn_r _ [6] (by decide +kernel) (by decide +kernel)
set_option maxRecDepth 20000 in
theorem gX9_join_X9_in : GoodIn wsX9_join (va_wsS RX9 57 yX9_in wsX9_in) := goodIn_app (goodIn_of _ (by decide +kernel)) ggX9_join_X9_in
set_option maxRecDepth 20000 in
theorem ggX9_join_X9_joinOf : GoodIn wsX9_join wsX9_joinOf := goodIn_r _ [9] (by decide +kernel) (by decide +kernel)
set_option maxRecDepth 20000 in
theorem gX9_join_X9_joinOf : GoodIn wsX9_join (va_wsS RX9 76 yX9_joinOf wsX9_joinOf) := goodIn_app (goodIn_of _ (by decide +kernel)) ggX9_join_X9_joinOf
set_option maxRecDepth 20000 in
theorem ggX9_join_X9_ofPart : GoodIn wsX9_join wsX9_ofPart := goodIn_r _ [13, 14, 15, 16, 17, 5, 18, 19, 20, 21, 22, 23, 24, 25, 26, 27, 28, 29, 30, 31, 32, 33, 34, 35, 36, 37, 38, 39, 40, 41, 42, 43, 44, 7, 8, 9, 45, 46, 47, 48, 49, 50, 51, 52, 53, 54, 55, 56, 57, 58, 59, 60, 61, 62, 63] (by decide +kernel) (by decide +kernel)
set_option maxRecDepth 20000 in
theorem gX9_join_X9_ofPart : GoodIn wsX9_join (wsV RX9 172 RX9 yX9_ofPart wsX9_ofPart) := goodIn_app (goodIn_of _ (by decide +kernel)) ggX9_join_X9_ofPart
theorem dX9_join_0 : decode cX9_join 0 = .ok (.iload_n 1, 1) := by decide +kernel
theorem dX9_join_1 : decode cX9_join 1 = .ok (.i2l, 1) := by decide +kernel
theorem dX9_join_2 : decode cX9_join 2 = .ok (.ldc2_w 116, 3) := by decide +kernel
theorem dX9_join_5 : decode cX9_join 5 = .ok (.ldc2_w 118, 3) := by decide +kernel
theorem dX9_join_8 : decode cX9_join 8 = .ok (.invokestatic 57, 3) := by decide +kernel
theorem dX9_join_11 : decode cX9_join 11 = .ok (.ifCond .eq 36, 3) := by decide +kernel
theorem dX9_join_14 : decode cX9_join 14 = .ok (.iload_n 2, 1) := by decide +kernel
theorem dX9_join_15 : decode cX9_join 15 = .ok (.i2l, 1) := by decide +kernel
theorem dX9_join_16 : decode cX9_join 16 = .ok (.ldc2_w 116, 3) := by decide +kernel
theorem dX9_join_19 : decode cX9_join 19 = .ok (.ldc2_w 118, 3) := by decide +kernel
theorem dX9_join_22 : decode cX9_join 22 = .ok (.invokestatic 57, 3) := by decide +kernel
theorem dX9_join_25 : decode cX9_join 25 = .ok (.ifCond .eq 22, 3) := by decide +kernel
theorem dX9_join_28 : decode cX9_join 28 = .ok (.aload_n 0, 1) := by decide +kernel
theorem dX9_join_29 : decode cX9_join 29 = .ok (.iload_n 1, 1) := by decide +kernel
theorem dX9_join_30 : decode cX9_join 30 = .ok (.bipush 97, 2) := by decide +kernel
theorem dX9_join_32 : decode cX9_join 32 = .ok (.isub, 1) := by decide +kernel
theorem dX9_join_33 : decode cX9_join 33 = .ok (.iload_n 2, 1) := by decide +kernel
theorem dX9_join_34 : decode cX9_join 34 = .ok (.bipush 97, 2) := by decide +kernel
theorem dX9_join_36 : decode cX9_join 36 = .ok (.isub, 1) := by decide +kernel
theorem dX9_join_37 : decode cX9_join 37 = .ok (.invokestatic 76, 3) := by decide +kernel
theorem dX9_join_40 : decode cX9_join 40 = .ok (.iload_n 3, 1) := by decide +kernel
theorem dX9_join_41 : decode cX9_join 41 = .ok (.invokevirtual 172, 3) := by decide +kernel
theorem dX9_join_44 : decode cX9_join 44 = .ok (.goto 4, 3) := by decide +kernel
theorem dX9_join_47 : decode cX9_join 47 = .ok (.iconst (-1), 1) := by decide +kernel
theorem dX9_join_48 : decode cX9_join 48 = .ok (.ireturn, 1) := by decide +kernel
set_option maxRecDepth 20000 in
theorem ggX9_needOfWord_X9_findsParts : GoodIn wsX9_needOfWord wsX9_findsParts := goodIn_r _ [7, 1, 8, 9, 10, 6, 11, 12, 13, 14, 15, 16, 17, 18, 19, 20, 2, 21, 22, 23, 28, 29, 30, 31, 32, 33, 34, 35, 36, 37, 38, 39, 40, 41, 42, 43, 44, 45, 46] (by decide +kernel) (by decide +kernel)
set_option maxRecDepth 20000 in
theorem gX9_needOfWord_X9_findsParts : GoodIn wsX9_needOfWord (wsV RX9 79 RX9 yX9_findsParts wsX9_findsParts) := goodIn_app (goodIn_of _ (by decide +kernel)) ggX9_needOfWord_X9_findsParts
set_option maxRecDepth 20000 in
theorem ggX9_needOfWord_X9_needOf : GoodIn wsX9_needOfWord wsX9_needOf := goodIn_r _ [27, 12, 28, 29, 30, 31, 32, 33, 34, 35, 36, 37, 38, 39, 40, 41, 42, 43, 44, 45, 46] (by decide +kernel) (by decide +kernel)
set_option maxRecDepth 20000 in
theorem gX9_needOfWord_X9_needOf : GoodIn wsX9_needOfWord (wsV RX9 90 RX9 yX9_needOf wsX9_needOf) := goodIn_app (goodIn_of _ (by decide +kernel)) ggX9_needOfWord_X9_needOf
theorem dX9_needOfWord_0 : decode cX9_needOfWord 0 = .ok (.aload_n 0, 1) := by decide +kernel
theorem dX9_needOfWord_1 : decode cX9_needOfWord 1 = .ok (.iload_n 1, 1) := by decide +kernel
theorem dX9_needOfWord_2 : decode cX9_needOfWord 2 = .ok (.invokevirtual 79, 3) := by decide +kernel
theorem dX9_needOfWord_5 : decode cX9_needOfWord 5 = .ok (.iconst 0, 1) := by decide +kernel
theorem dX9_needOfWord_6 : decode cX9_needOfWord 6 = .ok (.istore_n 2, 1) := by decide +kernel
theorem dX9_needOfWord_7 : decode cX9_needOfWord 7 = .ok (.iconst 0, 1) := by decide +kernel
theorem dX9_needOfWord_8 : decode cX9_needOfWord 8 = .ok (.istore_n 3, 1) := by decide +kernel
theorem dX9_needOfWord_9 : decode cX9_needOfWord 9 = .ok (.iload_n 3, 1) := by decide +kernel
theorem dX9_needOfWord_10 : decode cX9_needOfWord 10 = .ok (.aload_n 0, 1) := by decide +kernel
theorem dX9_needOfWord_11 : decode cX9_needOfWord 11 = .ok (.getfield 61, 3) := by decide +kernel
theorem dX9_needOfWord_14 : decode cX9_needOfWord 14 = .ok (.if_icmp .ge 22, 3) := by decide +kernel
theorem dX9_needOfWord_17 : decode cX9_needOfWord 17 = .ok (.iload_n 2, 1) := by decide +kernel
theorem dX9_needOfWord_18 : decode cX9_needOfWord 18 = .ok (.aload_n 0, 1) := by decide +kernel
theorem dX9_needOfWord_19 : decode cX9_needOfWord 19 = .ok (.aload_n 0, 1) := by decide +kernel
theorem dX9_needOfWord_20 : decode cX9_needOfWord 20 = .ok (.getfield 25, 3) := by decide +kernel
theorem dX9_needOfWord_23 : decode cX9_needOfWord 23 = .ok (.iload_n 3, 1) := by decide +kernel
theorem dX9_needOfWord_24 : decode cX9_needOfWord 24 = .ok (.iaload, 1) := by decide +kernel
theorem dX9_needOfWord_25 : decode cX9_needOfWord 25 = .ok (.invokevirtual 90, 3) := by decide +kernel
theorem dX9_needOfWord_28 : decode cX9_needOfWord 28 = .ok (.iadd, 1) := by decide +kernel
theorem dX9_needOfWord_29 : decode cX9_needOfWord 29 = .ok (.istore_n 2, 1) := by decide +kernel
theorem dX9_needOfWord_30 : decode cX9_needOfWord 30 = .ok (.iinc 3 1, 3) := by decide +kernel
theorem dX9_needOfWord_33 : decode cX9_needOfWord 33 = .ok (.goto (-24), 3) := by decide +kernel
theorem dX9_needOfWord_36 : decode cX9_needOfWord 36 = .ok (.iload_n 2, 1) := by decide +kernel
theorem dX9_needOfWord_37 : decode cX9_needOfWord 37 = .ok (.ireturn, 1) := by decide +kernel
set_option maxRecDepth 20000 in
theorem ggX9_partsOf_X9_findsParts : GoodIn wsX9_partsOf wsX9_findsParts := goodIn_r _ [7, 1, 8, 9, 10, 6, 11, 12, 13, 14, 15, 16, 17, 18, 19, 20, 2, 21, 22, 23, 28, 29, 30, 31, 32, 33, 34, 35, 36, 37, 38, 39, 40, 41, 42, 43, 44, 45, 46] (by decide +kernel) (by decide +kernel)
set_option maxRecDepth 20000 in
theorem gX9_partsOf_X9_findsParts : GoodIn wsX9_partsOf (wsV RX9 79 RX9 yX9_findsParts wsX9_findsParts) := goodIn_app (goodIn_of _ (by decide +kernel)) ggX9_partsOf_X9_findsParts
set_option maxRecDepth 20000 in
theorem ggX9_partsOf_X9_isUntried : GoodIn wsX9_partsOf wsX9_isUntried := goodIn_r _ [27, 12, 28, 29, 30, 31, 32, 33, 34, 35, 36, 37, 38, 39, 40, 41, 42, 43, 44, 45, 46] (by decide +kernel) (by decide +kernel)
set_option maxRecDepth 20000 in
theorem gX9_partsOf_X9_isUntried : GoodIn wsX9_partsOf (wsV RX9 86 RX9 yX9_isUntried wsX9_isUntried) := goodIn_app (goodIn_of _ (by decide +kernel)) ggX9_partsOf_X9_isUntried
theorem dX9_partsOf_0 : decode cX9_partsOf 0 = .ok (.aload_n 0, 1) := by decide +kernel
theorem dX9_partsOf_1 : decode cX9_partsOf 1 = .ok (.iload_n 1, 1) := by decide +kernel
theorem dX9_partsOf_2 : decode cX9_partsOf 2 = .ok (.invokevirtual 79, 3) := by decide +kernel
theorem dX9_partsOf_5 : decode cX9_partsOf 5 = .ok (.iconst 0, 1) := by decide +kernel
theorem dX9_partsOf_6 : decode cX9_partsOf 6 = .ok (.istore_n 3, 1) := by decide +kernel
theorem dX9_partsOf_7 : decode cX9_partsOf 7 = .ok (.iconst 0, 1) := by decide +kernel
theorem dX9_partsOf_8 : decode cX9_partsOf 8 = .ok (.istore 4, 2) := by decide +kernel
theorem dX9_partsOf_10 : decode cX9_partsOf 10 = .ok (.iload 4, 2) := by decide +kernel
theorem dX9_partsOf_12 : decode cX9_partsOf 12 = .ok (.aload_n 0, 1) := by decide +kernel
theorem dX9_partsOf_13 : decode cX9_partsOf 13 = .ok (.getfield 61, 3) := by decide +kernel
theorem dX9_partsOf_16 : decode cX9_partsOf 16 = .ok (.if_icmp .ge 35, 3) := by decide +kernel
theorem dX9_partsOf_19 : decode cX9_partsOf 19 = .ok (.iload_n 3, 1) := by decide +kernel
theorem dX9_partsOf_20 : decode cX9_partsOf 20 = .ok (.iload_n 2, 1) := by decide +kernel
theorem dX9_partsOf_21 : decode cX9_partsOf 21 = .ok (.ifCond .eq 17, 3) := by decide +kernel
theorem dX9_partsOf_24 : decode cX9_partsOf 24 = .ok (.aload_n 0, 1) := by decide +kernel
theorem dX9_partsOf_25 : decode cX9_partsOf 25 = .ok (.aload_n 0, 1) := by decide +kernel
theorem dX9_partsOf_26 : decode cX9_partsOf 26 = .ok (.getfield 25, 3) := by decide +kernel
theorem dX9_partsOf_29 : decode cX9_partsOf 29 = .ok (.iload 4, 2) := by decide +kernel
theorem dX9_partsOf_31 : decode cX9_partsOf 31 = .ok (.iaload, 1) := by decide +kernel
theorem dX9_partsOf_32 : decode cX9_partsOf 32 = .ok (.invokevirtual 86, 3) := by decide +kernel
theorem dX9_partsOf_35 : decode cX9_partsOf 35 = .ok (.ifCond .eq 7, 3) := by decide +kernel
theorem dX9_partsOf_38 : decode cX9_partsOf 38 = .ok (.iconst 1, 1) := by decide +kernel
theorem dX9_partsOf_39 : decode cX9_partsOf 39 = .ok (.goto 4, 3) := by decide +kernel
theorem dX9_partsOf_42 : decode cX9_partsOf 42 = .ok (.iconst 0, 1) := by decide +kernel
theorem dX9_partsOf_43 : decode cX9_partsOf 43 = .ok (.iadd, 1) := by decide +kernel
theorem dX9_partsOf_44 : decode cX9_partsOf 44 = .ok (.istore_n 3, 1) := by decide +kernel
theorem dX9_partsOf_45 : decode cX9_partsOf 45 = .ok (.iinc 4 1, 3) := by decide +kernel
theorem dX9_partsOf_48 : decode cX9_partsOf 48 = .ok (.goto (-38), 3) := by decide +kernel
theorem dX9_partsOf_51 : decode cX9_partsOf 51 = .ok (.iload_n 3, 1) := by decide +kernel
theorem dX9_partsOf_52 : decode cX9_partsOf 52 = .ok (.ireturn, 1) := by decide +kernel
set_option maxRecDepth 20000 in
theorem ggX9_firstGain_X9_coversNone : GoodIn wsX9_firstGain wsX9_coversNone := goodIn_r _ [5, 6, 41, 42, 43, 44, 45, 46, 47, 48, 49, 50, 51, 52, 53, 54, 55, 56, 57, 58, 59] (by decide +kernel) (by decide +kernel)
set_option maxRecDepth 20000 in
theorem gX9_firstGain_X9_coversNone : GoodIn wsX9_firstGain (wsV RX9 102 RX9 yX9_coversNone wsX9_coversNone) := goodIn_app (goodIn_of _ (by decide +kernel)) ggX9_firstGain_X9_coversNone
set_option maxRecDepth 20000 in
theorem ggX9_firstGain_X9_gainOf : GoodIn wsX9_firstGain wsX9_gainOf := goodIn_r _ [10, 11, 12, 13, 6, 14, 15, 16, 4, 17, 18, 19, 20, 21, 22, 23, 24, 25, 26, 27, 28, 29, 30, 31, 32, 33, 34, 35, 36, 37, 38, 39, 40, 41, 42, 43, 44, 45, 46, 47, 48, 49, 50, 51, 52, 53, 54, 55, 56, 57, 58, 59] (by decide +kernel) (by decide +kernel)
set_option maxRecDepth 20000 in
theorem gX9_firstGain_X9_gainOf : GoodIn wsX9_firstGain (wsV RX9 99 RX9 yX9_gainOf wsX9_gainOf) := goodIn_app (goodIn_of _ (by decide +kernel)) ggX9_firstGain_X9_gainOf
theorem dX9_firstGain_0 : decode cX9_firstGain 0 = .ok (.aload_n 0, 1) := by decide +kernel
theorem dX9_firstGain_1 : decode cX9_firstGain 1 = .ok (.invokevirtual 102, 3) := by decide +kernel
theorem dX9_firstGain_4 : decode cX9_firstGain 4 = .ok (.aload_n 0, 1) := by decide +kernel
theorem dX9_firstGain_5 : decode cX9_firstGain 5 = .ok (.iload_n 1, 1) := by decide +kernel
theorem dX9_firstGain_6 : decode cX9_firstGain 6 = .ok (.invokevirtual 99, 3) := by decide +kernel
theorem dX9_firstGain_9 : decode cX9_firstGain 9 = .ok (.ireturn, 1) := by decide +kernel
set_option maxRecDepth 20000 in
theorem ggX9_word_X9_isWord : GoodIn wsX9_word wsX9_isWord := goodIn_r _ [5, 6, 7, 8, 4, 9, 60, 61, 62, 63, 64, 65, 66, 67, 68, 69, 70, 71, 72, 73, 74, 75, 76, 77, 78] (by decide +kernel) (by decide +kernel)
set_option maxRecDepth 20000 in
theorem gX9_word_X9_isWord : GoodIn wsX9_word (wsV RX9 152 RX9 yX9_isWord wsX9_isWord) := goodIn_app (goodIn_of _ (by decide +kernel)) ggX9_word_X9_isWord
set_option maxRecDepth 20000 in
theorem ggX9_word_X9_sizeOf : GoodIn wsX9_word wsX9_sizeOf := goodIn_r _ [13, 6, 60, 61, 62, 63, 64, 65, 66, 67, 68, 69, 70, 71, 72, 73, 74, 75, 76, 77, 78] (by decide +kernel) (by decide +kernel)
set_option maxRecDepth 20000 in
theorem gX9_word_X9_sizeOf : GoodIn wsX9_word (wsV RX9 64 RX9 yX9_sizeOf wsX9_sizeOf) := goodIn_app (goodIn_of _ (by decide +kernel)) ggX9_word_X9_sizeOf
set_option maxRecDepth 20000 in
theorem ggX9_word_X9_needOfWord : GoodIn wsX9_word wsX9_needOfWord := goodIn_r _ [17, 18, 19, 20, 21, 22, 4, 23, 10, 11, 12, 13, 6, 24, 25, 26, 27, 28, 29, 30, 31, 32, 33, 34, 35, 36, 37, 38, 60, 61, 62, 63, 64, 65, 66, 67, 68, 69, 70, 71, 72, 73, 74, 75, 76, 77, 78] (by decide +kernel) (by decide +kernel)
set_option maxRecDepth 20000 in
theorem gX9_word_X9_needOfWord : GoodIn wsX9_word (wsV RX9 175 RX9 yX9_needOfWord wsX9_needOfWord) := goodIn_app (goodIn_of _ (by decide +kernel)) ggX9_word_X9_needOfWord
set_option maxRecDepth 20000 in
theorem ggX9_word_X9_partsOf : GoodIn wsX9_word wsX9_partsOf := goodIn_r _ [42, 18, 19, 20, 21, 22, 4, 23, 10, 11, 12, 13, 6, 24, 25, 26, 27, 28, 29, 30, 31, 32, 33, 34, 43, 44, 45, 46, 60, 61, 62, 63, 64, 65, 66, 67, 68, 69, 70, 71, 72, 73, 74, 75, 76, 77, 78] (by decide +kernel) (by decide +kernel)
set_option maxRecDepth 20000 in
theorem gX9_word_X9_partsOf : GoodIn wsX9_word (wsV RX9 178 RX9 yX9_partsOf wsX9_partsOf) := goodIn_app (goodIn_of _ (by decide +kernel)) ggX9_word_X9_partsOf
set_option maxRecDepth 20000 in
theorem ggX9_word_X9_firstGain : GoodIn wsX9_word wsX9_firstGain := goodIn_r _ [50, 51, 52, 53, 4, 54, 55, 56, 57, 58, 59, 18, 19, 6, 20, 21, 22, 23, 10, 11, 12, 13, 24, 25, 26, 27, 28, 29, 30, 31, 32, 33, 34, 43, 44, 45, 46, 35, 36, 37, 38, 60, 61, 62, 63, 64, 65, 66, 67, 68, 69, 70, 71, 72, 73, 74, 75, 76, 77, 78] (by decide +kernel) (by decide +kernel)
set_option maxRecDepth 20000 in
theorem gX9_word_X9_firstGain : GoodIn wsX9_word (wsV RX9 182 RX9 yX9_firstGain wsX9_firstGain) := goodIn_app (goodIn_of _ (by decide +kernel)) ggX9_word_X9_firstGain
theorem dX9_word_0 : decode cX9_word 0 = .ok (.aload_n 0, 1) := by decide +kernel
theorem dX9_word_1 : decode cX9_word 1 = .ok (.iload_n 1, 1) := by decide +kernel
theorem dX9_word_2 : decode cX9_word 2 = .ok (.invokevirtual 152, 3) := by decide +kernel
theorem dX9_word_5 : decode cX9_word 5 = .ok (.ifCond .ne 5, 3) := by decide +kernel
theorem dX9_word_8 : decode cX9_word 8 = .ok (.iconst (-1), 1) := by decide +kernel
theorem dX9_word_9 : decode cX9_word 9 = .ok (.ireturn, 1) := by decide +kernel
theorem dX9_word_10 : decode cX9_word 10 = .ok (.iload_n 2, 1) := by decide +kernel
theorem dX9_word_11 : decode cX9_word 11 = .ok (.tableswitch 65 0 4 #[33, 39, 45, 52, 59], 33) := by decide +kernel
theorem dX9_word_44 : decode cX9_word 44 = .ok (.aload_n 0, 1) := by decide +kernel
theorem dX9_word_45 : decode cX9_word 45 = .ok (.iload_n 1, 1) := by decide +kernel
theorem dX9_word_46 : decode cX9_word 46 = .ok (.invokevirtual 64, 3) := by decide +kernel
theorem dX9_word_49 : decode cX9_word 49 = .ok (.ireturn, 1) := by decide +kernel
theorem dX9_word_50 : decode cX9_word 50 = .ok (.aload_n 0, 1) := by decide +kernel
theorem dX9_word_51 : decode cX9_word 51 = .ok (.iload_n 1, 1) := by decide +kernel
theorem dX9_word_52 : decode cX9_word 52 = .ok (.invokevirtual 175, 3) := by decide +kernel
theorem dX9_word_55 : decode cX9_word 55 = .ok (.ireturn, 1) := by decide +kernel
theorem dX9_word_56 : decode cX9_word 56 = .ok (.aload_n 0, 1) := by decide +kernel
theorem dX9_word_57 : decode cX9_word 57 = .ok (.iload_n 1, 1) := by decide +kernel
theorem dX9_word_58 : decode cX9_word 58 = .ok (.iconst 0, 1) := by decide +kernel
theorem dX9_word_59 : decode cX9_word 59 = .ok (.invokevirtual 178, 3) := by decide +kernel
theorem dX9_word_62 : decode cX9_word 62 = .ok (.ireturn, 1) := by decide +kernel
theorem dX9_word_63 : decode cX9_word 63 = .ok (.aload_n 0, 1) := by decide +kernel
theorem dX9_word_64 : decode cX9_word 64 = .ok (.iload_n 1, 1) := by decide +kernel
theorem dX9_word_65 : decode cX9_word 65 = .ok (.iconst 1, 1) := by decide +kernel
theorem dX9_word_66 : decode cX9_word 66 = .ok (.invokevirtual 178, 3) := by decide +kernel
theorem dX9_word_69 : decode cX9_word 69 = .ok (.ireturn, 1) := by decide +kernel
theorem dX9_word_70 : decode cX9_word 70 = .ok (.aload_n 0, 1) := by decide +kernel
theorem dX9_word_71 : decode cX9_word 71 = .ok (.iload_n 1, 1) := by decide +kernel
theorem dX9_word_72 : decode cX9_word 72 = .ok (.invokevirtual 182, 3) := by decide +kernel
theorem dX9_word_75 : decode cX9_word 75 = .ok (.ireturn, 1) := by decide +kernel
theorem dX9_word_76 : decode cX9_word 76 = .ok (.bipush (-2), 2) := by decide +kernel
theorem dX9_word_78 : decode cX9_word 78 = .ok (.ireturn, 1) := by decide +kernel
set_option maxRecDepth 20000 in
theorem ggX9_letterOf_X9_isWord : GoodIn wsX9_letterOf wsX9_isWord := goodIn_r _ [5, 6, 7, 8, 4, 9, 18, 19, 20, 21, 22, 23, 24, 25, 26, 27, 28, 29, 30, 31, 32, 33, 34, 35, 36] (by decide +kernel) (by decide +kernel)
set_option maxRecDepth 20000 in
theorem gX9_letterOf_X9_isWord : GoodIn wsX9_letterOf (wsV RX9 152 RX9 yX9_isWord wsX9_isWord) := goodIn_app (goodIn_of _ (by decide +kernel)) ggX9_letterOf_X9_isWord
set_option maxRecDepth 20000 in
theorem ggX9_letterOf_X9_sizeOf : GoodIn wsX9_letterOf wsX9_sizeOf := goodIn_r _ [13, 6, 18, 19, 20, 21, 22, 23, 24, 25, 26, 27, 28, 29, 30, 31, 32, 33, 34, 35, 36] (by decide +kernel) (by decide +kernel)
set_option maxRecDepth 20000 in
theorem gX9_letterOf_X9_sizeOf : GoodIn wsX9_letterOf (wsV RX9 64 RX9 yX9_sizeOf wsX9_sizeOf) := goodIn_app (goodIn_of _ (by decide +kernel)) ggX9_letterOf_X9_sizeOf
set_option maxRecDepth 20000 in
theorem ggX9_letterOf_X9_letterAt : GoodIn wsX9_letterOf wsX9_letterAt := goodIn_r _ [17, 6, 18, 19, 20, 21, 22, 23, 24, 25, 26, 27, 28, 29, 30, 31, 32, 33, 34, 35, 36] (by decide +kernel) (by decide +kernel)
set_option maxRecDepth 20000 in
theorem gX9_letterOf_X9_letterAt : GoodIn wsX9_letterOf (wsV RX9 68 RX9 yX9_letterAt wsX9_letterAt) := goodIn_app (goodIn_of _ (by decide +kernel)) ggX9_letterOf_X9_letterAt
theorem dX9_letterOf_0 : decode cX9_letterOf 0 = .ok (.aload_n 0, 1) := by decide +kernel
theorem dX9_letterOf_1 : decode cX9_letterOf 1 = .ok (.iload_n 1, 1) := by decide +kernel
theorem dX9_letterOf_2 : decode cX9_letterOf 2 = .ok (.invokevirtual 152, 3) := by decide +kernel
theorem dX9_letterOf_5 : decode cX9_letterOf 5 = .ok (.ifCond .ne 5, 3) := by decide +kernel
theorem dX9_letterOf_8 : decode cX9_letterOf 8 = .ok (.iconst (-1), 1) := by decide +kernel
theorem dX9_letterOf_9 : decode cX9_letterOf 9 = .ok (.ireturn, 1) := by decide +kernel
theorem dX9_letterOf_10 : decode cX9_letterOf 10 = .ok (.iload_n 2, 1) := by decide +kernel
theorem dX9_letterOf_11 : decode cX9_letterOf 11 = .ok (.ifCond .ge 6, 3) := by decide +kernel
theorem dX9_letterOf_14 : decode cX9_letterOf 14 = .ok (.bipush (-2), 2) := by decide +kernel
theorem dX9_letterOf_16 : decode cX9_letterOf 16 = .ok (.ireturn, 1) := by decide +kernel
theorem dX9_letterOf_17 : decode cX9_letterOf 17 = .ok (.iload_n 2, 1) := by decide +kernel
theorem dX9_letterOf_18 : decode cX9_letterOf 18 = .ok (.aload_n 0, 1) := by decide +kernel
theorem dX9_letterOf_19 : decode cX9_letterOf 19 = .ok (.iload_n 1, 1) := by decide +kernel
theorem dX9_letterOf_20 : decode cX9_letterOf 20 = .ok (.invokevirtual 64, 3) := by decide +kernel
theorem dX9_letterOf_23 : decode cX9_letterOf 23 = .ok (.if_icmp .ge 12, 3) := by decide +kernel
theorem dX9_letterOf_26 : decode cX9_letterOf 26 = .ok (.aload_n 0, 1) := by decide +kernel
theorem dX9_letterOf_27 : decode cX9_letterOf 27 = .ok (.iload_n 1, 1) := by decide +kernel
theorem dX9_letterOf_28 : decode cX9_letterOf 28 = .ok (.iload_n 2, 1) := by decide +kernel
theorem dX9_letterOf_29 : decode cX9_letterOf 29 = .ok (.invokevirtual 68, 3) := by decide +kernel
theorem dX9_letterOf_32 : decode cX9_letterOf 32 = .ok (.goto 5, 3) := by decide +kernel
theorem dX9_letterOf_35 : decode cX9_letterOf 35 = .ok (.bipush (-5), 2) := by decide +kernel
theorem dX9_letterOf_37 : decode cX9_letterOf 37 = .ok (.ireturn, 1) := by decide +kernel
set_option maxRecDepth 20000 in
theorem ggX9_sheet_X9_isLines : GoodIn wsX9_sheet wsX9_isLines := goodIn_r _ [7, 8, 9, 10, 6, 11] (by decide +kernel) (by decide +kernel)
set_option maxRecDepth 20000 in
theorem gX9_sheet_X9_isLines : GoodIn wsX9_sheet (va_wsS RX9 157 yX9_isLines wsX9_isLines) := goodIn_app (goodIn_of _ (by decide +kernel)) ggX9_sheet_X9_isLines
set_option maxRecDepth 20000 in
theorem ggX9_sheet_X9_in : GoodIn wsX9_sheet wsX9_in := goodIn_r _ [11] (by decide +kernel) (by decide +kernel)
set_option maxRecDepth 20000 in
theorem gX9_sheet_X9_in : GoodIn wsX9_sheet (va_wsS RX9 57 yX9_in wsX9_in) := goodIn_app (goodIn_of _ (by decide +kernel)) ggX9_sheet_X9_in
set_option maxRecDepth 20000 in
theorem ggX9_sheet_X9_makesSheet : GoodIn wsX9_sheet wsX9_makesSheet := goodIn_r _ [15, 1, 2, 3, 16, 17, 18, 19, 20, 21, 6, 22, 23, 24, 25, 26, 27, 28, 29, 30, 31, 32, 33, 34, 35, 36, 37, 38, 39, 40, 41, 42, 43, 44, 45, 46, 47, 48, 49, 50, 51, 52, 53, 54, 55, 56, 57, 58, 59, 60, 61, 62, 63, 64, 65, 66, 67, 68, 69, 70, 71, 72, 73, 74, 75, 76, 77, 78, 79, 80, 81] (by decide +kernel) (by decide +kernel)
set_option maxRecDepth 20000 in
theorem gX9_sheet_X9_makesSheet : GoodIn wsX9_sheet (wsV RX9 160 RX9 yX9_makesSheet wsX9_makesSheet) := goodIn_app (goodIn_of _ (by decide +kernel)) ggX9_sheet_X9_makesSheet
theorem dX9_sheet_0 : decode cX9_sheet 0 = .ok (.iload_n 1, 1) := by decide +kernel
theorem dX9_sheet_1 : decode cX9_sheet 1 = .ok (.invokestatic 157, 3) := by decide +kernel
theorem dX9_sheet_4 : decode cX9_sheet 4 = .ok (.ifCond .eq 17, 3) := by decide +kernel
theorem dX9_sheet_7 : decode cX9_sheet 7 = .ok (.iload_n 2, 1) := by decide +kernel
theorem dX9_sheet_8 : decode cX9_sheet 8 = .ok (.ifCond .lt 13, 3) := by decide +kernel
theorem dX9_sheet_11 : decode cX9_sheet 11 = .ok (.iload_n 3, 1) := by decide +kernel
theorem dX9_sheet_12 : decode cX9_sheet 12 = .ok (.i2l, 1) := by decide +kernel
theorem dX9_sheet_13 : decode cX9_sheet 13 = .ok (.lconst 0, 1) := by decide +kernel
theorem dX9_sheet_14 : decode cX9_sheet 14 = .ok (.lconst 1, 1) := by decide +kernel
theorem dX9_sheet_15 : decode cX9_sheet 15 = .ok (.invokestatic 57, 3) := by decide +kernel
theorem dX9_sheet_18 : decode cX9_sheet 18 = .ok (.ifCond .ne 6, 3) := by decide +kernel
theorem dX9_sheet_21 : decode cX9_sheet 21 = .ok (.bipush (-2), 2) := by decide +kernel
theorem dX9_sheet_23 : decode cX9_sheet 23 = .ok (.ireturn, 1) := by decide +kernel
theorem dX9_sheet_24 : decode cX9_sheet 24 = .ok (.aload_n 0, 1) := by decide +kernel
theorem dX9_sheet_25 : decode cX9_sheet 25 = .ok (.iload_n 1, 1) := by decide +kernel
theorem dX9_sheet_26 : decode cX9_sheet 26 = .ok (.invokevirtual 160, 3) := by decide +kernel
theorem dX9_sheet_29 : decode cX9_sheet 29 = .ok (.iload_n 2, 1) := by decide +kernel
theorem dX9_sheet_30 : decode cX9_sheet 30 = .ok (.aload_n 0, 1) := by decide +kernel
theorem dX9_sheet_31 : decode cX9_sheet 31 = .ok (.getfield 93, 3) := by decide +kernel
theorem dX9_sheet_34 : decode cX9_sheet 34 = .ok (.if_icmp .lt 8, 3) := by decide +kernel
theorem dX9_sheet_37 : decode cX9_sheet 37 = .ok (.bipush (-5), 2) := by decide +kernel
theorem dX9_sheet_39 : decode cX9_sheet 39 = .ok (.goto 22, 3) := by decide +kernel
theorem dX9_sheet_42 : decode cX9_sheet 42 = .ok (.iload_n 3, 1) := by decide +kernel
theorem dX9_sheet_43 : decode cX9_sheet 43 = .ok (.ifCond .ne 12, 3) := by decide +kernel
theorem dX9_sheet_46 : decode cX9_sheet 46 = .ok (.aload_n 0, 1) := by decide +kernel
theorem dX9_sheet_47 : decode cX9_sheet 47 = .ok (.getfield 28, 3) := by decide +kernel
theorem dX9_sheet_50 : decode cX9_sheet 50 = .ok (.iload_n 2, 1) := by decide +kernel
theorem dX9_sheet_51 : decode cX9_sheet 51 = .ok (.iaload, 1) := by decide +kernel
theorem dX9_sheet_52 : decode cX9_sheet 52 = .ok (.goto 9, 3) := by decide +kernel
theorem dX9_sheet_55 : decode cX9_sheet 55 = .ok (.aload_n 0, 1) := by decide +kernel
theorem dX9_sheet_56 : decode cX9_sheet 56 = .ok (.getfield 31, 3) := by decide +kernel
theorem dX9_sheet_59 : decode cX9_sheet 59 = .ok (.iload_n 2, 1) := by decide +kernel
theorem dX9_sheet_60 : decode cX9_sheet 60 = .ok (.iaload, 1) := by decide +kernel
theorem dX9_sheet_61 : decode cX9_sheet 61 = .ok (.ireturn, 1) := by decide +kernel
theorem dX9_coveredIn_0 : decode cX9_coveredIn 0 = .ok (.iconst 0, 1) := by decide +kernel
theorem dX9_coveredIn_1 : decode cX9_coveredIn 1 = .ok (.istore_n 3, 1) := by decide +kernel
theorem dX9_coveredIn_2 : decode cX9_coveredIn 2 = .ok (.iload_n 1, 1) := by decide +kernel
theorem dX9_coveredIn_3 : decode cX9_coveredIn 3 = .ok (.istore 4, 2) := by decide +kernel
theorem dX9_coveredIn_5 : decode cX9_coveredIn 5 = .ok (.iload 4, 2) := by decide +kernel
theorem dX9_coveredIn_7 : decode cX9_coveredIn 7 = .ok (.iload_n 2, 1) := by decide +kernel
theorem dX9_coveredIn_8 : decode cX9_coveredIn 8 = .ok (.if_icmp .ge 19, 3) := by decide +kernel
theorem dX9_coveredIn_11 : decode cX9_coveredIn 11 = .ok (.iload_n 3, 1) := by decide +kernel
theorem dX9_coveredIn_12 : decode cX9_coveredIn 12 = .ok (.aload_n 0, 1) := by decide +kernel
theorem dX9_coveredIn_13 : decode cX9_coveredIn 13 = .ok (.getfield 34, 3) := by decide +kernel
theorem dX9_coveredIn_16 : decode cX9_coveredIn 16 = .ok (.iload 4, 2) := by decide +kernel
theorem dX9_coveredIn_18 : decode cX9_coveredIn 18 = .ok (.iaload, 1) := by decide +kernel
theorem dX9_coveredIn_19 : decode cX9_coveredIn 19 = .ok (.iadd, 1) := by decide +kernel
theorem dX9_coveredIn_20 : decode cX9_coveredIn 20 = .ok (.istore_n 3, 1) := by decide +kernel
theorem dX9_coveredIn_21 : decode cX9_coveredIn 21 = .ok (.iinc 4 1, 3) := by decide +kernel
theorem dX9_coveredIn_24 : decode cX9_coveredIn 24 = .ok (.goto (-19), 3) := by decide +kernel
theorem dX9_coveredIn_27 : decode cX9_coveredIn 27 = .ok (.iload_n 3, 1) := by decide +kernel
theorem dX9_coveredIn_28 : decode cX9_coveredIn 28 = .ok (.ireturn, 1) := by decide +kernel
set_option maxRecDepth 20000 in
theorem ggX9_coveredNeeds_X9_needOf : GoodIn wsX9_coveredNeeds wsX9_needOf := goodIn_r _ [6, 7, 8, 9, 10, 11, 12, 13, 14, 15, 16, 17, 18, 19, 20, 21, 22, 23, 24, 25, 26] (by decide +kernel) (by decide +kernel)
set_option maxRecDepth 20000 in
theorem gX9_coveredNeeds_X9_needOf : GoodIn wsX9_coveredNeeds (wsV RX9 90 RX9 yX9_needOf wsX9_needOf) := goodIn_app (goodIn_of _ (by decide +kernel)) ggX9_coveredNeeds_X9_needOf
theorem dX9_coveredNeeds_0 : decode cX9_coveredNeeds 0 = .ok (.iconst 0, 1) := by decide +kernel
theorem dX9_coveredNeeds_1 : decode cX9_coveredNeeds 1 = .ok (.istore_n 1, 1) := by decide +kernel
theorem dX9_coveredNeeds_2 : decode cX9_coveredNeeds 2 = .ok (.iconst 0, 1) := by decide +kernel
theorem dX9_coveredNeeds_3 : decode cX9_coveredNeeds 3 = .ok (.istore_n 2, 1) := by decide +kernel
theorem dX9_coveredNeeds_4 : decode cX9_coveredNeeds 4 = .ok (.iload_n 2, 1) := by decide +kernel
theorem dX9_coveredNeeds_5 : decode cX9_coveredNeeds 5 = .ok (.sipush 702, 3) := by decide +kernel
theorem dX9_coveredNeeds_8 : decode cX9_coveredNeeds 8 = .ok (.if_icmp .ge 24, 3) := by decide +kernel
theorem dX9_coveredNeeds_11 : decode cX9_coveredNeeds 11 = .ok (.iload_n 1, 1) := by decide +kernel
theorem dX9_coveredNeeds_12 : decode cX9_coveredNeeds 12 = .ok (.aload_n 0, 1) := by decide +kernel
theorem dX9_coveredNeeds_13 : decode cX9_coveredNeeds 13 = .ok (.getfield 34, 3) := by decide +kernel
theorem dX9_coveredNeeds_16 : decode cX9_coveredNeeds 16 = .ok (.iload_n 2, 1) := by decide +kernel
theorem dX9_coveredNeeds_17 : decode cX9_coveredNeeds 17 = .ok (.iaload, 1) := by decide +kernel
theorem dX9_coveredNeeds_18 : decode cX9_coveredNeeds 18 = .ok (.aload_n 0, 1) := by decide +kernel
theorem dX9_coveredNeeds_19 : decode cX9_coveredNeeds 19 = .ok (.iload_n 2, 1) := by decide +kernel
theorem dX9_coveredNeeds_20 : decode cX9_coveredNeeds 20 = .ok (.invokevirtual 90, 3) := by decide +kernel
theorem dX9_coveredNeeds_23 : decode cX9_coveredNeeds 23 = .ok (.imul, 1) := by decide +kernel
theorem dX9_coveredNeeds_24 : decode cX9_coveredNeeds 24 = .ok (.iadd, 1) := by decide +kernel
theorem dX9_coveredNeeds_25 : decode cX9_coveredNeeds 25 = .ok (.istore_n 1, 1) := by decide +kernel
theorem dX9_coveredNeeds_26 : decode cX9_coveredNeeds 26 = .ok (.iinc 2 1, 3) := by decide +kernel
theorem dX9_coveredNeeds_29 : decode cX9_coveredNeeds 29 = .ok (.goto (-25), 3) := by decide +kernel
theorem dX9_coveredNeeds_32 : decode cX9_coveredNeeds 32 = .ok (.iload_n 1, 1) := by decide +kernel
theorem dX9_coveredNeeds_33 : decode cX9_coveredNeeds 33 = .ok (.ireturn, 1) := by decide +kernel
theorem dX9_gains_0 : decode cX9_gains 0 = .ok (.iconst 0, 1) := by decide +kernel
theorem dX9_gains_1 : decode cX9_gains 1 = .ok (.istore_n 1, 1) := by decide +kernel
theorem dX9_gains_2 : decode cX9_gains 2 = .ok (.iconst 0, 1) := by decide +kernel
theorem dX9_gains_3 : decode cX9_gains 3 = .ok (.istore_n 2, 1) := by decide +kernel
theorem dX9_gains_4 : decode cX9_gains 4 = .ok (.iload_n 2, 1) := by decide +kernel
theorem dX9_gains_5 : decode cX9_gains 5 = .ok (.aload_n 0, 1) := by decide +kernel
theorem dX9_gains_6 : decode cX9_gains 6 = .ok (.getfield 93, 3) := by decide +kernel
theorem dX9_gains_9 : decode cX9_gains 9 = .ok (.if_icmp .ge 18, 3) := by decide +kernel
theorem dX9_gains_12 : decode cX9_gains 12 = .ok (.iload_n 1, 1) := by decide +kernel
theorem dX9_gains_13 : decode cX9_gains 13 = .ok (.aload_n 0, 1) := by decide +kernel
theorem dX9_gains_14 : decode cX9_gains 14 = .ok (.getfield 31, 3) := by decide +kernel
theorem dX9_gains_17 : decode cX9_gains 17 = .ok (.iload_n 2, 1) := by decide +kernel
theorem dX9_gains_18 : decode cX9_gains 18 = .ok (.iaload, 1) := by decide +kernel
theorem dX9_gains_19 : decode cX9_gains 19 = .ok (.iadd, 1) := by decide +kernel
theorem dX9_gains_20 : decode cX9_gains 20 = .ok (.istore_n 1, 1) := by decide +kernel
theorem dX9_gains_21 : decode cX9_gains 21 = .ok (.iinc 2 1, 3) := by decide +kernel
theorem dX9_gains_24 : decode cX9_gains 24 = .ok (.goto (-20), 3) := by decide +kernel
theorem dX9_gains_27 : decode cX9_gains 27 = .ok (.iload_n 1, 1) := by decide +kernel
theorem dX9_gains_28 : decode cX9_gains 28 = .ok (.ireturn, 1) := by decide +kernel
set_option maxRecDepth 20000 in
theorem ggX9_covers_X9_isLines : GoodIn wsX9_covers wsX9_isLines := goodIn_r _ [6, 7, 8, 9, 5, 10] (by decide +kernel) (by decide +kernel)
set_option maxRecDepth 20000 in
theorem gX9_covers_X9_isLines : GoodIn wsX9_covers (va_wsS RX9 157 yX9_isLines wsX9_isLines) := goodIn_app (goodIn_of _ (by decide +kernel)) ggX9_covers_X9_isLines
set_option maxRecDepth 20000 in
theorem ggX9_covers_X9_in : GoodIn wsX9_covers wsX9_in := goodIn_r _ [10] (by decide +kernel) (by decide +kernel)
set_option maxRecDepth 20000 in
theorem gX9_covers_X9_in : GoodIn wsX9_covers (va_wsS RX9 57 yX9_in wsX9_in) := goodIn_app (goodIn_of _ (by decide +kernel)) ggX9_covers_X9_in
set_option maxRecDepth 20000 in
theorem ggX9_covers_X9_makesSheet : GoodIn wsX9_covers wsX9_makesSheet := goodIn_r _ [14, 2, 15, 16, 17, 18, 19, 20, 21, 22, 5, 23, 24, 25, 26, 27, 28, 29, 30, 31, 32, 33, 34, 35, 36, 37, 38, 39, 40, 41, 42, 43, 44, 45, 46, 47, 48, 49, 50, 51, 52, 53, 54, 55, 56, 57, 58, 59, 60, 61, 62, 63, 76, 77, 78, 79, 80, 81, 82, 83, 84, 85, 86, 87, 88, 89, 90, 91, 92, 93, 94] (by decide +kernel) (by decide +kernel)
set_option maxRecDepth 20000 in
theorem gX9_covers_X9_makesSheet : GoodIn wsX9_covers (wsV RX9 160 RX9 yX9_makesSheet wsX9_makesSheet) := goodIn_app (goodIn_of _ (by decide +kernel)) ggX9_covers_X9_makesSheet
set_option maxRecDepth 20000 in
theorem ggX9_covers_X9_coveredIn : GoodIn wsX9_covers wsX9_coveredIn := goodIn_r _ [67, 18, 76, 77, 78, 79, 80, 81, 82, 83, 84, 85, 86, 87, 88, 89, 90, 91, 92, 93, 94] (by decide +kernel) (by decide +kernel)
set_option maxRecDepth 20000 in
theorem gX9_covers_X9_coveredIn : GoodIn wsX9_covers (wsV RX9 187 RX9 yX9_coveredIn wsX9_coveredIn) := goodIn_app (goodIn_of _ (by decide +kernel)) ggX9_covers_X9_coveredIn
set_option maxRecDepth 20000 in
theorem ggX9_covers_X9_coveredNeeds : GoodIn wsX9_covers wsX9_coveredNeeds := goodIn_r _ [71, 18, 60, 61, 62, 5, 63, 28, 76, 77, 78, 79, 80, 81, 82, 83, 84, 85, 86, 87, 88, 89, 90, 91, 92, 93, 94] (by decide +kernel) (by decide +kernel)
set_option maxRecDepth 20000 in
theorem gX9_covers_X9_coveredNeeds : GoodIn wsX9_covers (wsV RX9 190 RX9 yX9_coveredNeeds wsX9_coveredNeeds) := goodIn_app (goodIn_of _ (by decide +kernel)) ggX9_covers_X9_coveredNeeds
set_option maxRecDepth 20000 in
theorem ggX9_covers_X9_gains : GoodIn wsX9_covers wsX9_gains := goodIn_r _ [75, 2, 16, 76, 77, 78, 79, 80, 81, 82, 83, 84, 85, 86, 87, 88, 89, 90, 91, 92, 93, 94] (by decide +kernel) (by decide +kernel)
set_option maxRecDepth 20000 in
theorem gX9_covers_X9_gains : GoodIn wsX9_covers (wsV RX9 193 RX9 yX9_gains wsX9_gains) := goodIn_app (goodIn_of _ (by decide +kernel)) ggX9_covers_X9_gains
theorem dX9_covers_0 : decode cX9_covers 0 = .ok (.iload_n 1, 1) := by decide +kernel
theorem dX9_covers_1 : decode cX9_covers 1 = .ok (.invokestatic 157, 3) := by decide +kernel
theorem dX9_covers_4 : decode cX9_covers 4 = .ok (.ifCond .eq 15, 3) := by decide +kernel
theorem dX9_covers_7 : decode cX9_covers 7 = .ok (.iload_n 2, 1) := by decide +kernel
theorem dX9_covers_8 : decode cX9_covers 8 = .ok (.i2l, 1) := by decide +kernel
theorem dX9_covers_9 : decode cX9_covers 9 = .ok (.lconst 0, 1) := by decide +kernel
theorem dX9_covers_10 : decode cX9_covers 10 = .ok (.ldc2_w 185, 3) := by decide +kernel
theorem dX9_covers_13 : decode cX9_covers 13 = .ok (.invokestatic 57, 3) := by decide +kernel
theorem dX9_covers_16 : decode cX9_covers 16 = .ok (.ifCond .ne 6, 3) := by decide +kernel
theorem dX9_covers_19 : decode cX9_covers 19 = .ok (.bipush (-2), 2) := by decide +kernel
theorem dX9_covers_21 : decode cX9_covers 21 = .ok (.ireturn, 1) := by decide +kernel
theorem dX9_covers_22 : decode cX9_covers 22 = .ok (.aload_n 0, 1) := by decide +kernel
theorem dX9_covers_23 : decode cX9_covers 23 = .ok (.iload_n 1, 1) := by decide +kernel
theorem dX9_covers_24 : decode cX9_covers 24 = .ok (.invokevirtual 160, 3) := by decide +kernel
theorem dX9_covers_27 : decode cX9_covers 27 = .ok (.iload_n 2, 1) := by decide +kernel
theorem dX9_covers_28 : decode cX9_covers 28 = .ok (.ifCond .ne 10, 3) := by decide +kernel
theorem dX9_covers_31 : decode cX9_covers 31 = .ok (.aload_n 0, 1) := by decide +kernel
theorem dX9_covers_32 : decode cX9_covers 32 = .ok (.getfield 93, 3) := by decide +kernel
theorem dX9_covers_35 : decode cX9_covers 35 = .ok (.goto 51, 3) := by decide +kernel
theorem dX9_covers_38 : decode cX9_covers 38 = .ok (.iload_n 2, 1) := by decide +kernel
theorem dX9_covers_39 : decode cX9_covers 39 = .ok (.iconst 1, 1) := by decide +kernel
theorem dX9_covers_40 : decode cX9_covers 40 = .ok (.if_icmp .ne 13, 3) := by decide +kernel
theorem dX9_covers_43 : decode cX9_covers 43 = .ok (.aload_n 0, 1) := by decide +kernel
theorem dX9_covers_44 : decode cX9_covers 44 = .ok (.iconst 0, 1) := by decide +kernel
theorem dX9_covers_45 : decode cX9_covers 45 = .ok (.bipush 26, 2) := by decide +kernel
theorem dX9_covers_47 : decode cX9_covers 47 = .ok (.invokevirtual 187, 3) := by decide +kernel
theorem dX9_covers_50 : decode cX9_covers 50 = .ok (.goto 36, 3) := by decide +kernel
theorem dX9_covers_53 : decode cX9_covers 53 = .ok (.iload_n 2, 1) := by decide +kernel
theorem dX9_covers_54 : decode cX9_covers 54 = .ok (.iconst 2, 1) := by decide +kernel
theorem dX9_covers_55 : decode cX9_covers 55 = .ok (.if_icmp .ne 15, 3) := by decide +kernel
theorem dX9_covers_58 : decode cX9_covers 58 = .ok (.aload_n 0, 1) := by decide +kernel
theorem dX9_covers_59 : decode cX9_covers 59 = .ok (.bipush 26, 2) := by decide +kernel
theorem dX9_covers_61 : decode cX9_covers 61 = .ok (.sipush 702, 3) := by decide +kernel
theorem dX9_covers_64 : decode cX9_covers 64 = .ok (.invokevirtual 187, 3) := by decide +kernel
theorem dX9_covers_67 : decode cX9_covers 67 = .ok (.goto 19, 3) := by decide +kernel
theorem dX9_covers_70 : decode cX9_covers 70 = .ok (.iload_n 2, 1) := by decide +kernel
theorem dX9_covers_71 : decode cX9_covers 71 = .ok (.iconst 3, 1) := by decide +kernel
theorem dX9_covers_72 : decode cX9_covers 72 = .ok (.if_icmp .ne 10, 3) := by decide +kernel
theorem dX9_covers_75 : decode cX9_covers 75 = .ok (.aload_n 0, 1) := by decide +kernel
theorem dX9_covers_76 : decode cX9_covers 76 = .ok (.invokevirtual 190, 3) := by decide +kernel
theorem dX9_covers_79 : decode cX9_covers 79 = .ok (.goto 7, 3) := by decide +kernel
theorem dX9_covers_82 : decode cX9_covers 82 = .ok (.aload_n 0, 1) := by decide +kernel
theorem dX9_covers_83 : decode cX9_covers 83 = .ok (.invokevirtual 193, 3) := by decide +kernel
theorem dX9_covers_86 : decode cX9_covers 86 = .ok (.ireturn, 1) := by decide +kernel
set_option maxRecDepth 20000 in
theorem ggX9_worst_X9_needOf : GoodIn wsX9_worst wsX9_needOf := goodIn_r _ [5, 6, 7, 8, 9, 10, 11, 12, 13, 14, 15, 16, 17, 18, 19, 20, 21, 22, 23, 24, 25] (by decide +kernel) (by decide +kernel)
set_option maxRecDepth 20000 in
theorem gX9_worst_X9_needOf : GoodIn wsX9_worst (wsV RX9 90 RX9 yX9_needOf wsX9_needOf) := goodIn_app (goodIn_of _ (by decide +kernel)) ggX9_worst_X9_needOf
theorem dX9_worst_0 : decode cX9_worst 0 = .ok (.iload_n 2, 1) := by decide +kernel
theorem dX9_worst_1 : decode cX9_worst 1 = .ok (.ifCond .ge 6, 3) := by decide +kernel
theorem dX9_worst_4 : decode cX9_worst 4 = .ok (.bipush (-2), 2) := by decide +kernel
theorem dX9_worst_6 : decode cX9_worst 6 = .ok (.ireturn, 1) := by decide +kernel
theorem dX9_worst_7 : decode cX9_worst 7 = .ok (.iload_n 1, 1) := by decide +kernel
theorem dX9_worst_8 : decode cX9_worst 8 = .ok (.ifCond .eq 8, 3) := by decide +kernel
theorem dX9_worst_11 : decode cX9_worst 11 = .ok (.bipush 26, 2) := by decide +kernel
theorem dX9_worst_13 : decode cX9_worst 13 = .ok (.goto 4, 3) := by decide +kernel
theorem dX9_worst_16 : decode cX9_worst 16 = .ok (.iconst 0, 1) := by decide +kernel
theorem dX9_worst_17 : decode cX9_worst 17 = .ok (.istore_n 3, 1) := by decide +kernel
theorem dX9_worst_18 : decode cX9_worst 18 = .ok (.iload_n 1, 1) := by decide +kernel
theorem dX9_worst_19 : decode cX9_worst 19 = .ok (.ifCond .eq 9, 3) := by decide +kernel
theorem dX9_worst_22 : decode cX9_worst 22 = .ok (.sipush 702, 3) := by decide +kernel
theorem dX9_worst_25 : decode cX9_worst 25 = .ok (.goto 5, 3) := by decide +kernel
theorem dX9_worst_28 : decode cX9_worst 28 = .ok (.bipush 26, 2) := by decide +kernel
theorem dX9_worst_30 : decode cX9_worst 30 = .ok (.istore 4, 2) := by decide +kernel
theorem dX9_worst_32 : decode cX9_worst 32 = .ok (.iload_n 2, 1) := by decide +kernel
theorem dX9_worst_33 : decode cX9_worst 33 = .ok (.istore 5, 2) := by decide +kernel
theorem dX9_worst_35 : decode cX9_worst 35 = .ok (.bipush 100, 2) := by decide +kernel
theorem dX9_worst_37 : decode cX9_worst 37 = .ok (.istore 6, 2) := by decide +kernel
theorem dX9_worst_39 : decode cX9_worst 39 = .ok (.iload 6, 2) := by decide +kernel
theorem dX9_worst_41 : decode cX9_worst 41 = .ok (.ifCond .le 49, 3) := by decide +kernel
theorem dX9_worst_44 : decode cX9_worst 44 = .ok (.iload_n 3, 1) := by decide +kernel
theorem dX9_worst_45 : decode cX9_worst 45 = .ok (.istore 7, 2) := by decide +kernel
theorem dX9_worst_47 : decode cX9_worst 47 = .ok (.iload 7, 2) := by decide +kernel
theorem dX9_worst_49 : decode cX9_worst 49 = .ok (.iload 4, 2) := by decide +kernel
theorem dX9_worst_51 : decode cX9_worst 51 = .ok (.if_icmp .ge 33, 3) := by decide +kernel
theorem dX9_worst_54 : decode cX9_worst 54 = .ok (.aload_n 0, 1) := by decide +kernel
theorem dX9_worst_55 : decode cX9_worst 55 = .ok (.iload 7, 2) := by decide +kernel
theorem dX9_worst_57 : decode cX9_worst 57 = .ok (.invokevirtual 90, 3) := by decide +kernel
theorem dX9_worst_60 : decode cX9_worst 60 = .ok (.iload 6, 2) := by decide +kernel
theorem dX9_worst_62 : decode cX9_worst 62 = .ok (.if_icmp .ne 16, 3) := by decide +kernel
theorem dX9_worst_65 : decode cX9_worst 65 = .ok (.iload 5, 2) := by decide +kernel
theorem dX9_worst_67 : decode cX9_worst 67 = .ok (.ifCond .ne 8, 3) := by decide +kernel
theorem dX9_worst_70 : decode cX9_worst 70 = .ok (.iload 7, 2) := by decide +kernel
theorem dX9_worst_72 : decode cX9_worst 72 = .ok (.iload_n 3, 1) := by decide +kernel
theorem dX9_worst_73 : decode cX9_worst 73 = .ok (.isub, 1) := by decide +kernel
theorem dX9_worst_74 : decode cX9_worst 74 = .ok (.ireturn, 1) := by decide +kernel
theorem dX9_worst_75 : decode cX9_worst 75 = .ok (.iinc 5 (-1), 3) := by decide +kernel
theorem dX9_worst_78 : decode cX9_worst 78 = .ok (.iinc 7 1, 3) := by decide +kernel
theorem dX9_worst_81 : decode cX9_worst 81 = .ok (.goto (-34), 3) := by decide +kernel
theorem dX9_worst_84 : decode cX9_worst 84 = .ok (.iinc 6 (-1), 3) := by decide +kernel
theorem dX9_worst_87 : decode cX9_worst 87 = .ok (.goto (-48), 3) := by decide +kernel
theorem dX9_worst_90 : decode cX9_worst 90 = .ok (.bipush (-5), 2) := by decide +kernel
theorem dX9_worst_92 : decode cX9_worst 92 = .ok (.ireturn, 1) := by decide +kernel
set_option maxRecDepth 20000 in
theorem ggX9_missing_X9_needOf : GoodIn wsX9_missing wsX9_needOf := goodIn_r _ [5, 6, 36, 37, 38, 39, 40, 41, 42, 43, 44, 45, 46, 47, 48, 49, 50, 51, 52, 53, 54] (by decide +kernel) (by decide +kernel)
set_option maxRecDepth 20000 in
theorem gX9_missing_X9_needOf : GoodIn wsX9_missing (wsV RX9 90 RX9 yX9_needOf wsX9_needOf) := goodIn_app (goodIn_of _ (by decide +kernel)) ggX9_missing_X9_needOf
set_option maxRecDepth 20000 in
theorem ggX9_missing_X9_wordsWith : GoodIn wsX9_missing wsX9_wordsWith := goodIn_r _ [10, 6, 11, 12, 13, 4, 14, 15, 16, 17, 18, 19, 20, 21, 22, 23, 24, 25, 26, 27, 28, 29, 30, 31, 32, 33, 34, 35, 36, 37, 38, 39, 40, 41, 42, 43, 44, 45, 46, 47, 48, 49, 50, 51, 52, 53, 54] (by decide +kernel) (by decide +kernel)
set_option maxRecDepth 20000 in
theorem gX9_missing_X9_wordsWith : GoodIn wsX9_missing (wsV RX9 169 RX9 yX9_wordsWith wsX9_wordsWith) := goodIn_app (goodIn_of _ (by decide +kernel)) ggX9_missing_X9_wordsWith
theorem dX9_missing_0 : decode cX9_missing 0 = .ok (.iconst 0, 1) := by decide +kernel
theorem dX9_missing_1 : decode cX9_missing 1 = .ok (.istore_n 2, 1) := by decide +kernel
theorem dX9_missing_2 : decode cX9_missing 2 = .ok (.iload_n 1, 1) := by decide +kernel
theorem dX9_missing_3 : decode cX9_missing 3 = .ok (.ifCond .eq 8, 3) := by decide +kernel
theorem dX9_missing_6 : decode cX9_missing 6 = .ok (.bipush 26, 2) := by decide +kernel
theorem dX9_missing_8 : decode cX9_missing 8 = .ok (.goto 4, 3) := by decide +kernel
theorem dX9_missing_11 : decode cX9_missing 11 = .ok (.iconst 0, 1) := by decide +kernel
theorem dX9_missing_12 : decode cX9_missing 12 = .ok (.istore_n 3, 1) := by decide +kernel
theorem dX9_missing_13 : decode cX9_missing 13 = .ok (.iload_n 3, 1) := by decide +kernel
theorem dX9_missing_14 : decode cX9_missing 14 = .ok (.iload_n 1, 1) := by decide +kernel
theorem dX9_missing_15 : decode cX9_missing 15 = .ok (.ifCond .eq 9, 3) := by decide +kernel
theorem dX9_missing_18 : decode cX9_missing 18 = .ok (.sipush 702, 3) := by decide +kernel
theorem dX9_missing_21 : decode cX9_missing 21 = .ok (.goto 5, 3) := by decide +kernel
theorem dX9_missing_24 : decode cX9_missing 24 = .ok (.bipush 26, 2) := by decide +kernel
theorem dX9_missing_26 : decode cX9_missing 26 = .ok (.if_icmp .ge 33, 3) := by decide +kernel
theorem dX9_missing_29 : decode cX9_missing 29 = .ok (.iload_n 2, 1) := by decide +kernel
theorem dX9_missing_30 : decode cX9_missing 30 = .ok (.aload_n 0, 1) := by decide +kernel
theorem dX9_missing_31 : decode cX9_missing 31 = .ok (.iload_n 3, 1) := by decide +kernel
theorem dX9_missing_32 : decode cX9_missing 32 = .ok (.invokevirtual 90, 3) := by decide +kernel
theorem dX9_missing_35 : decode cX9_missing 35 = .ok (.ifCond .le 15, 3) := by decide +kernel
theorem dX9_missing_38 : decode cX9_missing 38 = .ok (.aload_n 0, 1) := by decide +kernel
theorem dX9_missing_39 : decode cX9_missing 39 = .ok (.iload_n 3, 1) := by decide +kernel
theorem dX9_missing_40 : decode cX9_missing 40 = .ok (.invokevirtual 169, 3) := by decide +kernel
theorem dX9_missing_43 : decode cX9_missing 43 = .ok (.ifCond .ne 7, 3) := by decide +kernel
theorem dX9_missing_46 : decode cX9_missing 46 = .ok (.iconst 1, 1) := by decide +kernel
theorem dX9_missing_47 : decode cX9_missing 47 = .ok (.goto 4, 3) := by decide +kernel
theorem dX9_missing_50 : decode cX9_missing 50 = .ok (.iconst 0, 1) := by decide +kernel
theorem dX9_missing_51 : decode cX9_missing 51 = .ok (.iadd, 1) := by decide +kernel
theorem dX9_missing_52 : decode cX9_missing 52 = .ok (.istore_n 2, 1) := by decide +kernel
theorem dX9_missing_53 : decode cX9_missing 53 = .ok (.iinc 3 1, 3) := by decide +kernel
theorem dX9_missing_56 : decode cX9_missing 56 = .ok (.goto (-43), 3) := by decide +kernel
theorem dX9_missing_59 : decode cX9_missing 59 = .ok (.iload_n 2, 1) := by decide +kernel
theorem dX9_missing_60 : decode cX9_missing 60 = .ok (.ireturn, 1) := by decide +kernel
set_option maxRecDepth 20000 in
theorem ggX9_greatestOfWords_X9_findsParts : GoodIn wsX9_greatestOfWords wsX9_findsParts := goodIn_r _ [8, 2, 9, 10, 11, 7, 12, 1, 13, 14, 15, 16, 17, 18, 19, 20, 3, 21, 22, 23, 28, 29, 30, 31, 32, 33, 34, 35, 36, 37, 38, 39, 40, 41, 42, 43, 44, 45, 46] (by decide +kernel) (by decide +kernel)
set_option maxRecDepth 20000 in
theorem gX9_greatestOfWords_X9_findsParts : GoodIn wsX9_greatestOfWords (wsV RX9 79 RX9 yX9_findsParts wsX9_findsParts) := goodIn_app (goodIn_of _ (by decide +kernel)) ggX9_greatestOfWords_X9_findsParts
set_option maxRecDepth 20000 in
theorem ggX9_greatestOfWords_X9_needOf : GoodIn wsX9_greatestOfWords wsX9_needOf := goodIn_r _ [27, 1, 28, 29, 30, 31, 32, 33, 34, 35, 36, 37, 38, 39, 40, 41, 42, 43, 44, 45, 46] (by decide +kernel) (by decide +kernel)
set_option maxRecDepth 20000 in
theorem gX9_greatestOfWords_X9_needOf : GoodIn wsX9_greatestOfWords (wsV RX9 90 RX9 yX9_needOf wsX9_needOf) := goodIn_app (goodIn_of _ (by decide +kernel)) ggX9_greatestOfWords_X9_needOf
theorem dX9_greatestOfWords_0 : decode cX9_greatestOfWords 0 = .ok (.iconst 0, 1) := by decide +kernel
theorem dX9_greatestOfWords_1 : decode cX9_greatestOfWords 1 = .ok (.istore_n 1, 1) := by decide +kernel
theorem dX9_greatestOfWords_2 : decode cX9_greatestOfWords 2 = .ok (.iconst 0, 1) := by decide +kernel
theorem dX9_greatestOfWords_3 : decode cX9_greatestOfWords 3 = .ok (.istore_n 2, 1) := by decide +kernel
theorem dX9_greatestOfWords_4 : decode cX9_greatestOfWords 4 = .ok (.iload_n 2, 1) := by decide +kernel
theorem dX9_greatestOfWords_5 : decode cX9_greatestOfWords 5 = .ok (.aload_n 0, 1) := by decide +kernel
theorem dX9_greatestOfWords_6 : decode cX9_greatestOfWords 6 = .ok (.getfield 7, 3) := by decide +kernel
theorem dX9_greatestOfWords_9 : decode cX9_greatestOfWords 9 = .ok (.iconst 5, 1) := by decide +kernel
theorem dX9_greatestOfWords_10 : decode cX9_greatestOfWords 10 = .ok (.iaload, 1) := by decide +kernel
theorem dX9_greatestOfWords_11 : decode cX9_greatestOfWords 11 = .ok (.if_icmp .ge 59, 3) := by decide +kernel
theorem dX9_greatestOfWords_14 : decode cX9_greatestOfWords 14 = .ok (.aload_n 0, 1) := by decide +kernel
theorem dX9_greatestOfWords_15 : decode cX9_greatestOfWords 15 = .ok (.iload_n 2, 1) := by decide +kernel
theorem dX9_greatestOfWords_16 : decode cX9_greatestOfWords 16 = .ok (.invokevirtual 79, 3) := by decide +kernel
theorem dX9_greatestOfWords_19 : decode cX9_greatestOfWords 19 = .ok (.iconst 0, 1) := by decide +kernel
theorem dX9_greatestOfWords_20 : decode cX9_greatestOfWords 20 = .ok (.istore_n 3, 1) := by decide +kernel
theorem dX9_greatestOfWords_21 : decode cX9_greatestOfWords 21 = .ok (.iload_n 3, 1) := by decide +kernel
theorem dX9_greatestOfWords_22 : decode cX9_greatestOfWords 22 = .ok (.aload_n 0, 1) := by decide +kernel
theorem dX9_greatestOfWords_23 : decode cX9_greatestOfWords 23 = .ok (.getfield 61, 3) := by decide +kernel
theorem dX9_greatestOfWords_26 : decode cX9_greatestOfWords 26 = .ok (.if_icmp .ge 38, 3) := by decide +kernel
theorem dX9_greatestOfWords_29 : decode cX9_greatestOfWords 29 = .ok (.aload_n 0, 1) := by decide +kernel
theorem dX9_greatestOfWords_30 : decode cX9_greatestOfWords 30 = .ok (.aload_n 0, 1) := by decide +kernel
theorem dX9_greatestOfWords_31 : decode cX9_greatestOfWords 31 = .ok (.getfield 25, 3) := by decide +kernel
theorem dX9_greatestOfWords_34 : decode cX9_greatestOfWords 34 = .ok (.iload_n 3, 1) := by decide +kernel
theorem dX9_greatestOfWords_35 : decode cX9_greatestOfWords 35 = .ok (.iaload, 1) := by decide +kernel
theorem dX9_greatestOfWords_36 : decode cX9_greatestOfWords 36 = .ok (.invokevirtual 90, 3) := by decide +kernel
theorem dX9_greatestOfWords_39 : decode cX9_greatestOfWords 39 = .ok (.iload_n 1, 1) := by decide +kernel
theorem dX9_greatestOfWords_40 : decode cX9_greatestOfWords 40 = .ok (.if_icmp .le 16, 3) := by decide +kernel
theorem dX9_greatestOfWords_43 : decode cX9_greatestOfWords 43 = .ok (.aload_n 0, 1) := by decide +kernel
theorem dX9_greatestOfWords_44 : decode cX9_greatestOfWords 44 = .ok (.aload_n 0, 1) := by decide +kernel
theorem dX9_greatestOfWords_45 : decode cX9_greatestOfWords 45 = .ok (.getfield 25, 3) := by decide +kernel
theorem dX9_greatestOfWords_48 : decode cX9_greatestOfWords 48 = .ok (.iload_n 3, 1) := by decide +kernel
theorem dX9_greatestOfWords_49 : decode cX9_greatestOfWords 49 = .ok (.iaload, 1) := by decide +kernel
theorem dX9_greatestOfWords_50 : decode cX9_greatestOfWords 50 = .ok (.invokevirtual 90, 3) := by decide +kernel
theorem dX9_greatestOfWords_53 : decode cX9_greatestOfWords 53 = .ok (.goto 4, 3) := by decide +kernel
theorem dX9_greatestOfWords_56 : decode cX9_greatestOfWords 56 = .ok (.iload_n 1, 1) := by decide +kernel
theorem dX9_greatestOfWords_57 : decode cX9_greatestOfWords 57 = .ok (.istore_n 1, 1) := by decide +kernel
theorem dX9_greatestOfWords_58 : decode cX9_greatestOfWords 58 = .ok (.iinc 3 1, 3) := by decide +kernel
theorem dX9_greatestOfWords_61 : decode cX9_greatestOfWords 61 = .ok (.goto (-40), 3) := by decide +kernel
theorem dX9_greatestOfWords_64 : decode cX9_greatestOfWords 64 = .ok (.iinc 2 1, 3) := by decide +kernel
theorem dX9_greatestOfWords_67 : decode cX9_greatestOfWords 67 = .ok (.goto (-63), 3) := by decide +kernel
theorem dX9_greatestOfWords_70 : decode cX9_greatestOfWords 70 = .ok (.iload_n 1, 1) := by decide +kernel
theorem dX9_greatestOfWords_71 : decode cX9_greatestOfWords 71 = .ok (.ireturn, 1) := by decide +kernel
set_option maxRecDepth 20000 in
theorem ggX9_sheetsTo_X9_isLines : GoodIn wsX9_sheetsTo wsX9_isLines := goodIn_r _ [8, 9, 10, 11, 7, 12] (by decide +kernel) (by decide +kernel)
set_option maxRecDepth 20000 in
theorem gX9_sheetsTo_X9_isLines : GoodIn wsX9_sheetsTo (va_wsS RX9 157 yX9_isLines wsX9_isLines) := goodIn_app (goodIn_of _ (by decide +kernel)) ggX9_sheetsTo_X9_isLines
set_option maxRecDepth 20000 in
theorem ggX9_sheetsTo_X9_in : GoodIn wsX9_sheetsTo wsX9_in := goodIn_r _ [12] (by decide +kernel) (by decide +kernel)
set_option maxRecDepth 20000 in
theorem gX9_sheetsTo_X9_in : GoodIn wsX9_sheetsTo (va_wsS RX9 57 yX9_in wsX9_in) := goodIn_app (goodIn_of _ (by decide +kernel)) ggX9_sheetsTo_X9_in
set_option maxRecDepth 20000 in
theorem ggX9_sheetsTo_X9_copy : GoodIn wsX9_sheetsTo wsX9_copy := goodIn_r _ [15] (by decide +kernel) (by decide +kernel)
set_option maxRecDepth 20000 in
theorem gX9_sheetsTo_X9_copy : GoodIn wsX9_sheetsTo (va_wsS RX9 49 yX9_copy wsX9_copy) := goodIn_app (goodIn_of _ (by decide +kernel)) ggX9_sheetsTo_X9_copy
set_option maxRecDepth 20000 in
theorem ggX9_sheetsTo_X9_greatestOfWords : GoodIn wsX9_sheetsTo wsX9_greatestOfWords := goodIn_r _ [19, 2, 20, 21, 22, 23, 24, 7, 25, 26, 27, 28, 29, 30, 31, 32, 33, 34, 35, 36, 37, 38, 39, 40, 41, 42, 43, 44, 80, 81, 82, 83, 84, 85, 86, 87, 88, 89, 90, 91, 92, 93, 94, 95, 96, 97, 98] (by decide +kernel) (by decide +kernel)
set_option maxRecDepth 20000 in
theorem gX9_sheetsTo_X9_greatestOfWords : GoodIn wsX9_sheetsTo (wsV RX9 196 RX9 yX9_greatestOfWords wsX9_greatestOfWords) := goodIn_app (goodIn_of _ (by decide +kernel)) ggX9_sheetsTo_X9_greatestOfWords
set_option maxRecDepth 20000 in
theorem ggX9_sheetsTo_X9_makesSheet : GoodIn wsX9_sheetsTo wsX9_makesSheet := goodIn_r _ [48, 4, 49, 50, 20, 51, 21, 52, 53, 54, 7, 55, 56, 57, 58, 59, 2, 60, 61, 62, 63, 64, 65, 66, 67, 22, 23, 24, 25, 26, 27, 28, 29, 30, 31, 32, 33, 34, 35, 36, 37, 38, 39, 40, 68, 69, 70, 71, 41, 42, 43, 44, 80, 81, 82, 83, 84, 85, 86, 87, 88, 89, 90, 91, 92, 93, 94, 95, 96, 97, 98] (by decide +kernel) (by decide +kernel)
set_option maxRecDepth 20000 in
theorem gX9_sheetsTo_X9_makesSheet : GoodIn wsX9_sheetsTo (wsV RX9 160 RX9 yX9_makesSheet wsX9_makesSheet) := goodIn_app (goodIn_of _ (by decide +kernel)) ggX9_sheetsTo_X9_makesSheet
set_option maxRecDepth 20000 in
theorem ggX9_sheetsTo_X9_writesSheet : GoodIn wsX9_sheetsTo wsX9_writesSheet := goodIn_r _ [75, 4, 49, 2, 26, 27, 28, 7, 29, 30, 31, 32, 33, 76, 77, 78, 79, 38, 39, 40, 80, 81, 82, 83, 84, 85, 86, 87, 88, 89, 90, 91, 92, 93, 94, 95, 96, 97, 98] (by decide +kernel) (by decide +kernel)
set_option maxRecDepth 20000 in
theorem gX9_sheetsTo_X9_writesSheet : GoodIn wsX9_sheetsTo (wsV RX9 163 RX9 yX9_writesSheet wsX9_writesSheet) := goodIn_app (goodIn_of _ (by decide +kernel)) ggX9_sheetsTo_X9_writesSheet
theorem dX9_sheetsTo_0 : decode cX9_sheetsTo 0 = .ok (.iload_n 1, 1) := by decide +kernel
theorem dX9_sheetsTo_1 : decode cX9_sheetsTo 1 = .ok (.invokestatic 157, 3) := by decide +kernel
theorem dX9_sheetsTo_4 : decode cX9_sheetsTo 4 = .ok (.ifCond .eq 15, 3) := by decide +kernel
theorem dX9_sheetsTo_7 : decode cX9_sheetsTo 7 = .ok (.iload_n 2, 1) := by decide +kernel
theorem dX9_sheetsTo_8 : decode cX9_sheetsTo 8 = .ok (.i2l, 1) := by decide +kernel
theorem dX9_sheetsTo_9 : decode cX9_sheetsTo 9 = .ok (.lconst 0, 1) := by decide +kernel
theorem dX9_sheetsTo_10 : decode cX9_sheetsTo 10 = .ok (.ldc2_w 140, 3) := by decide +kernel
theorem dX9_sheetsTo_13 : decode cX9_sheetsTo 13 = .ok (.invokestatic 57, 3) := by decide +kernel
theorem dX9_sheetsTo_16 : decode cX9_sheetsTo 16 = .ok (.ifCond .ne 6, 3) := by decide +kernel
theorem dX9_sheetsTo_19 : decode cX9_sheetsTo 19 = .ok (.bipush (-2), 2) := by decide +kernel
theorem dX9_sheetsTo_21 : decode cX9_sheetsTo 21 = .ok (.ireturn, 1) := by decide +kernel
theorem dX9_sheetsTo_22 : decode cX9_sheetsTo 22 = .ok (.aload_n 0, 1) := by decide +kernel
theorem dX9_sheetsTo_23 : decode cX9_sheetsTo 23 = .ok (.getfield 7, 3) := by decide +kernel
theorem dX9_sheetsTo_26 : decode cX9_sheetsTo 26 = .ok (.aload_n 0, 1) := by decide +kernel
theorem dX9_sheetsTo_27 : decode cX9_sheetsTo 27 = .ok (.getfield 16, 3) := by decide +kernel
theorem dX9_sheetsTo_30 : decode cX9_sheetsTo 30 = .ok (.invokestatic 49, 3) := by decide +kernel
theorem dX9_sheetsTo_33 : decode cX9_sheetsTo 33 = .ok (.iconst 0, 1) := by decide +kernel
theorem dX9_sheetsTo_34 : decode cX9_sheetsTo 34 = .ok (.istore_n 3, 1) := by decide +kernel
theorem dX9_sheetsTo_35 : decode cX9_sheetsTo 35 = .ok (.iconst 1, 1) := by decide +kernel
theorem dX9_sheetsTo_36 : decode cX9_sheetsTo 36 = .ok (.istore 4, 2) := by decide +kernel
theorem dX9_sheetsTo_38 : decode cX9_sheetsTo 38 = .ok (.iload 4, 2) := by decide +kernel
theorem dX9_sheetsTo_40 : decode cX9_sheetsTo 40 = .ok (.ifCond .eq 51, 3) := by decide +kernel
theorem dX9_sheetsTo_43 : decode cX9_sheetsTo 43 = .ok (.aload_n 0, 1) := by decide +kernel
theorem dX9_sheetsTo_44 : decode cX9_sheetsTo 44 = .ok (.invokevirtual 196, 3) := by decide +kernel
theorem dX9_sheetsTo_47 : decode cX9_sheetsTo 47 = .ok (.iload_n 2, 1) := by decide +kernel
theorem dX9_sheetsTo_48 : decode cX9_sheetsTo 48 = .ok (.if_icmp .le 43, 3) := by decide +kernel
theorem dX9_sheetsTo_51 : decode cX9_sheetsTo 51 = .ok (.aload_n 0, 1) := by decide +kernel
theorem dX9_sheetsTo_52 : decode cX9_sheetsTo 52 = .ok (.iload_n 1, 1) := by decide +kernel
theorem dX9_sheetsTo_53 : decode cX9_sheetsTo 53 = .ok (.invokevirtual 160, 3) := by decide +kernel
theorem dX9_sheetsTo_56 : decode cX9_sheetsTo 56 = .ok (.aload_n 0, 1) := by decide +kernel
theorem dX9_sheetsTo_57 : decode cX9_sheetsTo 57 = .ok (.getfield 93, 3) := by decide +kernel
theorem dX9_sheetsTo_60 : decode cX9_sheetsTo 60 = .ok (.ifCond .le 13, 3) := by decide +kernel
theorem dX9_sheetsTo_63 : decode cX9_sheetsTo 63 = .ok (.iload_n 3, 1) := by decide +kernel
theorem dX9_sheetsTo_64 : decode cX9_sheetsTo 64 = .ok (.bipush 20, 2) := by decide +kernel
theorem dX9_sheetsTo_66 : decode cX9_sheetsTo 66 = .ok (.if_icmp .ge 7, 3) := by decide +kernel
theorem dX9_sheetsTo_69 : decode cX9_sheetsTo 69 = .ok (.iconst 1, 1) := by decide +kernel
theorem dX9_sheetsTo_70 : decode cX9_sheetsTo 70 = .ok (.goto 4, 3) := by decide +kernel
theorem dX9_sheetsTo_73 : decode cX9_sheetsTo 73 = .ok (.iconst 0, 1) := by decide +kernel
theorem dX9_sheetsTo_74 : decode cX9_sheetsTo 74 = .ok (.istore 4, 2) := by decide +kernel
theorem dX9_sheetsTo_76 : decode cX9_sheetsTo 76 = .ok (.iload 4, 2) := by decide +kernel
theorem dX9_sheetsTo_78 : decode cX9_sheetsTo 78 = .ok (.ifCond .eq (-40), 3) := by decide +kernel
theorem dX9_sheetsTo_81 : decode cX9_sheetsTo 81 = .ok (.aload_n 0, 1) := by decide +kernel
theorem dX9_sheetsTo_82 : decode cX9_sheetsTo 82 = .ok (.invokevirtual 163, 3) := by decide +kernel
theorem dX9_sheetsTo_85 : decode cX9_sheetsTo 85 = .ok (.iinc 3 1, 3) := by decide +kernel
theorem dX9_sheetsTo_88 : decode cX9_sheetsTo 88 = .ok (.goto (-50), 3) := by decide +kernel
theorem dX9_sheetsTo_91 : decode cX9_sheetsTo 91 = .ok (.aload_n 0, 1) := by decide +kernel
theorem dX9_sheetsTo_92 : decode cX9_sheetsTo 92 = .ok (.getfield 16, 3) := by decide +kernel
theorem dX9_sheetsTo_95 : decode cX9_sheetsTo 95 = .ok (.aload_n 0, 1) := by decide +kernel
theorem dX9_sheetsTo_96 : decode cX9_sheetsTo 96 = .ok (.getfield 7, 3) := by decide +kernel
theorem dX9_sheetsTo_99 : decode cX9_sheetsTo 99 = .ok (.invokestatic 49, 3) := by decide +kernel
theorem dX9_sheetsTo_102 : decode cX9_sheetsTo 102 = .ok (.iload 4, 2) := by decide +kernel
theorem dX9_sheetsTo_104 : decode cX9_sheetsTo 104 = .ok (.ifCond .eq 7, 3) := by decide +kernel
theorem dX9_sheetsTo_107 : decode cX9_sheetsTo 107 = .ok (.iload_n 3, 1) := by decide +kernel
theorem dX9_sheetsTo_108 : decode cX9_sheetsTo 108 = .ok (.goto 5, 3) := by decide +kernel
theorem dX9_sheetsTo_111 : decode cX9_sheetsTo 111 = .ok (.bipush (-5), 2) := by decide +kernel
theorem dX9_sheetsTo_113 : decode cX9_sheetsTo 113 = .ok (.ireturn, 1) := by decide +kernel
set_option maxRecDepth 20000 in
theorem ggX9_greatestNeed_X9_needOf : GoodIn wsX9_greatestNeed wsX9_needOf := goodIn_r _ [5, 6, 7, 8, 9, 10, 11, 12, 13, 14, 15, 16, 17, 18, 19, 20, 21, 22, 23, 24, 25] (by decide +kernel) (by decide +kernel)
set_option maxRecDepth 20000 in
theorem gX9_greatestNeed_X9_needOf : GoodIn wsX9_greatestNeed (wsV RX9 90 RX9 yX9_needOf wsX9_needOf) := goodIn_app (goodIn_of _ (by decide +kernel)) ggX9_greatestNeed_X9_needOf
theorem dX9_greatestNeed_0 : decode cX9_greatestNeed 0 = .ok (.iconst 0, 1) := by decide +kernel
theorem dX9_greatestNeed_1 : decode cX9_greatestNeed 1 = .ok (.istore_n 3, 1) := by decide +kernel
theorem dX9_greatestNeed_2 : decode cX9_greatestNeed 2 = .ok (.iload_n 1, 1) := by decide +kernel
theorem dX9_greatestNeed_3 : decode cX9_greatestNeed 3 = .ok (.istore 4, 2) := by decide +kernel
theorem dX9_greatestNeed_5 : decode cX9_greatestNeed 5 = .ok (.iload 4, 2) := by decide +kernel
theorem dX9_greatestNeed_7 : decode cX9_greatestNeed 7 = .ok (.iload_n 2, 1) := by decide +kernel
theorem dX9_greatestNeed_8 : decode cX9_greatestNeed 8 = .ok (.if_icmp .ge 30, 3) := by decide +kernel
theorem dX9_greatestNeed_11 : decode cX9_greatestNeed 11 = .ok (.aload_n 0, 1) := by decide +kernel
theorem dX9_greatestNeed_12 : decode cX9_greatestNeed 12 = .ok (.iload 4, 2) := by decide +kernel
theorem dX9_greatestNeed_14 : decode cX9_greatestNeed 14 = .ok (.invokevirtual 90, 3) := by decide +kernel
theorem dX9_greatestNeed_17 : decode cX9_greatestNeed 17 = .ok (.iload_n 3, 1) := by decide +kernel
theorem dX9_greatestNeed_18 : decode cX9_greatestNeed 18 = .ok (.if_icmp .le 12, 3) := by decide +kernel
theorem dX9_greatestNeed_21 : decode cX9_greatestNeed 21 = .ok (.aload_n 0, 1) := by decide +kernel
theorem dX9_greatestNeed_22 : decode cX9_greatestNeed 22 = .ok (.iload 4, 2) := by decide +kernel
theorem dX9_greatestNeed_24 : decode cX9_greatestNeed 24 = .ok (.invokevirtual 90, 3) := by decide +kernel
theorem dX9_greatestNeed_27 : decode cX9_greatestNeed 27 = .ok (.goto 4, 3) := by decide +kernel
theorem dX9_greatestNeed_30 : decode cX9_greatestNeed 30 = .ok (.iload_n 3, 1) := by decide +kernel
theorem dX9_greatestNeed_31 : decode cX9_greatestNeed 31 = .ok (.istore_n 3, 1) := by decide +kernel
theorem dX9_greatestNeed_32 : decode cX9_greatestNeed 32 = .ok (.iinc 4 1, 3) := by decide +kernel
theorem dX9_greatestNeed_35 : decode cX9_greatestNeed 35 = .ok (.goto (-30), 3) := by decide +kernel
theorem dX9_greatestNeed_38 : decode cX9_greatestNeed 38 = .ok (.iload_n 3, 1) := by decide +kernel
theorem dX9_greatestNeed_39 : decode cX9_greatestNeed 39 = .ok (.ireturn, 1) := by decide +kernel
set_option maxRecDepth 20000 in
theorem ggX9_untriedIn_X9_isUntried : GoodIn wsX9_untriedIn wsX9_isUntried := goodIn_r _ [5, 6, 7, 8, 9, 10, 11, 12, 13, 14, 15, 16, 17, 18, 19, 20, 21, 22, 23, 24, 25] (by decide +kernel) (by decide +kernel)
set_option maxRecDepth 20000 in
theorem gX9_untriedIn_X9_isUntried : GoodIn wsX9_untriedIn (wsV RX9 86 RX9 yX9_isUntried wsX9_isUntried) := goodIn_app (goodIn_of _ (by decide +kernel)) ggX9_untriedIn_X9_isUntried
theorem dX9_untriedIn_0 : decode cX9_untriedIn 0 = .ok (.iconst 0, 1) := by decide +kernel
theorem dX9_untriedIn_1 : decode cX9_untriedIn 1 = .ok (.istore_n 3, 1) := by decide +kernel
theorem dX9_untriedIn_2 : decode cX9_untriedIn 2 = .ok (.iload_n 1, 1) := by decide +kernel
theorem dX9_untriedIn_3 : decode cX9_untriedIn 3 = .ok (.istore 4, 2) := by decide +kernel
theorem dX9_untriedIn_5 : decode cX9_untriedIn 5 = .ok (.iload 4, 2) := by decide +kernel
theorem dX9_untriedIn_7 : decode cX9_untriedIn 7 = .ok (.iload_n 2, 1) := by decide +kernel
theorem dX9_untriedIn_8 : decode cX9_untriedIn 8 = .ok (.if_icmp .ge 26, 3) := by decide +kernel
theorem dX9_untriedIn_11 : decode cX9_untriedIn 11 = .ok (.iload_n 3, 1) := by decide +kernel
theorem dX9_untriedIn_12 : decode cX9_untriedIn 12 = .ok (.aload_n 0, 1) := by decide +kernel
theorem dX9_untriedIn_13 : decode cX9_untriedIn 13 = .ok (.iload 4, 2) := by decide +kernel
theorem dX9_untriedIn_15 : decode cX9_untriedIn 15 = .ok (.invokevirtual 86, 3) := by decide +kernel
theorem dX9_untriedIn_18 : decode cX9_untriedIn 18 = .ok (.ifCond .eq 7, 3) := by decide +kernel
theorem dX9_untriedIn_21 : decode cX9_untriedIn 21 = .ok (.iconst 1, 1) := by decide +kernel
theorem dX9_untriedIn_22 : decode cX9_untriedIn 22 = .ok (.goto 4, 3) := by decide +kernel
theorem dX9_untriedIn_25 : decode cX9_untriedIn 25 = .ok (.iconst 0, 1) := by decide +kernel
theorem dX9_untriedIn_26 : decode cX9_untriedIn 26 = .ok (.iadd, 1) := by decide +kernel
theorem dX9_untriedIn_27 : decode cX9_untriedIn 27 = .ok (.istore_n 3, 1) := by decide +kernel
theorem dX9_untriedIn_28 : decode cX9_untriedIn 28 = .ok (.iinc 4 1, 3) := by decide +kernel
theorem dX9_untriedIn_31 : decode cX9_untriedIn 31 = .ok (.goto (-26), 3) := by decide +kernel
theorem dX9_untriedIn_34 : decode cX9_untriedIn 34 = .ok (.iload_n 3, 1) := by decide +kernel
theorem dX9_untriedIn_35 : decode cX9_untriedIn 35 = .ok (.ireturn, 1) := by decide +kernel
set_option maxRecDepth 20000 in
theorem ggX9_count_X9_untriedIn : GoodIn wsX9_count wsX9_untriedIn := goodIn_r _ [8, 9, 10, 11, 7, 12, 1, 21, 22, 23, 24, 25, 26, 27, 28, 29, 30, 31, 32, 33, 34, 35, 36, 37, 38, 39] (by decide +kernel) (by decide +kernel)
set_option maxRecDepth 20000 in
theorem gX9_count_X9_untriedIn : GoodIn wsX9_count (wsV RX9 199 RX9 yX9_untriedIn wsX9_untriedIn) := goodIn_app (goodIn_of _ (by decide +kernel)) ggX9_count_X9_untriedIn
set_option maxRecDepth 20000 in
theorem ggX9_count_X9_greatestNeed : GoodIn wsX9_count wsX9_greatestNeed := goodIn_r _ [16, 17, 18, 19, 7, 20, 1, 21, 22, 23, 24, 25, 26, 27, 28, 29, 30, 31, 32, 33, 34, 35, 36, 37, 38, 39] (by decide +kernel) (by decide +kernel)
set_option maxRecDepth 20000 in
theorem gX9_count_X9_greatestNeed : GoodIn wsX9_count (wsV RX9 202 RX9 yX9_greatestNeed wsX9_greatestNeed) := goodIn_app (goodIn_of _ (by decide +kernel)) ggX9_count_X9_greatestNeed
theorem dX9_count_0 : decode cX9_count 0 = .ok (.iload_n 1, 1) := by decide +kernel
theorem dX9_count_1 : decode cX9_count 1 = .ok (.tableswitch 155 0 11 #[63, 70, 77, 84, 92, 106, 114, 124, 131, 138, 145, 150], 63) := by decide +kernel
theorem dX9_count_64 : decode cX9_count 64 = .ok (.aload_n 0, 1) := by decide +kernel
theorem dX9_count_65 : decode cX9_count 65 = .ok (.getfield 7, 3) := by decide +kernel
theorem dX9_count_68 : decode cX9_count 68 = .ok (.iconst 5, 1) := by decide +kernel
theorem dX9_count_69 : decode cX9_count 69 = .ok (.iaload, 1) := by decide +kernel
theorem dX9_count_70 : decode cX9_count 70 = .ok (.ireturn, 1) := by decide +kernel
theorem dX9_count_71 : decode cX9_count 71 = .ok (.aload_n 0, 1) := by decide +kernel
theorem dX9_count_72 : decode cX9_count 72 = .ok (.getfield 7, 3) := by decide +kernel
theorem dX9_count_75 : decode cX9_count 75 = .ok (.iconst 1, 1) := by decide +kernel
theorem dX9_count_76 : decode cX9_count 76 = .ok (.iaload, 1) := by decide +kernel
theorem dX9_count_77 : decode cX9_count 77 = .ok (.ireturn, 1) := by decide +kernel
theorem dX9_count_78 : decode cX9_count 78 = .ok (.aload_n 0, 1) := by decide +kernel
theorem dX9_count_79 : decode cX9_count 79 = .ok (.getfield 7, 3) := by decide +kernel
theorem dX9_count_82 : decode cX9_count 82 = .ok (.iconst 0, 1) := by decide +kernel
theorem dX9_count_83 : decode cX9_count 83 = .ok (.iaload, 1) := by decide +kernel
theorem dX9_count_84 : decode cX9_count 84 = .ok (.ireturn, 1) := by decide +kernel
theorem dX9_count_85 : decode cX9_count 85 = .ok (.aload_n 0, 1) := by decide +kernel
theorem dX9_count_86 : decode cX9_count 86 = .ok (.iconst 0, 1) := by decide +kernel
theorem dX9_count_87 : decode cX9_count 87 = .ok (.bipush 26, 2) := by decide +kernel
theorem dX9_count_89 : decode cX9_count 89 = .ok (.invokevirtual 199, 3) := by decide +kernel
theorem dX9_count_92 : decode cX9_count 92 = .ok (.ireturn, 1) := by decide +kernel
theorem dX9_count_93 : decode cX9_count 93 = .ok (.sipush 676, 3) := by decide +kernel
theorem dX9_count_96 : decode cX9_count 96 = .ok (.aload_n 0, 1) := by decide +kernel
theorem dX9_count_97 : decode cX9_count 97 = .ok (.bipush 26, 2) := by decide +kernel
theorem dX9_count_99 : decode cX9_count 99 = .ok (.sipush 702, 3) := by decide +kernel
theorem dX9_count_102 : decode cX9_count 102 = .ok (.invokevirtual 199, 3) := by decide +kernel
theorem dX9_count_105 : decode cX9_count 105 = .ok (.isub, 1) := by decide +kernel
theorem dX9_count_106 : decode cX9_count 106 = .ok (.ireturn, 1) := by decide +kernel
theorem dX9_count_107 : decode cX9_count 107 = .ok (.aload_n 0, 1) := by decide +kernel
theorem dX9_count_108 : decode cX9_count 108 = .ok (.iconst 0, 1) := by decide +kernel
theorem dX9_count_109 : decode cX9_count 109 = .ok (.bipush 26, 2) := by decide +kernel
theorem dX9_count_111 : decode cX9_count 111 = .ok (.invokevirtual 202, 3) := by decide +kernel
theorem dX9_count_114 : decode cX9_count 114 = .ok (.ireturn, 1) := by decide +kernel
theorem dX9_count_115 : decode cX9_count 115 = .ok (.aload_n 0, 1) := by decide +kernel
theorem dX9_count_116 : decode cX9_count 116 = .ok (.bipush 26, 2) := by decide +kernel
theorem dX9_count_118 : decode cX9_count 118 = .ok (.sipush 702, 3) := by decide +kernel
theorem dX9_count_121 : decode cX9_count 121 = .ok (.invokevirtual 202, 3) := by decide +kernel
theorem dX9_count_124 : decode cX9_count 124 = .ok (.ireturn, 1) := by decide +kernel
theorem dX9_count_125 : decode cX9_count 125 = .ok (.aload_n 0, 1) := by decide +kernel
theorem dX9_count_126 : decode cX9_count 126 = .ok (.getfield 7, 3) := by decide +kernel
theorem dX9_count_129 : decode cX9_count 129 = .ok (.iconst 2, 1) := by decide +kernel
theorem dX9_count_130 : decode cX9_count 130 = .ok (.iaload, 1) := by decide +kernel
theorem dX9_count_131 : decode cX9_count 131 = .ok (.ireturn, 1) := by decide +kernel
theorem dX9_count_132 : decode cX9_count 132 = .ok (.aload_n 0, 1) := by decide +kernel
theorem dX9_count_133 : decode cX9_count 133 = .ok (.getfield 7, 3) := by decide +kernel
theorem dX9_count_136 : decode cX9_count 136 = .ok (.iconst 3, 1) := by decide +kernel
theorem dX9_count_137 : decode cX9_count 137 = .ok (.iaload, 1) := by decide +kernel
theorem dX9_count_138 : decode cX9_count 138 = .ok (.ireturn, 1) := by decide +kernel
theorem dX9_count_139 : decode cX9_count 139 = .ok (.aload_n 0, 1) := by decide +kernel
theorem dX9_count_140 : decode cX9_count 140 = .ok (.getfield 7, 3) := by decide +kernel
theorem dX9_count_143 : decode cX9_count 143 = .ok (.iconst 4, 1) := by decide +kernel
theorem dX9_count_144 : decode cX9_count 144 = .ok (.iaload, 1) := by decide +kernel
theorem dX9_count_145 : decode cX9_count 145 = .ok (.ireturn, 1) := by decide +kernel
theorem dX9_count_146 : decode cX9_count 146 = .ok (.aload_n 0, 1) := by decide +kernel
theorem dX9_count_147 : decode cX9_count 147 = .ok (.getfield 53, 3) := by decide +kernel
theorem dX9_count_150 : decode cX9_count 150 = .ok (.ireturn, 1) := by decide +kernel
theorem dX9_count_151 : decode cX9_count 151 = .ok (.aload_n 0, 1) := by decide +kernel
theorem dX9_count_152 : decode cX9_count 152 = .ok (.getfield 113, 3) := by decide +kernel
theorem dX9_count_155 : decode cX9_count 155 = .ok (.ireturn, 1) := by decide +kernel
theorem dX9_count_156 : decode cX9_count 156 = .ok (.bipush (-2), 2) := by decide +kernel
theorem dX9_count_158 : decode cX9_count 158 = .ok (.ireturn, 1) := by decide +kernel
end
section
/-! ===== LAYER 1: the weakest preconditions, method by method (printed by wip/whole/gen.py out of the bytecode) ===== -/
def wX0_dropOldest_L9   (X0 : gW → Int32 → Prop) : Nat → gW → Int32 → Prop
  | 0, _, _ => False
  | n3 + 1, M4, x2_5 => ((4 : Int32) ≤ x2_5 → (X0 M4 x2_5)) ∧ (¬ ((4 : Int32) ≤ x2_5) → ((vp_in x2_5 4) ∧ (((M4 11 0 x2_5.toNatClampNeg).toNatClampNeg < 7) ∧ ((vp_in (x2_5 - (1 : Int32)) 4) ∧ (∀ M10 : gW, M10 = gU M4 11 0 (upd (M4 11 0) (x2_5 - (1 : Int32)).toNatClampNeg (nI ((M4 11 0 x2_5.toNatClampNeg).toNatClampNeg))) → (wX0_dropOldest_L9 X0 n3 M10 (x2_5 + (1 : Int32))))))))
def wX0_dropOldest (M0 : gW) (K : gW → Prop) : Prop := (vp_in (0 : Int32) 4) ∧ (((M0 11 0 (0 : Int32).toNatClampNeg).toNatClampNeg < 7) ∧ (∃ n19 : Nat, wX0_dropOldest_L9 (fun M12 x2_13 => ((vp_in (3 : Int32) 4) ∧ (∀ M15 : gW, M15 = gU M12 11 0 (upd (M12 11 0) (3 : Int32).toNatClampNeg (nI ((M0 11 0 (0 : Int32).toNatClampNeg).toNatClampNeg))) → (∀ M17 : gW, M17 = gU M15 10 0 (upd (M15 10 0) 1 ((M15 10 0 1) - (1 : Int32))) → (K M17))))) n19 M0 (1 : Int32)))
def wX1_copyFrom (M0 : gW) (k0 : Nat) (k1 : Nat) (K : gW → Prop) : Prop := ∀ M1 : gW, M1 = gU M0 3 k0 (va_cpy (M0 3 k1) (M0 3 k0) 0 0 702) → (∀ M3 : gW, M3 = gU M1 4 k0 (va_cpy (M1 4 k1) (M1 4 k0) 0 0 702) → (K M3))
def wX6_copyFrom (M0 : gW) (k0 : Nat) (k1 : Nat) (K : gW → Prop) : Prop := ∀ M1 : gW, M1 = gU M0 8 k0 (va_cpy (M0 8 k1) (M0 8 k0) 0 0 15) → (∀ M3 : gW, M3 = gU M1 9 k0 (va_cpy (M1 9 k1) (M1 9 k0) 0 0 29) → (∀ M5 : gW, M5 = gU M3 7 k0 (upd (M3 7 k0) 2 (M3 7 k1 2)) → (∀ M7 : gW, M7 = gU M5 7 k0 (upd (M5 7 k0) 3 (M5 7 k1 3)) → (K M7))))
def wX7_copyFrom_L2 (k0 : Nat) (k1 : Nat)  (X0 : gW → Int32 → Prop) : Nat → gW → Int32 → Prop
  | 0, _, _ => False
  | n1 + 1, M2, x2_3 => ((M2 5 k1 1) ≤ x2_3 → (X0 M2 x2_3)) ∧ (¬ ((M2 5 k1 1) ≤ x2_3) → ((vp_in x2_3 20) ∧ ((vp_in x2_3 20) ∧ (wX6_copyFrom M2 (20 * k0 + x2_3.toNatClampNeg) (20 * k1 + x2_3.toNatClampNeg) (fun M7 => (wX7_copyFrom_L2 k0 k1 X0 n1 M7 (x2_3 + (1 : Int32))))))))
def wX7_copyFrom (M0 : gW) (k0 : Nat) (k1 : Nat) (K : gW → Prop) : Prop := ∃ n12 : Nat, wX7_copyFrom_L2 k0 k1 (fun M8 x2_9 => (∀ M10 : gW, M10 = gU M8 5 k0 (upd (M8 5 k0) 1 (M8 5 k1 1)) → (K M10))) n12 M0 (0 : Int32)
def wX4_copyFrom (M0 : gW) (k0 : Nat) (k1 : Nat) (K : gW → Prop) : Prop := wX1_copyFrom M0 k0 k1 (fun M1 => (wX7_copyFrom M1 k0 k1 (fun M2 => (∀ M3 : gW, M3 = gU M2 1 k0 (upd (M2 1 k0) 2 (M2 1 k1 2)) → (∀ M5 : gW, M5 = gU M3 1 k0 (upd (M3 1 k0) 3 (M3 1 k1 3)) → (∀ M7 : gW, M7 = gU M5 1 k0 (upd (M5 1 k0) 4 (M5 1 k1 4)) → (∀ M9 : gW, M9 = gU M7 1 k0 (upd (M7 1 k0) 5 (M7 1 k1 5)) → (∀ M11 : gW, M11 = gU M9 1 k0 (upd (M9 1 k0) 6 (M9 1 k1 6)) → (K M11)))))))))
def wX0_remember (M0 : gW) (k1 : Nat) (K : gW → Prop) : Prop := ((M0 10 0 1) < (4 : Int32) → ((vp_in (M0 10 0 1) 4) ∧ (((M0 11 0 (M0 10 0 1).toNatClampNeg).toNatClampNeg < 7) ∧ (wX4_copyFrom M0 ((M0 11 0 (M0 10 0 1).toNatClampNeg).toNatClampNeg) k1 (fun M4 => (∀ M5 : gW, M5 = gU M4 10 0 (upd (M4 10 0) 1 ((M4 10 0 1) + (1 : Int32))) → (K M5))))))) ∧ (¬ ((M0 10 0 1) < (4 : Int32)) → (wX0_dropOldest M0 (fun M7 => ((vp_in (M7 10 0 1) 4) ∧ (((M7 11 0 (M7 10 0 1).toNatClampNeg).toNatClampNeg < 7) ∧ (wX4_copyFrom M7 ((M7 11 0 (M7 10 0 1).toNatClampNeg).toNatClampNeg) k1 (fun M10 => (∀ M11 : gW, M11 = gU M10 10 0 (upd (M10 10 0) 1 ((M10 10 0 1) + (1 : Int32))) → (K M11)))))))))
def wX0_takeBack (M0 : gW) (k1 : Nat) (K : Int32 → gW → Prop) : Prop := ((M0 10 0 1) = 0 → (K (0 : Int32) M0)) ∧ (¬ ((M0 10 0 1) = 0) → (∀ M2 : gW, M2 = gU M0 10 0 (upd (M0 10 0) 1 ((M0 10 0 1) - (1 : Int32))) → ((vp_in (M2 10 0 1) 4) ∧ (((M2 11 0 (M2 10 0 1).toNatClampNeg).toNatClampNeg < 7) ∧ (wX4_copyFrom M2 k1 ((M2 11 0 (M2 10 0 1).toNatClampNeg).toNatClampNeg) (fun M6 => (K (1 : Int32) M6)))))))
def wX8_isPart (M0 : gW) (a0 : Int32) (K : Int32 → gW → Prop) : Prop := (a0 < 0 → (K (0 : Int32) M0)) ∧ (¬ (a0 < 0) → (((702 : Int32) ≤ a0 → (K (0 : Int32) M0)) ∧ (¬ ((702 : Int32) ≤ a0) → (K (1 : Int32) M0))))
def wX1_triesOf (M0 : gW) (k0 : Nat) (a1 : Int32) (K : Int32 → gW → Prop) : Prop := wX8_isPart M0 a1 (fun r2 M1 => ((r2 = 0 → (K (0 : Int32) M1)) ∧ (¬ (r2 = 0) → ((vp_in a1 702) ∧ (K (M1 3 k0 a1.toNatClampNeg) M1)))))
def wX1_slipsOf (M0 : gW) (k0 : Nat) (a1 : Int32) (K : Int32 → gW → Prop) : Prop := wX8_isPart M0 a1 (fun r2 M1 => ((r2 = 0 → (K (0 : Int32) M1)) ∧ (¬ (r2 = 0) → ((vp_in a1 702) ∧ (K (M1 4 k0 a1.toNatClampNeg) M1)))))
def wX1_needOf (M0 : gW) (k0 : Nat) (a1 : Int32) (K : Int32 → gW → Prop) : Prop := wX1_slipsOf M0 k0 a1 (fun r2 M1 => (wX1_triesOf M1 k0 a1 (fun r4 M3 => ((¬ ((if r4 < (0 : Int32) then (0 : Int32) else r4) + (2 : Int32)) = 0) ∧ (K (((100 : Int32) * r2) / ((if r4 < (0 : Int32) then (0 : Int32) else r4) + (2 : Int32))) M3)))))
def wX1_isUntried (M0 : gW) (k0 : Nat) (a1 : Int32) (K : Int32 → gW → Prop) : Prop := wX1_triesOf M0 k0 a1 (fun r2 M1 => ((r2 = 0 → (K (1 : Int32) M1)) ∧ (¬ (r2 = 0) → (K (0 : Int32) M1))))
def wX1_addTry (M0 : gW) (k0 : Nat) (a1 : Int32) (K : gW → Prop) : Prop := wX8_isPart M0 a1 (fun r2 M1 => ((r2 = 0 → (K M1)) ∧ (¬ (r2 = 0) → ((vp_in a1 702) ∧ (((9999 : Int32) ≤ (M1 3 k0 a1.toNatClampNeg) → (K M1)) ∧ (¬ ((9999 : Int32) ≤ (M1 3 k0 a1.toNatClampNeg)) → ((vp_in a1 702) ∧ ((vp_in a1 702) ∧ (∀ M8 : gW, M8 = gU M1 3 k0 (upd (M1 3 k0) a1.toNatClampNeg ((M1 3 k0 a1.toNatClampNeg) + (1 : Int32))) → (K M8))))))))))
def wX1_addSlip (M0 : gW) (k0 : Nat) (a1 : Int32) (K : gW → Prop) : Prop := wX8_isPart M0 a1 (fun r2 M1 => ((r2 = 0 → (K M1)) ∧ (¬ (r2 = 0) → ((vp_in a1 702) ∧ (((9999 : Int32) ≤ (M1 4 k0 a1.toNatClampNeg) → (K M1)) ∧ (¬ ((9999 : Int32) ≤ (M1 4 k0 a1.toNatClampNeg)) → ((vp_in a1 702) ∧ ((vp_in a1 702) ∧ (∀ M8 : gW, M8 = gU M1 4 k0 (upd (M1 4 k0) a1.toNatClampNeg ((M1 4 k0 a1.toNatClampNeg) + (1 : Int32))) → (K M8))))))))))
def wX8_joinPart (M0 : gW) (a0 : Int32) (a1 : Int32) (K : Int32 → gW → Prop) : Prop := K (((26 : Int32) + ((26 : Int32) * a0)) + a1) M0
def wX1_addTriesOf_L2 (k0 : Nat) (k1 : Nat)  (X0 : gW → Int32 → Prop) : Nat → gW → Int32 → Prop
  | 0, _, _ => False
  | n1 + 1, M2, x2_3 => ((M2 7 k1 2) ≤ x2_3 → (X0 M2 x2_3)) ∧ (¬ ((M2 7 k1 2) ≤ x2_3) → ((vp_in x2_3 15) ∧ (wX1_addTry M2 k0 (M2 8 k1 x2_3.toNatClampNeg) (fun M6 => ((x2_3 ≤ 0 → (wX1_addTriesOf_L2 k0 k1 X0 n1 M6 (x2_3 + (1 : Int32)))) ∧ (¬ (x2_3 ≤ 0) → ((vp_in (x2_3 - (1 : Int32)) 15) ∧ ((vp_in x2_3 15) ∧ (wX8_joinPart M6 (M6 8 k1 (x2_3 - (1 : Int32)).toNatClampNeg) (M6 8 k1 x2_3.toNatClampNeg) (fun r11 M10 => (wX1_addTry M10 k0 r11 (fun M12 => (wX1_addTriesOf_L2 k0 k1 X0 n1 M12 (x2_3 + (1 : Int32)))))))))))))))
def wX1_addTriesOf (M0 : gW) (k0 : Nat) (k1 : Nat) (K : gW → Prop) : Prop := ∃ n15 : Nat, wX1_addTriesOf_L2 k0 k1 (fun M13 x2_14 => (K M13)) n15 M0 (0 : Int32)
def wX1_fade_L4 (k0 : Nat) (a1 : Int32)  (X0 : gW → Int32 → Int32 → Prop) : Nat → gW → Int32 → Int32 → Prop
  | 0, _, _, _ => False
  | n1 + 1, M2, x2_3, x3_4 => ((702 : Int32) ≤ x3_4 → (X0 M2 x2_3 x3_4)) ∧ (¬ ((702 : Int32) ≤ x3_4) → ((vp_in x3_4 702) ∧ (((M2 3 k0 x3_4.toNatClampNeg) ≤ 0 → ((vp_in x3_4 702) ∧ ((vp_in x3_4 702) ∧ (∀ M10 : gW, M10 = gU M2 3 k0 (upd (M2 3 k0) x3_4.toNatClampNeg ((M2 3 k0 x3_4.toNatClampNeg) >>> (a1 &&& 31))) → ((vp_in x3_4 702) ∧ ((vp_in x3_4 702) ∧ (∀ M14 : gW, M14 = gU M10 4 k0 (upd (M10 4 k0) x3_4.toNatClampNeg ((M10 4 k0 x3_4.toNatClampNeg) >>> (a1 &&& 31))) → (wX1_fade_L4 k0 a1 X0 n1 M14 x2_3 (x3_4 + (1 : Int32)))))))))) ∧ (¬ ((M2 3 k0 x3_4.toNatClampNeg) ≤ 0) → ((vp_in x3_4 702) ∧ ((vp_in x3_4 702) ∧ (∀ M18 : gW, M18 = gU M2 3 k0 (upd (M2 3 k0) x3_4.toNatClampNeg ((M2 3 k0 x3_4.toNatClampNeg) >>> (a1 &&& 31))) → ((vp_in x3_4 702) ∧ ((vp_in x3_4 702) ∧ (∀ M22 : gW, M22 = gU M18 4 k0 (upd (M18 4 k0) x3_4.toNatClampNeg ((M18 4 k0 x3_4.toNatClampNeg) >>> (a1 &&& 31))) → ((vp_in x3_4 702) ∧ (((M22 3 k0 x3_4.toNatClampNeg) = 0 → (wX1_fade_L4 k0 a1 X0 n1 M22 (x2_3 + (1 : Int32)) (x3_4 + (1 : Int32)))) ∧ (¬ ((M22 3 k0 x3_4.toNatClampNeg) = 0) → (wX1_fade_L4 k0 a1 X0 n1 M22 x2_3 (x3_4 + (1 : Int32))))))))))))))))
def wX1_fade (M0 : gW) (k0 : Nat) (a1 : Int32) (K : Int32 → gW → Prop) : Prop := ∃ n29 : Nat, wX1_fade_L4 k0 a1 (fun M26 x2_27 x3_28 => (K x2_27 M26)) n29 M0 (0 : Int32) (0 : Int32)
def wX1_needOfAll_L4 (k0 : Nat) (k1 : Nat)  (X0 : gW → Int32 → Int32 → Prop) : Nat → gW → Int32 → Int32 → Prop
  | 0, _, _, _ => False
  | n1 + 1, M2, x2_3, x3_4 => ((M2 7 k1 3) ≤ x3_4 → (X0 M2 x2_3 x3_4)) ∧ (¬ ((M2 7 k1 3) ≤ x3_4) → ((vp_in x3_4 29) ∧ (wX1_needOf M2 k0 (M2 9 k1 x3_4.toNatClampNeg) (fun r8 M7 => (wX1_needOfAll_L4 k0 k1 X0 n1 M7 (x2_3 + r8) (x3_4 + (1 : Int32)))))))
def wX1_needOfAll (M0 : gW) (k0 : Nat) (k1 : Nat) (K : Int32 → gW → Prop) : Prop := ∃ n12 : Nat, wX1_needOfAll_L4 k0 k1 (fun M9 x2_10 x3_11 => (K x2_10 M9)) n12 M0 (0 : Int32) (0 : Int32)
def wX1_untriedOf_L4 (k0 : Nat) (k1 : Nat)  (X0 : gW → Int32 → Int32 → Prop) : Nat → gW → Int32 → Int32 → Prop
  | 0, _, _, _ => False
  | n1 + 1, M2, x2_3, x3_4 => ((M2 7 k1 3) ≤ x3_4 → (X0 M2 x2_3 x3_4)) ∧ (¬ ((M2 7 k1 3) ≤ x3_4) → ((vp_in x3_4 29) ∧ (wX1_isUntried M2 k0 (M2 9 k1 x3_4.toNatClampNeg) (fun r8 M7 => ((r8 = 0 → (wX1_untriedOf_L4 k0 k1 X0 n1 M7 x2_3 (x3_4 + (1 : Int32)))) ∧ (¬ (r8 = 0) → (wX1_untriedOf_L4 k0 k1 X0 n1 M7 (x2_3 + (1 : Int32)) (x3_4 + (1 : Int32)))))))))
def wX1_untriedOf (M0 : gW) (k0 : Nat) (k1 : Nat) (K : Int32 → gW → Prop) : Prop := ∃ n13 : Nat, wX1_untriedOf_L4 k0 k1 (fun M10 x2_11 x3_12 => (K x2_11 M10)) n13 M0 (0 : Int32) (0 : Int32)
def wX1_greatestNeedOf_L4 (k0 : Nat) (k1 : Nat)  (X0 : gW → Int32 → Int32 → Prop) : Nat → gW → Int32 → Int32 → Prop
  | 0, _, _, _ => False
  | n1 + 1, M2, x2_3, x3_4 => ((M2 7 k1 3) ≤ x3_4 → (X0 M2 x2_3 x3_4)) ∧ (¬ ((M2 7 k1 3) ≤ x3_4) → ((vp_in x3_4 29) ∧ (wX1_needOf M2 k0 (M2 9 k1 x3_4.toNatClampNeg) (fun r8 M7 => (wX1_greatestNeedOf_L4 k0 k1 X0 n1 M7 (if x2_3 < r8 then r8 else x2_3) (x3_4 + (1 : Int32)))))))
def wX1_greatestNeedOf (M0 : gW) (k0 : Nat) (k1 : Nat) (K : Int32 → gW → Prop) : Prop := ∃ n12 : Nat, wX1_greatestNeedOf_L4 k0 k1 (fun M9 x2_10 x3_11 => (K x2_10 M9)) n12 M0 (0 : Int32) (0 : Int32)
def wX1_greatestNeedFrom_L5 (k0 : Nat) (a2 : Int32)  (X0 : gW → Int32 → Int32 → Prop) : Nat → gW → Int32 → Int32 → Prop
  | 0, _, _, _ => False
  | n1 + 1, M2, x3_3, x4_4 => (a2 ≤ x4_4 → (X0 M2 x3_3 x4_4)) ∧ (¬ (a2 ≤ x4_4) → (wX1_needOf M2 k0 x4_4 (fun r7 M6 => (wX1_greatestNeedFrom_L5 k0 a2 X0 n1 M6 (if x3_3 < r7 then r7 else x3_3) (x4_4 + (1 : Int32))))))
def wX1_greatestNeedFrom (M0 : gW) (k0 : Nat) (a1 : Int32) (a2 : Int32) (K : Int32 → gW → Prop) : Prop := ∃ n11 : Nat, wX1_greatestNeedFrom_L5 k0 a2 (fun M8 x3_9 x4_10 => (K x3_9 M8)) n11 M0 (0 : Int32) a1
def wX1_triedFrom_L5 (k0 : Nat) (a2 : Int32)  (X0 : gW → Int32 → Int32 → Prop) : Nat → gW → Int32 → Int32 → Prop
  | 0, _, _, _ => False
  | n1 + 1, M2, x3_3, x4_4 => (a2 ≤ x4_4 → (X0 M2 x3_3 x4_4)) ∧ (¬ (a2 ≤ x4_4) → (wX1_isUntried M2 k0 x4_4 (fun r7 M6 => ((r7 = 0 → (wX1_triedFrom_L5 k0 a2 X0 n1 M6 (x3_3 + (1 : Int32)) (x4_4 + (1 : Int32)))) ∧ (¬ (r7 = 0) → (wX1_triedFrom_L5 k0 a2 X0 n1 M6 x3_3 (x4_4 + (1 : Int32))))))))
def wX1_triedFrom (M0 : gW) (k0 : Nat) (a1 : Int32) (a2 : Int32) (K : Int32 → gW → Prop) : Prop := ∃ n12 : Nat, wX1_triedFrom_L5 k0 a2 (fun M9 x3_10 x4_11 => (K x3_10 M9)) n12 M0 (0 : Int32) a1
def wX2_countNeeds_L27 (k1 : Nat) (a3 : Int32)  (X0 : gW → Int32 → Prop) : Nat → gW → Int32 → Prop
  | 0, _, _ => False
  | n10 + 1, M11, x4_12 => (a3 ≤ x4_12 → (X0 M11 x4_12)) ∧ (¬ (a3 ≤ x4_12) → (wX1_needOf M11 k1 x4_12 (fun r15 M14 => ((r15 < 0 → (wX2_countNeeds_L27 k1 a3 X0 n10 M14 (x4_12 + (1 : Int32)))) ∧ (¬ (r15 < 0) → (((99 : Int32) < r15 → (wX2_countNeeds_L27 k1 a3 X0 n10 M14 (x4_12 + (1 : Int32)))) ∧ (¬ ((99 : Int32) < r15) → ((vp_in r15 100) ∧ ((vp_in r15 100) ∧ (∀ M20 : gW, M20 = gU M14 20 0 (upd (M14 20 0) r15.toNatClampNeg ((M14 20 0 r15.toNatClampNeg) + (1 : Int32))) → (wX2_countNeeds_L27 k1 a3 X0 n10 M20 (x4_12 + (1 : Int32)))))))))))))
def wX2_countNeeds_L3   (X0 : gW → Int32 → Prop) : Nat → gW → Int32 → Prop
  | 0, _, _ => False
  | n1 + 1, M2, x4_3 => ((99 : Int32) < x4_3 → (X0 M2 x4_3)) ∧ (¬ ((99 : Int32) < x4_3) → ((vp_in x4_3 100) ∧ (∀ M6 : gW, M6 = gU M2 20 0 (upd (M2 20 0) x4_3.toNatClampNeg (0 : Int32)) → (wX2_countNeeds_L3 X0 n1 M6 (x4_3 + (1 : Int32))))))
def wX2_countNeeds (M0 : gW) (k1 : Nat) (a2 : Int32) (a3 : Int32) (K : gW → Prop) : Prop := ∃ n25 : Nat, wX2_countNeeds_L3 (fun M8 x4_9 => (∃ n24 : Nat, wX2_countNeeds_L27 k1 a3 (fun M22 x4_23 => (K M22)) n24 M8 a2)) n25 M0 (0 : Int32)
def wX2_partWithNeed_L7 (k0 : Nat) (a2 : Int32) (a3 : Int32) (K : Int32 → gW → Prop) (X0 : gW → Int32 → Int32 → Prop) : Nat → gW → Int32 → Int32 → Prop
  | 0, _, _, _ => False
  | n1 + 1, M2, x5_3, x6_4 => (a2 ≤ x6_4 → (X0 M2 x5_3 x6_4)) ∧ (¬ (a2 ≤ x6_4) → (wX1_needOf M2 k0 x6_4 (fun r7 M6 => ((r7 = a3 → ((x5_3 = 0 → (K x6_4 M6)) ∧ (¬ (x5_3 = 0) → (wX2_partWithNeed_L7 k0 a2 a3 K X0 n1 M6 (x5_3 + (-1 : Int32)) (x6_4 + (1 : Int32)))))) ∧ (¬ (r7 = a3) → (wX2_partWithNeed_L7 k0 a2 a3 K X0 n1 M6 x5_3 (x6_4 + (1 : Int32))))))))
def wX2_partWithNeed (M0 : gW) (k0 : Nat) (a1 : Int32) (a2 : Int32) (a3 : Int32) (a4 : Int32) (K : Int32 → gW → Prop) : Prop := ∃ n13 : Nat, wX2_partWithNeed_L7 k0 a2 a3 K (fun M10 x5_11 x6_12 => (K (-5 : Int32) M10)) n13 M0 a4 a1
def wX2_partAt_L15 (k1 : Nat) (a2 : Int32) (a3 : Int32) (K : Int32 → gW → Prop) (X0 : gW → Int32 → Int32 → Prop) : Nat → gW → Int32 → Int32 → Prop
  | 0, _, _, _ => False
  | n2 + 1, M3, x5_4, x6_5 => (x6_5 ≤ 0 → (X0 M3 x5_4 x6_5)) ∧ (¬ (x6_5 ≤ 0) → ((vp_in x6_5 100) ∧ (((M3 20 0 x6_5.toNatClampNeg) ≤ x5_4 → ((vp_in x6_5 100) ∧ (wX2_partAt_L15 k1 a2 a3 K X0 n2 M3 (x5_4 - (M3 20 0 x6_5.toNatClampNeg)) (x6_5 + (-1 : Int32))))) ∧ (¬ ((M3 20 0 x6_5.toNatClampNeg) ≤ x5_4) → (wX2_partWithNeed M3 k1 a2 a3 x6_5 x5_4 (fun r11 M10 => (K r11 M10)))))))
def wX2_partAt (M0 : gW) (k1 : Nat) (a2 : Int32) (a3 : Int32) (a4 : Int32) (K : Int32 → gW → Prop) : Prop := wX2_countNeeds M0 k1 a2 a3 (fun M1 => (∃ n15 : Nat, wX2_partAt_L15 k1 a2 a3 K (fun M12 x5_13 x6_14 => (K (-5 : Int32) M12)) n15 M1 a4 (99 : Int32)))
def wX3_clear_L24   (X0 : gW → Int32 → Prop) : Nat → gW → Int32 → Prop
  | 0, _, _ => False
  | n10 + 1, M11, x1_12 => ((20 : Int32) ≤ x1_12 → (X0 M11 x1_12)) ∧ (¬ ((20 : Int32) ≤ x1_12) → ((vp_in x1_12 20) ∧ (∀ M15 : gW, M15 = gU M11 18 0 (upd (M11 18 0) x1_12.toNatClampNeg (0 : Int32)) → (wX3_clear_L24 X0 n10 M15 (x1_12 + (1 : Int32))))))
def wX3_clear_L2   (X0 : gW → Int32 → Prop) : Nat → gW → Int32 → Prop
  | 0, _, _ => False
  | n1 + 1, M2, x1_3 => ((702 : Int32) ≤ x1_3 → (X0 M2 x1_3)) ∧ (¬ ((702 : Int32) ≤ x1_3) → ((vp_in x1_3 702) ∧ (∀ M6 : gW, M6 = gU M2 17 0 (upd (M2 17 0) x1_3.toNatClampNeg (0 : Int32)) → (wX3_clear_L2 X0 n1 M6 (x1_3 + (1 : Int32))))))
def wX3_clear (M0 : gW) (K : gW → Prop) : Prop := ∃ n22 : Nat, wX3_clear_L2 (fun M8 x1_9 => (∃ n21 : Nat, wX3_clear_L24 (fun M17 x1_18 => (∀ M19 : gW, M19 = gU M17 14 0 (upd (M17 14 0) 4 (0 : Int32)) → (K M19))) n21 M8 (0 : Int32))) n22 M0 (0 : Int32)
def wX3_gainOf_L5 (k1 : Nat) (k2 : Nat)  (X0 : gW → Int32 → Int32 → Prop) : Nat → gW → Int32 → Int32 → Prop
  | 0, _, _, _ => False
  | n1 + 1, M2, x3_3, x4_4 => ((M2 7 k1 3) ≤ x4_4 → (X0 M2 x3_3 x4_4)) ∧ (¬ ((M2 7 k1 3) ≤ x4_4) → ((vp_in x4_4 29) ∧ (wX1_isUntried M2 k2 (M2 9 k1 x4_4.toNatClampNeg) (fun r8 M7 => ((r8 = 0 → (wX8_isPart M7 (M2 9 k1 x4_4.toNatClampNeg) (fun r11 M10 => ((r11 = 0 → (wX1_needOf M10 k2 (M2 9 k1 x4_4.toNatClampNeg) (fun r14 M13 => (wX3_gainOf_L5 k1 k2 X0 n1 M13 (x3_3 + r14) (x4_4 + (1 : Int32)))))) ∧ (¬ (r11 = 0) → ((vp_in (M2 9 k1 x4_4.toNatClampNeg) 702) ∧ (((M10 17 0 (M2 9 k1 x4_4.toNatClampNeg).toNatClampNeg) = 0 → (wX1_needOf M10 k2 (M2 9 k1 x4_4.toNatClampNeg) (fun r18 M17 => (wX3_gainOf_L5 k1 k2 X0 n1 M17 (x3_3 + r18) (x4_4 + (1 : Int32)))))) ∧ (¬ ((M10 17 0 (M2 9 k1 x4_4.toNatClampNeg).toNatClampNeg) = 0) → (wX1_needOf M10 k2 (M2 9 k1 x4_4.toNatClampNeg) (fun r20 M19 => (wX3_gainOf_L5 k1 k2 X0 n1 M19 (x3_3 + (r20 / (2 : Int32))) (x4_4 + (1 : Int32))))))))))))) ∧ (¬ (r8 = 0) → (wX3_gainOf_L5 k1 k2 X0 n1 M7 (x3_3 + (M7 1 k2 3)) (x4_4 + (1 : Int32)))))))))
def wX3_gainOf (M0 : gW) (k1 : Nat) (k2 : Nat) (K : Int32 → gW → Prop) : Prop := ∃ n24 : Nat, wX3_gainOf_L5 k1 k2 (fun M21 x3_22 x4_23 => (K x3_22 M21)) n24 M0 (0 : Int32) (0 : Int32)
def wX3_addLine_L40 (k3 : Nat)  (X0 : gW → Int32 → Prop) : Nat → gW → Int32 → Prop
  | 0, _, _ => False
  | n12 + 1, M13, x4_14 => ((M13 7 k3 3) ≤ x4_14 → (X0 M13 x4_14)) ∧ (¬ ((M13 7 k3 3) ≤ x4_14) → ((vp_in x4_14 29) ∧ (wX8_isPart M13 (M13 9 k3 x4_14.toNatClampNeg) (fun r18 M17 => ((r18 = 0 → (wX3_addLine_L40 k3 X0 n12 M17 (x4_14 + (1 : Int32)))) ∧ (¬ (r18 = 0) → ((vp_in x4_14 29) ∧ ((vp_in (M17 9 k3 x4_14.toNatClampNeg) 702) ∧ (∀ M22 : gW, M22 = gU M17 17 0 (upd (M17 17 0) (M17 9 k3 x4_14.toNatClampNeg).toNatClampNeg (1 : Int32)) → (wX3_addLine_L40 k3 X0 n12 M22 (x4_14 + (1 : Int32))))))))))))
def wX3_addLine (M0 : gW) (a1 : Int32) (a2 : Int32) (k3 : Nat) (K : gW → Prop) : Prop := (vp_in (M0 14 0 4) 10) ∧ (∀ M2 : gW, M2 = gU M0 15 0 (upd (M0 15 0) (M0 14 0 4).toNatClampNeg a1) → ((vp_in (M2 14 0 4) 10) ∧ (∀ M5 : gW, M5 = gU M2 16 0 (upd (M2 16 0) (M2 14 0 4).toNatClampNeg a2) → (∀ M7 : gW, M7 = gU M5 14 0 (upd (M5 14 0) 4 ((M5 14 0 4) + (1 : Int32))) → ((vp_in a1 20) ∧ (∀ M10 : gW, M10 = gU M7 18 0 (upd (M7 18 0) a1.toNatClampNeg (1 : Int32)) → (∃ n26 : Nat, wX3_addLine_L40 k3 (fun M24 x4_25 => (K M24)) n26 M10 (0 : Int32))))))))
def wX3_chooseLine_L11 (k1 : Nat)  (X0 : gW → Int32 → Int32 → Int32 → Int32 → Prop) : Nat → gW → Int32 → Int32 → Int32 → Int32 → Prop
  | 0, _, _, _, _, _ => False
  | n1 + 1, M2, x2_3, x3_4, x4_5, x5_6 => ((M2 5 k1 1) ≤ x5_6 → (X0 M2 x2_3 x3_4 x4_5 x5_6)) ∧ (¬ ((M2 5 k1 1) ≤ x5_6) → ((vp_in x5_6 20) ∧ (((M2 18 0 x5_6.toNatClampNeg) = 0 → ((vp_in x5_6 20) ∧ (wX3_gainOf M2 (20 * k1 + x5_6.toNatClampNeg) k1 (fun r12 M11 => ((x3_4 < r12 → (wX3_chooseLine_L11 k1 X0 n1 M11 x5_6 r12 (M11 7 (20 * k1 + x5_6.toNatClampNeg) 2) (x5_6 + (1 : Int32)))) ∧ (¬ (x3_4 < r12) → ((r12 = x3_4 → ((x4_5 ≤ (M11 7 (20 * k1 + x5_6.toNatClampNeg) 2) → (wX3_chooseLine_L11 k1 X0 n1 M11 x2_3 x3_4 x4_5 (x5_6 + (1 : Int32)))) ∧ (¬ (x4_5 ≤ (M11 7 (20 * k1 + x5_6.toNatClampNeg) 2)) → (wX3_chooseLine_L11 k1 X0 n1 M11 x5_6 r12 (M11 7 (20 * k1 + x5_6.toNatClampNeg) 2) (x5_6 + (1 : Int32)))))) ∧ (¬ (r12 = x3_4) → (wX3_chooseLine_L11 k1 X0 n1 M11 x2_3 x3_4 x4_5 (x5_6 + (1 : Int32))))))))))) ∧ (¬ ((M2 18 0 x5_6.toNatClampNeg) = 0) → (wX3_chooseLine_L11 k1 X0 n1 M2 x2_3 x3_4 x4_5 (x5_6 + (1 : Int32)))))))
def wX3_chooseLine (M0 : gW) (k1 : Nat) (K : Int32 → gW → Prop) : Prop := ∃ n25 : Nat, wX3_chooseLine_L11 k1 (fun M16 x2_17 x3_18 x4_19 x5_20 => ((x2_17 = (-5 : Int32) → (K (0 : Int32) M16)) ∧ (¬ (x2_17 = (-5 : Int32)) → (((M16 14 0 4) < (10 : Int32) → ((vp_in x2_17 20) ∧ (wX3_addLine M16 x2_17 x3_18 (20 * k1 + x2_17.toNatClampNeg) (fun M24 => (K (1 : Int32) M24))))) ∧ (¬ ((M16 14 0 4) < (10 : Int32)) → (K (0 : Int32) M16)))))) n25 M0 (-5 : Int32) (0 : Int32) (0 : Int32) (0 : Int32)
def wX3_choose_L9 (k1 : Nat) (a2 : Int32)  (X0 : gW → Int32 → Int32 → Prop) : Nat → gW → Int32 → Int32 → Prop
  | 0, _, _, _ => False
  | n2 + 1, M3, x3_4, x4_5 => (a2 ≤ x4_5 → (X0 M3 x3_4 x4_5)) ∧ (¬ (a2 ≤ x4_5) → ((x3_4 = 0 → (X0 M3 x3_4 x4_5)) ∧ (¬ (x3_4 = 0) → (wX3_chooseLine M3 k1 (fun r9 M8 => (wX3_choose_L9 k1 a2 X0 n2 M8 r9 (x4_5 + (1 : Int32))))))))
def wX3_choose (M0 : gW) (k1 : Nat) (a2 : Int32) (K : gW → Prop) : Prop := wX3_clear M0 (fun M1 => (∃ n13 : Nat, wX3_choose_L9 k1 a2 (fun M10 x3_11 x4_12 => (K M10)) n13 M1 (1 : Int32) (0 : Int32)))
def wX3_coveredFrom_L5 (a2 : Int32)  (X0 : gW → Int32 → Int32 → Prop) : Nat → gW → Int32 → Int32 → Prop
  | 0, _, _, _ => False
  | n1 + 1, M2, x3_3, x4_4 => (a2 ≤ x4_4 → (X0 M2 x3_3 x4_4)) ∧ (¬ (a2 ≤ x4_4) → ((vp_in x4_4 702) ∧ (((M2 17 0 x4_4.toNatClampNeg) = 0 → (wX3_coveredFrom_L5 a2 X0 n1 M2 x3_3 (x4_4 + (1 : Int32)))) ∧ (¬ ((M2 17 0 x4_4.toNatClampNeg) = 0) → (wX3_coveredFrom_L5 a2 X0 n1 M2 (x3_3 + (1 : Int32)) (x4_4 + (1 : Int32)))))))
def wX3_coveredFrom (M0 : gW) (a1 : Int32) (a2 : Int32) (K : Int32 → gW → Prop) : Prop := ∃ n11 : Nat, wX3_coveredFrom_L5 a2 (fun M8 x3_9 x4_10 => (K x3_9 M8)) n11 M0 (0 : Int32) a1
def wX3_needCovered_L4 (k1 : Nat)  (X0 : gW → Int32 → Int32 → Prop) : Nat → gW → Int32 → Int32 → Prop
  | 0, _, _, _ => False
  | n1 + 1, M2, x2_3, x3_4 => ((702 : Int32) ≤ x3_4 → (X0 M2 x2_3 x3_4)) ∧ (¬ ((702 : Int32) ≤ x3_4) → ((vp_in x3_4 702) ∧ (((M2 17 0 x3_4.toNatClampNeg) = 0 → (wX3_needCovered_L4 k1 X0 n1 M2 x2_3 (x3_4 + (1 : Int32)))) ∧ (¬ ((M2 17 0 x3_4.toNatClampNeg) = 0) → (wX1_needOf M2 k1 x3_4 (fun r9 M8 => (wX3_needCovered_L4 k1 X0 n1 M8 (x2_3 + r9) (x3_4 + (1 : Int32)))))))))
def wX3_needCovered (M0 : gW) (k1 : Nat) (K : Int32 → gW → Prop) : Prop := ∃ n13 : Nat, wX3_needCovered_L4 k1 (fun M10 x2_11 x3_12 => (K x2_11 M10)) n13 M0 (0 : Int32) (0 : Int32)
def wX3_sumOfGains_L4   (X0 : gW → Int32 → Int32 → Prop) : Nat → gW → Int32 → Int32 → Prop
  | 0, _, _, _ => False
  | n1 + 1, M2, x1_3, x2_4 => ((M2 14 0 4) ≤ x2_4 → (X0 M2 x1_3 x2_4)) ∧ (¬ ((M2 14 0 4) ≤ x2_4) → ((vp_in x2_4 10) ∧ (wX3_sumOfGains_L4 X0 n1 M2 (x1_3 + (M2 16 0 x2_4.toNatClampNeg)) (x2_4 + (1 : Int32)))))
def wX3_sumOfGains (M0 : gW) (K : Int32 → gW → Prop) : Prop := ∃ n10 : Nat, wX3_sumOfGains_L4 (fun M7 x1_8 x2_9 => (K x1_8 M7)) n10 M0 (0 : Int32) (0 : Int32)
def wX7_at (M0 : gW) (k0 : Nat) (a1 : Int32) (K : Option Nat → gW → Prop) : Prop := (a1 < 0 → (K none M0)) ∧ (¬ (a1 < 0) → (((M0 5 k0 1) ≤ a1 → (K none M0)) ∧ (¬ ((M0 5 k0 1) ≤ a1) → ((vp_in a1 20) ∧ (K (some (20 * k0 + a1.toNatClampNeg)) M0)))))
def wX4_practise_L2 (k0 : Nat)  (X0 : gW → Int32 → Prop) : Nat → gW → Int32 → Prop
  | 0, _, _ => False
  | n1 + 1, M2, x2_3 => ((M2 14 0 4) ≤ x2_3 → (X0 M2 x2_3)) ∧ (¬ ((M2 14 0 4) ≤ x2_3) → ((vp_in x2_3 10) ∧ (wX7_at M2 k0 (M2 15 0 x2_3.toNatClampNeg) (fun ro8 M6 => ((ro8 = none → (wX4_practise_L2 k0 X0 n1 M6 (x2_3 + (1 : Int32)))) ∧ (∀ o7 : Nat, ro8 = some o7 → ((o7 < gN 7) ∧ (wX1_addTriesOf M6 k0 o7 (fun M10 => (∀ M11 : gW, M11 = gU M10 1 k0 (upd (M10 1 k0) 4 ((M10 1 k0 4) + (1 : Int32))) → (wX4_practise_L2 k0 X0 n1 M11 (x2_3 + (1 : Int32)))))))))))))
def wX4_practise (M0 : gW) (k0 : Nat) (K : gW → Prop) : Prop := ∃ n17 : Nat, wX4_practise_L2 k0 (fun M13 x2_14 => (∀ M15 : gW, M15 = gU M13 1 k0 (upd (M13 1 k0) 6 ((M13 1 k0 6) + (1 : Int32))) → (K M15))) n17 M0 (0 : Int32)
def wX4_greatestNeedOfWords_L4 (k0 : Nat)  (X0 : gW → Int32 → Int32 → Prop) : Nat → gW → Int32 → Int32 → Prop
  | 0, _, _, _ => False
  | n1 + 1, M2, x1_3, x2_4 => ((M2 5 k0 1) ≤ x2_4 → (X0 M2 x1_3 x2_4)) ∧ (¬ ((M2 5 k0 1) ≤ x2_4) → ((vp_in x2_4 20) ∧ (wX1_greatestNeedOf M2 k0 (20 * k0 + x2_4.toNatClampNeg) (fun r8 M7 => (wX4_greatestNeedOfWords_L4 k0 X0 n1 M7 (if x1_3 < r8 then r8 else x1_3) (x2_4 + (1 : Int32)))))))
def wX4_greatestNeedOfWords (M0 : gW) (k0 : Nat) (K : Int32 → gW → Prop) : Prop := ∃ n12 : Nat, wX4_greatestNeedOfWords_L4 k0 (fun M9 x1_10 x2_11 => (K x1_10 M9)) n12 M0 (0 : Int32) (0 : Int32)
def wX5_append (M0 : gW) (a1 : Int32) (K : Int32 → gW → Prop) : Prop := ((M0 12 0 2) < (60 : Int32) → ((vp_in (M0 12 0 2) 60) ∧ ((vp_nar .char a1 = a1) ∧ (∀ M4 : gW, M4 = gU M0 13 0 (upd (M0 13 0) (M0 12 0 2).toNatClampNeg a1) → (∀ M6 : gW, M6 = gU M4 12 0 (upd (M4 12 0) 2 ((M4 12 0 2) + (1 : Int32))) → (K (1 : Int32) M6)))))) ∧ (¬ ((M0 12 0 2) < (60 : Int32)) → (K (0 : Int32) M0))
def wX8_isLetter (M0 : gW) (a0 : Int32) (K : Int32 → gW → Prop) : Prop := (a0 < (97 : Int32) → (K (0 : Int32) M0)) ∧ (¬ (a0 < (97 : Int32)) → (((122 : Int32) < a0 → (K (0 : Int32) M0)) ∧ (¬ ((122 : Int32) < a0) → (K (1 : Int32) M0))))
def wX5_mayBeWritten (M0 : gW) (a0 : Int32) (a1 : Int32) (a2 : Int32) (K : Int32 → gW → Prop) : Prop := (a0 = (33 : Int32) → (wX8_isLetter M0 a1 (fun r10 M9 => ((r10 = 0 ∨ r10 = 1) ∧ (K r10 M9))))) ∧ (¬ (a0 = (33 : Int32)) → ((a0 = (45 : Int32) → ((a1 = (45 : Int32) → (K (0 : Int32) M0)) ∧ (¬ (a1 = (45 : Int32)) → (((15 : Int32) ≤ a2 → (K (0 : Int32) M0)) ∧ (¬ ((15 : Int32) ≤ a2) → (K (1 : Int32) M0)))))) ∧ (¬ (a0 = (45 : Int32)) → (wX8_isLetter M0 a0 (fun r4 M3 => ((r4 = 0 → (K (0 : Int32) M3)) ∧ (¬ (r4 = 0) → (((15 : Int32) ≤ a2 → (K (0 : Int32) M3)) ∧ (¬ ((15 : Int32) ≤ a2) → (K (1 : Int32) M3))))))))))
def wX5_faultAsWritten_L7  (K : Int32 → gW → Prop) (X0 : gW → Int32 → Int32 → Int32 → Prop) : Nat → gW → Int32 → Int32 → Int32 → Prop
  | 0, _, _, _, _ => False
  | n1 + 1, M2, x1_3, x2_4, x3_5 => ((M2 12 0 2) ≤ x3_5 → (X0 M2 x1_3 x2_4 x3_5)) ∧ (¬ ((M2 12 0 2) ≤ x3_5) → ((vp_in x3_5 60) ∧ (wX5_mayBeWritten M2 (M2 13 0 x3_5.toNatClampNeg) x1_3 x2_4 (fun r9 M8 => ((r9 = 0 → (K x3_5 M8)) ∧ (¬ (r9 = 0) → (wX8_isLetter M8 (M2 13 0 x3_5.toNatClampNeg) (fun r12 M11 => ((r12 = 0 → (wX5_faultAsWritten_L7 K X0 n1 M11 (M2 13 0 x3_5.toNatClampNeg) x2_4 (x3_5 + (1 : Int32)))) ∧ (¬ (r12 = 0) → (wX5_faultAsWritten_L7 K X0 n1 M11 (M2 13 0 x3_5.toNatClampNeg) (x2_4 + (1 : Int32)) (x3_5 + (1 : Int32)))))))))))))
def wX5_faultAsWritten (M0 : gW) (K : Int32 → gW → Prop) : Prop := ∃ n19 : Nat, wX5_faultAsWritten_L7 K (fun M14 x1_15 x2_16 x3_17 => ((x1_15 = (45 : Int32) → (K (M14 12 0 2) M14)) ∧ (¬ (x1_15 = (45 : Int32)) → (K (-1 : Int32) M14)))) n19 M0 (45 : Int32) (0 : Int32) (0 : Int32)
def wX5_faultAsWords_L4  (K : Int32 → gW → Prop) (X0 : gW → Int32 → Int32 → Prop) : Nat → gW → Int32 → Int32 → Prop
  | 0, _, _, _ => False
  | n1 + 1, M2, x1_3, x2_4 => ((M2 12 0 2) ≤ x2_4 → (X0 M2 x1_3 x2_4)) ∧ (¬ ((M2 12 0 2) ≤ x2_4) → ((vp_in x2_4 60) ∧ (wX8_isLetter M2 (M2 13 0 x2_4.toNatClampNeg) (fun r8 M7 => ((r8 = 0 → ((vp_in x2_4 60) ∧ (((M7 13 0 x2_4.toNatClampNeg) = (44 : Int32) → ((x1_3 ≤ 0 → (K x2_4 M7)) ∧ (¬ (x1_3 ≤ 0) → (wX5_faultAsWords_L4 K X0 n1 M7 (0 : Int32) (x2_4 + (1 : Int32)))))) ∧ (¬ ((M7 13 0 x2_4.toNatClampNeg) = (44 : Int32)) → (K x2_4 M7))))) ∧ (¬ (r8 = 0) → (((15 : Int32) ≤ x1_3 → ((vp_in x2_4 60) ∧ (((M7 13 0 x2_4.toNatClampNeg) = (44 : Int32) → ((x1_3 ≤ 0 → (K x2_4 M7)) ∧ (¬ (x1_3 ≤ 0) → (wX5_faultAsWords_L4 K X0 n1 M7 (0 : Int32) (x2_4 + (1 : Int32)))))) ∧ (¬ ((M7 13 0 x2_4.toNatClampNeg) = (44 : Int32)) → (K x2_4 M7))))) ∧ (¬ ((15 : Int32) ≤ x1_3) → (wX5_faultAsWords_L4 K X0 n1 M7 (x1_3 + (1 : Int32)) (x2_4 + (1 : Int32)))))))))))
def wX5_faultAsWords (M0 : gW) (K : Int32 → gW → Prop) : Prop := ∃ n21 : Nat, wX5_faultAsWords_L4 K (fun M17 x1_18 x2_19 => ((x1_18 = 0 → (K (M17 12 0 2) M17)) ∧ (¬ (x1_18 = 0) → (K (-1 : Int32) M17)))) n21 M0 (0 : Int32) (0 : Int32)
def wX8_letterNumber (M0 : gW) (a0 : Int32) (K : Int32 → gW → Prop) : Prop := K (a0 - (97 : Int32)) M0
def wX5_tryJoin (M0 : gW) (k0 : Nat) (a1 : Int32) (a2 : Int32) (K : gW → Prop) : Prop := wX1_addTry M0 k0 a1 (fun M1 => ((a2 = 0 → (K M1)) ∧ (¬ (a2 = 0) → (wX1_addSlip M1 k0 a1 (fun M3 => (K M3))))))
def wX5_practiseIn_L11 (k1 : Nat)  (X0 : gW → Int32 → Int32 → Int32 → Int32 → Prop) : Nat → gW → Int32 → Int32 → Int32 → Int32 → Prop
  | 0, _, _, _, _, _ => False
  | n1 + 1, M2, x2_3, x3_4, x4_5, x5_6 => ((M2 12 0 2) ≤ x5_6 → (X0 M2 x2_3 x3_4 x4_5 x5_6)) ∧ (¬ ((M2 12 0 2) ≤ x5_6) → ((vp_in x5_6 60) ∧ (((M2 13 0 x5_6.toNatClampNeg) = (33 : Int32) → (wX1_addSlip M2 k1 x3_4 (fun M18 => (wX5_practiseIn_L11 k1 X0 n1 M18 (x2_3 + (1 : Int32)) x3_4 x4_5 (x5_6 + (1 : Int32)))))) ∧ (¬ ((M2 13 0 x5_6.toNatClampNeg) = (33 : Int32)) → (((M2 13 0 x5_6.toNatClampNeg) = (45 : Int32) → (wX5_practiseIn_L11 k1 X0 n1 M2 (x2_3 + (1 : Int32)) x3_4 (1 : Int32) (x5_6 + (1 : Int32)))) ∧ (¬ ((M2 13 0 x5_6.toNatClampNeg) = (45 : Int32)) → (wX8_letterNumber M2 (M2 13 0 x5_6.toNatClampNeg) (fun r12 M11 => (wX1_addTry M11 k1 r12 (fun M13 => ((x3_4 = (-5 : Int32) → (wX5_practiseIn_L11 k1 X0 n1 M13 x2_3 r12 (0 : Int32) (x5_6 + (1 : Int32)))) ∧ (¬ (x3_4 = (-5 : Int32)) → (wX8_joinPart M13 x3_4 r12 (fun r16 M15 => (wX5_tryJoin M15 k1 r16 x4_5 (fun M17 => (wX5_practiseIn_L11 k1 X0 n1 M17 x2_3 r12 (0 : Int32) (x5_6 + (1 : Int32)))))))))))))))))))
def wX5_practiseIn (M0 : gW) (k1 : Nat) (K : Int32 → gW → Prop) : Prop := ∃ n24 : Nat, wX5_practiseIn_L11 k1 (fun M19 x2_20 x3_21 x4_22 x5_23 => (K x2_20 M19)) n24 M0 (0 : Int32) (-5 : Int32) (0 : Int32) (0 : Int32)
def wX6_clear (M0 : gW) (k0 : Nat) (K : gW → Prop) : Prop := ∀ M1 : gW, M1 = gU M0 7 k0 (upd (M0 7 k0) 2 (0 : Int32)) → (∀ M3 : gW, M3 = gU M1 7 k0 (upd (M1 7 k0) 3 (0 : Int32)) → (K M3))
def wX6_has_L2 (k0 : Nat) (a1 : Int32) (K : Int32 → gW → Prop) (X0 : gW → Int32 → Prop) : Nat → gW → Int32 → Prop
  | 0, _, _ => False
  | n1 + 1, M2, x2_3 => ((M2 7 k0 3) ≤ x2_3 → (X0 M2 x2_3)) ∧ (¬ ((M2 7 k0 3) ≤ x2_3) → ((vp_in x2_3 29) ∧ (((M2 9 k0 x2_3.toNatClampNeg) = a1 → (K (1 : Int32) M2)) ∧ (¬ ((M2 9 k0 x2_3.toNatClampNeg) = a1) → (wX6_has_L2 k0 a1 K X0 n1 M2 (x2_3 + (1 : Int32)))))))
def wX6_has (M0 : gW) (k0 : Nat) (a1 : Int32) (K : Int32 → gW → Prop) : Prop := ∃ n9 : Nat, wX6_has_L2 k0 a1 K (fun M7 x2_8 => (K (0 : Int32) M7)) n9 M0 (0 : Int32)
def wX6_addPart (M0 : gW) (k0 : Nat) (a1 : Int32) (K : gW → Prop) : Prop := ((29 : Int32) ≤ (M0 7 k0 3) → (K M0)) ∧ (¬ ((29 : Int32) ≤ (M0 7 k0 3)) → (wX6_has M0 k0 a1 (fun r3 M2 => ((r3 = 0 → ((vp_in (M2 7 k0 3) 29) ∧ (∀ M6 : gW, M6 = gU M2 9 k0 (upd (M2 9 k0) (M2 7 k0 3).toNatClampNeg a1) → (∀ M8 : gW, M8 = gU M6 7 k0 (upd (M6 7 k0) 3 ((M6 7 k0 3) + (1 : Int32))) → (K M8))))) ∧ (¬ (r3 = 0) → (K M2))))))
def wX6_append (M0 : gW) (k0 : Nat) (a1 : Int32) (K : gW → Prop) : Prop := ((M0 7 k0 2) < (15 : Int32) → (wX6_addPart M0 k0 a1 (fun M2 => (((M2 7 k0 2) ≤ 0 → ((vp_in (M2 7 k0 2) 15) ∧ (∀ M5 : gW, M5 = gU M2 8 k0 (upd (M2 8 k0) (M2 7 k0 2).toNatClampNeg a1) → (∀ M7 : gW, M7 = gU M5 7 k0 (upd (M5 7 k0) 2 ((M5 7 k0 2) + (1 : Int32))) → (K M7))))) ∧ (¬ ((M2 7 k0 2) ≤ 0) → ((vp_in ((M2 7 k0 2) - (1 : Int32)) 15) ∧ (wX8_joinPart M2 (M2 8 k0 ((M2 7 k0 2) - (1 : Int32)).toNatClampNeg) a1 (fun r11 M10 => (wX6_addPart M10 k0 r11 (fun M12 => ((vp_in (M12 7 k0 2) 15) ∧ (∀ M14 : gW, M14 = gU M12 8 k0 (upd (M12 8 k0) (M12 7 k0 2).toNatClampNeg a1) → (∀ M16 : gW, M16 = gU M14 7 k0 (upd (M14 7 k0) 2 ((M14 7 k0 2) + (1 : Int32))) → (K M16)))))))))))))) ∧ (¬ ((M0 7 k0 2) < (15 : Int32)) → (K M0))
def wX6_isSpelledAs_L15 (k0 : Nat) (k1 : Nat) (K : Int32 → gW → Prop) (X0 : gW → Int32 → Prop) : Nat → gW → Int32 → Prop
  | 0, _, _ => False
  | n2 + 1, M3, x2_4 => ((M3 7 k0 2) ≤ x2_4 → (X0 M3 x2_4)) ∧ (¬ ((M3 7 k0 2) ≤ x2_4) → ((vp_in x2_4 15) ∧ ((vp_in x2_4 15) ∧ (((M3 8 k0 x2_4.toNatClampNeg) = (M3 8 k1 x2_4.toNatClampNeg) → (wX6_isSpelledAs_L15 k0 k1 K X0 n2 M3 (x2_4 + (1 : Int32)))) ∧ (¬ ((M3 8 k0 x2_4.toNatClampNeg) = (M3 8 k1 x2_4.toNatClampNeg)) → (K (0 : Int32) M3))))))
def wX6_isSpelledAs (M0 : gW) (k0 : Nat) (k1 : Nat) (K : Int32 → gW → Prop) : Prop := ((M0 7 k0 2) = (M0 7 k1 2) → (∃ n11 : Nat, wX6_isSpelledAs_L15 k0 k1 K (fun M9 x2_10 => (K (1 : Int32) M9)) n11 M0 (0 : Int32))) ∧ (¬ ((M0 7 k0 2) = (M0 7 k1 2)) → (K (0 : Int32) M0))
def wX7_take_L2 (k0 : Nat) (k1 : Nat) (K : Int32 → gW → Prop) (X0 : gW → Int32 → Prop) : Nat → gW → Int32 → Prop
  | 0, _, _ => False
  | n1 + 1, M2, x2_3 => ((M2 5 k0 1) ≤ x2_3 → (X0 M2 x2_3)) ∧ (¬ ((M2 5 k0 1) ≤ x2_3) → ((vp_in x2_3 20) ∧ (wX6_isSpelledAs M2 (20 * k0 + x2_3.toNatClampNeg) k1 (fun r7 M6 => ((r7 = 0 → (wX7_take_L2 k0 k1 K X0 n1 M6 (x2_3 + (1 : Int32)))) ∧ (¬ (r7 = 0) → (K (1 : Int32) M6)))))))
def wX7_take (M0 : gW) (k0 : Nat) (k1 : Nat) (K : Int32 → gW → Prop) : Prop := ∃ n16 : Nat, wX7_take_L2 k0 k1 K (fun M9 x2_10 => (((M9 5 k0 1) < (20 : Int32) → ((vp_in (M9 5 k0 1) 20) ∧ (wX6_copyFrom M9 (20 * k0 + (M9 5 k0 1).toNatClampNeg) k1 (fun M13 => (∀ M14 : gW, M14 = gU M13 5 k0 (upd (M13 5 k0) 1 ((M13 5 k0 1) + (1 : Int32))) → (K (1 : Int32) M14)))))) ∧ (¬ ((M9 5 k0 1) < (20 : Int32)) → (K (0 : Int32) M9)))) n16 M0 (0 : Int32)
def wX5_spellInto_L9 (k1 : Nat) (K : Int32 → gW → Prop) (X0 : gW → Int32 → Prop) : Nat → gW → Int32 → Prop
  | 0, _, _ => False
  | n2 + 1, M3, x2_4 => ((M3 12 0 2) ≤ x2_4 → (X0 M3 x2_4)) ∧ (¬ ((M3 12 0 2) ≤ x2_4) → ((vp_in x2_4 60) ∧ (((M3 13 0 x2_4.toNatClampNeg) = (44 : Int32) → (wX7_take M3 k1 140 (fun r9 M8 => ((r9 = 0 → (K (0 : Int32) M8)) ∧ (¬ (r9 = 0) → (wX6_clear M8 140 (fun M11 => (wX5_spellInto_L9 k1 K X0 n2 M11 (x2_4 + (1 : Int32)))))))))) ∧ (¬ ((M3 13 0 x2_4.toNatClampNeg) = (44 : Int32)) → ((vp_in x2_4 60) ∧ (wX8_letterNumber M3 (M3 13 0 x2_4.toNatClampNeg) (fun r14 M13 => (wX6_append M13 140 r14 (fun M15 => (wX5_spellInto_L9 k1 K X0 n2 M15 (x2_4 + (1 : Int32))))))))))))
def wX5_spellInto (M0 : gW) (k1 : Nat) (K : Int32 → gW → Prop) : Prop := wX6_clear M0 140 (fun M1 => (∃ n21 : Nat, wX5_spellInto_L9 k1 K (fun M16 x2_17 => (wX7_take M16 k1 140 (fun r19 M18 => ((r19 = 0 ∨ r19 = 1) ∧ (K r19 M18))))) n21 M1 (0 : Int32)))
def wX7_drop_L17 (k0 : Nat)  (X0 : gW → Int32 → Prop) : Nat → gW → Int32 → Prop
  | 0, _, _ => False
  | n3 + 1, M4, x2_5 => ((M4 5 k0 1) ≤ x2_5 → (X0 M4 x2_5)) ∧ (¬ ((M4 5 k0 1) ≤ x2_5) → ((vp_in (x2_5 - (1 : Int32)) 20) ∧ ((vp_in x2_5 20) ∧ (wX6_copyFrom M4 (20 * k0 + (x2_5 - (1 : Int32)).toNatClampNeg) (20 * k0 + x2_5.toNatClampNeg) (fun M9 => (wX7_drop_L17 k0 X0 n3 M9 (x2_5 + (1 : Int32))))))))
def wX7_drop (M0 : gW) (k0 : Nat) (a1 : Int32) (K : gW → Prop) : Prop := (a1 < 0 → (K M0)) ∧ (¬ (a1 < 0) → ((a1 < (M0 5 k0 1) → (∃ n14 : Nat, wX7_drop_L17 k0 (fun M10 x2_11 => (∀ M12 : gW, M12 = gU M10 5 k0 (upd (M10 5 k0) 1 ((M10 5 k0 1) - (1 : Int32))) → (K M12))) n14 M0 (a1 + (1 : Int32)))) ∧ (¬ (a1 < (M0 5 k0 1)) → (K M0))))
def wX7_howManyHave_L4 (k0 : Nat) (a1 : Int32)  (X0 : gW → Int32 → Int32 → Prop) : Nat → gW → Int32 → Int32 → Prop
  | 0, _, _, _ => False
  | n1 + 1, M2, x2_3, x3_4 => ((M2 5 k0 1) ≤ x3_4 → (X0 M2 x2_3 x3_4)) ∧ (¬ ((M2 5 k0 1) ≤ x3_4) → ((vp_in x3_4 20) ∧ (wX6_has M2 (20 * k0 + x3_4.toNatClampNeg) a1 (fun r8 M7 => ((r8 = 0 → (wX7_howManyHave_L4 k0 a1 X0 n1 M7 x2_3 (x3_4 + (1 : Int32)))) ∧ (¬ (r8 = 0) → (wX7_howManyHave_L4 k0 a1 X0 n1 M7 (x2_3 + (1 : Int32)) (x3_4 + (1 : Int32)))))))))
def wX7_howManyHave (M0 : gW) (k0 : Nat) (a1 : Int32) (K : Int32 → gW → Prop) : Prop := ∃ n13 : Nat, wX7_howManyHave_L4 k0 a1 (fun M10 x2_11 x3_12 => (K x2_11 M10)) n13 M0 (0 : Int32) (0 : Int32)
def wX8_write (M0 : gW) (K : Int32 → gW → Prop) : Prop := wX5_faultAsWritten M0 (fun r2 M1 => ((r2 = (-1 : Int32) → (wX0_remember M1 0 (fun M4 => (wX5_practiseIn M4 0 (fun r6 M5 => (∀ M7 : gW, M7 = gU M5 1 0 (upd (M5 1 0) 4 ((M5 1 0 4) + (1 : Int32))) → (∀ M9 : gW, M9 = gU M7 1 0 (upd (M7 1 0) 5 ((M7 1 0 5) + r6)) → (K r6 M9)))))))) ∧ (¬ (r2 = (-1 : Int32)) → (K ((-100 : Int32) - r2) M1))))
def wX8_pass (M0 : gW) (a1 : Int32) (K : Int32 → gW → Prop) : Prop := (a1 < (1 : Int32) → (K (-2 : Int32) M0)) ∧ (¬ (a1 < (1 : Int32)) → ((a1 ≤ (20 : Int32) → ((((M0 1 0 2) + a1) ≤ (999 : Int32) → (wX0_remember M0 0 (fun M4 => (∀ M5 : gW, M5 = gU M4 1 0 (upd (M4 1 0) 2 ((M4 1 0 2) + a1)) → (wX1_fade M5 0 a1 (fun r8 M7 => (K r8 M7))))))) ∧ (¬ (((M0 1 0 2) + a1) ≤ (999 : Int32)) → (K (-3 : Int32) M0)))) ∧ (¬ (a1 ≤ (20 : Int32)) → (K (-2 : Int32) M0))))
def wX8_setUntried (M0 : gW) (a1 : Int32) (K : Int32 → gW → Prop) : Prop := (a1 < 0 → (K (-2 : Int32) M0)) ∧ (¬ (a1 < 0) → ((a1 ≤ (99 : Int32) → ((a1 = (M0 1 0 3) → (K (-5 : Int32) M0)) ∧ (¬ (a1 = (M0 1 0 3)) → (wX0_remember M0 0 (fun M4 => (∀ M5 : gW, M5 = gU M4 1 0 (upd (M4 1 0) 3 a1) → (K (M0 1 0 3) M5))))))) ∧ (¬ (a1 ≤ (99 : Int32)) → (K (-2 : Int32) M0))))
def wX8_addWords (M0 : gW) (K : Int32 → gW → Prop) : Prop := wX5_faultAsWords M0 (fun r2 M1 => ((r2 = (-1 : Int32) → (wX7_copyFrom M1 2 0 (fun M4 => (wX5_spellInto M4 2 (fun r6 M5 => ((r6 = 0 → (K (-3 : Int32) M5)) ∧ (¬ (r6 = 0) → ((((M5 5 2 1) - (M5 5 0 1)) = 0 → (K (-5 : Int32) M5)) ∧ (¬ (((M5 5 2 1) - (M5 5 0 1)) = 0) → (wX0_remember M5 0 (fun M9 => (wX7_copyFrom M9 0 2 (fun M10 => (K ((M5 5 2 1) - (M5 5 0 1)) M10)))))))))))))) ∧ (¬ (r2 = (-1 : Int32)) → (K ((-100 : Int32) - r2) M1))))
def wX8_removeWord (M0 : gW) (a1 : Int32) (K : Int32 → gW → Prop) : Prop := wX7_at M0 0 a1 (fun ro3 M1 => ((ro3 = none → (K (-1 : Int32) M1)) ∧ (∀ o2 : Nat, ro3 = some o2 → ((o2 < gN 7) ∧ (wX0_remember M1 0 (fun M5 => (wX7_drop M5 0 a1 (fun M6 => (K (M6 5 0 1) M6)))))))))
def wX8_areLines (M0 : gW) (a0 : Int32) (K : Int32 → gW → Prop) : Prop := (a0 < (1 : Int32) → (K (0 : Int32) M0)) ∧ (¬ (a0 < (1 : Int32)) → (((10 : Int32) < a0 → (K (0 : Int32) M0)) ∧ (¬ ((10 : Int32) < a0) → (K (1 : Int32) M0))))
def wX8_doSheet (M0 : gW) (a1 : Int32) (K : Int32 → gW → Prop) : Prop := wX8_areLines M0 a1 (fun r2 M1 => ((r2 = 0 → (K (-2 : Int32) M1)) ∧ (¬ (r2 = 0) → (wX3_choose M1 0 a1 (fun M4 => (((M4 14 0 4) = 0 → (K (-5 : Int32) M4)) ∧ (¬ ((M4 14 0 4) = 0) → (wX0_remember M4 0 (fun M6 => (wX4_practise M6 0 (fun M7 => (K (M7 14 0 4) M7))))))))))))
def wX8_type (M0 : gW) (a1 : Int32) (K : Int32 → gW → Prop) : Prop := wX5_append M0 a1 (fun r2 M1 => ((r2 = 0 → (K (-3 : Int32) M1)) ∧ (¬ (r2 = 0) → (K (M1 12 0 2) M1))))
def wX8_clearText (M0 : gW) (K : Int32 → gW → Prop) : Prop := ∀ M1 : gW, M1 = gU M0 12 0 (upd (M0 12 0) 2 (0 : Int32)) → (K (M0 12 0 2) M1)
def wX8_undo (M0 : gW) (K : Int32 → gW → Prop) : Prop := wX0_takeBack M0 0 (fun r2 M1 => ((r2 = 0 → (K (-5 : Int32) M1)) ∧ (¬ (r2 = 0) → (K (M1 10 0 1) M1))))
def wX8_keep (M0 : gW) (K : Int32 → gW → Prop) : Prop := wX4_copyFrom M0 1 0 (fun M1 => (∀ M2 : gW, M2 = gU M1 0 0 (upd (M1 0 0) 7 (1 : Int32)) → (K (M2 5 0 1) M2)))
def wX8_restore (M0 : gW) (K : Int32 → gW → Prop) : Prop := ((M0 0 0 7) = 0 → (K (-5 : Int32) M0)) ∧ (¬ ((M0 0 0 7) = 0) → (wX0_remember M0 0 (fun M2 => (wX4_copyFrom M2 0 1 (fun M3 => (K (M3 5 0 1) M3))))))
def wX8_toldOfPart (M0 : gW) (a1 : Int32) (a2 : Int32) (K : Int32 → gW → Prop) : Prop := (a2 = (0 : Int32) → (wX1_triesOf M0 0 a1 (fun r3 M2 => (K r3 M2)))) ∧ ((a2 = (1 : Int32) → (wX1_slipsOf M0 0 a1 (fun r6 M5 => (K r6 M5)))) ∧ ((a2 = (2 : Int32) → (wX1_needOf M0 0 a1 (fun r9 M8 => (K r9 M8)))) ∧ ((a2 = (3 : Int32) → (wX7_howManyHave M0 0 a1 (fun r12 M11 => (K r12 M11)))) ∧ (¬ (a2 = (0 : Int32)) → ¬ (a2 = (1 : Int32)) → ¬ (a2 = (2 : Int32)) → ¬ (a2 = (3 : Int32)) → (K (-2 : Int32) M0)))))
def wX8_letter (M0 : gW) (a1 : Int32) (a2 : Int32) (K : Int32 → gW → Prop) : Prop := wX8_isLetter M0 a1 (fun r2 M1 => ((r2 = 0 → (K (-1 : Int32) M1)) ∧ (¬ (r2 = 0) → (wX8_letterNumber M1 a1 (fun r5 M4 => (wX8_toldOfPart M4 r5 a2 (fun r7 M6 => (K r7 M6))))))))
def wX8_join (M0 : gW) (a1 : Int32) (a2 : Int32) (a3 : Int32) (K : Int32 → gW → Prop) : Prop := wX8_isLetter M0 a1 (fun r2 M1 => ((r2 = 0 → (K (-1 : Int32) M1)) ∧ (¬ (r2 = 0) → (wX8_isLetter M1 a2 (fun r5 M4 => ((r5 = 0 → (K (-1 : Int32) M4)) ∧ (¬ (r5 = 0) → (wX8_letterNumber M4 a1 (fun r8 M7 => (wX8_letterNumber M7 a2 (fun r10 M9 => (wX8_joinPart M9 r8 r10 (fun r12 M11 => (wX8_toldOfPart M11 r12 a3 (fun r14 M13 => (K r14 M13))))))))))))))))
def wX8_word (M0 : gW) (a1 : Int32) (a2 : Int32) (K : Int32 → gW → Prop) : Prop := wX7_at M0 0 a1 (fun ro3 M1 => ((ro3 = none → (K (-1 : Int32) M1)) ∧ (∀ o2 : Nat, ro3 = some o2 → ((o2 < gN 7) ∧ ((a2 = (0 : Int32) → (K (M1 7 o2 2) M1)) ∧ ((a2 = (1 : Int32) → (wX1_needOfAll M1 0 o2 (fun r8 M7 => (K r8 M7)))) ∧ ((a2 = (2 : Int32) → (K (M1 7 o2 3) M1)) ∧ ((a2 = (3 : Int32) → (wX1_untriedOf M1 0 o2 (fun r12 M11 => (K r12 M11)))) ∧ ((a2 = (4 : Int32) → (wX3_clear M1 (fun M14 => (wX3_gainOf M14 o2 0 (fun r16 M15 => (K r16 M15)))))) ∧ (¬ (a2 = (0 : Int32)) → ¬ (a2 = (1 : Int32)) → ¬ (a2 = (2 : Int32)) → ¬ (a2 = (3 : Int32)) → ¬ (a2 = (4 : Int32)) → (K (-2 : Int32) M1)))))))))))
def wX8_letterOf (M0 : gW) (a1 : Int32) (a2 : Int32) (K : Int32 → gW → Prop) : Prop := wX7_at M0 0 a1 (fun ro3 M1 => ((ro3 = none → (K (-1 : Int32) M1)) ∧ (∀ o2 : Nat, ro3 = some o2 → ((o2 < gN 7) ∧ ((0 ≤ a2 → (((M1 7 o2 2) ≤ a2 → (K (-5 : Int32) M1)) ∧ (¬ ((M1 7 o2 2) ≤ a2) → ((vp_in a2 15) ∧ (K (M1 8 o2 a2.toNatClampNeg) M1))))) ∧ (¬ (0 ≤ a2) → (K (-2 : Int32) M1)))))))
def wX8_sheet (M0 : gW) (a1 : Int32) (a2 : Int32) (a3 : Int32) (K : Int32 → gW → Prop) : Prop := wX8_areLines M0 a1 (fun r2 M1 => ((r2 = 0 → (K (-2 : Int32) M1)) ∧ (¬ (r2 = 0) → ((a2 < 0 → (K (-2 : Int32) M1)) ∧ (¬ (a2 < 0) → ((a3 < 0 → (K (-2 : Int32) M1)) ∧ (¬ (a3 < 0) → ((a3 ≤ (1 : Int32) → (wX3_choose M1 0 a1 (fun M7 => ((a2 < (M7 14 0 4) → ((a3 = 0 → ((vp_in a2 10) ∧ (K (M7 15 0 a2.toNatClampNeg) M7))) ∧ (¬ (a3 = 0) → ((vp_in a2 10) ∧ (K (M7 16 0 a2.toNatClampNeg) M7))))) ∧ (¬ (a2 < (M7 14 0 4)) → (K (-5 : Int32) M7)))))) ∧ (¬ (a3 ≤ (1 : Int32)) → (K (-2 : Int32) M1))))))))))
def wX8_covers (M0 : gW) (a1 : Int32) (a2 : Int32) (K : Int32 → gW → Prop) : Prop := wX8_areLines M0 a1 (fun r2 M1 => ((r2 = 0 → (K (-2 : Int32) M1)) ∧ (¬ (r2 = 0) → ((a2 < 0 → (K (-2 : Int32) M1)) ∧ (¬ (a2 < 0) → ((a2 ≤ (4 : Int32) → (wX3_choose M1 0 a1 (fun M6 => ((a2 = (0 : Int32) → (K (M6 14 0 4) M6)) ∧ ((a2 = (1 : Int32) → (wX3_coveredFrom M6 (0 : Int32) (26 : Int32) (fun r10 M9 => (K r10 M9)))) ∧ ((a2 = (2 : Int32) → (wX3_coveredFrom M6 (26 : Int32) (702 : Int32) (fun r13 M12 => (K r13 M12)))) ∧ ((a2 = (3 : Int32) → (wX3_needCovered M6 0 (fun r16 M15 => (K r16 M15)))) ∧ (¬ (a2 = (0 : Int32)) → ¬ (a2 = (1 : Int32)) → ¬ (a2 = (2 : Int32)) → ¬ (a2 = (3 : Int32)) → (wX3_sumOfGains M6 (fun r18 M17 => (K r18 M17))))))))))) ∧ (¬ (a2 ≤ (4 : Int32)) → (K (-2 : Int32) M1))))))))
def wX8_firstPart (M0 : gW) (a0 : Int32) (K : Int32 → gW → Prop) : Prop := (a0 = 0 → (K (0 : Int32) M0)) ∧ (¬ (a0 = 0) → (K (26 : Int32) M0))
def wX8_endOfParts (M0 : gW) (a0 : Int32) (K : Int32 → gW → Prop) : Prop := (a0 = 0 → (K (26 : Int32) M0)) ∧ (¬ (a0 = 0) → (K (702 : Int32) M0))
def wX8_worst (M0 : gW) (a1 : Int32) (a2 : Int32) (K : Int32 → gW → Prop) : Prop := (0 ≤ a2 → (wX8_firstPart M0 a1 (fun r3 M2 => (wX8_endOfParts M2 a1 (fun r5 M4 => (wX2_partAt M4 0 r3 r5 a2 (fun r7 M6 => ((r7 = (-5 : Int32) → (K (-5 : Int32) M6)) ∧ (¬ (r7 = (-5 : Int32)) → (K (r7 - r3) M6)))))))))) ∧ (¬ (0 ≤ a2) → (K (-2 : Int32) M0))
def wX8_missing_L13 (r2 : Int32)  (X0 : gW → Int32 → Int32 → Prop) : Nat → gW → Int32 → Int32 → Prop
  | 0, _, _, _ => False
  | n5 + 1, M6, x3_7, x4_8 => (r2 ≤ x4_8 → (X0 M6 x3_7 x4_8)) ∧ (¬ (r2 ≤ x4_8) → (wX1_needOf M6 0 x4_8 (fun r11 M10 => ((r11 ≤ 0 → (wX8_missing_L13 r2 X0 n5 M10 x3_7 (x4_8 + (1 : Int32)))) ∧ (¬ (r11 ≤ 0) → (wX7_howManyHave M10 0 x4_8 (fun r14 M13 => ((r14 = 0 → (wX8_missing_L13 r2 X0 n5 M13 (x3_7 + (1 : Int32)) (x4_8 + (1 : Int32)))) ∧ (¬ (r14 = 0) → (wX8_missing_L13 r2 X0 n5 M13 x3_7 (x4_8 + (1 : Int32))))))))))))
def wX8_missing (M0 : gW) (a1 : Int32) (K : Int32 → gW → Prop) : Prop := wX8_endOfParts M0 a1 (fun r2 M1 => (wX8_firstPart M1 a1 (fun r4 M3 => (∃ n19 : Nat, wX8_missing_L13 r2 (fun M16 x3_17 x4_18 => (K x3_17 M16)) n19 M3 (0 : Int32) r4))))
def wX8_sheetsTo_L33 (a1 : Int32) (a2 : Int32) (K : Int32 → gW → Prop) (X0 : gW → Int32 → Prop) : Nat → gW → Int32 → Prop
  | 0, _, _ => False
  | n7 + 1, M8, x3_9 => ((20 : Int32) < x3_9 → (X0 M8 x3_9)) ∧ (¬ ((20 : Int32) < x3_9) → (wX4_greatestNeedOfWords M8 2 (fun r12 M11 => ((a2 < r12 → (wX3_choose M11 2 a1 (fun M14 => (((M14 14 0 4) = 0 → (K (-5 : Int32) M14)) ∧ (¬ ((M14 14 0 4) = 0) → (wX4_practise M14 2 (fun M16 => (wX8_sheetsTo_L33 a1 a2 K X0 n7 M16 (x3_9 + (1 : Int32)))))))))) ∧ (¬ (a2 < r12) → (K x3_9 M11))))))
def wX8_sheetsTo (M0 : gW) (a1 : Int32) (a2 : Int32) (K : Int32 → gW → Prop) : Prop := wX8_areLines M0 a1 (fun r2 M1 => ((r2 = 0 → (K (-2 : Int32) M1)) ∧ (¬ (r2 = 0) → ((a2 < 0 → (K (-2 : Int32) M1)) ∧ (¬ (a2 < 0) → ((a2 ≤ (99 : Int32) → (wX4_copyFrom M1 2 0 (fun M6 => (∃ n19 : Nat, wX8_sheetsTo_L33 a1 a2 K (fun M17 x3_18 => (K (-5 : Int32) M17)) n19 M6 (0 : Int32))))) ∧ (¬ (a2 ≤ (99 : Int32)) → (K (-2 : Int32) M1))))))))
def wX8_count (M0 : gW) (a1 : Int32) (K : Int32 → gW → Prop) : Prop := (a1 = (0 : Int32) → (K (M0 5 0 1) M0)) ∧ ((a1 = (1 : Int32) → (K (M0 1 0 2) M0)) ∧ ((a1 = (2 : Int32) → (K (M0 1 0 3) M0)) ∧ ((a1 = (3 : Int32) → (wX1_triedFrom M0 0 (0 : Int32) (26 : Int32) (fun r6 M5 => (K ((26 : Int32) - r6) M5)))) ∧ ((a1 = (4 : Int32) → (wX1_triedFrom M0 0 (26 : Int32) (702 : Int32) (fun r9 M8 => (K r9 M8)))) ∧ ((a1 = (5 : Int32) → (wX1_greatestNeedFrom M0 0 (0 : Int32) (26 : Int32) (fun r12 M11 => (K r12 M11)))) ∧ ((a1 = (6 : Int32) → (wX1_greatestNeedFrom M0 0 (26 : Int32) (702 : Int32) (fun r15 M14 => (K r15 M14)))) ∧ ((a1 = (7 : Int32) → (K (M0 1 0 4) M0)) ∧ ((a1 = (8 : Int32) → (K (M0 1 0 5) M0)) ∧ ((a1 = (9 : Int32) → (K (M0 1 0 6) M0)) ∧ ((a1 = (10 : Int32) → (K (M0 10 0 1) M0)) ∧ ((a1 = (11 : Int32) → (K (M0 12 0 2) M0)) ∧ (¬ (a1 = (0 : Int32)) → ¬ (a1 = (1 : Int32)) → ¬ (a1 = (2 : Int32)) → ¬ (a1 = (3 : Int32)) → ¬ (a1 = (4 : Int32)) → ¬ (a1 = (5 : Int32)) → ¬ (a1 = (6 : Int32)) → ¬ (a1 = (7 : Int32)) → ¬ (a1 = (8 : Int32)) → ¬ (a1 = (9 : Int32)) → ¬ (a1 = (10 : Int32)) → ¬ (a1 = (11 : Int32)) → (K (-2 : Int32) M0)))))))))))))
def wX9_in (M0 : gW) (a0 : Int64) (a2 : Int64) (a4 : Int64) (K : Int32 → gW → Prop) : Prop := ((lg_cmp a0 a2) < 0 → (K (0 : Int32) M0)) ∧ (¬ ((lg_cmp a0 a2) < 0) → ((0 < (lg_cmp a0 a4) → (K (0 : Int32) M0)) ∧ (¬ (0 < (lg_cmp a0 a4)) → (K (1 : Int32) M0))))
def wX9_copy_L2 (k0 : Nat) (k1 : Nat)  (X0 : gW → Int32 → Prop) : Nat → gW → Int32 → Prop
  | 0, _, _ => False
  | n1 + 1, M2, x2_3 => ((1730 : Int32) ≤ x2_3 → (X0 M2 x2_3)) ∧ (¬ ((1730 : Int32) ≤ x2_3) → ((vp_in x2_3 (gRl k0)) ∧ ((vp_in x2_3 (gRl k1)) ∧ (∀ M7 : gW, M7 = gU M2 22 k1 (upd (M2 22 k1) x2_3.toNatClampNeg (M2 22 k0 x2_3.toNatClampNeg)) → (wX9_copy_L2 k0 k1 X0 n1 M7 (x2_3 + (1 : Int32)))))))
def wX9_copy (M0 : gW) (k0 : Nat) (k1 : Nat) (K : gW → Prop) : Prop := ∃ n11 : Nat, wX9_copy_L2 k0 k1 (fun M9 x2_10 => (K M9)) n11 M0 (0 : Int32)
def wX9_remember (M0 : gW) (K : gW → Prop) : Prop := wX9_copy M0 0 1 (fun M1 => (K M1))
def wX9_acted_L10   (X0 : gW → Int32 → Prop) : Nat → gW → Int32 → Prop
  | 0, _, _ => False
  | n3 + 1, M4, x2_5 => ((5190 : Int32) ≤ x2_5 → (X0 M4 x2_5)) ∧ (¬ ((5190 : Int32) ≤ x2_5) → ((vp_in (x2_5 + (1730 : Int32)) 6920) ∧ ((vp_in x2_5 6920) ∧ (∀ M9 : gW, M9 = gU M4 22 3 (upd (M4 22 3) x2_5.toNatClampNeg (M4 22 3 (x2_5 + (1730 : Int32)).toNatClampNeg)) → (wX9_acted_L10 X0 n3 M9 (x2_5 + (1 : Int32)))))))
def wX9_acted_L51   (X0 : gW → Int32 → Prop) : Nat → gW → Int32 → Prop
  | 0, _, _ => False
  | n17 + 1, M18, x2_19 => ((1730 : Int32) ≤ x2_19 → (X0 M18 x2_19)) ∧ (¬ ((1730 : Int32) ≤ x2_19) → ((vp_in x2_19 1730) ∧ ((vp_in (((1730 : Int32) * (M18 21 0 4)) + x2_19) 6920) ∧ (∀ M23 : gW, M23 = gU M18 22 3 (upd (M18 22 3) (((1730 : Int32) * (M18 21 0 4)) + x2_19).toNatClampNeg (M18 22 1 x2_19.toNatClampNeg)) → (wX9_acted_L51 X0 n17 M23 (x2_19 + (1 : Int32)))))))
def wX9_acted (M0 : gW) (a1 : Int32) (K : Int32 → gW → Prop) : Prop := (fun (J2 : gW → Prop) => (((M0 21 0 4) = (4 : Int32) → (∃ n15 : Nat, wX9_acted_L10 (fun M11 x2_12 => (∀ M13 : gW, M13 = gU M11 21 0 (upd (M11 21 0) 4 ((M11 21 0 4) - (1 : Int32))) → (J2 M13))) n15 M0 (0 : Int32))) ∧ (¬ ((M0 21 0 4) = (4 : Int32)) → (J2 M0)))) (fun M16 => (∃ n29 : Nat, wX9_acted_L51 (fun M25 x2_26 => (∀ M27 : gW, M27 = gU M25 21 0 (upd (M25 21 0) 4 ((M25 21 0 4) + (1 : Int32))) → (K a1 M27))) n29 M16 (0 : Int32)))
def wX9_needOf (M0 : gW) (a1 : Int32) (K : Int32 → gW → Prop) : Prop := (vp_in ((708 : Int32) + a1) 1730) ∧ ((vp_in ((6 : Int32) + a1) 1730) ∧ ((¬ ((M0 22 0 ((6 : Int32) + a1).toNatClampNeg) + (2 : Int32)) = 0) ∧ (K (((100 : Int32) * (M0 22 0 ((708 : Int32) + a1).toNatClampNeg)) / ((M0 22 0 ((6 : Int32) + a1).toNatClampNeg) + (2 : Int32))) M0)))
def wX9_isUntried (M0 : gW) (a1 : Int32) (K : Int32 → gW → Prop) : Prop := (vp_in ((6 : Int32) + a1) 1730) ∧ (((M0 22 0 ((6 : Int32) + a1).toNatClampNeg) = 0 → (K (1 : Int32) M0)) ∧ (¬ ((M0 22 0 ((6 : Int32) + a1).toNatClampNeg) = 0) → (K (0 : Int32) M0)))
def wX9_tries (M0 : gW) (a1 : Int32) (a2 : Int32) (K : gW → Prop) : Prop := (vp_in ((6 : Int32) + a1) 1730) ∧ ((vp_in ((6 : Int32) + a1) 1730) ∧ (((9999 : Int32) ≤ (M0 22 0 ((6 : Int32) + a1).toNatClampNeg) → ((vp_in ((6 : Int32) + a1) 1730) ∧ (∀ M5 : gW, M5 = gU M0 22 0 (upd (M0 22 0) ((6 : Int32) + a1).toNatClampNeg ((M0 22 0 ((6 : Int32) + a1).toNatClampNeg) + (0 : Int32))) → ((vp_in ((708 : Int32) + a1) 1730) ∧ ((a2 = (1 : Int32) → ((vp_in ((708 : Int32) + a1) 1730) ∧ (((9999 : Int32) ≤ (M5 22 0 ((708 : Int32) + a1).toNatClampNeg) → ((vp_in ((708 : Int32) + a1) 1730) ∧ (∀ M15 : gW, M15 = gU M5 22 0 (upd (M5 22 0) ((708 : Int32) + a1).toNatClampNeg ((M5 22 0 ((708 : Int32) + a1).toNatClampNeg) + (0 : Int32))) → (K M15)))) ∧ (¬ ((9999 : Int32) ≤ (M5 22 0 ((708 : Int32) + a1).toNatClampNeg)) → ((vp_in ((708 : Int32) + a1) 1730) ∧ (∀ M18 : gW, M18 = gU M5 22 0 (upd (M5 22 0) ((708 : Int32) + a1).toNatClampNeg ((M5 22 0 ((708 : Int32) + a1).toNatClampNeg) + (1 : Int32))) → (K M18))))))) ∧ (¬ (a2 = (1 : Int32)) → ((vp_in ((708 : Int32) + a1) 1730) ∧ (∀ M10 : gW, M10 = gU M5 22 0 (upd (M5 22 0) ((708 : Int32) + a1).toNatClampNeg ((M5 22 0 ((708 : Int32) + a1).toNatClampNeg) + (0 : Int32))) → (K M10))))))))) ∧ (¬ ((9999 : Int32) ≤ (M0 22 0 ((6 : Int32) + a1).toNatClampNeg)) → ((vp_in ((6 : Int32) + a1) 1730) ∧ (∀ M21 : gW, M21 = gU M0 22 0 (upd (M0 22 0) ((6 : Int32) + a1).toNatClampNeg ((M0 22 0 ((6 : Int32) + a1).toNatClampNeg) + (1 : Int32))) → ((vp_in ((708 : Int32) + a1) 1730) ∧ ((a2 = (1 : Int32) → ((vp_in ((708 : Int32) + a1) 1730) ∧ (((9999 : Int32) ≤ (M21 22 0 ((708 : Int32) + a1).toNatClampNeg) → ((vp_in ((708 : Int32) + a1) 1730) ∧ (∀ M31 : gW, M31 = gU M21 22 0 (upd (M21 22 0) ((708 : Int32) + a1).toNatClampNeg ((M21 22 0 ((708 : Int32) + a1).toNatClampNeg) + (0 : Int32))) → (K M31)))) ∧ (¬ ((9999 : Int32) ≤ (M21 22 0 ((708 : Int32) + a1).toNatClampNeg)) → ((vp_in ((708 : Int32) + a1) 1730) ∧ (∀ M34 : gW, M34 = gU M21 22 0 (upd (M21 22 0) ((708 : Int32) + a1).toNatClampNeg ((M21 22 0 ((708 : Int32) + a1).toNatClampNeg) + (1 : Int32))) → (K M34))))))) ∧ (¬ (a2 = (1 : Int32)) → ((vp_in ((708 : Int32) + a1) 1730) ∧ (∀ M26 : gW, M26 = gU M21 22 0 (upd (M21 22 0) ((708 : Int32) + a1).toNatClampNeg ((M21 22 0 ((708 : Int32) + a1).toNatClampNeg) + (0 : Int32))) → (K M26)))))))))))
def wX9_joinOf (M0 : gW) (a0 : Int32) (a1 : Int32) (K : Int32 → gW → Prop) : Prop := K (((26 : Int32) + ((26 : Int32) * a0)) + a1) M0
def wX9_isWord (M0 : gW) (a1 : Int32) (K : Int32 → gW → Prop) : Prop := (vp_in (5 : Int32) 1730) ∧ (wX9_in M0 (a1.toInt64) (0 : Int64) ((M0 22 0 (5 : Int32).toNatClampNeg).toInt64 - (1 : Int64)) (fun r3 M2 => ((r3 = 0 ∨ r3 = 1) ∧ (K r3 M2))))
def wX9_sizeOf (M0 : gW) (a1 : Int32) (K : Int32 → gW → Prop) : Prop := (vp_in ((1410 : Int32) + ((16 : Int32) * a1)) 1730) ∧ (K (M0 22 0 ((1410 : Int32) + ((16 : Int32) * a1)).toNatClampNeg) M0)
def wX9_letterAt (M0 : gW) (a1 : Int32) (a2 : Int32) (K : Int32 → gW → Prop) : Prop := (vp_in ((((1410 : Int32) + ((16 : Int32) * a1)) + (1 : Int32)) + a2) 1730) ∧ (K (M0 22 0 ((((1410 : Int32) + ((16 : Int32) * a1)) + (1 : Int32)) + a2).toNatClampNeg) M0)
def wX9_addsPart_L4 (a1 : Int32)  (X0 : gW → Int32 → Int32 → Prop) : Nat → gW → Int32 → Int32 → Prop
  | 0, _, _, _ => False
  | n1 + 1, M2, x2_3, x3_4 => ((M2 21 0 8) ≤ x3_4 → (X0 M2 x2_3 x3_4)) ∧ (¬ ((M2 21 0 8) ≤ x3_4) → ((x2_3 = 0 → ((vp_in x3_4 29) ∧ (((M2 22 5 x3_4.toNatClampNeg) = a1 → (wX9_addsPart_L4 a1 X0 n1 M2 (1 : Int32) (x3_4 + (1 : Int32)))) ∧ (¬ ((M2 22 5 x3_4.toNatClampNeg) = a1) → (wX9_addsPart_L4 a1 X0 n1 M2 (0 : Int32) (x3_4 + (1 : Int32))))))) ∧ (¬ (x2_3 = 0) → (wX9_addsPart_L4 a1 X0 n1 M2 (1 : Int32) (x3_4 + (1 : Int32))))))
def wX9_addsPart (M0 : gW) (a1 : Int32) (K : gW → Prop) : Prop := ∃ n18 : Nat, wX9_addsPart_L4 a1 (fun M9 x2_10 x3_11 => ((x2_10 = 0 → ((vp_in (M9 21 0 8) 29) ∧ (∀ M14 : gW, M14 = gU M9 22 5 (upd (M9 22 5) (M9 21 0 8).toNatClampNeg a1) → (∀ M16 : gW, M16 = gU M14 21 0 (upd (M14 21 0) 8 ((M14 21 0 8) + (1 : Int32))) → (K M16))))) ∧ (¬ (x2_10 = 0) → (K M9)))) n18 M0 (0 : Int32) (0 : Int32)
def wX9_findsParts_L7 (a1 : Int32)  (X0 : gW → Int32 → Prop) : Nat → gW → Int32 → Prop
  | 0, _, _ => False
  | n3 + 1, M4, x2_5 => wX9_sizeOf M4 a1 (fun r7 M6 => ((r7 ≤ x2_5 → (X0 M6 x2_5)) ∧ (¬ (r7 ≤ x2_5) → (wX9_letterAt M6 a1 x2_5 (fun r10 M9 => (wX9_addsPart M9 r10 (fun M11 => ((x2_5 ≤ 0 → (wX9_findsParts_L7 a1 X0 n3 M11 (x2_5 + (1 : Int32)))) ∧ (¬ (x2_5 ≤ 0) → (wX9_letterAt M11 a1 (x2_5 - (1 : Int32)) (fun r14 M13 => (wX9_letterAt M13 a1 x2_5 (fun r16 M15 => (wX9_joinOf M15 r14 r16 (fun r18 M17 => (wX9_addsPart M17 r18 (fun M19 => (wX9_findsParts_L7 a1 X0 n3 M19 (x2_5 + (1 : Int32))))))))))))))))))))
def wX9_findsParts (M0 : gW) (a1 : Int32) (K : gW → Prop) : Prop := ∀ M1 : gW, M1 = gU M0 21 0 (upd (M0 21 0) 8 (0 : Int32)) → (∃ n22 : Nat, wX9_findsParts_L7 a1 (fun M20 x2_21 => (K M20)) n22 M1 (0 : Int32))
def wX9_hasPart_L10 (a2 : Int32)  (X0 : gW → Int32 → Int32 → Prop) : Nat → gW → Int32 → Int32 → Prop
  | 0, _, _, _ => False
  | n2 + 1, M3, x3_4, x4_5 => ((M3 21 0 8) ≤ x4_5 → (X0 M3 x3_4 x4_5)) ∧ (¬ ((M3 21 0 8) ≤ x4_5) → ((x3_4 = 0 → ((vp_in x4_5 29) ∧ (((M3 22 5 x4_5.toNatClampNeg) = a2 → (wX9_hasPart_L10 a2 X0 n2 M3 (1 : Int32) (x4_5 + (1 : Int32)))) ∧ (¬ ((M3 22 5 x4_5.toNatClampNeg) = a2) → (wX9_hasPart_L10 a2 X0 n2 M3 (0 : Int32) (x4_5 + (1 : Int32))))))) ∧ (¬ (x3_4 = 0) → (wX9_hasPart_L10 a2 X0 n2 M3 (1 : Int32) (x4_5 + (1 : Int32))))))
def wX9_hasPart (M0 : gW) (a1 : Int32) (a2 : Int32) (K : Int32 → gW → Prop) : Prop := wX9_findsParts M0 a1 (fun M1 => (∃ n14 : Nat, wX9_hasPart_L10 a2 (fun M10 x3_11 x4_12 => ((x3_11 = 0 ∨ x3_11 = 1) ∧ (K x3_11 M10))) n14 M1 (0 : Int32) (0 : Int32)))
def wX9_wordsWith_L4 (a1 : Int32)  (X0 : gW → Int32 → Int32 → Prop) : Nat → gW → Int32 → Int32 → Prop
  | 0, _, _, _ => False
  | n1 + 1, M2, x2_3, x3_4 => (vp_in (5 : Int32) 1730) ∧ (((M2 22 0 (5 : Int32).toNatClampNeg) ≤ x3_4 → (X0 M2 x2_3 x3_4)) ∧ (¬ ((M2 22 0 (5 : Int32).toNatClampNeg) ≤ x3_4) → (wX9_hasPart M2 x3_4 a1 (fun r8 M7 => ((r8 = 0 → (wX9_wordsWith_L4 a1 X0 n1 M7 (x2_3 + (0 : Int32)) (x3_4 + (1 : Int32)))) ∧ (¬ (r8 = 0) → (wX9_wordsWith_L4 a1 X0 n1 M7 (x2_3 + (1 : Int32)) (x3_4 + (1 : Int32)))))))))
def wX9_wordsWith (M0 : gW) (a1 : Int32) (K : Int32 → gW → Prop) : Prop := ∃ n13 : Nat, wX9_wordsWith_L4 a1 (fun M10 x2_11 x3_12 => (K x2_11 M10)) n13 M0 (0 : Int32) (0 : Int32)
def wX9_gainOf_L9   (X0 : gW → Int32 → Int32 → Prop) : Nat → gW → Int32 → Int32 → Prop
  | 0, _, _, _ => False
  | n2 + 1, M3, x2_4, x3_5 => ((M3 21 0 8) ≤ x3_5 → (X0 M3 x2_4 x3_5)) ∧ (¬ ((M3 21 0 8) ≤ x3_5) → ((vp_in x3_5 29) ∧ (wX9_isUntried M3 (M3 22 5 x3_5.toNatClampNeg) (fun r9 M8 => ((r9 = 0 → ((vp_in (M3 22 5 x3_5.toNatClampNeg) 702) ∧ (((M8 22 8 (M3 22 5 x3_5.toNatClampNeg).toNatClampNeg) = (1 : Int32) → (wX9_needOf M8 (M3 22 5 x3_5.toNatClampNeg) (fun r16 M15 => (wX9_gainOf_L9 X0 n2 M15 (x2_4 + (r16 / (2 : Int32))) (x3_5 + (1 : Int32)))))) ∧ (¬ ((M8 22 8 (M3 22 5 x3_5.toNatClampNeg).toNatClampNeg) = (1 : Int32)) → (wX9_needOf M8 (M3 22 5 x3_5.toNatClampNeg) (fun r14 M13 => (wX9_gainOf_L9 X0 n2 M13 (x2_4 + r14) (x3_5 + (1 : Int32))))))))) ∧ (¬ (r9 = 0) → ((vp_in (0 : Int32) 1730) ∧ (wX9_gainOf_L9 X0 n2 M8 (x2_4 + (M8 22 0 (0 : Int32).toNatClampNeg)) (x3_5 + (1 : Int32))))))))))
def wX9_gainOf (M0 : gW) (a1 : Int32) (K : Int32 → gW → Prop) : Prop := wX9_findsParts M0 a1 (fun M1 => (∃ n21 : Nat, wX9_gainOf_L9 (fun M18 x2_19 x3_20 => (K x2_19 M18)) n21 M1 (0 : Int32) (0 : Int32)))
def wX9_coversNone_L2   (X0 : gW → Int32 → Prop) : Nat → gW → Int32 → Prop
  | 0, _, _ => False
  | n1 + 1, M2, x1_3 => ((702 : Int32) ≤ x1_3 → (X0 M2 x1_3)) ∧ (¬ ((702 : Int32) ≤ x1_3) → ((vp_in x1_3 702) ∧ (∀ M6 : gW, M6 = gU M2 22 8 (upd (M2 22 8) x1_3.toNatClampNeg (0 : Int32)) → (wX9_coversNone_L2 X0 n1 M6 (x1_3 + (1 : Int32))))))
def wX9_coversNone (M0 : gW) (K : gW → Prop) : Prop := ∃ n10 : Nat, wX9_coversNone_L2 (fun M8 x1_9 => (K M8)) n10 M0 (0 : Int32)
def wX9_isOnSheet_L4 (a1 : Int32)  (X0 : gW → Int32 → Int32 → Prop) : Nat → gW → Int32 → Int32 → Prop
  | 0, _, _, _ => False
  | n1 + 1, M2, x2_3, x3_4 => ((M2 21 0 11) ≤ x3_4 → (X0 M2 x2_3 x3_4)) ∧ (¬ ((M2 21 0 11) ≤ x3_4) → ((x2_3 = 0 → ((vp_in x3_4 10) ∧ (((M2 22 6 x3_4.toNatClampNeg) = a1 → (wX9_isOnSheet_L4 a1 X0 n1 M2 (1 : Int32) (x3_4 + (1 : Int32)))) ∧ (¬ ((M2 22 6 x3_4.toNatClampNeg) = a1) → (wX9_isOnSheet_L4 a1 X0 n1 M2 (0 : Int32) (x3_4 + (1 : Int32))))))) ∧ (¬ (x2_3 = 0) → (wX9_isOnSheet_L4 a1 X0 n1 M2 (1 : Int32) (x3_4 + (1 : Int32))))))
def wX9_isOnSheet (M0 : gW) (a1 : Int32) (K : Int32 → gW → Prop) : Prop := ∃ n13 : Nat, wX9_isOnSheet_L4 a1 (fun M9 x2_10 x3_11 => ((x2_10 = 0 ∨ x2_10 = 1) ∧ (K x2_10 M9))) n13 M0 (0 : Int32) (0 : Int32)
def wX9_nextWord_L7   (X0 : gW → Int32 → Int32 → Int32 → Prop) : Nat → gW → Int32 → Int32 → Int32 → Prop
  | 0, _, _, _, _ => False
  | n1 + 1, M2, x1_3, x2_4, x3_5 => (vp_in (5 : Int32) 1730) ∧ (((M2 22 0 (5 : Int32).toNatClampNeg) ≤ x3_5 → (X0 M2 x1_3 x2_4 x3_5)) ∧ (¬ ((M2 22 0 (5 : Int32).toNatClampNeg) ≤ x3_5) → (wX9_isOnSheet M2 x3_5 (fun r9 M8 => ((r9 = 0 → (wX9_gainOf M8 x3_5 (fun r12 M11 => ((x2_4 < r12 → (wX9_nextWord_L7 X0 n1 M11 x3_5 r12 (x3_5 + (1 : Int32)))) ∧ (¬ (x2_4 < r12) → ((x1_3 = (-5 : Int32) → (wX9_nextWord_L7 X0 n1 M11 x1_3 x2_4 (x3_5 + (1 : Int32)))) ∧ (¬ (x1_3 = (-5 : Int32)) → ((r12 = x2_4 → (wX9_sizeOf M11 x3_5 (fun r17 M16 => (wX9_sizeOf M16 x1_3 (fun r19 M18 => ((r19 ≤ r17 → (wX9_nextWord_L7 X0 n1 M18 x1_3 x2_4 (x3_5 + (1 : Int32)))) ∧ (¬ (r19 ≤ r17) → (wX9_nextWord_L7 X0 n1 M18 x3_5 r12 (x3_5 + (1 : Int32)))))))))) ∧ (¬ (r12 = x2_4) → (wX9_nextWord_L7 X0 n1 M11 x1_3 x2_4 (x3_5 + (1 : Int32)))))))))))) ∧ (¬ (r9 = 0) → ((x2_4 < (0 : Int32) → (wX9_nextWord_L7 X0 n1 M8 x3_5 (0 : Int32) (x3_5 + (1 : Int32)))) ∧ (¬ (x2_4 < (0 : Int32)) → ((x1_3 = (-5 : Int32) → (wX9_nextWord_L7 X0 n1 M8 x1_3 x2_4 (x3_5 + (1 : Int32)))) ∧ (¬ (x1_3 = (-5 : Int32)) → (((0 : Int32) = x2_4 → (wX9_sizeOf M8 x3_5 (fun r25 M24 => (wX9_sizeOf M24 x1_3 (fun r27 M26 => ((r27 ≤ r25 → (wX9_nextWord_L7 X0 n1 M26 x1_3 x2_4 (x3_5 + (1 : Int32)))) ∧ (¬ (r27 ≤ r25) → (wX9_nextWord_L7 X0 n1 M26 x3_5 (0 : Int32) (x3_5 + (1 : Int32)))))))))) ∧ (¬ ((0 : Int32) = x2_4) → (wX9_nextWord_L7 X0 n1 M8 x1_3 x2_4 (x3_5 + (1 : Int32)))))))))))))))
def wX9_nextWord (M0 : gW) (K : Int32 → gW → Prop) : Prop := ∃ n33 : Nat, wX9_nextWord_L7 (fun M29 x1_30 x2_31 x3_32 => (K x1_30 M29)) n33 M0 (-5 : Int32) (0 : Int32) (0 : Int32)
def wX9_makesSheet_L65   (X0 : gW → Int32 → Prop) : Nat → gW → Int32 → Prop
  | 0, _, _ => False
  | n24 + 1, M25, x3_26 => ((M25 21 0 8) ≤ x3_26 → (X0 M25 x3_26)) ∧ (¬ ((M25 21 0 8) ≤ x3_26) → ((vp_in x3_26 29) ∧ ((vp_in (M25 22 5 x3_26.toNatClampNeg) 702) ∧ (∀ M30 : gW, M30 = gU M25 22 8 (upd (M25 22 8) (M25 22 5 x3_26.toNatClampNeg).toNatClampNeg (1 : Int32)) → (wX9_makesSheet_L65 X0 n24 M30 (x3_26 + (1 : Int32)))))))
def wX9_makesSheet_L23 (a1 : Int32)  (X0 : gW → Int32 → Prop) : Nat → gW → Int32 → Prop
  | 0, _, _ => False
  | n10 + 1, M11, x2_12 => (x2_12 = (-5 : Int32) → (X0 M11 x2_12)) ∧ (¬ (x2_12 = (-5 : Int32)) → ((vp_in (M11 21 0 11) 10) ∧ (∀ M15 : gW, M15 = gU M11 22 6 (upd (M11 22 6) (M11 21 0 11).toNatClampNeg x2_12) → (wX9_gainOf M15 x2_12 (fun r18 M17 => ((vp_in (M15 21 0 11) 10) ∧ (∀ M20 : gW, M20 = gU M17 22 7 (upd (M17 22 7) (M15 21 0 11).toNatClampNeg r18) → (∀ M22 : gW, M22 = gU M20 21 0 (upd (M20 21 0) 11 ((M20 21 0 11) + (1 : Int32))) → (∃ n37 : Nat, wX9_makesSheet_L65 (fun M32 x3_33 => ((a1 ≤ (M32 21 0 11) → (wX9_makesSheet_L23 a1 X0 n10 M32 (-5 : Int32))) ∧ (¬ (a1 ≤ (M32 21 0 11)) → (wX9_nextWord M32 (fun r36 M35 => (wX9_makesSheet_L23 a1 X0 n10 M35 r36)))))) n37 M22 (0 : Int32))))))))))
def wX9_makesSheet (M0 : gW) (a1 : Int32) (K : gW → Prop) : Prop := ∀ M1 : gW, M1 = gU M0 21 0 (upd (M0 21 0) 11 (0 : Int32)) → (wX9_coversNone M1 (fun M3 => ((fun (J5 : gW → Int32 → Prop) => ((a1 ≤ 0 → (J5 M3 (-5 : Int32))) ∧ (¬ (a1 ≤ 0) → (wX9_nextWord M3 (fun r7 M6 => (J5 M6 r7)))))) (fun M8 z9 => (∃ n40 : Nat, wX9_makesSheet_L23 a1 (fun M38 x2_39 => (K M38)) n40 M8 z9)))))
def wX9_writesSheet_L19 (M2 : gW) (x1_3 : Int32)  (X0 : gW → Int32 → Prop) : Nat → gW → Int32 → Prop
  | 0, _, _ => False
  | n6 + 1, M7, x3_8 => wX9_sizeOf M7 (M2 22 6 x1_3.toNatClampNeg) (fun r10 M9 => ((r10 ≤ x3_8 → (X0 M9 x3_8)) ∧ (¬ (r10 ≤ x3_8) → (wX9_letterAt M9 (M2 22 6 x1_3.toNatClampNeg) x3_8 (fun r13 M12 => (wX9_tries M12 r13 (0 : Int32) (fun M14 => ((x3_8 ≤ 0 → (wX9_writesSheet_L19 M2 x1_3 X0 n6 M14 (x3_8 + (1 : Int32)))) ∧ (¬ (x3_8 ≤ 0) → (wX9_letterAt M14 (M2 22 6 x1_3.toNatClampNeg) (x3_8 - (1 : Int32)) (fun r17 M16 => (wX9_letterAt M16 (M2 22 6 x1_3.toNatClampNeg) x3_8 (fun r19 M18 => (wX9_joinOf M18 r17 r19 (fun r21 M20 => (wX9_tries M20 r21 (0 : Int32) (fun M22 => (wX9_writesSheet_L19 M2 x1_3 X0 n6 M22 (x3_8 + (1 : Int32))))))))))))))))))))
def wX9_writesSheet_L2   (X0 : gW → Int32 → Prop) : Nat → gW → Int32 → Prop
  | 0, _, _ => False
  | n1 + 1, M2, x1_3 => ((M2 21 0 11) ≤ x1_3 → (X0 M2 x1_3)) ∧ (¬ ((M2 21 0 11) ≤ x1_3) → ((vp_in x1_3 10) ∧ (∃ n25 : Nat, wX9_writesSheet_L19 M2 x1_3 (fun M23 x3_24 => (wX9_writesSheet_L2 X0 n1 M23 (x1_3 + (1 : Int32)))) n25 M2 (0 : Int32))))
def wX9_writesSheet (M0 : gW) (K : gW → Prop) : Prop := ∃ n36 : Nat, wX9_writesSheet_L2 (fun M26 x1_27 => ((vp_in (2 : Int32) 1730) ∧ ((vp_in (2 : Int32) 1730) ∧ (∀ M30 : gW, M30 = gU M26 22 0 (upd (M26 22 0) (2 : Int32).toNatClampNeg ((M26 22 0 (2 : Int32).toNatClampNeg) + (M26 21 0 11))) → ((vp_in (4 : Int32) 1730) ∧ ((vp_in (4 : Int32) 1730) ∧ (∀ M34 : gW, M34 = gU M30 22 0 (upd (M30 22 0) (4 : Int32).toNatClampNeg ((M30 22 0 (4 : Int32).toNatClampNeg) + (1 : Int32))) → (K M34)))))))) n36 M0 (0 : Int32)
def wX9_type (M0 : gW) (a1 : Int32) (K : Int32 → gW → Prop) : Prop := ((M0 21 0 14) = (60 : Int32) → (K (-3 : Int32) M0)) ∧ (¬ ((M0 21 0 14) = (60 : Int32)) → ((vp_in (M0 21 0 14) 60) ∧ (∀ M3 : gW, M3 = gU M0 22 9 (upd (M0 22 9) (M0 21 0 14).toNatClampNeg a1) → (∀ M5 : gW, M5 = gU M3 21 0 (upd (M3 21 0) 14 ((M3 21 0 14) + (1 : Int32))) → (K (M5 21 0 14) M5)))))
def wX9_clearText (M0 : gW) (K : Int32 → gW → Prop) : Prop := ∀ M1 : gW, M1 = gU M0 21 0 (upd (M0 21 0) 14 (0 : Int32)) → (K (M0 21 0 14) M1)
def wX9_isLetter (M0 : gW) (a1 : Int32) (K : Int32 → gW → Prop) : Prop := ((M0 21 0 14) ≤ a1 → (K (0 : Int32) M0)) ∧ (¬ ((M0 21 0 14) ≤ a1) → ((vp_in a1 60) ∧ (wX9_in M0 ((M0 22 9 a1.toNatClampNeg).toInt64) (97 : Int64) (122 : Int64) (fun r4 M3 => ((r4 = 0 → (K (0 : Int32) M3)) ∧ (¬ (r4 = 0) → (K (1 : Int32) M3)))))))
def wX9_isThere (M0 : gW) (a1 : Int32) (a2 : Int32) (K : Int32 → gW → Prop) : Prop := ((M0 21 0 14) ≤ a1 → (K (0 : Int32) M0)) ∧ (¬ ((M0 21 0 14) ≤ a1) → ((vp_in a1 60) ∧ (((M0 22 9 a1.toNatClampNeg) = a2 → (K (1 : Int32) M0)) ∧ (¬ ((M0 22 9 a1.toNatClampNeg) = a2) → (K (0 : Int32) M0)))))
def wX9_faultOfWriting_L9  (K : Int32 → gW → Prop) (X0 : gW → Int32 → Int32 → Prop) : Nat → gW → Int32 → Int32 → Prop
  | 0, _, _, _ => False
  | n3 + 1, M4, x1_5, x2_6 => (x2_6 = 0 → (X0 M4 x1_5 x2_6)) ∧ (¬ (x2_6 = 0) → (wX9_isLetter M4 x1_5 (fun r9 M8 => ((r9 = 0 → (K x1_5 M8)) ∧ (¬ (r9 = 0) → (((M8 21 0 18) = (15 : Int32) → (K x1_5 M8)) ∧ (¬ ((M8 21 0 18) = (15 : Int32)) → ((vp_in x1_5 60) ∧ ((vp_in (M8 21 0 18) 15) ∧ (∀ M14 : gW, M14 = gU M8 22 10 (upd (M8 22 10) (M8 21 0 18).toNatClampNeg ((M8 22 9 x1_5.toNatClampNeg) - (97 : Int32))) → (wX9_isThere M14 (x1_5 + (1 : Int32)) (33 : Int32) (fun r17 M16 => ((r17 = 0 → ((vp_in (M14 21 0 18) 15) ∧ (∀ M20 : gW, M20 = gU M16 22 11 (upd (M16 22 11) (M14 21 0 18).toNatClampNeg (0 : Int32)) → ((vp_in (M20 21 0 18) 15) ∧ (wX9_isThere M20 ((x1_5 + (1 : Int32)) + (M20 22 11 (M20 21 0 18).toNatClampNeg)) (45 : Int32) (fun r24 M23 => ((r24 = 0 → ((vp_in (M23 21 0 18) 15) ∧ (∀ M27 : gW, M27 = gU M23 22 12 (upd (M23 22 12) (M23 21 0 18).toNatClampNeg (0 : Int32)) → ((vp_in (M27 21 0 18) 15) ∧ (∀ y30 : Int32, y30 = (((x1_5 + (1 : Int32)) + (M20 22 11 (M20 21 0 18).toNatClampNeg)) + (M27 22 12 (M27 21 0 18).toNatClampNeg)) → (∀ M32 : gW, M32 = gU M27 21 0 (upd (M27 21 0) 18 ((M27 21 0 18) + (1 : Int32))) → (wX9_isLetter M32 y30 (fun r35 M34 => ((r35 = 0 → (wX9_faultOfWriting_L9 K X0 n3 M34 y30 (0 : Int32))) ∧ (¬ (r35 = 0) → (wX9_faultOfWriting_L9 K X0 n3 M34 y30 (1 : Int32)))))))))))) ∧ (¬ (r24 = 0) → (((15 : Int32) ≤ ((M23 21 0 18) + (1 : Int32)) → ((vp_in (M23 21 0 18) 15) ∧ (∀ M39 : gW, M39 = gU M23 22 12 (upd (M23 22 12) (M23 21 0 18).toNatClampNeg (0 : Int32)) → ((vp_in (M39 21 0 18) 15) ∧ (∀ y42 : Int32, y42 = (((x1_5 + (1 : Int32)) + (M20 22 11 (M20 21 0 18).toNatClampNeg)) + (M39 22 12 (M39 21 0 18).toNatClampNeg)) → (∀ M44 : gW, M44 = gU M39 21 0 (upd (M39 21 0) 18 ((M39 21 0 18) + (1 : Int32))) → (wX9_isLetter M44 y42 (fun r47 M46 => ((r47 = 0 → (wX9_faultOfWriting_L9 K X0 n3 M46 y42 (0 : Int32))) ∧ (¬ (r47 = 0) → (wX9_faultOfWriting_L9 K X0 n3 M46 y42 (1 : Int32)))))))))))) ∧ (¬ ((15 : Int32) ≤ ((M23 21 0 18) + (1 : Int32))) → ((vp_in (M23 21 0 18) 15) ∧ (∀ M50 : gW, M50 = gU M23 22 12 (upd (M23 22 12) (M23 21 0 18).toNatClampNeg (1 : Int32)) → ((vp_in (M50 21 0 18) 15) ∧ (∀ y53 : Int32, y53 = (((x1_5 + (1 : Int32)) + (M20 22 11 (M20 21 0 18).toNatClampNeg)) + (M50 22 12 (M50 21 0 18).toNatClampNeg)) → (∀ M55 : gW, M55 = gU M50 21 0 (upd (M50 21 0) 18 ((M50 21 0 18) + (1 : Int32))) → (wX9_faultOfWriting_L9 K X0 n3 M55 y53 (1 : Int32))))))))))))))))) ∧ (¬ (r17 = 0) → ((vp_in (M14 21 0 18) 15) ∧ (∀ M58 : gW, M58 = gU M16 22 11 (upd (M16 22 11) (M14 21 0 18).toNatClampNeg (1 : Int32)) → ((vp_in (M58 21 0 18) 15) ∧ (wX9_isThere M58 ((x1_5 + (1 : Int32)) + (M58 22 11 (M58 21 0 18).toNatClampNeg)) (45 : Int32) (fun r62 M61 => ((r62 = 0 → ((vp_in (M61 21 0 18) 15) ∧ (∀ M65 : gW, M65 = gU M61 22 12 (upd (M61 22 12) (M61 21 0 18).toNatClampNeg (0 : Int32)) → ((vp_in (M65 21 0 18) 15) ∧ (∀ y68 : Int32, y68 = (((x1_5 + (1 : Int32)) + (M58 22 11 (M58 21 0 18).toNatClampNeg)) + (M65 22 12 (M65 21 0 18).toNatClampNeg)) → (∀ M70 : gW, M70 = gU M65 21 0 (upd (M65 21 0) 18 ((M65 21 0 18) + (1 : Int32))) → (wX9_isLetter M70 y68 (fun r73 M72 => ((r73 = 0 → (wX9_faultOfWriting_L9 K X0 n3 M72 y68 (0 : Int32))) ∧ (¬ (r73 = 0) → (wX9_faultOfWriting_L9 K X0 n3 M72 y68 (1 : Int32)))))))))))) ∧ (¬ (r62 = 0) → (((15 : Int32) ≤ ((M61 21 0 18) + (1 : Int32)) → ((vp_in (M61 21 0 18) 15) ∧ (∀ M77 : gW, M77 = gU M61 22 12 (upd (M61 22 12) (M61 21 0 18).toNatClampNeg (0 : Int32)) → ((vp_in (M77 21 0 18) 15) ∧ (∀ y80 : Int32, y80 = (((x1_5 + (1 : Int32)) + (M58 22 11 (M58 21 0 18).toNatClampNeg)) + (M77 22 12 (M77 21 0 18).toNatClampNeg)) → (∀ M82 : gW, M82 = gU M77 21 0 (upd (M77 21 0) 18 ((M77 21 0 18) + (1 : Int32))) → (wX9_isLetter M82 y80 (fun r85 M84 => ((r85 = 0 → (wX9_faultOfWriting_L9 K X0 n3 M84 y80 (0 : Int32))) ∧ (¬ (r85 = 0) → (wX9_faultOfWriting_L9 K X0 n3 M84 y80 (1 : Int32)))))))))))) ∧ (¬ ((15 : Int32) ≤ ((M61 21 0 18) + (1 : Int32))) → ((vp_in (M61 21 0 18) 15) ∧ (∀ M88 : gW, M88 = gU M61 22 12 (upd (M61 22 12) (M61 21 0 18).toNatClampNeg (1 : Int32)) → ((vp_in (M88 21 0 18) 15) ∧ (∀ y91 : Int32, y91 = (((x1_5 + (1 : Int32)) + (M58 22 11 (M58 21 0 18).toNatClampNeg)) + (M88 22 12 (M88 21 0 18).toNatClampNeg)) → (∀ M93 : gW, M93 = gU M88 21 0 (upd (M88 21 0) 18 ((M88 21 0 18) + (1 : Int32))) → (wX9_faultOfWriting_L9 K X0 n3 M93 y91 (1 : Int32))))))))))))))))))))))))))))))
def wX9_faultOfWriting (M0 : gW) (K : Int32 → gW → Prop) : Prop := ∀ M1 : gW, M1 = gU M0 21 0 (upd (M0 21 0) 18 (0 : Int32)) → (∃ n99 : Nat, wX9_faultOfWriting_L9 K (fun M95 x1_96 x2_97 => ((x1_96 = (M95 21 0 14) → (K (-5 : Int32) M95)) ∧ (¬ (x1_96 = (M95 21 0 14)) → (K x1_96 M95)))) n99 M1 (0 : Int32) (1 : Int32))
def wX9_faultOfWords_L4  (K : Int32 → gW → Prop) (X0 : gW → Int32 → Int32 → Prop) : Nat → gW → Int32 → Int32 → Prop
  | 0, _, _, _ => False
  | n1 + 1, M2, x1_3, x2_4 => ((M2 21 0 14) ≤ x2_4 → (X0 M2 x1_3 x2_4)) ∧ (¬ ((M2 21 0 14) ≤ x2_4) → (wX9_isLetter M2 x2_4 (fun r7 M6 => ((r7 = 0 → ((vp_in x2_4 60) ∧ (((M6 22 9 x2_4.toNatClampNeg) = (44 : Int32) → ((x1_3 = 0 → (K x2_4 M6)) ∧ (¬ (x1_3 = 0) → (wX9_faultOfWords_L4 K X0 n1 M6 (0 : Int32) (x2_4 + (1 : Int32)))))) ∧ (¬ ((M6 22 9 x2_4.toNatClampNeg) = (44 : Int32)) → (K x2_4 M6))))) ∧ (¬ (r7 = 0) → (((15 : Int32) ≤ x1_3 → ((vp_in x2_4 60) ∧ (((M6 22 9 x2_4.toNatClampNeg) = (44 : Int32) → ((x1_3 = 0 → (K x2_4 M6)) ∧ (¬ (x1_3 = 0) → (wX9_faultOfWords_L4 K X0 n1 M6 (0 : Int32) (x2_4 + (1 : Int32)))))) ∧ (¬ ((M6 22 9 x2_4.toNatClampNeg) = (44 : Int32)) → (K x2_4 M6))))) ∧ (¬ ((15 : Int32) ≤ x1_3) → (wX9_faultOfWords_L4 K X0 n1 M6 (x1_3 + (1 : Int32)) (x2_4 + (1 : Int32))))))))))
def wX9_faultOfWords (M0 : gW) (K : Int32 → gW → Prop) : Prop := ∃ n20 : Nat, wX9_faultOfWords_L4 K (fun M16 x1_17 x2_18 => ((x1_17 = 0 → (K (M16 21 0 14) M16)) ∧ (¬ (x1_17 = 0) → (K (-5 : Int32) M16)))) n20 M0 (0 : Int32) (0 : Int32)
def wX9_write_L24   (X0 : gW → Int32 → Int32 → Prop) : Nat → gW → Int32 → Int32 → Prop
  | 0, _, _, _ => False
  | n5 + 1, M6, x2_7, x3_8 => ((M6 21 0 18) ≤ x3_8 → (X0 M6 x2_7 x3_8)) ∧ (¬ ((M6 21 0 18) ≤ x3_8) → ((vp_in x3_8 15) ∧ ((vp_in x3_8 15) ∧ (wX9_tries M6 (M6 22 10 x3_8.toNatClampNeg) (M6 22 11 x3_8.toNatClampNeg) (fun M12 => ((vp_in x3_8 15) ∧ (((M12 21 0 18) ≤ (x3_8 + (1 : Int32)) → (wX9_write_L24 X0 n5 M12 (x2_7 + (M12 22 11 x3_8.toNatClampNeg)) (x3_8 + (1 : Int32)))) ∧ (¬ ((M12 21 0 18) ≤ (x3_8 + (1 : Int32))) → ((vp_in x3_8 15) ∧ ((vp_in (x3_8 + (1 : Int32)) 15) ∧ (wX9_joinOf M12 (M12 22 10 x3_8.toNatClampNeg) (M12 22 10 (x3_8 + (1 : Int32)).toNatClampNeg) (fun r18 M17 => ((vp_in x3_8 15) ∧ (wX9_tries M17 r18 (M17 22 12 x3_8.toNatClampNeg) (fun M20 => ((vp_in x3_8 15) ∧ (∀ y22 : Int32, y22 = ((x2_7 + (M12 22 11 x3_8.toNatClampNeg)) + (M20 22 12 x3_8.toNatClampNeg)) → (wX9_write_L24 X0 n5 M20 y22 (x3_8 + (1 : Int32))))))))))))))))))))
def wX9_write (M0 : gW) (K : Int32 → gW → Prop) : Prop := wX9_faultOfWriting M0 (fun r2 M1 => ((r2 = (-5 : Int32) → (wX9_remember M1 (fun M4 => (∃ n37 : Nat, wX9_write_L24 (fun M24 x2_25 x3_26 => ((vp_in (2 : Int32) 1730) ∧ ((vp_in (2 : Int32) 1730) ∧ (∀ M29 : gW, M29 = gU M24 22 0 (upd (M24 22 0) (2 : Int32).toNatClampNeg ((M24 22 0 (2 : Int32).toNatClampNeg) + (1 : Int32))) → ((vp_in (3 : Int32) 1730) ∧ ((vp_in (3 : Int32) 1730) ∧ (∀ M33 : gW, M33 = gU M29 22 0 (upd (M29 22 0) (3 : Int32).toNatClampNeg ((M29 22 0 (3 : Int32).toNatClampNeg) + x2_25)) → (wX9_acted M33 x2_25 (fun r36 M35 => (K r36 M35)))))))))) n37 M4 (0 : Int32) (0 : Int32))))) ∧ (¬ (r2 = (-5 : Int32)) → (K ((-100 : Int32) - r2) M1))))
def wX9_pass_L50 (a1 : Int32)  (X0 : gW → Int32 → Int32 → Prop) : Nat → gW → Int32 → Int32 → Prop
  | 0, _, _, _ => False
  | n11 + 1, M12, x2_13, x3_14 => ((702 : Int32) ≤ x3_14 → (X0 M12 x2_13 x3_14)) ∧ (¬ ((702 : Int32) ≤ x3_14) → ((vp_in ((6 : Int32) + x3_14) 1730) ∧ ((vp_in ((6 : Int32) + x3_14) 1730) ∧ (∀ M18 : gW, M18 = gU M12 22 0 (upd (M12 22 0) ((6 : Int32) + x3_14).toNatClampNeg ((M12 22 0 ((6 : Int32) + x3_14).toNatClampNeg) >>> (a1 &&& 31))) → ((vp_in ((708 : Int32) + x3_14) 1730) ∧ ((vp_in ((708 : Int32) + x3_14) 1730) ∧ (∀ M22 : gW, M22 = gU M18 22 0 (upd (M18 22 0) ((708 : Int32) + x3_14).toNatClampNeg ((M18 22 0 ((708 : Int32) + x3_14).toNatClampNeg) >>> (a1 &&& 31))) → ((vp_in ((6 : Int32) + x3_14) 1730) ∧ (((M22 22 0 ((6 : Int32) + x3_14).toNatClampNeg) = 0 → ((vp_in ((6 : Int32) + x3_14) 1730) ∧ (((M22 22 1 ((6 : Int32) + x3_14).toNatClampNeg) ≤ 0 → (wX9_pass_L50 a1 X0 n11 M22 (x2_13 + (0 : Int32)) (x3_14 + (1 : Int32)))) ∧ (¬ ((M22 22 1 ((6 : Int32) + x3_14).toNatClampNeg) ≤ 0) → (wX9_pass_L50 a1 X0 n11 M22 (x2_13 + (1 : Int32)) (x3_14 + (1 : Int32))))))) ∧ (¬ ((M22 22 0 ((6 : Int32) + x3_14).toNatClampNeg) = 0) → (wX9_pass_L50 a1 X0 n11 M22 (x2_13 + (0 : Int32)) (x3_14 + (1 : Int32)))))))))))))
def wX9_pass (M0 : gW) (a1 : Int32) (K : Int32 → gW → Prop) : Prop := wX9_in M0 (a1.toInt64) (1 : Int64) (20 : Int64) (fun r2 M1 => ((r2 = 0 → (K (-2 : Int32) M1)) ∧ (¬ (r2 = 0) → ((vp_in (1 : Int32) 1730) ∧ ((((M1 22 0 (1 : Int32).toNatClampNeg) + a1) ≤ (999 : Int32) → (wX9_remember M1 (fun M6 => ((vp_in (1 : Int32) 1730) ∧ ((vp_in (1 : Int32) 1730) ∧ (∀ M9 : gW, M9 = gU M6 22 0 (upd (M6 22 0) (1 : Int32).toNatClampNeg ((M6 22 0 (1 : Int32).toNatClampNeg) + a1)) → (∃ n33 : Nat, wX9_pass_L50 a1 (fun M28 x2_29 x3_30 => (wX9_acted M28 x2_29 (fun r32 M31 => (K r32 M31)))) n33 M9 (0 : Int32) (0 : Int32)))))))) ∧ (¬ (((M1 22 0 (1 : Int32).toNatClampNeg) + a1) ≤ (999 : Int32)) → (K (-3 : Int32) M1)))))))
def wX9_setUntried (M0 : gW) (a1 : Int32) (K : Int32 → gW → Prop) : Prop := wX9_in M0 (a1.toInt64) (0 : Int64) (99 : Int64) (fun r2 M1 => ((r2 = 0 → (K (-2 : Int32) M1)) ∧ (¬ (r2 = 0) → ((vp_in (0 : Int32) 1730) ∧ (((M1 22 0 (0 : Int32).toNatClampNeg) = a1 → (K (-5 : Int32) M1)) ∧ (¬ ((M1 22 0 (0 : Int32).toNatClampNeg) = a1) → (wX9_remember M1 (fun M6 => ((vp_in (0 : Int32) 1730) ∧ (∀ M8 : gW, M8 = gU M6 22 0 (upd (M6 22 0) (0 : Int32).toNatClampNeg a1) → (wX9_acted M8 (M1 22 0 (0 : Int32).toNatClampNeg) (fun r11 M10 => (K r11 M10)))))))))))))
def wX9_isOnList_L36 (a1 : Int32) (a2 : Int32) (x4_4 : Int32)  (X0 : gW → Int32 → Int32 → Prop) : Nat → gW → Int32 → Int32 → Prop
  | 0, _, _, _ => False
  | n13 + 1, M14, x5_15, x6_16 => (a2 ≤ x6_16 → (X0 M14 x5_15 x6_16)) ∧ (¬ (a2 ≤ x6_16) → ((x5_15 = 0 → (X0 M14 x5_15 x6_16)) ∧ (¬ (x5_15 = 0) → (wX9_letterAt M14 x4_4 x6_16 (fun r20 M19 => ((vp_in (a1 + x6_16) 60) ∧ ((r20 = ((M19 22 9 (a1 + x6_16).toNatClampNeg) - (97 : Int32)) → (wX9_isOnList_L36 a1 a2 x4_4 X0 n13 M19 (1 : Int32) (x6_16 + (1 : Int32)))) ∧ (¬ (r20 = ((M19 22 9 (a1 + x6_16).toNatClampNeg) - (97 : Int32))) → (wX9_isOnList_L36 a1 a2 x4_4 X0 n13 M19 (0 : Int32) (x6_16 + (1 : Int32)))))))))))
def wX9_isOnList_L5 (a1 : Int32) (a2 : Int32)  (X0 : gW → Int32 → Int32 → Prop) : Nat → gW → Int32 → Int32 → Prop
  | 0, _, _, _ => False
  | n1 + 1, M2, x3_3, x4_4 => (vp_in (5 : Int32) 1730) ∧ (((M2 22 0 (5 : Int32).toNatClampNeg) ≤ x4_4 → (X0 M2 x3_3 x4_4)) ∧ (¬ ((M2 22 0 (5 : Int32).toNatClampNeg) ≤ x4_4) → (wX9_sizeOf M2 x4_4 (fun r8 M7 => ((fun (J10 : gW → Int32 → Prop) => ((r8 = a2 → (J10 M7 (1 : Int32))) ∧ (¬ (r8 = a2) → (J10 M7 (0 : Int32))))) (fun M11 z12 => (∃ n28 : Nat, wX9_isOnList_L36 a1 a2 x4_4 (fun M23 x5_24 x6_25 => ((x3_3 = 0 → ((x5_24 = 0 → (wX9_isOnList_L5 a1 a2 X0 n1 M23 (0 : Int32) (x4_4 + (1 : Int32)))) ∧ (¬ (x5_24 = 0) → (wX9_isOnList_L5 a1 a2 X0 n1 M23 (1 : Int32) (x4_4 + (1 : Int32)))))) ∧ (¬ (x3_3 = 0) → (wX9_isOnList_L5 a1 a2 X0 n1 M23 (1 : Int32) (x4_4 + (1 : Int32)))))) n28 M11 z12 (0 : Int32))))))))
def wX9_isOnList (M0 : gW) (a1 : Int32) (a2 : Int32) (K : Int32 → gW → Prop) : Prop := ∃ n33 : Nat, wX9_isOnList_L5 a1 a2 (fun M29 x3_30 x4_31 => ((x3_30 = 0 ∨ x3_30 = 1) ∧ (K x3_30 M29))) n33 M0 (0 : Int32) (0 : Int32)
def wX9_addsAll_L74 (x1_3 : Int32) (x2_12 : Int32) (y19 : Int32)  (X0 : gW → Int32 → Prop) : Nat → gW → Int32 → Prop
  | 0, _, _ => False
  | n24 + 1, M25, x4_26 => (x2_12 ≤ x4_26 → (X0 M25 x4_26)) ∧ (¬ (x2_12 ≤ x4_26) → ((vp_in (x1_3 + x4_26) 60) ∧ ((vp_in ((y19 + (1 : Int32)) + x4_26) 1730) ∧ (∀ M30 : gW, M30 = gU M25 22 0 (upd (M25 22 0) ((y19 + (1 : Int32)) + x4_26).toNatClampNeg ((M25 22 9 (x1_3 + x4_26).toNatClampNeg) - (97 : Int32))) → (wX9_addsAll_L74 x1_3 x2_12 y19 X0 n24 M30 (x4_26 + (1 : Int32)))))))
def wX9_addsAll_L12 (x1_3 : Int32)  (X0 : gW → Int32 → Prop) : Nat → gW → Int32 → Prop
  | 0, _, _ => False
  | n5 + 1, M6, x2_7 => wX9_isLetter M6 (x1_3 + x2_7) (fun r9 M8 => ((r9 = 0 → (X0 M8 x2_7)) ∧ (¬ (r9 = 0) → (wX9_addsAll_L12 x1_3 X0 n5 M8 (x2_7 + (1 : Int32))))))
def wX9_addsAll_L2  (K : Int32 → gW → Prop) (X0 : gW → Int32 → Prop) : Nat → gW → Int32 → Prop
  | 0, _, _ => False
  | n1 + 1, M2, x1_3 => ((M2 21 0 14) ≤ x1_3 → (X0 M2 x1_3)) ∧ (¬ ((M2 21 0 14) ≤ x1_3) → (∃ n39 : Nat, wX9_addsAll_L12 x1_3 (fun M11 x2_12 => (wX9_isOnList M11 x1_3 x2_12 (fun r14 M13 => ((r14 = 0 → ((vp_in (5 : Int32) 1730) ∧ (((M13 22 0 (5 : Int32).toNatClampNeg) = (20 : Int32) → (K (0 : Int32) M13)) ∧ (¬ ((M13 22 0 (5 : Int32).toNatClampNeg) = (20 : Int32)) → ((vp_in (5 : Int32) 1730) ∧ (∀ y19 : Int32, y19 = ((1410 : Int32) + ((16 : Int32) * (M13 22 0 (5 : Int32).toNatClampNeg))) → ((vp_in y19 1730) ∧ (∀ M22 : gW, M22 = gU M13 22 0 (upd (M13 22 0) y19.toNatClampNeg x2_12) → (∃ n38 : Nat, wX9_addsAll_L74 x1_3 x2_12 y19 (fun M32 x4_33 => ((vp_in (5 : Int32) 1730) ∧ ((vp_in (5 : Int32) 1730) ∧ (∀ M36 : gW, M36 = gU M32 22 0 (upd (M32 22 0) (5 : Int32).toNatClampNeg ((M32 22 0 (5 : Int32).toNatClampNeg) + (1 : Int32))) → (wX9_addsAll_L2 K X0 n1 M36 (x1_3 + (x2_12 + (1 : Int32)))))))) n38 M22 (0 : Int32)))))))))) ∧ (¬ (r14 = 0) → (wX9_addsAll_L2 K X0 n1 M13 (x1_3 + (x2_12 + (1 : Int32))))))))) n39 M2 (0 : Int32)))
def wX9_addsAll (M0 : gW) (K : Int32 → gW → Prop) : Prop := ∃ n42 : Nat, wX9_addsAll_L2 K (fun M40 x1_41 => (K (1 : Int32) M40)) n42 M0 (0 : Int32)
def wX9_addWords (M0 : gW) (K : Int32 → gW → Prop) : Prop := wX9_faultOfWords M0 (fun r2 M1 => ((r2 = (-5 : Int32) → (wX9_remember M1 (fun M4 => (wX9_addsAll M4 (fun r6 M5 => ((r6 = 0 → (wX9_copy M5 1 0 (fun M15 => (K (-3 : Int32) M15)))) ∧ (¬ (r6 = 0) → ((vp_in (5 : Int32) 1730) ∧ ((vp_in (5 : Int32) 1730) ∧ (∀ y10 : Int32, y10 = ((M5 22 0 (5 : Int32).toNatClampNeg) - (M5 22 1 (5 : Int32).toNatClampNeg)) → ((y10 = 0 → (K (-5 : Int32) M5)) ∧ (¬ (y10 = 0) → (wX9_acted M5 y10 (fun r14 M13 => (K r14 M13))))))))))))))) ∧ (¬ (r2 = (-5 : Int32)) → (K ((-100 : Int32) - r2) M1))))
def wX9_removeWord_L33   (X0 : gW → Int32 → Prop) : Nat → gW → Int32 → Prop
  | 0, _, _ => False
  | n9 + 1, M10, x2_11 => (vp_in (5 : Int32) 1730) ∧ ((((1410 : Int32) + ((16 : Int32) * (M10 22 0 (5 : Int32).toNatClampNeg))) ≤ x2_11 → (X0 M10 x2_11)) ∧ (¬ (((1410 : Int32) + ((16 : Int32) * (M10 22 0 (5 : Int32).toNatClampNeg))) ≤ x2_11) → ((vp_in (x2_11 + (16 : Int32)) 1730) ∧ ((vp_in x2_11 1730) ∧ (∀ M16 : gW, M16 = gU M10 22 0 (upd (M10 22 0) x2_11.toNatClampNeg (M10 22 0 (x2_11 + (16 : Int32)).toNatClampNeg)) → (wX9_removeWord_L33 X0 n9 M16 (x2_11 + (1 : Int32))))))))
def wX9_removeWord (M0 : gW) (a1 : Int32) (K : Int32 → gW → Prop) : Prop := wX9_isWord M0 a1 (fun r2 M1 => ((r2 = 0 → (K (-1 : Int32) M1)) ∧ (¬ (r2 = 0) → (wX9_remember M1 (fun M4 => ((vp_in (5 : Int32) 1730) ∧ ((vp_in (5 : Int32) 1730) ∧ (∀ M7 : gW, M7 = gU M4 22 0 (upd (M4 22 0) (5 : Int32).toNatClampNeg ((M4 22 0 (5 : Int32).toNatClampNeg) - (1 : Int32))) → (∃ n23 : Nat, wX9_removeWord_L33 (fun M18 x2_19 => ((vp_in (5 : Int32) 1730) ∧ (wX9_acted M18 (M18 22 0 (5 : Int32).toNatClampNeg) (fun r22 M21 => (K r22 M21))))) n23 M7 ((1410 : Int32) + ((16 : Int32) * a1)))))))))))
def wX9_isLines (M0 : gW) (a0 : Int32) (K : Int32 → gW → Prop) : Prop := wX9_in M0 (a0.toInt64) (1 : Int64) (10 : Int64) (fun r2 M1 => ((r2 = 0 ∨ r2 = 1) ∧ (K r2 M1)))
def wX9_doSheet (M0 : gW) (a1 : Int32) (K : Int32 → gW → Prop) : Prop := wX9_isLines M0 a1 (fun r2 M1 => ((r2 = 0 → (K (-2 : Int32) M1)) ∧ (¬ (r2 = 0) → (wX9_makesSheet M1 a1 (fun M4 => (((M4 21 0 11) = 0 → (K (-5 : Int32) M4)) ∧ (¬ ((M4 21 0 11) = 0) → (wX9_remember M4 (fun M6 => (wX9_writesSheet M6 (fun M7 => (wX9_acted M7 (M7 21 0 11) (fun r9 M8 => (K r9 M8))))))))))))))
def wX9_undo_L22   (X0 : gW → Int32 → Prop) : Nat → gW → Int32 → Prop
  | 0, _, _ => False
  | n4 + 1, M5, x1_6 => ((1730 : Int32) ≤ x1_6 → (X0 M5 x1_6)) ∧ (¬ ((1730 : Int32) ≤ x1_6) → ((vp_in (((1730 : Int32) * (M5 21 0 4)) + x1_6) 6920) ∧ ((vp_in x1_6 1730) ∧ (∀ M10 : gW, M10 = gU M5 22 0 (upd (M5 22 0) x1_6.toNatClampNeg (M5 22 3 (((1730 : Int32) * (M5 21 0 4)) + x1_6).toNatClampNeg)) → (wX9_undo_L22 X0 n4 M10 (x1_6 + (1 : Int32)))))))
def wX9_undo (M0 : gW) (K : Int32 → gW → Prop) : Prop := ((M0 21 0 4) = 0 → (K (-5 : Int32) M0)) ∧ (¬ ((M0 21 0 4) = 0) → (∀ M2 : gW, M2 = gU M0 21 0 (upd (M0 21 0) 4 ((M0 21 0 4) - (1 : Int32))) → (∃ n14 : Nat, wX9_undo_L22 (fun M12 x1_13 => (K (M12 21 0 4) M12)) n14 M2 (0 : Int32))))
def wX9_keep (M0 : gW) (K : Int32 → gW → Prop) : Prop := wX9_copy M0 0 4 (fun M1 => (∀ M2 : gW, M2 = gU M1 21 0 (upd (M1 21 0) 6 (1 : Int32)) → ((vp_in (5 : Int32) 1730) ∧ (K (M2 22 0 (5 : Int32).toNatClampNeg) M2))))
def wX9_restore (M0 : gW) (K : Int32 → gW → Prop) : Prop := ((M0 21 0 6) = 0 → (K (-5 : Int32) M0)) ∧ (¬ ((M0 21 0 6) = 0) → (wX9_remember M0 (fun M2 => (wX9_copy M2 4 0 (fun M3 => ((vp_in (5 : Int32) 1730) ∧ (wX9_acted M3 (M3 22 0 (5 : Int32).toNatClampNeg) (fun r6 M5 => (K r6 M5)))))))))
def wX9_ofPart (M0 : gW) (a1 : Int32) (a2 : Int32) (K : Int32 → gW → Prop) : Prop := (a2 = (0 : Int32) → ((vp_in ((6 : Int32) + a1) 1730) ∧ (K (M0 22 0 ((6 : Int32) + a1).toNatClampNeg) M0))) ∧ ((a2 = (1 : Int32) → ((vp_in ((708 : Int32) + a1) 1730) ∧ (K (M0 22 0 ((708 : Int32) + a1).toNatClampNeg) M0))) ∧ ((a2 = (2 : Int32) → (wX9_needOf M0 a1 (fun r7 M6 => (K r7 M6)))) ∧ ((a2 = (3 : Int32) → (wX9_wordsWith M0 a1 (fun r10 M9 => (K r10 M9)))) ∧ (¬ (a2 = (0 : Int32)) → ¬ (a2 = (1 : Int32)) → ¬ (a2 = (2 : Int32)) → ¬ (a2 = (3 : Int32)) → (K (-2 : Int32) M0)))))
def wX9_letter (M0 : gW) (a1 : Int32) (a2 : Int32) (K : Int32 → gW → Prop) : Prop := wX9_in M0 (a1.toInt64) (97 : Int64) (122 : Int64) (fun r2 M1 => ((r2 = 0 → (K (-1 : Int32) M1)) ∧ (¬ (r2 = 0) → (wX9_ofPart M1 (a1 - (97 : Int32)) a2 (fun r5 M4 => (K r5 M4))))))
def wX9_join (M0 : gW) (a1 : Int32) (a2 : Int32) (a3 : Int32) (K : Int32 → gW → Prop) : Prop := wX9_in M0 (a1.toInt64) (97 : Int64) (122 : Int64) (fun r2 M1 => ((r2 = 0 → (K (-1 : Int32) M1)) ∧ (¬ (r2 = 0) → (wX9_in M1 (a2.toInt64) (97 : Int64) (122 : Int64) (fun r5 M4 => ((r5 = 0 → (K (-1 : Int32) M4)) ∧ (¬ (r5 = 0) → (wX9_joinOf M4 (a1 - (97 : Int32)) (a2 - (97 : Int32)) (fun r8 M7 => (wX9_ofPart M7 r8 a3 (fun r10 M9 => (K r10 M9))))))))))))
def wX9_needOfWord_L9   (X0 : gW → Int32 → Int32 → Prop) : Nat → gW → Int32 → Int32 → Prop
  | 0, _, _, _ => False
  | n2 + 1, M3, x2_4, x3_5 => ((M3 21 0 8) ≤ x3_5 → (X0 M3 x2_4 x3_5)) ∧ (¬ ((M3 21 0 8) ≤ x3_5) → ((vp_in x3_5 29) ∧ (wX9_needOf M3 (M3 22 5 x3_5.toNatClampNeg) (fun r9 M8 => (wX9_needOfWord_L9 X0 n2 M8 (x2_4 + r9) (x3_5 + (1 : Int32)))))))
def wX9_needOfWord (M0 : gW) (a1 : Int32) (K : Int32 → gW → Prop) : Prop := wX9_findsParts M0 a1 (fun M1 => (∃ n13 : Nat, wX9_needOfWord_L9 (fun M10 x2_11 x3_12 => (K x2_11 M10)) n13 M1 (0 : Int32) (0 : Int32)))
def wX9_partsOf_L10 (a2 : Int32)  (X0 : gW → Int32 → Int32 → Prop) : Nat → gW → Int32 → Int32 → Prop
  | 0, _, _, _ => False
  | n2 + 1, M3, x3_4, x4_5 => ((M3 21 0 8) ≤ x4_5 → (X0 M3 x3_4 x4_5)) ∧ (¬ ((M3 21 0 8) ≤ x4_5) → ((a2 = 0 → (wX9_partsOf_L10 a2 X0 n2 M3 (x3_4 + (1 : Int32)) (x4_5 + (1 : Int32)))) ∧ (¬ (a2 = 0) → ((vp_in x4_5 29) ∧ (wX9_isUntried M3 (M3 22 5 x4_5.toNatClampNeg) (fun r10 M9 => ((r10 = 0 → (wX9_partsOf_L10 a2 X0 n2 M9 (x3_4 + (0 : Int32)) (x4_5 + (1 : Int32)))) ∧ (¬ (r10 = 0) → (wX9_partsOf_L10 a2 X0 n2 M9 (x3_4 + (1 : Int32)) (x4_5 + (1 : Int32)))))))))))
def wX9_partsOf (M0 : gW) (a1 : Int32) (a2 : Int32) (K : Int32 → gW → Prop) : Prop := wX9_findsParts M0 a1 (fun M1 => (∃ n15 : Nat, wX9_partsOf_L10 a2 (fun M12 x3_13 x4_14 => (K x3_13 M12)) n15 M1 (0 : Int32) (0 : Int32)))
def wX9_firstGain (M0 : gW) (a1 : Int32) (K : Int32 → gW → Prop) : Prop := wX9_coversNone M0 (fun M1 => (wX9_gainOf M1 a1 (fun r3 M2 => (K r3 M2))))
def wX9_word (M0 : gW) (a1 : Int32) (a2 : Int32) (K : Int32 → gW → Prop) : Prop := wX9_isWord M0 a1 (fun r2 M1 => ((r2 = 0 → (K (-1 : Int32) M1)) ∧ (¬ (r2 = 0) → ((a2 = (0 : Int32) → (wX9_sizeOf M1 a1 (fun r6 M5 => (K r6 M5)))) ∧ ((a2 = (1 : Int32) → (wX9_needOfWord M1 a1 (fun r9 M8 => (K r9 M8)))) ∧ ((a2 = (2 : Int32) → (wX9_partsOf M1 a1 (0 : Int32) (fun r12 M11 => (K r12 M11)))) ∧ ((a2 = (3 : Int32) → (wX9_partsOf M1 a1 (1 : Int32) (fun r15 M14 => (K r15 M14)))) ∧ ((a2 = (4 : Int32) → (wX9_firstGain M1 a1 (fun r18 M17 => (K r18 M17)))) ∧ (¬ (a2 = (0 : Int32)) → ¬ (a2 = (1 : Int32)) → ¬ (a2 = (2 : Int32)) → ¬ (a2 = (3 : Int32)) → ¬ (a2 = (4 : Int32)) → (K (-2 : Int32) M1))))))))))
def wX9_letterOf (M0 : gW) (a1 : Int32) (a2 : Int32) (K : Int32 → gW → Prop) : Prop := wX9_isWord M0 a1 (fun r2 M1 => ((r2 = 0 → (K (-1 : Int32) M1)) ∧ (¬ (r2 = 0) → ((0 ≤ a2 → (wX9_sizeOf M1 a1 (fun r6 M5 => ((r6 ≤ a2 → (K (-5 : Int32) M5)) ∧ (¬ (r6 ≤ a2) → (wX9_letterAt M5 a1 a2 (fun r9 M8 => (K r9 M8)))))))) ∧ (¬ (0 ≤ a2) → (K (-2 : Int32) M1))))))
def wX9_sheet (M0 : gW) (a1 : Int32) (a2 : Int32) (a3 : Int32) (K : Int32 → gW → Prop) : Prop := wX9_isLines M0 a1 (fun r2 M1 => ((r2 = 0 → (K (-2 : Int32) M1)) ∧ (¬ (r2 = 0) → ((a2 < 0 → (K (-2 : Int32) M1)) ∧ (¬ (a2 < 0) → (wX9_in M1 (a3.toInt64) (0 : Int64) (1 : Int64) (fun r6 M5 => ((r6 = 0 → (K (-2 : Int32) M5)) ∧ (¬ (r6 = 0) → (wX9_makesSheet M5 a1 (fun M8 => ((a2 < (M8 21 0 11) → ((a3 = 0 → ((vp_in a2 10) ∧ (K (M8 22 6 a2.toNatClampNeg) M8))) ∧ (¬ (a3 = 0) → ((vp_in a2 10) ∧ (K (M8 22 7 a2.toNatClampNeg) M8))))) ∧ (¬ (a2 < (M8 21 0 11)) → (K (-5 : Int32) M8))))))))))))))
def wX9_coveredIn_L5 (a2 : Int32)  (X0 : gW → Int32 → Int32 → Prop) : Nat → gW → Int32 → Int32 → Prop
  | 0, _, _, _ => False
  | n1 + 1, M2, x3_3, x4_4 => (a2 ≤ x4_4 → (X0 M2 x3_3 x4_4)) ∧ (¬ (a2 ≤ x4_4) → ((vp_in x4_4 702) ∧ (wX9_coveredIn_L5 a2 X0 n1 M2 (x3_3 + (M2 22 8 x4_4.toNatClampNeg)) (x4_4 + (1 : Int32)))))
def wX9_coveredIn (M0 : gW) (a1 : Int32) (a2 : Int32) (K : Int32 → gW → Prop) : Prop := ∃ n10 : Nat, wX9_coveredIn_L5 a2 (fun M7 x3_8 x4_9 => (K x3_8 M7)) n10 M0 (0 : Int32) a1
def wX9_coveredNeeds_L4   (X0 : gW → Int32 → Int32 → Prop) : Nat → gW → Int32 → Int32 → Prop
  | 0, _, _, _ => False
  | n1 + 1, M2, x1_3, x2_4 => ((702 : Int32) ≤ x2_4 → (X0 M2 x1_3 x2_4)) ∧ (¬ ((702 : Int32) ≤ x2_4) → ((vp_in x2_4 702) ∧ (wX9_needOf M2 x2_4 (fun r8 M7 => (wX9_coveredNeeds_L4 X0 n1 M7 (x1_3 + ((M2 22 8 x2_4.toNatClampNeg) * r8)) (x2_4 + (1 : Int32)))))))
def wX9_coveredNeeds (M0 : gW) (K : Int32 → gW → Prop) : Prop := ∃ n12 : Nat, wX9_coveredNeeds_L4 (fun M9 x1_10 x2_11 => (K x1_10 M9)) n12 M0 (0 : Int32) (0 : Int32)
def wX9_gains_L4   (X0 : gW → Int32 → Int32 → Prop) : Nat → gW → Int32 → Int32 → Prop
  | 0, _, _, _ => False
  | n1 + 1, M2, x1_3, x2_4 => ((M2 21 0 11) ≤ x2_4 → (X0 M2 x1_3 x2_4)) ∧ (¬ ((M2 21 0 11) ≤ x2_4) → ((vp_in x2_4 10) ∧ (wX9_gains_L4 X0 n1 M2 (x1_3 + (M2 22 7 x2_4.toNatClampNeg)) (x2_4 + (1 : Int32)))))
def wX9_gains (M0 : gW) (K : Int32 → gW → Prop) : Prop := ∃ n10 : Nat, wX9_gains_L4 (fun M7 x1_8 x2_9 => (K x1_8 M7)) n10 M0 (0 : Int32) (0 : Int32)
def wX9_covers (M0 : gW) (a1 : Int32) (a2 : Int32) (K : Int32 → gW → Prop) : Prop := wX9_isLines M0 a1 (fun r2 M1 => ((r2 = 0 → (K (-2 : Int32) M1)) ∧ (¬ (r2 = 0) → (wX9_in M1 (a2.toInt64) (0 : Int64) (4 : Int64) (fun r5 M4 => ((r5 = 0 → (K (-2 : Int32) M4)) ∧ (¬ (r5 = 0) → (wX9_makesSheet M4 a1 (fun M7 => ((a2 = 0 → (K (M7 21 0 11) M7)) ∧ (¬ (a2 = 0) → ((a2 = (1 : Int32) → (wX9_coveredIn M7 (0 : Int32) (26 : Int32) (fun r19 M18 => (K r19 M18)))) ∧ (¬ (a2 = (1 : Int32)) → ((a2 = (2 : Int32) → (wX9_coveredIn M7 (26 : Int32) (702 : Int32) (fun r17 M16 => (K r17 M16)))) ∧ (¬ (a2 = (2 : Int32)) → ((a2 = (3 : Int32) → (wX9_coveredNeeds M7 (fun r15 M14 => (K r15 M14)))) ∧ (¬ (a2 = (3 : Int32)) → (wX9_gains M7 (fun r13 M12 => (K r13 M12))))))))))))))))))))
def wX9_worst_L47 (z5 : Int32) (z9 : Int32) (x6_13 : Int32) (K : Int32 → gW → Prop) (X0 : gW → Int32 → Int32 → Prop) : Nat → gW → Int32 → Int32 → Prop
  | 0, _, _, _ => False
  | n15 + 1, M16, x5_17, x7_18 => (z9 ≤ x7_18 → (X0 M16 x5_17 x7_18)) ∧ (¬ (z9 ≤ x7_18) → (wX9_needOf M16 x7_18 (fun r21 M20 => ((r21 = x6_13 → ((x5_17 = 0 → (K (x7_18 - z5) M20)) ∧ (¬ (x5_17 = 0) → (wX9_worst_L47 z5 z9 x6_13 K X0 n15 M20 (x5_17 + (-1 : Int32)) (x7_18 + (1 : Int32)))))) ∧ (¬ (r21 = x6_13) → (wX9_worst_L47 z5 z9 x6_13 K X0 n15 M20 x5_17 (x7_18 + (1 : Int32))))))))
def wX9_worst_L39 (z5 : Int32) (z9 : Int32) (K : Int32 → gW → Prop) (X0 : gW → Int32 → Int32 → Prop) : Nat → gW → Int32 → Int32 → Prop
  | 0, _, _, _ => False
  | n10 + 1, M11, x5_12, x6_13 => (x6_13 ≤ 0 → (X0 M11 x5_12 x6_13)) ∧ (¬ (x6_13 ≤ 0) → (∃ n27 : Nat, wX9_worst_L47 z5 z9 x6_13 K (fun M24 x5_25 x7_26 => (wX9_worst_L39 z5 z9 K X0 n10 M24 x5_25 (x6_13 + (-1 : Int32)))) n27 M11 x5_12 z5))
def wX9_worst (M0 : gW) (a1 : Int32) (a2 : Int32) (K : Int32 → gW → Prop) : Prop := (0 ≤ a2 → ((fun (J3 : gW → Int32 → Prop) => ((a1 = 0 → (J3 M0 (0 : Int32))) ∧ (¬ (a1 = 0) → (J3 M0 (26 : Int32))))) (fun M4 z5 => ((fun (J7 : gW → Int32 → Prop) => ((a1 = 0 → (J7 M4 (26 : Int32))) ∧ (¬ (a1 = 0) → (J7 M4 (702 : Int32))))) (fun M8 z9 => (∃ n31 : Nat, wX9_worst_L39 z5 z9 K (fun M28 x5_29 x6_30 => (K (-5 : Int32) M28)) n31 M8 a2 (100 : Int32))))))) ∧ (¬ (0 ≤ a2) → (K (-2 : Int32) M0))
def wX9_missing_L13 (a1 : Int32)  (X0 : gW → Int32 → Int32 → Prop) : Nat → gW → Int32 → Int32 → Prop
  | 0, _, _, _ => False
  | n5 + 1, M6, x2_7, x3_8 => (a1 = 0 → (((26 : Int32) ≤ x3_8 → (X0 M6 x2_7 x3_8)) ∧ (¬ ((26 : Int32) ≤ x3_8) → (wX9_needOf M6 x3_8 (fun r12 M11 => ((r12 ≤ 0 → (wX9_missing_L13 a1 X0 n5 M11 (x2_7 + (0 : Int32)) (x3_8 + (1 : Int32)))) ∧ (¬ (r12 ≤ 0) → (wX9_wordsWith M11 x3_8 (fun r15 M14 => ((r15 = 0 → (wX9_missing_L13 a1 X0 n5 M14 (x2_7 + (1 : Int32)) (x3_8 + (1 : Int32)))) ∧ (¬ (r15 = 0) → (wX9_missing_L13 a1 X0 n5 M14 (x2_7 + (0 : Int32)) (x3_8 + (1 : Int32)))))))))))))) ∧ (¬ (a1 = 0) → (((702 : Int32) ≤ x3_8 → (X0 M6 x2_7 x3_8)) ∧ (¬ ((702 : Int32) ≤ x3_8) → (wX9_needOf M6 x3_8 (fun r19 M18 => ((r19 ≤ 0 → (wX9_missing_L13 a1 X0 n5 M18 (x2_7 + (0 : Int32)) (x3_8 + (1 : Int32)))) ∧ (¬ (r19 ≤ 0) → (wX9_wordsWith M18 x3_8 (fun r22 M21 => ((r22 = 0 → (wX9_missing_L13 a1 X0 n5 M21 (x2_7 + (1 : Int32)) (x3_8 + (1 : Int32)))) ∧ (¬ (r22 = 0) → (wX9_missing_L13 a1 X0 n5 M21 (x2_7 + (0 : Int32)) (x3_8 + (1 : Int32))))))))))))))
def wX9_missing (M0 : gW) (a1 : Int32) (K : Int32 → gW → Prop) : Prop := (fun (J2 : gW → Int32 → Prop) => ((a1 = 0 → (J2 M0 (0 : Int32))) ∧ (¬ (a1 = 0) → (J2 M0 (26 : Int32))))) (fun M3 z4 => (∃ n27 : Nat, wX9_missing_L13 a1 (fun M24 x2_25 x3_26 => (K x2_25 M24)) n27 M3 (0 : Int32) z4))
def wX9_greatestOfWords_L21   (X0 : gW → Int32 → Int32 → Prop) : Nat → gW → Int32 → Int32 → Prop
  | 0, _, _, _ => False
  | n8 + 1, M9, x1_10, x3_11 => ((M9 21 0 8) ≤ x3_11 → (X0 M9 x1_10 x3_11)) ∧ (¬ ((M9 21 0 8) ≤ x3_11) → ((vp_in x3_11 29) ∧ (wX9_needOf M9 (M9 22 5 x3_11.toNatClampNeg) (fun r15 M14 => ((r15 ≤ x1_10 → (wX9_greatestOfWords_L21 X0 n8 M14 x1_10 (x3_11 + (1 : Int32)))) ∧ (¬ (r15 ≤ x1_10) → ((vp_in x3_11 29) ∧ (wX9_needOf M14 (M14 22 5 x3_11.toNatClampNeg) (fun r19 M18 => (wX9_greatestOfWords_L21 X0 n8 M18 r19 (x3_11 + (1 : Int32))))))))))))
def wX9_greatestOfWords_L4   (X0 : gW → Int32 → Int32 → Prop) : Nat → gW → Int32 → Int32 → Prop
  | 0, _, _, _ => False
  | n1 + 1, M2, x1_3, x2_4 => (vp_in (5 : Int32) 1730) ∧ (((M2 22 0 (5 : Int32).toNatClampNeg) ≤ x2_4 → (X0 M2 x1_3 x2_4)) ∧ (¬ ((M2 22 0 (5 : Int32).toNatClampNeg) ≤ x2_4) → (wX9_findsParts M2 x2_4 (fun M7 => (∃ n23 : Nat, wX9_greatestOfWords_L21 (fun M20 x1_21 x3_22 => (wX9_greatestOfWords_L4 X0 n1 M20 x1_21 (x2_4 + (1 : Int32)))) n23 M7 x1_3 (0 : Int32))))))
def wX9_greatestOfWords (M0 : gW) (K : Int32 → gW → Prop) : Prop := ∃ n27 : Nat, wX9_greatestOfWords_L4 (fun M24 x1_25 x2_26 => (K x1_25 M24)) n27 M0 (0 : Int32) (0 : Int32)
def wX9_sheetsTo_L38 (a1 : Int32) (a2 : Int32)  (X0 : gW → Int32 → Int32 → Prop) : Nat → gW → Int32 → Int32 → Prop
  | 0, _, _, _ => False
  | n8 + 1, M9, x3_10, x4_11 => (x4_11 = 0 → (X0 M9 x3_10 x4_11)) ∧ (¬ (x4_11 = 0) → (wX9_greatestOfWords M9 (fun r14 M13 => ((r14 ≤ a2 → (X0 M13 x3_10 x4_11)) ∧ (¬ (r14 ≤ a2) → (wX9_makesSheet M13 a1 (fun M16 => (((M16 21 0 11) ≤ 0 → (wX9_sheetsTo_L38 a1 a2 X0 n8 M16 x3_10 (0 : Int32))) ∧ (¬ ((M16 21 0 11) ≤ 0) → (((20 : Int32) ≤ x3_10 → (wX9_sheetsTo_L38 a1 a2 X0 n8 M16 x3_10 (0 : Int32))) ∧ (¬ ((20 : Int32) ≤ x3_10) → (wX9_writesSheet M16 (fun M19 => (wX9_sheetsTo_L38 a1 a2 X0 n8 M19 (x3_10 + (1 : Int32)) (1 : Int32)))))))))))))))
def wX9_sheetsTo (M0 : gW) (a1 : Int32) (a2 : Int32) (K : Int32 → gW → Prop) : Prop := wX9_isLines M0 a1 (fun r2 M1 => ((r2 = 0 → (K (-2 : Int32) M1)) ∧ (¬ (r2 = 0) → (wX9_in M1 (a2.toInt64) (0 : Int64) (99 : Int64) (fun r5 M4 => ((r5 = 0 → (K (-2 : Int32) M4)) ∧ (¬ (r5 = 0) → (wX9_copy M4 0 2 (fun M7 => (∃ n25 : Nat, wX9_sheetsTo_L38 a1 a2 (fun M20 x3_21 x4_22 => (wX9_copy M20 2 0 (fun M23 => ((x4_22 = 0 → (K (-5 : Int32) M23)) ∧ (¬ (x4_22 = 0) → (K x3_21 M23)))))) n25 M7 (0 : Int32) (1 : Int32)))))))))))
def wX9_greatestNeed_L5 (a2 : Int32)  (X0 : gW → Int32 → Int32 → Prop) : Nat → gW → Int32 → Int32 → Prop
  | 0, _, _, _ => False
  | n1 + 1, M2, x3_3, x4_4 => (a2 ≤ x4_4 → (X0 M2 x3_3 x4_4)) ∧ (¬ (a2 ≤ x4_4) → (wX9_needOf M2 x4_4 (fun r7 M6 => ((r7 ≤ x3_3 → (wX9_greatestNeed_L5 a2 X0 n1 M6 x3_3 (x4_4 + (1 : Int32)))) ∧ (¬ (r7 ≤ x3_3) → (wX9_needOf M6 x4_4 (fun r10 M9 => (wX9_greatestNeed_L5 a2 X0 n1 M9 r10 (x4_4 + (1 : Int32))))))))))
def wX9_greatestNeed (M0 : gW) (a1 : Int32) (a2 : Int32) (K : Int32 → gW → Prop) : Prop := ∃ n14 : Nat, wX9_greatestNeed_L5 a2 (fun M11 x3_12 x4_13 => (K x3_12 M11)) n14 M0 (0 : Int32) a1
def wX9_untriedIn_L5 (a2 : Int32)  (X0 : gW → Int32 → Int32 → Prop) : Nat → gW → Int32 → Int32 → Prop
  | 0, _, _, _ => False
  | n1 + 1, M2, x3_3, x4_4 => (a2 ≤ x4_4 → (X0 M2 x3_3 x4_4)) ∧ (¬ (a2 ≤ x4_4) → (wX9_isUntried M2 x4_4 (fun r7 M6 => ((r7 = 0 → (wX9_untriedIn_L5 a2 X0 n1 M6 (x3_3 + (0 : Int32)) (x4_4 + (1 : Int32)))) ∧ (¬ (r7 = 0) → (wX9_untriedIn_L5 a2 X0 n1 M6 (x3_3 + (1 : Int32)) (x4_4 + (1 : Int32))))))))
def wX9_untriedIn (M0 : gW) (a1 : Int32) (a2 : Int32) (K : Int32 → gW → Prop) : Prop := ∃ n12 : Nat, wX9_untriedIn_L5 a2 (fun M9 x3_10 x4_11 => (K x3_10 M9)) n12 M0 (0 : Int32) a1
def wX9_count (M0 : gW) (a1 : Int32) (K : Int32 → gW → Prop) : Prop := (a1 = (0 : Int32) → ((vp_in (5 : Int32) 1730) ∧ (K (M0 22 0 (5 : Int32).toNatClampNeg) M0))) ∧ ((a1 = (1 : Int32) → ((vp_in (1 : Int32) 1730) ∧ (K (M0 22 0 (1 : Int32).toNatClampNeg) M0))) ∧ ((a1 = (2 : Int32) → ((vp_in (0 : Int32) 1730) ∧ (K (M0 22 0 (0 : Int32).toNatClampNeg) M0))) ∧ ((a1 = (3 : Int32) → (wX9_untriedIn M0 (0 : Int32) (26 : Int32) (fun r9 M8 => (K r9 M8)))) ∧ ((a1 = (4 : Int32) → (wX9_untriedIn M0 (26 : Int32) (702 : Int32) (fun r12 M11 => (K ((676 : Int32) - r12) M11)))) ∧ ((a1 = (5 : Int32) → (wX9_greatestNeed M0 (0 : Int32) (26 : Int32) (fun r15 M14 => (K r15 M14)))) ∧ ((a1 = (6 : Int32) → (wX9_greatestNeed M0 (26 : Int32) (702 : Int32) (fun r18 M17 => (K r18 M17)))) ∧ ((a1 = (7 : Int32) → ((vp_in (2 : Int32) 1730) ∧ (K (M0 22 0 (2 : Int32).toNatClampNeg) M0))) ∧ ((a1 = (8 : Int32) → ((vp_in (3 : Int32) 1730) ∧ (K (M0 22 0 (3 : Int32).toNatClampNeg) M0))) ∧ ((a1 = (9 : Int32) → ((vp_in (4 : Int32) 1730) ∧ (K (M0 22 0 (4 : Int32).toNatClampNeg) M0))) ∧ ((a1 = (10 : Int32) → (K (M0 21 0 4) M0)) ∧ ((a1 = (11 : Int32) → (K (M0 21 0 14) M0)) ∧ (¬ (a1 = (0 : Int32)) → ¬ (a1 = (1 : Int32)) → ¬ (a1 = (2 : Int32)) → ¬ (a1 = (3 : Int32)) → ¬ (a1 = (4 : Int32)) → ¬ (a1 = (5 : Int32)) → ¬ (a1 = (6 : Int32)) → ¬ (a1 = (7 : Int32)) → ¬ (a1 = (8 : Int32)) → ¬ (a1 = (9 : Int32)) → ¬ (a1 = (10 : Int32)) → ¬ (a1 = (11 : Int32)) → (K (-2 : Int32) M0)))))))))))))
end
section
/-! ===== LAYER 1: contracts, walked (printed by wip/whole/gen.py) ===== -/
abbrev rmX0_dropOldest : Room := { frames := 0, cells := 0, slots := 0, locals := 0 }
theorem eX0_dropOldest : yX0_dropOldest.cls = RX0 ∧ yX0_dropOldest.cls ≠ "java/lang/invoke/MethodHandle" ∧ yX0_dropOldest.cls ≠ "java/lang/invoke/VarHandle" ∧ (parseMethodDescriptor yX0_dropOldest.desc).map (fun d => d.parameters.length) = some 0 := by decide +kernel
theorem iX0_dropOldest_X0 : ∀ w ∈ wsX00, w ∈ wsX0_dropOldest := fun _ h => List.mem_cons_of_mem _ (List.mem_append_right _ (h))
theorem mX0_dropOldest_1 : Cond.fieldLink RX0 11 "PracticeSheets$History" "states" "[LPracticeSheets$State;" ∈ wsX0_dropOldest := List.mem_of_getElem? (i := 1) rfl
theorem mX0_dropOldest_2 : Cond.fieldLink RX0 18 "PracticeSheets$History" "size" "I" ∈ wsX0_dropOldest := List.mem_of_getElem? (i := 2) rfl
set_option maxHeartbeats 4000000 in
set_option maxRecDepth 100000 in
theorem qX0_dropOldest (l : Launch) (D : va_G) (E : Nat → ClassId) (ad : Nat → Nat → Nat) (L : List (Nat × Nat)) (A : Nat → Prop) (hF : gF E ad L A) (hLx : gLx L) (M0 : gW)  (K : gW → Prop) (hw : wX0_dropOldest M0 K) : Met l yX0_dropOldest wsX0_dropOldest rmX0_dropOldest (va_Pc [.ref (ad 10 0)] (gPre D E ad L M0)) (gQv D E ad L A K) 0 0 A := by
  refine Met.ofW (cc := cX0_dropOldest) (maxL := 3) (ret := none) (by decide) rfl ?_
  intro p e s m args below meth c s₁ B hml hv
  obtain ⟨rfl, hP, hK, hN⟩ := hv
  have hx := B.exec
  have hb := B.bytes
  have hr := B.returns
  have hts := atoms_spec (ws := wsX0_dropOldest) B.pre
  have hown : s.vm.findClass RX0 = some m.cls := findClass_of_methodNamed B.named
  have hlocks := B.notSynchronized
  have S : CallFix p m c cX0_dropOldest 3 s ([.ref (ad 10 0)] : List Value).toArray wsX0_dropOldest RX0 := ⟨hx, hb, hml, hown, hts⟩
  have hS : va_S A s.heap s.heap [] := va_S.rf
  have hl := lv_entry ([.ref (ad 10 0)]) (n := 3) (Nat.le_of_ble_eq_true rfl)
  rw [lg_entry_eq]
  generalize (lg_sl ([.ref (ad 10 0)]) ++ List.replicate (3 - (lg_sl ([.ref (ad 10 0)])).length) Slot.unset).toArray = ls at hl ⊢
  have hl : lv_has ls 3 [(0, .ref (ad 10 0))] := hl
  refine lv_aload_n hx hb dX0_dropOldest_0 rfl (lv_at hl 0 rfl) ?_
  refine g_get (v := .ref (ad 11 0)) hx hb hts hown hK hP (hLx.h (f := 10) (by decide)) (gC10 _ _ _ _) gcl0 iX0_dropOldest_X0 0 (by decide) mX0_dropOldest_1 rfl rfl dX0_dropOldest_1 ?_
  refine lv_iconst (v := (0 : Int32)) hx hb dX0_dropOldest_4 (by decide) ?_
  have hb1 := hw.1
  have hw := hw.2
  refine g_alds hx hb hK hP (hLx.h (f := 11) (by decide)) hb1 dX0_dropOldest_5 ?_
  have hb2 := hw.1
  have hw := hw.2
  refine lv_astore_n (lv' := [(1, .ref (ad 1 ((M0 11 0 (0 : Int32).toNatClampNeg).toNatClampNeg))), (0, .ref (ad 10 0))]) hx hb dX0_dropOldest_6 rfl hl (by decide) rfl (fun ls hl => ?_)
  refine lv_iconst (v := (1 : Int32)) hx hb dX0_dropOldest_7 (by decide) ?_
  refine lv_istore_n (lv' := [(2, .int (1 : Int32)), (1, .ref (ad 1 ((M0 11 0 (0 : Int32).toNatClampNeg).toNatClampNeg))), (0, .ref (ad 10 0))]) hx hb dX0_dropOldest_8 rfl hl (by decide) rfl (fun ls hl => ?_)
  obtain ⟨n19, hw⟩ := hw
  have hxX0_dropOldest_L9_0 : ∀ (M12 : gW) (x2_13 : Int32) (H : Heap) (locs : List Loc) (ls : Array Slot), ((vp_in (3 : Int32) 4) ∧ (∀ M15 : gW, M15 = gU M12 11 0 (upd (M12 11 0) (3 : Int32).toNatClampNeg (nI ((M0 11 0 (0 : Int32).toNatClampNeg).toNatClampNeg))) → (∀ M17 : gW, M17 = gU M15 10 0 (upd (M15 10 0) 1 ((M15 10 0 1) - (1 : Int32))) → (K M17)))) → va_P D vwCl (gL E ad L M12) H → va_S A s.heap H locs → lv_has ls 3 [(0, .ref (ad 10 0)), (1, .ref (ad 1 ((M0 11 0 (0 : Int32).toNatClampNeg).toNatClampNeg))), (2, .int x2_13)] → W p l e (headSpec wsX0_dropOldest rmX0_dropOldest).room s m (([.ref (ad 10 0)] : List Value).toArray) below meth c H locs 0 0 (MQ below (gQv D E ad L A K) ([.ref (ad 10 0)] : List Value).toArray s 0 0 A) (F0 m 34 ls []) := by
    intro M12 x2_13 H locs ls hw hP hS hl
    refine lv_aload_n hx hb dX0_dropOldest_34 rfl (lv_at hl 0 rfl) ?_
    refine g_get (v := .ref (ad 11 0)) hx hb hts hown hK hP (hLx.h (f := 10) (by decide)) (gC10 _ _ _ _) gcl0 iX0_dropOldest_X0 0 (by decide) mX0_dropOldest_1 rfl rfl dX0_dropOldest_35 ?_
    refine lv_iconst (v := (3 : Int32)) hx hb dX0_dropOldest_38 (by decide) ?_
    refine lv_aload_n hx hb dX0_dropOldest_39 rfl (lv_at hl 1 rfl) ?_
    have hb14 := hw.1
    have hw := hw.2
    refine g_asts hx hb hF hK hP hS (hLx.h (f := 11) (by decide)) hb2 (hLx.h (f := 1) hb2) hb14 dX0_dropOldest_40 (fun M15 e16 H locs hP hS => ?_)
    have hw := hw M15 e16
    refine lv_aload_n hx hb dX0_dropOldest_41 rfl (lv_at hl 0 rfl) ?_
    refine lv_dup hx hb dX0_dropOldest_42 rfl ?_
    refine g_get (v := .int (M15 10 0 1)) hx hb hts hown hK hP (hLx.h (f := 10) (by decide)) (gC10 _ _ _ _) gcl0 iX0_dropOldest_X0 1 (by decide) mX0_dropOldest_2 rfl rfl dX0_dropOldest_43 ?_
    refine lv_iconst (v := (1 : Int32)) hx hb dX0_dropOldest_46 (by decide) ?_
    refine lv_isub hx hb dX0_dropOldest_47 ?_
    refine g_put hx hb hF hts hown hK hP hS (hLx.h (f := 10) (by decide)) (gC10 _ _ _ _) gcl0 iX0_dropOldest_X0 tyX0 tyX0_ok nmX0 1 (by decide) mX0_dropOldest_2 rfl rfl rfl rfl (Nat.lt_of_lt_of_eq (by decide : 1 < 2) rfl) rfl dX0_dropOldest_48 (fun M17 e18 H locs hP hS => ?_)
    have hw := hw M17 e18
    exact g_vret hx hb hr hlocks hw hP hS dX0_dropOldest_51
  have hlX0_dropOldest_L9 : ∀ (n3 : Nat) (M4 : gW) (x2_5 : Int32) (H : Heap) (locs : List Loc) (ls : Array Slot), wX0_dropOldest_L9 (fun M12 x2_13 => ((vp_in (3 : Int32) 4) ∧ (∀ M15 : gW, M15 = gU M12 11 0 (upd (M12 11 0) (3 : Int32).toNatClampNeg (nI ((M0 11 0 (0 : Int32).toNatClampNeg).toNatClampNeg))) → (∀ M17 : gW, M17 = gU M15 10 0 (upd (M15 10 0) 1 ((M15 10 0 1) - (1 : Int32))) → (K M17))))) n3 M4 x2_5 → va_P D vwCl (gL E ad L M4) H → va_S A s.heap H locs → lv_has ls 3 [(0, .ref (ad 10 0)), (1, .ref (ad 1 ((M0 11 0 (0 : Int32).toNatClampNeg).toNatClampNeg))), (2, .int x2_5)] → W p l e (headSpec wsX0_dropOldest rmX0_dropOldest).room s m (([.ref (ad 10 0)] : List Value).toArray) below meth c H locs 0 0 (MQ below (gQv D E ad L A K) ([.ref (ad 10 0)] : List Value).toArray s 0 0 A) (F0 m 9 ls []) := by
    intro n3
    induction n3 with
    | zero => intro M4 x2_5 H locs ls hw; exact False.elim hw
    | succ n3 ihn3 =>
      intro M4 x2_5 H locs ls hw hP hS hl
      refine lv_iload_n hx hb dX0_dropOldest_9 rfl (lv_at hl 2 rfl) ?_
      refine lv_iconst (v := (4 : Int32)) hx hb dX0_dropOldest_10 (by decide) ?_
      refine lv_icmp_ge (tgt := 34) hx hb dX0_dropOldest_11 (by decide) (fun c6 => ?_) (fun c6 => ?_)
      · have hw := hw.1 c6
        exact hxX0_dropOldest_L9_0 _ _ _ _ _ hw hP hS (lv_sub hl [0, 1, 2] rfl)
      · have hw := hw.2 c6
        refine lv_aload_n hx hb dX0_dropOldest_14 rfl (lv_at hl 0 rfl) ?_
        refine g_get (v := .ref (ad 11 0)) hx hb hts hown hK hP (hLx.h (f := 10) (by decide)) (gC10 _ _ _ _) gcl0 iX0_dropOldest_X0 0 (by decide) mX0_dropOldest_1 rfl rfl dX0_dropOldest_15 ?_
        refine lv_iload_n hx hb dX0_dropOldest_18 rfl (lv_at hl 2 rfl) ?_
        refine lv_iconst (v := (1 : Int32)) hx hb dX0_dropOldest_19 (by decide) ?_
        refine lv_isub hx hb dX0_dropOldest_20 ?_
        refine lv_aload_n hx hb dX0_dropOldest_21 rfl (lv_at hl 0 rfl) ?_
        refine g_get (v := .ref (ad 11 0)) hx hb hts hown hK hP (hLx.h (f := 10) (by decide)) (gC10 _ _ _ _) gcl0 iX0_dropOldest_X0 0 (by decide) mX0_dropOldest_1 rfl rfl dX0_dropOldest_22 ?_
        refine lv_iload_n hx hb dX0_dropOldest_25 rfl (lv_at hl 2 rfl) ?_
        have hb7 := hw.1
        have hw := hw.2
        refine g_alds hx hb hK hP (hLx.h (f := 11) (by decide)) hb7 dX0_dropOldest_26 ?_
        have hb8 := hw.1
        have hw := hw.2
        have hb9 := hw.1
        have hw := hw.2
        refine g_asts hx hb hF hK hP hS (hLx.h (f := 11) (by decide)) hb8 (hLx.h (f := 1) hb8) hb9 dX0_dropOldest_27 (fun M10 e11 H locs hP hS => ?_)
        have hw := hw M10 e11
        refine lv_iinc (v := (x2_5 + (1 : Int32))) (lv' := [(2, .int (x2_5 + (1 : Int32))), (0, .ref (ad 10 0)), (1, .ref (ad 1 ((M0 11 0 (0 : Int32).toNatClampNeg).toNatClampNeg)))]) hx hb dX0_dropOldest_28 hl (k := 2) rfl rfl (by decide) rfl (fun ls hl => ?_)
        refine lv_goto (tgt := 9) hx hb dX0_dropOldest_31 (by decide) ?_
        exact ihn3 _ _ _ _ _ hw hP hS (lv_sub hl [1, 2, 0] rfl)
  exact hlX0_dropOldest_L9 n19 _ _ _ _ _ hw hP hS (lv_sub hl [2, 1, 0] rfl)
abbrev rmX1_copyFrom : Room := { frames := 1, cells := 0, slots := 0, locals := 18 }
theorem eX1_copyFrom : yX1_copyFrom.cls = RX1 ∧ yX1_copyFrom.cls ≠ "java/lang/invoke/MethodHandle" ∧ yX1_copyFrom.cls ≠ "java/lang/invoke/VarHandle" ∧ (parseMethodDescriptor yX1_copyFrom.desc).map (fun d => d.parameters.length) = some 1 := by decide +kernel
theorem iX1_copyFrom_X1 : ∀ w ∈ wsX10, w ∈ wsX1_copyFrom := fun _ h => List.mem_cons_of_mem _ (List.mem_append_right _ (h))
theorem mX1_copyFrom_1 : Cond.fieldLink RX1 9 "PracticeSheets$Practice" "tries" "[I" ∈ wsX1_copyFrom := List.mem_of_getElem? (i := 1) rfl
theorem mX1_copyFrom_2 : Cond.methodLink RX1 63 arraycopyName ∈ wsX1_copyFrom := List.mem_of_getElem? (i := 2) rfl
theorem mX1_copyFrom_3 : Cond.native arraycopyName ∈ wsX1_copyFrom := List.mem_of_getElem? (i := 3) rfl
theorem mX1_copyFrom_4 : Cond.static arraycopyName ∈ wsX1_copyFrom := List.mem_of_getElem? (i := 4) rfl
theorem mX1_copyFrom_5 : Cond.initialized "java/lang/System" ∈ wsX1_copyFrom := List.mem_of_getElem? (i := 5) rfl
theorem mX1_copyFrom_6 : Cond.fieldLink RX1 15 "PracticeSheets$Practice" "slips" "[I" ∈ wsX1_copyFrom := List.mem_of_getElem? (i := 6) rfl
set_option maxHeartbeats 4000000 in
set_option maxRecDepth 100000 in
theorem qX1_copyFrom (l : Launch) (D : va_G) (E : Nat → ClassId) (ad : Nat → Nat → Nat) (L : List (Nat × Nat)) (A : Nat → Prop) (hF : gF E ad L A) (hLx : gLx L) (M0 : gW) (k0 : Nat) (k1 : Nat) (hk0 : k0 < gN 2) (hk1 : k1 < gN 2) (K : gW → Prop) (hw : wX1_copyFrom M0 k0 k1 K) : Met l yX1_copyFrom wsX1_copyFrom rmX1_copyFrom (va_Pc [.ref (ad 2 k0), .ref (ad 2 k1)] (gPre D E ad L M0)) (gQv D E ad L A K) 0 0 A := by
  refine Met.ofW (cc := cX1_copyFrom) (maxL := 2) (ret := none) (by decide) rfl ?_
  intro p e s m args below meth c s₁ B hml hv
  obtain ⟨rfl, hP, hK, hN⟩ := hv
  have hx := B.exec
  have hb := B.bytes
  have hr := B.returns
  have hts := atoms_spec (ws := wsX1_copyFrom) B.pre
  have hown : s.vm.findClass RX1 = some m.cls := findClass_of_methodNamed B.named
  have hlocks := B.notSynchronized
  have S : CallFix p m c cX1_copyFrom 2 s ([.ref (ad 2 k0), .ref (ad 2 k1)] : List Value).toArray wsX1_copyFrom RX1 := ⟨hx, hb, hml, hown, hts⟩
  have hS : va_S A s.heap s.heap [] := va_S.rf
  have hl := lv_entry ([.ref (ad 2 k0), .ref (ad 2 k1)]) (n := 2) (Nat.le_of_ble_eq_true rfl)
  rw [lg_entry_eq]
  generalize (lg_sl ([.ref (ad 2 k0), .ref (ad 2 k1)]) ++ List.replicate (2 - (lg_sl ([.ref (ad 2 k0), .ref (ad 2 k1)])).length) Slot.unset).toArray = ls at hl ⊢
  have hl : lv_has ls 2 [(0, .ref (ad 2 k0)), (1, .ref (ad 2 k1))] := hl
  refine lv_aload_n hx hb dX1_copyFrom_0 rfl (lv_at hl 1 rfl) ?_
  refine g_get (v := .ref (ad 3 k1)) hx hb hts hown hK hP (hLx.h (f := 2) hk1) (gC2 _ _ _ _) gcl1 iX1_copyFrom_X1 0 (by decide) mX1_copyFrom_1 rfl rfl dX1_copyFrom_1 ?_
  refine lv_iconst (v := (0 : Int32)) hx hb dX1_copyFrom_4 (by decide) ?_
  refine lv_aload_n hx hb dX1_copyFrom_5 rfl (lv_at hl 0 rfl) ?_
  refine g_get (v := .ref (ad 3 k0)) hx hb hts hown hK hP (hLx.h (f := 2) hk0) (gC2 _ _ _ _) gcl1 iX1_copyFrom_X1 0 (by decide) mX1_copyFrom_1 rfl rfl dX1_copyFrom_6 ?_
  refine lv_iconst (v := (0 : Int32)) hx hb dX1_copyFrom_9 (by decide) ?_
  refine lv_sipush (v := (702 : Int32)) hx hb dX1_copyFrom_10 (by decide) ?_
  refine g_cpy hx hb (by rw [hml]; exact hl.1.symm) hF hown hts mX1_copyFrom_2 mX1_copyFrom_3 mX1_copyFrom_4 mX1_copyFrom_5 hK hP hS (hLx.h (f := 3) hk1) (hLx.h (f := 3) hk0) (gC3 _ _ _ _) (fun r => gC3 _ _ _ r) (n := (702 : Int32)) (N := 702) (n0 := 702) (n1 := 702) (by decide) (by decide) (by decide) (by decide) (by exact Nat.le_of_ble_eq_true rfl) (by exact Nat.le_of_ble_eq_true rfl) dX1_copyFrom_13 (fun M1 e2 H locs hP hS => ?_)
  have hw := hw M1 e2
  refine lv_aload_n hx hb dX1_copyFrom_16 rfl (lv_at hl 1 rfl) ?_
  refine g_get (v := .ref (ad 4 k1)) hx hb hts hown hK hP (hLx.h (f := 2) hk1) (gC2 _ _ _ _) gcl1 iX1_copyFrom_X1 1 (by decide) mX1_copyFrom_6 rfl rfl dX1_copyFrom_17 ?_
  refine lv_iconst (v := (0 : Int32)) hx hb dX1_copyFrom_20 (by decide) ?_
  refine lv_aload_n hx hb dX1_copyFrom_21 rfl (lv_at hl 0 rfl) ?_
  refine g_get (v := .ref (ad 4 k0)) hx hb hts hown hK hP (hLx.h (f := 2) hk0) (gC2 _ _ _ _) gcl1 iX1_copyFrom_X1 1 (by decide) mX1_copyFrom_6 rfl rfl dX1_copyFrom_22 ?_
  refine lv_iconst (v := (0 : Int32)) hx hb dX1_copyFrom_25 (by decide) ?_
  refine lv_sipush (v := (702 : Int32)) hx hb dX1_copyFrom_26 (by decide) ?_
  refine g_cpy hx hb (by rw [hml]; exact hl.1.symm) hF hown hts mX1_copyFrom_2 mX1_copyFrom_3 mX1_copyFrom_4 mX1_copyFrom_5 hK hP hS (hLx.h (f := 4) hk1) (hLx.h (f := 4) hk0) (gC4 _ _ _ _) (fun r => gC4 _ _ _ r) (n := (702 : Int32)) (N := 702) (n0 := 702) (n1 := 702) (by decide) (by decide) (by decide) (by decide) (by exact Nat.le_of_ble_eq_true rfl) (by exact Nat.le_of_ble_eq_true rfl) dX1_copyFrom_29 (fun M3 e4 H locs hP hS => ?_)
  have hw := hw M3 e4
  exact g_vret hx hb hr hlocks hw hP hS dX1_copyFrom_32
abbrev rmX6_copyFrom : Room := { frames := 1, cells := 0, slots := 0, locals := 18 }
theorem eX6_copyFrom : yX6_copyFrom.cls = RX6 ∧ yX6_copyFrom.cls ≠ "java/lang/invoke/MethodHandle" ∧ yX6_copyFrom.cls ≠ "java/lang/invoke/VarHandle" ∧ (parseMethodDescriptor yX6_copyFrom.desc).map (fun d => d.parameters.length) = some 1 := by decide +kernel
theorem iX6_copyFrom_X6 : ∀ w ∈ wsX60, w ∈ wsX6_copyFrom := fun _ h => List.mem_cons_of_mem _ (List.mem_append_right _ (h))
theorem mX6_copyFrom_1 : Cond.fieldLink RX6 9 "PracticeSheets$Word" "letters" "[I" ∈ wsX6_copyFrom := List.mem_of_getElem? (i := 1) rfl
theorem mX6_copyFrom_2 : Cond.methodLink RX6 37 arraycopyName ∈ wsX6_copyFrom := List.mem_of_getElem? (i := 2) rfl
theorem mX6_copyFrom_3 : Cond.native arraycopyName ∈ wsX6_copyFrom := List.mem_of_getElem? (i := 3) rfl
theorem mX6_copyFrom_4 : Cond.static arraycopyName ∈ wsX6_copyFrom := List.mem_of_getElem? (i := 4) rfl
theorem mX6_copyFrom_5 : Cond.initialized "java/lang/System" ∈ wsX6_copyFrom := List.mem_of_getElem? (i := 5) rfl
theorem mX6_copyFrom_6 : Cond.fieldLink RX6 15 "PracticeSheets$Word" "parts" "[I" ∈ wsX6_copyFrom := List.mem_of_getElem? (i := 6) rfl
theorem mX6_copyFrom_7 : Cond.fieldLink RX6 18 "PracticeSheets$Word" "length" "I" ∈ wsX6_copyFrom := List.mem_of_getElem? (i := 7) rfl
theorem mX6_copyFrom_8 : Cond.fieldLink RX6 22 "PracticeSheets$Word" "partCount" "I" ∈ wsX6_copyFrom := List.mem_of_getElem? (i := 8) rfl
set_option maxHeartbeats 4000000 in
set_option maxRecDepth 100000 in
theorem qX6_copyFrom (l : Launch) (D : va_G) (E : Nat → ClassId) (ad : Nat → Nat → Nat) (L : List (Nat × Nat)) (A : Nat → Prop) (hF : gF E ad L A) (hLx : gLx L) (M0 : gW) (k0 : Nat) (k1 : Nat) (hk0 : k0 < gN 7) (hk1 : k1 < gN 7) (K : gW → Prop) (hw : wX6_copyFrom M0 k0 k1 K) : Met l yX6_copyFrom wsX6_copyFrom rmX6_copyFrom (va_Pc [.ref (ad 7 k0), .ref (ad 7 k1)] (gPre D E ad L M0)) (gQv D E ad L A K) 0 0 A := by
  refine Met.ofW (cc := cX6_copyFrom) (maxL := 2) (ret := none) (by decide) rfl ?_
  intro p e s m args below meth c s₁ B hml hv
  obtain ⟨rfl, hP, hK, hN⟩ := hv
  have hx := B.exec
  have hb := B.bytes
  have hr := B.returns
  have hts := atoms_spec (ws := wsX6_copyFrom) B.pre
  have hown : s.vm.findClass RX6 = some m.cls := findClass_of_methodNamed B.named
  have hlocks := B.notSynchronized
  have S : CallFix p m c cX6_copyFrom 2 s ([.ref (ad 7 k0), .ref (ad 7 k1)] : List Value).toArray wsX6_copyFrom RX6 := ⟨hx, hb, hml, hown, hts⟩
  have hS : va_S A s.heap s.heap [] := va_S.rf
  have hl := lv_entry ([.ref (ad 7 k0), .ref (ad 7 k1)]) (n := 2) (Nat.le_of_ble_eq_true rfl)
  rw [lg_entry_eq]
  generalize (lg_sl ([.ref (ad 7 k0), .ref (ad 7 k1)]) ++ List.replicate (2 - (lg_sl ([.ref (ad 7 k0), .ref (ad 7 k1)])).length) Slot.unset).toArray = ls at hl ⊢
  have hl : lv_has ls 2 [(0, .ref (ad 7 k0)), (1, .ref (ad 7 k1))] := hl
  refine lv_aload_n hx hb dX6_copyFrom_0 rfl (lv_at hl 1 rfl) ?_
  refine g_get (v := .ref (ad 8 k1)) hx hb hts hown hK hP (hLx.h (f := 7) hk1) (gC7 _ _ _ _) gcl6 iX6_copyFrom_X6 0 (by decide) mX6_copyFrom_1 rfl rfl dX6_copyFrom_1 ?_
  refine lv_iconst (v := (0 : Int32)) hx hb dX6_copyFrom_4 (by decide) ?_
  refine lv_aload_n hx hb dX6_copyFrom_5 rfl (lv_at hl 0 rfl) ?_
  refine g_get (v := .ref (ad 8 k0)) hx hb hts hown hK hP (hLx.h (f := 7) hk0) (gC7 _ _ _ _) gcl6 iX6_copyFrom_X6 0 (by decide) mX6_copyFrom_1 rfl rfl dX6_copyFrom_6 ?_
  refine lv_iconst (v := (0 : Int32)) hx hb dX6_copyFrom_9 (by decide) ?_
  refine lv_bipush (v := (15 : Int32)) hx hb dX6_copyFrom_10 (by decide) ?_
  refine g_cpy hx hb (by rw [hml]; exact hl.1.symm) hF hown hts mX6_copyFrom_2 mX6_copyFrom_3 mX6_copyFrom_4 mX6_copyFrom_5 hK hP hS (hLx.h (f := 8) hk1) (hLx.h (f := 8) hk0) (gC8 _ _ _ _) (fun r => gC8 _ _ _ r) (n := (15 : Int32)) (N := 15) (n0 := 15) (n1 := 15) (by decide) (by decide) (by decide) (by decide) (by exact Nat.le_of_ble_eq_true rfl) (by exact Nat.le_of_ble_eq_true rfl) dX6_copyFrom_12 (fun M1 e2 H locs hP hS => ?_)
  have hw := hw M1 e2
  refine lv_aload_n hx hb dX6_copyFrom_15 rfl (lv_at hl 1 rfl) ?_
  refine g_get (v := .ref (ad 9 k1)) hx hb hts hown hK hP (hLx.h (f := 7) hk1) (gC7 _ _ _ _) gcl6 iX6_copyFrom_X6 1 (by decide) mX6_copyFrom_6 rfl rfl dX6_copyFrom_16 ?_
  refine lv_iconst (v := (0 : Int32)) hx hb dX6_copyFrom_19 (by decide) ?_
  refine lv_aload_n hx hb dX6_copyFrom_20 rfl (lv_at hl 0 rfl) ?_
  refine g_get (v := .ref (ad 9 k0)) hx hb hts hown hK hP (hLx.h (f := 7) hk0) (gC7 _ _ _ _) gcl6 iX6_copyFrom_X6 1 (by decide) mX6_copyFrom_6 rfl rfl dX6_copyFrom_21 ?_
  refine lv_iconst (v := (0 : Int32)) hx hb dX6_copyFrom_24 (by decide) ?_
  refine lv_bipush (v := (29 : Int32)) hx hb dX6_copyFrom_25 (by decide) ?_
  refine g_cpy hx hb (by rw [hml]; exact hl.1.symm) hF hown hts mX6_copyFrom_2 mX6_copyFrom_3 mX6_copyFrom_4 mX6_copyFrom_5 hK hP hS (hLx.h (f := 9) hk1) (hLx.h (f := 9) hk0) (gC9 _ _ _ _) (fun r => gC9 _ _ _ r) (n := (29 : Int32)) (N := 29) (n0 := 29) (n1 := 29) (by decide) (by decide) (by decide) (by decide) (by exact Nat.le_of_ble_eq_true rfl) (by exact Nat.le_of_ble_eq_true rfl) dX6_copyFrom_27 (fun M3 e4 H locs hP hS => ?_)
  have hw := hw M3 e4
  refine lv_aload_n hx hb dX6_copyFrom_30 rfl (lv_at hl 0 rfl) ?_
  refine lv_aload_n hx hb dX6_copyFrom_31 rfl (lv_at hl 1 rfl) ?_
  refine g_get (v := .int (M3 7 k1 2)) hx hb hts hown hK hP (hLx.h (f := 7) hk1) (gC7 _ _ _ _) gcl6 iX6_copyFrom_X6 2 (by decide) mX6_copyFrom_7 rfl rfl dX6_copyFrom_32 ?_
  refine g_put hx hb hF hts hown hK hP hS (hLx.h (f := 7) hk0) (gC7 _ _ _ _) gcl6 iX6_copyFrom_X6 tyX6 tyX6_ok nmX6 2 (by decide) mX6_copyFrom_7 rfl rfl rfl rfl (Nat.lt_of_lt_of_eq (by decide : 2 < 4) rfl) rfl dX6_copyFrom_35 (fun M5 e6 H locs hP hS => ?_)
  have hw := hw M5 e6
  refine lv_aload_n hx hb dX6_copyFrom_38 rfl (lv_at hl 0 rfl) ?_
  refine lv_aload_n hx hb dX6_copyFrom_39 rfl (lv_at hl 1 rfl) ?_
  refine g_get (v := .int (M5 7 k1 3)) hx hb hts hown hK hP (hLx.h (f := 7) hk1) (gC7 _ _ _ _) gcl6 iX6_copyFrom_X6 3 (by decide) mX6_copyFrom_8 rfl rfl dX6_copyFrom_40 ?_
  refine g_put hx hb hF hts hown hK hP hS (hLx.h (f := 7) hk0) (gC7 _ _ _ _) gcl6 iX6_copyFrom_X6 tyX6 tyX6_ok nmX6 3 (by decide) mX6_copyFrom_8 rfl rfl rfl rfl (Nat.lt_of_lt_of_eq (by decide : 3 < 4) rfl) rfl dX6_copyFrom_43 (fun M7 e8 H locs hP hS => ?_)
  have hw := hw M7 e8
  exact g_vret hx hb hr hlocks hw hP hS dX6_copyFrom_46
abbrev rmX7_copyFrom : Room := { frames := 2, cells := 0, slots := 0, locals := 39 }
theorem eX7_copyFrom : yX7_copyFrom.cls = RX7 ∧ yX7_copyFrom.cls ≠ "java/lang/invoke/MethodHandle" ∧ yX7_copyFrom.cls ≠ "java/lang/invoke/VarHandle" ∧ (parseMethodDescriptor yX7_copyFrom.desc).map (fun d => d.parameters.length) = some 1 := by decide +kernel
theorem iX7_copyFrom_X7 : ∀ w ∈ wsX70, w ∈ wsX7_copyFrom := fun _ h => List.mem_cons_of_mem _ (List.mem_append_left _ (List.mem_append_right _ (h)))
theorem mX7_copyFrom_1 : Cond.fieldLink RX7 18 "PracticeSheets$WordList" "size" "I" ∈ wsX7_copyFrom := List.mem_of_getElem? (i := 1) rfl
theorem mX7_copyFrom_2 : Cond.fieldLink RX7 11 "PracticeSheets$WordList" "words" "[LPracticeSheets$Word;" ∈ wsX7_copyFrom := List.mem_of_getElem? (i := 2) rfl
set_option maxHeartbeats 4000000 in
set_option maxRecDepth 100000 in
theorem qX7_copyFrom (l : Launch) (D : va_G) (E : Nat → ClassId) (ad : Nat → Nat → Nat) (L : List (Nat × Nat)) (A : Nat → Prop) (hF : gF E ad L A) (hLx : gLx L) (M0 : gW) (k0 : Nat) (k1 : Nat) (hk0 : k0 < gN 5) (hk1 : k1 < gN 5) (K : gW → Prop) (hw : wX7_copyFrom M0 k0 k1 K) : Met l yX7_copyFrom wsX7_copyFrom rmX7_copyFrom (va_Pc [.ref (ad 5 k0), .ref (ad 5 k1)] (gPre D E ad L M0)) (gQv D E ad L A K) 0 0 A := by
  refine Met.ofW (cc := cX7_copyFrom) (maxL := 3) (ret := none) (by decide) rfl ?_
  intro p e s m args below meth c s₁ B hml hv
  obtain ⟨rfl, hP, hK, hN⟩ := hv
  have hx := B.exec
  have hb := B.bytes
  have hr := B.returns
  have hts := atoms_spec (ws := wsX7_copyFrom) B.pre
  have hown : s.vm.findClass RX7 = some m.cls := findClass_of_methodNamed B.named
  have hlocks := B.notSynchronized
  have S : CallFix p m c cX7_copyFrom 3 s ([.ref (ad 5 k0), .ref (ad 5 k1)] : List Value).toArray wsX7_copyFrom RX7 := ⟨hx, hb, hml, hown, hts⟩
  have hS : va_S A s.heap s.heap [] := va_S.rf
  have hl := lv_entry ([.ref (ad 5 k0), .ref (ad 5 k1)]) (n := 3) (Nat.le_of_ble_eq_true rfl)
  rw [lg_entry_eq]
  generalize (lg_sl ([.ref (ad 5 k0), .ref (ad 5 k1)]) ++ List.replicate (3 - (lg_sl ([.ref (ad 5 k0), .ref (ad 5 k1)])).length) Slot.unset).toArray = ls at hl ⊢
  have hl : lv_has ls 3 [(0, .ref (ad 5 k0)), (1, .ref (ad 5 k1))] := hl
  refine lv_iconst (v := (0 : Int32)) hx hb dX7_copyFrom_0 (by decide) ?_
  refine lv_istore_n (lv' := [(2, .int (0 : Int32)), (0, .ref (ad 5 k0)), (1, .ref (ad 5 k1))]) hx hb dX7_copyFrom_1 rfl hl (by decide) rfl (fun ls hl => ?_)
  obtain ⟨n12, hw⟩ := hw
  have hxX7_copyFrom_L2_0 : ∀ (M8 : gW) (x2_9 : Int32) (H : Heap) (locs : List Loc) (ls : Array Slot), (∀ M10 : gW, M10 = gU M8 5 k0 (upd (M8 5 k0) 1 (M8 5 k1 1)) → (K M10)) → va_P D vwCl (gL E ad L M8) H → va_S A s.heap H locs → lv_has ls 3 [(0, .ref (ad 5 k0)), (1, .ref (ad 5 k1)), (2, .int x2_9)] → W p l e (headSpec wsX7_copyFrom rmX7_copyFrom).room s m (([.ref (ad 5 k0), .ref (ad 5 k1)] : List Value).toArray) below meth c H locs 0 0 (MQ below (gQv D E ad L A K) ([.ref (ad 5 k0), .ref (ad 5 k1)] : List Value).toArray s 0 0 A) (F0 m 31 ls []) := by
    intro M8 x2_9 H locs ls hw hP hS hl
    refine lv_aload_n hx hb dX7_copyFrom_31 rfl (lv_at hl 0 rfl) ?_
    refine lv_aload_n hx hb dX7_copyFrom_32 rfl (lv_at hl 1 rfl) ?_
    refine g_get (v := .int (M8 5 k1 1)) hx hb hts hown hK hP (hLx.h (f := 5) hk1) (gC5 _ _ _ _) gcl7 iX7_copyFrom_X7 1 (by decide) mX7_copyFrom_1 rfl rfl dX7_copyFrom_33 ?_
    refine g_put hx hb hF hts hown hK hP hS (hLx.h (f := 5) hk0) (gC5 _ _ _ _) gcl7 iX7_copyFrom_X7 tyX7 tyX7_ok nmX7 1 (by decide) mX7_copyFrom_1 rfl rfl rfl rfl (Nat.lt_of_lt_of_eq (by decide : 1 < 2) rfl) rfl dX7_copyFrom_36 (fun M10 e11 H locs hP hS => ?_)
    have hw := hw M10 e11
    exact g_vret hx hb hr hlocks hw hP hS dX7_copyFrom_39
  have hlX7_copyFrom_L2 : ∀ (n1 : Nat) (M2 : gW) (x2_3 : Int32) (H : Heap) (locs : List Loc) (ls : Array Slot), wX7_copyFrom_L2 k0 k1 (fun M8 x2_9 => (∀ M10 : gW, M10 = gU M8 5 k0 (upd (M8 5 k0) 1 (M8 5 k1 1)) → (K M10))) n1 M2 x2_3 → va_P D vwCl (gL E ad L M2) H → va_S A s.heap H locs → lv_has ls 3 [(0, .ref (ad 5 k0)), (1, .ref (ad 5 k1)), (2, .int x2_3)] → W p l e (headSpec wsX7_copyFrom rmX7_copyFrom).room s m (([.ref (ad 5 k0), .ref (ad 5 k1)] : List Value).toArray) below meth c H locs 0 0 (MQ below (gQv D E ad L A K) ([.ref (ad 5 k0), .ref (ad 5 k1)] : List Value).toArray s 0 0 A) (F0 m 2 ls []) := by
    intro n1
    induction n1 with
    | zero => intro M2 x2_3 H locs ls hw; exact False.elim hw
    | succ n1 ihn1 =>
      intro M2 x2_3 H locs ls hw hP hS hl
      refine lv_iload_n hx hb dX7_copyFrom_2 rfl (lv_at hl 2 rfl) ?_
      refine lv_aload_n hx hb dX7_copyFrom_3 rfl (lv_at hl 1 rfl) ?_
      refine g_get (v := .int (M2 5 k1 1)) hx hb hts hown hK hP (hLx.h (f := 5) hk1) (gC5 _ _ _ _) gcl7 iX7_copyFrom_X7 1 (by decide) mX7_copyFrom_1 rfl rfl dX7_copyFrom_4 ?_
      refine lv_icmp_ge (tgt := 31) hx hb dX7_copyFrom_7 (by decide) (fun c4 => ?_) (fun c4 => ?_)
      · have hw := hw.1 c4
        exact hxX7_copyFrom_L2_0 _ _ _ _ _ hw hP hS (lv_sub hl [0, 1, 2] rfl)
      · have hw := hw.2 c4
        refine lv_aload_n hx hb dX7_copyFrom_10 rfl (lv_at hl 0 rfl) ?_
        refine g_get (v := .ref (ad 6 k0)) hx hb hts hown hK hP (hLx.h (f := 5) hk0) (gC5 _ _ _ _) gcl7 iX7_copyFrom_X7 0 (by decide) mX7_copyFrom_2 rfl rfl dX7_copyFrom_11 ?_
        refine lv_iload_n hx hb dX7_copyFrom_14 rfl (lv_at hl 2 rfl) ?_
        have hb5 := hw.1
        have hw := hw.2
        refine g_aldw hx hb hK hP (hLx.h (f := 6) hk0) hb5 dX7_copyFrom_15 ?_
        refine lv_aload_n hx hb dX7_copyFrom_16 rfl (lv_at hl 1 rfl) ?_
        refine g_get (v := .ref (ad 6 k1)) hx hb hts hown hK hP (hLx.h (f := 5) hk1) (gC5 _ _ _ _) gcl7 iX7_copyFrom_X7 0 (by decide) mX7_copyFrom_2 rfl rfl dX7_copyFrom_17 ?_
        refine lv_iload_n hx hb dX7_copyFrom_20 rfl (lv_at hl 2 rfl) ?_
        have hb6 := hw.1
        have hw := hw.2
        refine g_aldw hx hb hK hP (hLx.h (f := 6) hk1) hb6 dX7_copyFrom_21 ?_
        refine g_Vv (As := [.ref (ad 7 (20 * k1 + x2_3.toNatClampNeg))]) (rest := []) S hK hN hP hS (qX6_copyFrom l D E ad L A hF hLx M2 (20 * k0 + x2_3.toNatClampNeg) (20 * k1 + x2_3.toNatClampNeg) (g_word hk0 hb5) (g_word hk1 hb6) _ hw) (cwV 1 hts gX7_copyFrom_X6_copyFrom rfl rfl rfl eX6_copyFrom ⟨Nat.le_of_ble_eq_true rfl, Nat.le_of_ble_eq_true rfl⟩) (hLx.h (f := 7) (g_word hk0 hb5)) (gC7 _ _ _ _) gcl6 rfl rfl rfl hl.1 (Nat.le_of_ble_eq_true rfl) ⟨Nat.zero_le _, Nat.zero_le _⟩ dX7_copyFrom_22 (fun M7 H locs hw hP hS => ?_)
        refine lv_iinc (v := (x2_3 + (1 : Int32))) (lv' := [(2, .int (x2_3 + (1 : Int32))), (0, .ref (ad 5 k0)), (1, .ref (ad 5 k1))]) hx hb dX7_copyFrom_25 hl (k := 2) rfl rfl (by decide) rfl (fun ls hl => ?_)
        refine lv_goto (tgt := 2) hx hb dX7_copyFrom_28 (by decide) ?_
        exact ihn1 _ _ _ _ _ hw hP hS (lv_sub hl [1, 2, 0] rfl)
  exact hlX7_copyFrom_L2 n12 _ _ _ _ _ hw hP hS (lv_sub hl [1, 2, 0] rfl)
abbrev rmX4_copyFrom : Room := { frames := 3, cells := 0, slots := 0, locals := 61 }
theorem eX4_copyFrom : yX4_copyFrom.cls = RX4 ∧ yX4_copyFrom.cls ≠ "java/lang/invoke/MethodHandle" ∧ yX4_copyFrom.cls ≠ "java/lang/invoke/VarHandle" ∧ (parseMethodDescriptor yX4_copyFrom.desc).map (fun d => d.parameters.length) = some 1 := by decide +kernel
theorem iX4_copyFrom_X4 : ∀ w ∈ wsX40, w ∈ wsX4_copyFrom := fun _ h => List.mem_cons_of_mem _ (List.mem_append_left _ (List.mem_append_left _ (List.mem_append_left _ (List.mem_append_right _ (h)))))
theorem mX4_copyFrom_1 : Cond.fieldLink RX4 12 "PracticeSheets$State" "practice" "LPracticeSheets$Practice;" ∈ wsX4_copyFrom := List.mem_of_getElem? (i := 1) rfl
theorem mX4_copyFrom_2 : Cond.fieldLink RX4 21 "PracticeSheets$State" "words" "LPracticeSheets$WordList;" ∈ wsX4_copyFrom := List.mem_of_getElem? (i := 2) rfl
theorem mX4_copyFrom_3 : Cond.fieldLink RX4 25 "PracticeSheets$State" "weeks" "I" ∈ wsX4_copyFrom := List.mem_of_getElem? (i := 3) rfl
theorem mX4_copyFrom_4 : Cond.fieldLink RX4 29 "PracticeSheets$State" "untried" "I" ∈ wsX4_copyFrom := List.mem_of_getElem? (i := 4) rfl
theorem mX4_copyFrom_5 : Cond.fieldLink RX4 32 "PracticeSheets$State" "written" "I" ∈ wsX4_copyFrom := List.mem_of_getElem? (i := 5) rfl
theorem mX4_copyFrom_6 : Cond.fieldLink RX4 35 "PracticeSheets$State" "slips" "I" ∈ wsX4_copyFrom := List.mem_of_getElem? (i := 6) rfl
theorem mX4_copyFrom_7 : Cond.fieldLink RX4 38 "PracticeSheets$State" "sheets" "I" ∈ wsX4_copyFrom := List.mem_of_getElem? (i := 7) rfl
set_option maxHeartbeats 4000000 in
set_option maxRecDepth 100000 in
theorem qX4_copyFrom (l : Launch) (D : va_G) (E : Nat → ClassId) (ad : Nat → Nat → Nat) (L : List (Nat × Nat)) (A : Nat → Prop) (hF : gF E ad L A) (hLx : gLx L) (M0 : gW) (k0 : Nat) (k1 : Nat) (hk0 : k0 < gN 1) (hk1 : k1 < gN 1) (K : gW → Prop) (hw : wX4_copyFrom M0 k0 k1 K) : Met l yX4_copyFrom wsX4_copyFrom rmX4_copyFrom (va_Pc [.ref (ad 1 k0), .ref (ad 1 k1)] (gPre D E ad L M0)) (gQv D E ad L A K) 0 0 A := by
  refine Met.ofW (cc := cX4_copyFrom) (maxL := 2) (ret := none) (by decide) rfl ?_
  intro p e s m args below meth c s₁ B hml hv
  obtain ⟨rfl, hP, hK, hN⟩ := hv
  have hx := B.exec
  have hb := B.bytes
  have hr := B.returns
  have hts := atoms_spec (ws := wsX4_copyFrom) B.pre
  have hown : s.vm.findClass RX4 = some m.cls := findClass_of_methodNamed B.named
  have hlocks := B.notSynchronized
  have S : CallFix p m c cX4_copyFrom 2 s ([.ref (ad 1 k0), .ref (ad 1 k1)] : List Value).toArray wsX4_copyFrom RX4 := ⟨hx, hb, hml, hown, hts⟩
  have hS : va_S A s.heap s.heap [] := va_S.rf
  have hl := lv_entry ([.ref (ad 1 k0), .ref (ad 1 k1)]) (n := 2) (Nat.le_of_ble_eq_true rfl)
  rw [lg_entry_eq]
  generalize (lg_sl ([.ref (ad 1 k0), .ref (ad 1 k1)]) ++ List.replicate (2 - (lg_sl ([.ref (ad 1 k0), .ref (ad 1 k1)])).length) Slot.unset).toArray = ls at hl ⊢
  have hl : lv_has ls 2 [(0, .ref (ad 1 k0)), (1, .ref (ad 1 k1))] := hl
  refine lv_aload_n hx hb dX4_copyFrom_0 rfl (lv_at hl 0 rfl) ?_
  refine g_get (v := .ref (ad 2 k0)) hx hb hts hown hK hP (hLx.h (f := 1) hk0) (gC1 _ _ _ _) gcl4 iX4_copyFrom_X4 0 (by decide) mX4_copyFrom_1 rfl rfl dX4_copyFrom_1 ?_
  refine lv_aload_n hx hb dX4_copyFrom_4 rfl (lv_at hl 1 rfl) ?_
  refine g_get (v := .ref (ad 2 k1)) hx hb hts hown hK hP (hLx.h (f := 1) hk1) (gC1 _ _ _ _) gcl4 iX4_copyFrom_X4 0 (by decide) mX4_copyFrom_1 rfl rfl dX4_copyFrom_5 ?_
  refine g_Vv (As := [.ref (ad 2 k1)]) (rest := []) S hK hN hP hS (qX1_copyFrom l D E ad L A hF hLx M0 k0 k1 hk0 hk1 _ hw) (cwV 1 hts gX4_copyFrom_X1_copyFrom rfl rfl rfl eX1_copyFrom ⟨Nat.le_of_ble_eq_true rfl, Nat.le_of_ble_eq_true rfl⟩) (hLx.h (f := 2) hk0) (gC2 _ _ _ _) gcl1 rfl rfl rfl hl.1 (Nat.le_of_ble_eq_true rfl) ⟨Nat.zero_le _, Nat.zero_le _⟩ dX4_copyFrom_8 (fun M1 H locs hw hP hS => ?_)
  refine lv_aload_n hx hb dX4_copyFrom_11 rfl (lv_at hl 0 rfl) ?_
  refine g_get (v := .ref (ad 5 k0)) hx hb hts hown hK hP (hLx.h (f := 1) hk0) (gC1 _ _ _ _) gcl4 iX4_copyFrom_X4 1 (by decide) mX4_copyFrom_2 rfl rfl dX4_copyFrom_12 ?_
  refine lv_aload_n hx hb dX4_copyFrom_15 rfl (lv_at hl 1 rfl) ?_
  refine g_get (v := .ref (ad 5 k1)) hx hb hts hown hK hP (hLx.h (f := 1) hk1) (gC1 _ _ _ _) gcl4 iX4_copyFrom_X4 1 (by decide) mX4_copyFrom_2 rfl rfl dX4_copyFrom_16 ?_
  refine g_Vv (As := [.ref (ad 5 k1)]) (rest := []) S hK hN hP hS (qX7_copyFrom l D E ad L A hF hLx M1 k0 k1 hk0 hk1 _ hw) (cwV 1 hts gX4_copyFrom_X7_copyFrom rfl rfl rfl eX7_copyFrom ⟨Nat.le_of_ble_eq_true rfl, Nat.le_of_ble_eq_true rfl⟩) (hLx.h (f := 5) hk0) (gC5 _ _ _ _) gcl7 rfl rfl rfl hl.1 (Nat.le_of_ble_eq_true rfl) ⟨Nat.zero_le _, Nat.zero_le _⟩ dX4_copyFrom_19 (fun M2 H locs hw hP hS => ?_)
  refine lv_aload_n hx hb dX4_copyFrom_22 rfl (lv_at hl 0 rfl) ?_
  refine lv_aload_n hx hb dX4_copyFrom_23 rfl (lv_at hl 1 rfl) ?_
  refine g_get (v := .int (M2 1 k1 2)) hx hb hts hown hK hP (hLx.h (f := 1) hk1) (gC1 _ _ _ _) gcl4 iX4_copyFrom_X4 2 (by decide) mX4_copyFrom_3 rfl rfl dX4_copyFrom_24 ?_
  refine g_put hx hb hF hts hown hK hP hS (hLx.h (f := 1) hk0) (gC1 _ _ _ _) gcl4 iX4_copyFrom_X4 tyX4 tyX4_ok nmX4 2 (by decide) mX4_copyFrom_3 rfl rfl rfl rfl (Nat.lt_of_lt_of_eq (by decide : 2 < 7) rfl) rfl dX4_copyFrom_27 (fun M3 e4 H locs hP hS => ?_)
  have hw := hw M3 e4
  refine lv_aload_n hx hb dX4_copyFrom_30 rfl (lv_at hl 0 rfl) ?_
  refine lv_aload_n hx hb dX4_copyFrom_31 rfl (lv_at hl 1 rfl) ?_
  refine g_get (v := .int (M3 1 k1 3)) hx hb hts hown hK hP (hLx.h (f := 1) hk1) (gC1 _ _ _ _) gcl4 iX4_copyFrom_X4 3 (by decide) mX4_copyFrom_4 rfl rfl dX4_copyFrom_32 ?_
  refine g_put hx hb hF hts hown hK hP hS (hLx.h (f := 1) hk0) (gC1 _ _ _ _) gcl4 iX4_copyFrom_X4 tyX4 tyX4_ok nmX4 3 (by decide) mX4_copyFrom_4 rfl rfl rfl rfl (Nat.lt_of_lt_of_eq (by decide : 3 < 7) rfl) rfl dX4_copyFrom_35 (fun M5 e6 H locs hP hS => ?_)
  have hw := hw M5 e6
  refine lv_aload_n hx hb dX4_copyFrom_38 rfl (lv_at hl 0 rfl) ?_
  refine lv_aload_n hx hb dX4_copyFrom_39 rfl (lv_at hl 1 rfl) ?_
  refine g_get (v := .int (M5 1 k1 4)) hx hb hts hown hK hP (hLx.h (f := 1) hk1) (gC1 _ _ _ _) gcl4 iX4_copyFrom_X4 4 (by decide) mX4_copyFrom_5 rfl rfl dX4_copyFrom_40 ?_
  refine g_put hx hb hF hts hown hK hP hS (hLx.h (f := 1) hk0) (gC1 _ _ _ _) gcl4 iX4_copyFrom_X4 tyX4 tyX4_ok nmX4 4 (by decide) mX4_copyFrom_5 rfl rfl rfl rfl (Nat.lt_of_lt_of_eq (by decide : 4 < 7) rfl) rfl dX4_copyFrom_43 (fun M7 e8 H locs hP hS => ?_)
  have hw := hw M7 e8
  refine lv_aload_n hx hb dX4_copyFrom_46 rfl (lv_at hl 0 rfl) ?_
  refine lv_aload_n hx hb dX4_copyFrom_47 rfl (lv_at hl 1 rfl) ?_
  refine g_get (v := .int (M7 1 k1 5)) hx hb hts hown hK hP (hLx.h (f := 1) hk1) (gC1 _ _ _ _) gcl4 iX4_copyFrom_X4 5 (by decide) mX4_copyFrom_6 rfl rfl dX4_copyFrom_48 ?_
  refine g_put hx hb hF hts hown hK hP hS (hLx.h (f := 1) hk0) (gC1 _ _ _ _) gcl4 iX4_copyFrom_X4 tyX4 tyX4_ok nmX4 5 (by decide) mX4_copyFrom_6 rfl rfl rfl rfl (Nat.lt_of_lt_of_eq (by decide : 5 < 7) rfl) rfl dX4_copyFrom_51 (fun M9 e10 H locs hP hS => ?_)
  have hw := hw M9 e10
  refine lv_aload_n hx hb dX4_copyFrom_54 rfl (lv_at hl 0 rfl) ?_
  refine lv_aload_n hx hb dX4_copyFrom_55 rfl (lv_at hl 1 rfl) ?_
  refine g_get (v := .int (M9 1 k1 6)) hx hb hts hown hK hP (hLx.h (f := 1) hk1) (gC1 _ _ _ _) gcl4 iX4_copyFrom_X4 6 (by decide) mX4_copyFrom_7 rfl rfl dX4_copyFrom_56 ?_
  refine g_put hx hb hF hts hown hK hP hS (hLx.h (f := 1) hk0) (gC1 _ _ _ _) gcl4 iX4_copyFrom_X4 tyX4 tyX4_ok nmX4 6 (by decide) mX4_copyFrom_7 rfl rfl rfl rfl (Nat.lt_of_lt_of_eq (by decide : 6 < 7) rfl) rfl dX4_copyFrom_59 (fun M11 e12 H locs hP hS => ?_)
  have hw := hw M11 e12
  exact g_vret hx hb hr hlocks hw hP hS dX4_copyFrom_62
abbrev rmX0_remember : Room := { frames := 4, cells := 0, slots := 0, locals := 82 }
theorem eX0_remember : yX0_remember.cls = RX0 ∧ yX0_remember.cls ≠ "java/lang/invoke/MethodHandle" ∧ yX0_remember.cls ≠ "java/lang/invoke/VarHandle" ∧ (parseMethodDescriptor yX0_remember.desc).map (fun d => d.parameters.length) = some 1 := by decide +kernel
theorem iX0_remember_X0 : ∀ w ∈ wsX00, w ∈ wsX0_remember := fun _ h => List.mem_cons_of_mem _ (List.mem_append_left _ (List.mem_append_left _ (List.mem_append_left _ (List.mem_append_left _ (List.mem_append_right _ (h))))))
theorem mX0_remember_1 : Cond.fieldLink RX0 18 "PracticeSheets$History" "size" "I" ∈ wsX0_remember := List.mem_of_getElem? (i := 1) rfl
theorem mX0_remember_2 : Cond.fieldLink RX0 11 "PracticeSheets$History" "states" "[LPracticeSheets$State;" ∈ wsX0_remember := List.mem_of_getElem? (i := 2) rfl
set_option maxHeartbeats 4000000 in
set_option maxRecDepth 100000 in
theorem qX0_remember (l : Launch) (D : va_G) (E : Nat → ClassId) (ad : Nat → Nat → Nat) (L : List (Nat × Nat)) (A : Nat → Prop) (hF : gF E ad L A) (hLx : gLx L) (M0 : gW) (k1 : Nat) (hk1 : k1 < gN 1) (K : gW → Prop) (hw : wX0_remember M0 k1 K) : Met l yX0_remember wsX0_remember rmX0_remember (va_Pc [.ref (ad 10 0), .ref (ad 1 k1)] (gPre D E ad L M0)) (gQv D E ad L A K) 0 0 A := by
  refine Met.ofW (cc := cX0_remember) (maxL := 2) (ret := none) (by decide) rfl ?_
  intro p e s m args below meth c s₁ B hml hv
  obtain ⟨rfl, hP, hK, hN⟩ := hv
  have hx := B.exec
  have hb := B.bytes
  have hr := B.returns
  have hts := atoms_spec (ws := wsX0_remember) B.pre
  have hown : s.vm.findClass RX0 = some m.cls := findClass_of_methodNamed B.named
  have hlocks := B.notSynchronized
  have S : CallFix p m c cX0_remember 2 s ([.ref (ad 10 0), .ref (ad 1 k1)] : List Value).toArray wsX0_remember RX0 := ⟨hx, hb, hml, hown, hts⟩
  have hS : va_S A s.heap s.heap [] := va_S.rf
  have hl := lv_entry ([.ref (ad 10 0), .ref (ad 1 k1)]) (n := 2) (Nat.le_of_ble_eq_true rfl)
  rw [lg_entry_eq]
  generalize (lg_sl ([.ref (ad 10 0), .ref (ad 1 k1)]) ++ List.replicate (2 - (lg_sl ([.ref (ad 10 0), .ref (ad 1 k1)])).length) Slot.unset).toArray = ls at hl ⊢
  have hl : lv_has ls 2 [(0, .ref (ad 10 0)), (1, .ref (ad 1 k1))] := hl
  refine lv_aload_n hx hb dX0_remember_0 rfl (lv_at hl 0 rfl) ?_
  refine g_get (v := .int (M0 10 0 1)) hx hb hts hown hK hP (hLx.h (f := 10) (by decide)) (gC10 _ _ _ _) gcl0 iX0_remember_X0 1 (by decide) mX0_remember_1 rfl rfl dX0_remember_1 ?_
  refine lv_iconst (v := (4 : Int32)) hx hb dX0_remember_4 (by decide) ?_
  refine lv_icmp_lt (tgt := 12) hx hb dX0_remember_5 (by decide) (fun c1 => ?_) (fun c1 => ?_)
  · have hw := hw.1 c1
    refine lv_aload_n hx hb dX0_remember_12 rfl (lv_at hl 0 rfl) ?_
    refine g_get (v := .ref (ad 11 0)) hx hb hts hown hK hP (hLx.h (f := 10) (by decide)) (gC10 _ _ _ _) gcl0 iX0_remember_X0 0 (by decide) mX0_remember_2 rfl rfl dX0_remember_13 ?_
    refine lv_aload_n hx hb dX0_remember_16 rfl (lv_at hl 0 rfl) ?_
    refine g_get (v := .int (M0 10 0 1)) hx hb hts hown hK hP (hLx.h (f := 10) (by decide)) (gC10 _ _ _ _) gcl0 iX0_remember_X0 1 (by decide) mX0_remember_1 rfl rfl dX0_remember_17 ?_
    have hb2 := hw.1
    have hw := hw.2
    refine g_alds hx hb hK hP (hLx.h (f := 11) (by decide)) hb2 dX0_remember_20 ?_
    have hb3 := hw.1
    have hw := hw.2
    refine lv_aload_n hx hb dX0_remember_21 rfl (lv_at hl 1 rfl) ?_
    refine g_Vv (As := [.ref (ad 1 k1)]) (rest := []) S hK hN hP hS (qX4_copyFrom l D E ad L A hF hLx M0 ((M0 11 0 (M0 10 0 1).toNatClampNeg).toNatClampNeg) k1 hb3 hk1 _ hw) (cwV 1 hts gX0_remember_X4_copyFrom rfl rfl rfl eX4_copyFrom ⟨Nat.le_of_ble_eq_true rfl, Nat.le_of_ble_eq_true rfl⟩) (hLx.h (f := 1) hb3) (gC1 _ _ _ _) gcl4 rfl rfl rfl hl.1 (Nat.le_of_ble_eq_true rfl) ⟨Nat.zero_le _, Nat.zero_le _⟩ dX0_remember_22 (fun M4 H locs hw hP hS => ?_)
    refine lv_aload_n hx hb dX0_remember_25 rfl (lv_at hl 0 rfl) ?_
    refine lv_dup hx hb dX0_remember_26 rfl ?_
    refine g_get (v := .int (M4 10 0 1)) hx hb hts hown hK hP (hLx.h (f := 10) (by decide)) (gC10 _ _ _ _) gcl0 iX0_remember_X0 1 (by decide) mX0_remember_1 rfl rfl dX0_remember_27 ?_
    refine lv_iconst (v := (1 : Int32)) hx hb dX0_remember_30 (by decide) ?_
    refine lv_iadd hx hb dX0_remember_31 ?_
    refine g_put hx hb hF hts hown hK hP hS (hLx.h (f := 10) (by decide)) (gC10 _ _ _ _) gcl0 iX0_remember_X0 tyX0 tyX0_ok nmX0 1 (by decide) mX0_remember_1 rfl rfl rfl rfl (Nat.lt_of_lt_of_eq (by decide : 1 < 2) rfl) rfl dX0_remember_32 (fun M5 e6 H locs hP hS => ?_)
    have hw := hw M5 e6
    exact g_vret hx hb hr hlocks hw hP hS dX0_remember_35
  · have hw := hw.2 c1
    refine lv_aload_n hx hb dX0_remember_8 rfl (lv_at hl 0 rfl) ?_
    refine g_Vv (As := []) (rest := []) S hK hN hP hS (qX0_dropOldest l D E ad L A hF hLx M0  _ hw) (cwV 0 hts gX0_remember_X0_dropOldest rfl rfl rfl eX0_dropOldest ⟨Nat.le_of_ble_eq_true rfl, Nat.le_of_ble_eq_true rfl⟩) (hLx.h (f := 10) (by decide)) (gC10 _ _ _ _) gcl0 rfl rfl rfl hl.1 (Nat.le_of_ble_eq_true rfl) ⟨Nat.zero_le _, Nat.zero_le _⟩ dX0_remember_9 (fun M7 H locs hw hP hS => ?_)
    refine lv_aload_n hx hb dX0_remember_12 rfl (lv_at hl 0 rfl) ?_
    refine g_get (v := .ref (ad 11 0)) hx hb hts hown hK hP (hLx.h (f := 10) (by decide)) (gC10 _ _ _ _) gcl0 iX0_remember_X0 0 (by decide) mX0_remember_2 rfl rfl dX0_remember_13 ?_
    refine lv_aload_n hx hb dX0_remember_16 rfl (lv_at hl 0 rfl) ?_
    refine g_get (v := .int (M7 10 0 1)) hx hb hts hown hK hP (hLx.h (f := 10) (by decide)) (gC10 _ _ _ _) gcl0 iX0_remember_X0 1 (by decide) mX0_remember_1 rfl rfl dX0_remember_17 ?_
    have hb8 := hw.1
    have hw := hw.2
    refine g_alds hx hb hK hP (hLx.h (f := 11) (by decide)) hb8 dX0_remember_20 ?_
    have hb9 := hw.1
    have hw := hw.2
    refine lv_aload_n hx hb dX0_remember_21 rfl (lv_at hl 1 rfl) ?_
    refine g_Vv (As := [.ref (ad 1 k1)]) (rest := []) S hK hN hP hS (qX4_copyFrom l D E ad L A hF hLx M7 ((M7 11 0 (M7 10 0 1).toNatClampNeg).toNatClampNeg) k1 hb9 hk1 _ hw) (cwV 1 hts gX0_remember_X4_copyFrom rfl rfl rfl eX4_copyFrom ⟨Nat.le_of_ble_eq_true rfl, Nat.le_of_ble_eq_true rfl⟩) (hLx.h (f := 1) hb9) (gC1 _ _ _ _) gcl4 rfl rfl rfl hl.1 (Nat.le_of_ble_eq_true rfl) ⟨Nat.zero_le _, Nat.zero_le _⟩ dX0_remember_22 (fun M10 H locs hw hP hS => ?_)
    refine lv_aload_n hx hb dX0_remember_25 rfl (lv_at hl 0 rfl) ?_
    refine lv_dup hx hb dX0_remember_26 rfl ?_
    refine g_get (v := .int (M10 10 0 1)) hx hb hts hown hK hP (hLx.h (f := 10) (by decide)) (gC10 _ _ _ _) gcl0 iX0_remember_X0 1 (by decide) mX0_remember_1 rfl rfl dX0_remember_27 ?_
    refine lv_iconst (v := (1 : Int32)) hx hb dX0_remember_30 (by decide) ?_
    refine lv_iadd hx hb dX0_remember_31 ?_
    refine g_put hx hb hF hts hown hK hP hS (hLx.h (f := 10) (by decide)) (gC10 _ _ _ _) gcl0 iX0_remember_X0 tyX0 tyX0_ok nmX0 1 (by decide) mX0_remember_1 rfl rfl rfl rfl (Nat.lt_of_lt_of_eq (by decide : 1 < 2) rfl) rfl dX0_remember_32 (fun M11 e12 H locs hP hS => ?_)
    have hw := hw M11 e12
    exact g_vret hx hb hr hlocks hw hP hS dX0_remember_35
abbrev rmX0_takeBack : Room := { frames := 4, cells := 0, slots := 0, locals := 82 }
theorem eX0_takeBack : yX0_takeBack.cls = RX0 ∧ yX0_takeBack.cls ≠ "java/lang/invoke/MethodHandle" ∧ yX0_takeBack.cls ≠ "java/lang/invoke/VarHandle" ∧ (parseMethodDescriptor yX0_takeBack.desc).map (fun d => d.parameters.length) = some 1 := by decide +kernel
theorem iX0_takeBack_X0 : ∀ w ∈ wsX00, w ∈ wsX0_takeBack := fun _ h => List.mem_cons_of_mem _ (List.mem_append_left _ (List.mem_append_left _ (List.mem_append_left _ (List.mem_append_left _ (List.mem_append_right _ (h))))))
theorem mX0_takeBack_1 : Cond.fieldLink RX0 18 "PracticeSheets$History" "size" "I" ∈ wsX0_takeBack := List.mem_of_getElem? (i := 1) rfl
theorem mX0_takeBack_2 : Cond.fieldLink RX0 11 "PracticeSheets$History" "states" "[LPracticeSheets$State;" ∈ wsX0_takeBack := List.mem_of_getElem? (i := 2) rfl
set_option maxHeartbeats 4000000 in
set_option maxRecDepth 100000 in
theorem qX0_takeBack (l : Launch) (D : va_G) (E : Nat → ClassId) (ad : Nat → Nat → Nat) (L : List (Nat × Nat)) (A : Nat → Prop) (hF : gF E ad L A) (hLx : gLx L) (M0 : gW) (k1 : Nat) (hk1 : k1 < gN 1) (K : Int32 → gW → Prop) (hw : wX0_takeBack M0 k1 K) : Met l yX0_takeBack wsX0_takeBack rmX0_takeBack (va_Pc [.ref (ad 10 0), .ref (ad 1 k1)] (gPre D E ad L M0)) (gQi D E ad L A K) 0 0 A := by
  refine Met.ofW (cc := cX0_takeBack) (maxL := 2) (ret := (some .boolean)) (by decide) rfl ?_
  intro p e s m args below meth c s₁ B hml hv
  obtain ⟨rfl, hP, hK, hN⟩ := hv
  have hx := B.exec
  have hb := B.bytes
  have hr := B.returns
  have hts := atoms_spec (ws := wsX0_takeBack) B.pre
  have hown : s.vm.findClass RX0 = some m.cls := findClass_of_methodNamed B.named
  have hlocks := B.notSynchronized
  have S : CallFix p m c cX0_takeBack 2 s ([.ref (ad 10 0), .ref (ad 1 k1)] : List Value).toArray wsX0_takeBack RX0 := ⟨hx, hb, hml, hown, hts⟩
  have hS : va_S A s.heap s.heap [] := va_S.rf
  have hl := lv_entry ([.ref (ad 10 0), .ref (ad 1 k1)]) (n := 2) (Nat.le_of_ble_eq_true rfl)
  rw [lg_entry_eq]
  generalize (lg_sl ([.ref (ad 10 0), .ref (ad 1 k1)]) ++ List.replicate (2 - (lg_sl ([.ref (ad 10 0), .ref (ad 1 k1)])).length) Slot.unset).toArray = ls at hl ⊢
  have hl : lv_has ls 2 [(0, .ref (ad 10 0)), (1, .ref (ad 1 k1))] := hl
  refine lv_aload_n hx hb dX0_takeBack_0 rfl (lv_at hl 0 rfl) ?_
  refine g_get (v := .int (M0 10 0 1)) hx hb hts hown hK hP (hLx.h (f := 10) (by decide)) (gC10 _ _ _ _) gcl0 iX0_takeBack_X0 1 (by decide) mX0_takeBack_1 rfl rfl dX0_takeBack_1 ?_
  refine lv_if_ne (tgt := 9) hx hb dX0_takeBack_4 (by decide) (fun c1 => ?_) (fun c1 => ?_)
  · have hw := hw.2 c1
    refine lv_aload_n hx hb dX0_takeBack_9 rfl (lv_at hl 0 rfl) ?_
    refine lv_dup hx hb dX0_takeBack_10 rfl ?_
    refine g_get (v := .int (M0 10 0 1)) hx hb hts hown hK hP (hLx.h (f := 10) (by decide)) (gC10 _ _ _ _) gcl0 iX0_takeBack_X0 1 (by decide) mX0_takeBack_1 rfl rfl dX0_takeBack_11 ?_
    refine lv_iconst (v := (1 : Int32)) hx hb dX0_takeBack_14 (by decide) ?_
    refine lv_isub hx hb dX0_takeBack_15 ?_
    refine g_put hx hb hF hts hown hK hP hS (hLx.h (f := 10) (by decide)) (gC10 _ _ _ _) gcl0 iX0_takeBack_X0 tyX0 tyX0_ok nmX0 1 (by decide) mX0_takeBack_1 rfl rfl rfl rfl (Nat.lt_of_lt_of_eq (by decide : 1 < 2) rfl) rfl dX0_takeBack_16 (fun M2 e3 H locs hP hS => ?_)
    have hw := hw M2 e3
    refine lv_aload_n hx hb dX0_takeBack_19 rfl (lv_at hl 1 rfl) ?_
    refine lv_aload_n hx hb dX0_takeBack_20 rfl (lv_at hl 0 rfl) ?_
    refine g_get (v := .ref (ad 11 0)) hx hb hts hown hK hP (hLx.h (f := 10) (by decide)) (gC10 _ _ _ _) gcl0 iX0_takeBack_X0 0 (by decide) mX0_takeBack_2 rfl rfl dX0_takeBack_21 ?_
    refine lv_aload_n hx hb dX0_takeBack_24 rfl (lv_at hl 0 rfl) ?_
    refine g_get (v := .int (M2 10 0 1)) hx hb hts hown hK hP (hLx.h (f := 10) (by decide)) (gC10 _ _ _ _) gcl0 iX0_takeBack_X0 1 (by decide) mX0_takeBack_1 rfl rfl dX0_takeBack_25 ?_
    have hb4 := hw.1
    have hw := hw.2
    refine g_alds hx hb hK hP (hLx.h (f := 11) (by decide)) hb4 dX0_takeBack_28 ?_
    have hb5 := hw.1
    have hw := hw.2
    refine g_Vv (As := [.ref (ad 1 ((M2 11 0 (M2 10 0 1).toNatClampNeg).toNatClampNeg))]) (rest := []) S hK hN hP hS (qX4_copyFrom l D E ad L A hF hLx M2 k1 ((M2 11 0 (M2 10 0 1).toNatClampNeg).toNatClampNeg) hk1 hb5 _ hw) (cwV 1 hts gX0_takeBack_X4_copyFrom rfl rfl rfl eX4_copyFrom ⟨Nat.le_of_ble_eq_true rfl, Nat.le_of_ble_eq_true rfl⟩) (hLx.h (f := 1) hk1) (gC1 _ _ _ _) gcl4 rfl rfl rfl hl.1 (Nat.le_of_ble_eq_true rfl) ⟨Nat.zero_le _, Nat.zero_le _⟩ dX0_takeBack_29 (fun M6 H locs hw hP hS => ?_)
    refine lv_iconst (v := (1 : Int32)) hx hb dX0_takeBack_32 (by decide) ?_
    exact g_zret hx hb hr hlocks (by decide) hw hP hS dX0_takeBack_33
  · have hw := hw.1 c1
    refine lv_iconst (v := (0 : Int32)) hx hb dX0_takeBack_7 (by decide) ?_
    exact g_zret hx hb hr hlocks (by decide) hw hP hS dX0_takeBack_8
abbrev rmX8_isPart : Room := { frames := 0, cells := 0, slots := 0, locals := 0 }
theorem eX8_isPart : yX8_isPart.cls = RX8 ∧ yX8_isPart.cls ≠ "java/lang/invoke/MethodHandle" ∧ yX8_isPart.cls ≠ "java/lang/invoke/VarHandle" ∧ (parseMethodDescriptor yX8_isPart.desc).map (fun d => d.parameters.length) = some 1 := by decide +kernel
set_option maxHeartbeats 4000000 in
set_option maxRecDepth 100000 in
theorem qX8_isPart (l : Launch) (D : va_G) (E : Nat → ClassId) (ad : Nat → Nat → Nat) (L : List (Nat × Nat)) (A : Nat → Prop) (hF : gF E ad L A) (hLx : gLx L) (M0 : gW) (a0 : Int32)  (K : Int32 → gW → Prop) (hw : wX8_isPart M0 a0 K) : Met l yX8_isPart wsX8_isPart rmX8_isPart (va_Pc [.int a0] (gPre D E ad L M0)) (gQi D E ad L A K) 0 0 A := by
  refine Met.ofW (cc := cX8_isPart) (maxL := 1) (ret := (some .boolean)) (by decide) rfl ?_
  intro p e s m args below meth c s₁ B hml hv
  obtain ⟨rfl, hP, hK, hN⟩ := hv
  have hx := B.exec
  have hb := B.bytes
  have hr := B.returns
  have hts := atoms_spec (ws := wsX8_isPart) B.pre
  have hown : s.vm.findClass RX8 = some m.cls := findClass_of_methodNamed B.named
  have hlocks := B.notSynchronized
  have S : CallFix p m c cX8_isPart 1 s ([.int a0] : List Value).toArray wsX8_isPart RX8 := ⟨hx, hb, hml, hown, hts⟩
  have hS : va_S A s.heap s.heap [] := va_S.rf
  have hl := lv_entry ([.int a0]) (n := 1) (Nat.le_of_ble_eq_true rfl)
  rw [lg_entry_eq]
  generalize (lg_sl ([.int a0]) ++ List.replicate (1 - (lg_sl ([.int a0])).length) Slot.unset).toArray = ls at hl ⊢
  have hl : lv_has ls 1 [(0, .int a0)] := hl
  refine lv_iload_n hx hb dX8_isPart_0 rfl (lv_at hl 0 rfl) ?_
  refine lv_if_lt (tgt := 15) hx hb dX8_isPart_1 (by decide) (fun c1 => ?_) (fun c1 => ?_)
  · have hw := hw.1 c1
    refine lv_iconst (v := (0 : Int32)) hx hb dX8_isPart_15 (by decide) ?_
    exact g_zret hx hb hr hlocks (by decide) hw hP hS dX8_isPart_16
  · have hw := hw.2 c1
    refine lv_iload_n hx hb dX8_isPart_4 rfl (lv_at hl 0 rfl) ?_
    refine lv_sipush (v := (702 : Int32)) hx hb dX8_isPart_5 (by decide) ?_
    refine lv_icmp_ge (tgt := 15) hx hb dX8_isPart_8 (by decide) (fun c2 => ?_) (fun c2 => ?_)
    · have hw := hw.1 c2
      refine lv_iconst (v := (0 : Int32)) hx hb dX8_isPart_15 (by decide) ?_
      exact g_zret hx hb hr hlocks (by decide) hw hP hS dX8_isPart_16
    · have hw := hw.2 c2
      refine lv_iconst (v := (1 : Int32)) hx hb dX8_isPart_11 (by decide) ?_
      refine lv_goto (tgt := 16) hx hb dX8_isPart_12 (by decide) ?_
      exact g_zret hx hb hr hlocks (by decide) hw hP hS dX8_isPart_16
abbrev rmX1_triesOf : Room := { frames := 1, cells := 0, slots := 0, locals := 20 }
theorem eX1_triesOf : yX1_triesOf.cls = RX1 ∧ yX1_triesOf.cls ≠ "java/lang/invoke/MethodHandle" ∧ yX1_triesOf.cls ≠ "java/lang/invoke/VarHandle" ∧ (parseMethodDescriptor yX1_triesOf.desc).map (fun d => d.parameters.length) = some 1 := by decide +kernel
theorem mX1_triesOf_3 : Cond.initialized RX8 ∈ wsX1_triesOf := List.mem_of_getElem? (i := 3) rfl
theorem mX1_triesOf_2 : Cond.static yX8_isPart ∈ wsX1_triesOf := List.mem_of_getElem? (i := 2) rfl
theorem iX1_triesOf_X1 : ∀ w ∈ wsX10, w ∈ wsX1_triesOf := fun _ h => List.mem_cons_of_mem _ (List.mem_append_right _ (h))
theorem mX1_triesOf_1 : Cond.fieldLink RX1 9 "PracticeSheets$Practice" "tries" "[I" ∈ wsX1_triesOf := List.mem_of_getElem? (i := 1) rfl
set_option maxHeartbeats 4000000 in
set_option maxRecDepth 100000 in
theorem qX1_triesOf (l : Launch) (D : va_G) (E : Nat → ClassId) (ad : Nat → Nat → Nat) (L : List (Nat × Nat)) (A : Nat → Prop) (hF : gF E ad L A) (hLx : gLx L) (M0 : gW) (k0 : Nat) (a1 : Int32) (hk0 : k0 < gN 2) (K : Int32 → gW → Prop) (hw : wX1_triesOf M0 k0 a1 K) : Met l yX1_triesOf wsX1_triesOf rmX1_triesOf (va_Pc [.ref (ad 2 k0), .int a1] (gPre D E ad L M0)) (gQi D E ad L A K) 0 0 A := by
  refine Met.ofW (cc := cX1_triesOf) (maxL := 2) (ret := (some .int)) (by decide) rfl ?_
  intro p e s m args below meth c s₁ B hml hv
  obtain ⟨rfl, hP, hK, hN⟩ := hv
  have hx := B.exec
  have hb := B.bytes
  have hr := B.returns
  have hts := atoms_spec (ws := wsX1_triesOf) B.pre
  have hown : s.vm.findClass RX1 = some m.cls := findClass_of_methodNamed B.named
  have hlocks := B.notSynchronized
  have S : CallFix p m c cX1_triesOf 2 s ([.ref (ad 2 k0), .int a1] : List Value).toArray wsX1_triesOf RX1 := ⟨hx, hb, hml, hown, hts⟩
  have hS : va_S A s.heap s.heap [] := va_S.rf
  have hl := lv_entry ([.ref (ad 2 k0), .int a1]) (n := 2) (Nat.le_of_ble_eq_true rfl)
  rw [lg_entry_eq]
  generalize (lg_sl ([.ref (ad 2 k0), .int a1]) ++ List.replicate (2 - (lg_sl ([.ref (ad 2 k0), .int a1])).length) Slot.unset).toArray = ls at hl ⊢
  have hl : lv_has ls 2 [(0, .ref (ad 2 k0)), (1, .int a1)] := hl
  refine lv_iload_n hx hb dX1_triesOf_0 rfl (lv_at hl 1 rfl) ?_
  refine g_SNi (As := [.int a1]) (rest := []) S hK hN hP hS (qX8_isPart l D E ad L A hF hLx M0 a1  _ hw) ⟨va_cnB 1 hts gX1_triesOf_X8_isPart_n18 rfl rfl rfl (hN.2 1 _ rfl) (hts _ mX1_triesOf_3) eX8_isPart.2 ⟨Nat.le_of_ble_eq_true rfl, Nat.le_of_ble_eq_true rfl⟩, hts _ mX1_triesOf_2, trivial⟩ rfl rfl hl.1 (Nat.le_of_ble_eq_true rfl) ⟨Nat.zero_le _, Nat.zero_le _⟩ dX1_triesOf_1 (fun r2 M1 H locs hw hP hS => ?_)
  refine lv_if_eq (tgt := 16) hx hb dX1_triesOf_4 (by decide) (fun c3 => ?_) (fun c3 => ?_)
  · have hw := hw.1 c3
    refine lv_iconst (v := (0 : Int32)) hx hb dX1_triesOf_16 (by decide) ?_
    exact g_iret hx hb hr hlocks hw hP hS dX1_triesOf_17
  · have hw := hw.2 c3
    refine lv_aload_n hx hb dX1_triesOf_7 rfl (lv_at hl 0 rfl) ?_
    refine g_get (v := .ref (ad 3 k0)) hx hb hts hown hK hP (hLx.h (f := 2) hk0) (gC2 _ _ _ _) gcl1 iX1_triesOf_X1 0 (by decide) mX1_triesOf_1 rfl rfl dX1_triesOf_8 ?_
    refine lv_iload_n hx hb dX1_triesOf_11 rfl (lv_at hl 1 rfl) ?_
    have hb4 := hw.1
    have hw := hw.2
    refine g_iald hx hb hK hP (hLx.h (f := 3) hk0) (gC3 _ _ _ _) hb4 dX1_triesOf_12 ?_
    refine lv_goto (tgt := 17) hx hb dX1_triesOf_13 (by decide) ?_
    exact g_iret hx hb hr hlocks hw hP hS dX1_triesOf_17
abbrev rmX1_slipsOf : Room := { frames := 1, cells := 0, slots := 0, locals := 20 }
theorem eX1_slipsOf : yX1_slipsOf.cls = RX1 ∧ yX1_slipsOf.cls ≠ "java/lang/invoke/MethodHandle" ∧ yX1_slipsOf.cls ≠ "java/lang/invoke/VarHandle" ∧ (parseMethodDescriptor yX1_slipsOf.desc).map (fun d => d.parameters.length) = some 1 := by decide +kernel
theorem mX1_slipsOf_3 : Cond.initialized RX8 ∈ wsX1_slipsOf := List.mem_of_getElem? (i := 3) rfl
theorem mX1_slipsOf_2 : Cond.static yX8_isPart ∈ wsX1_slipsOf := List.mem_of_getElem? (i := 2) rfl
theorem iX1_slipsOf_X1 : ∀ w ∈ wsX10, w ∈ wsX1_slipsOf := fun _ h => List.mem_cons_of_mem _ (List.mem_append_right _ (h))
theorem mX1_slipsOf_1 : Cond.fieldLink RX1 15 "PracticeSheets$Practice" "slips" "[I" ∈ wsX1_slipsOf := List.mem_of_getElem? (i := 1) rfl
set_option maxHeartbeats 4000000 in
set_option maxRecDepth 100000 in
theorem qX1_slipsOf (l : Launch) (D : va_G) (E : Nat → ClassId) (ad : Nat → Nat → Nat) (L : List (Nat × Nat)) (A : Nat → Prop) (hF : gF E ad L A) (hLx : gLx L) (M0 : gW) (k0 : Nat) (a1 : Int32) (hk0 : k0 < gN 2) (K : Int32 → gW → Prop) (hw : wX1_slipsOf M0 k0 a1 K) : Met l yX1_slipsOf wsX1_slipsOf rmX1_slipsOf (va_Pc [.ref (ad 2 k0), .int a1] (gPre D E ad L M0)) (gQi D E ad L A K) 0 0 A := by
  refine Met.ofW (cc := cX1_slipsOf) (maxL := 2) (ret := (some .int)) (by decide) rfl ?_
  intro p e s m args below meth c s₁ B hml hv
  obtain ⟨rfl, hP, hK, hN⟩ := hv
  have hx := B.exec
  have hb := B.bytes
  have hr := B.returns
  have hts := atoms_spec (ws := wsX1_slipsOf) B.pre
  have hown : s.vm.findClass RX1 = some m.cls := findClass_of_methodNamed B.named
  have hlocks := B.notSynchronized
  have S : CallFix p m c cX1_slipsOf 2 s ([.ref (ad 2 k0), .int a1] : List Value).toArray wsX1_slipsOf RX1 := ⟨hx, hb, hml, hown, hts⟩
  have hS : va_S A s.heap s.heap [] := va_S.rf
  have hl := lv_entry ([.ref (ad 2 k0), .int a1]) (n := 2) (Nat.le_of_ble_eq_true rfl)
  rw [lg_entry_eq]
  generalize (lg_sl ([.ref (ad 2 k0), .int a1]) ++ List.replicate (2 - (lg_sl ([.ref (ad 2 k0), .int a1])).length) Slot.unset).toArray = ls at hl ⊢
  have hl : lv_has ls 2 [(0, .ref (ad 2 k0)), (1, .int a1)] := hl
  refine lv_iload_n hx hb dX1_slipsOf_0 rfl (lv_at hl 1 rfl) ?_
  refine g_SNi (As := [.int a1]) (rest := []) S hK hN hP hS (qX8_isPart l D E ad L A hF hLx M0 a1  _ hw) ⟨va_cnB 1 hts gX1_slipsOf_X8_isPart_n18 rfl rfl rfl (hN.2 1 _ rfl) (hts _ mX1_slipsOf_3) eX8_isPart.2 ⟨Nat.le_of_ble_eq_true rfl, Nat.le_of_ble_eq_true rfl⟩, hts _ mX1_slipsOf_2, trivial⟩ rfl rfl hl.1 (Nat.le_of_ble_eq_true rfl) ⟨Nat.zero_le _, Nat.zero_le _⟩ dX1_slipsOf_1 (fun r2 M1 H locs hw hP hS => ?_)
  refine lv_if_eq (tgt := 16) hx hb dX1_slipsOf_4 (by decide) (fun c3 => ?_) (fun c3 => ?_)
  · have hw := hw.1 c3
    refine lv_iconst (v := (0 : Int32)) hx hb dX1_slipsOf_16 (by decide) ?_
    exact g_iret hx hb hr hlocks hw hP hS dX1_slipsOf_17
  · have hw := hw.2 c3
    refine lv_aload_n hx hb dX1_slipsOf_7 rfl (lv_at hl 0 rfl) ?_
    refine g_get (v := .ref (ad 4 k0)) hx hb hts hown hK hP (hLx.h (f := 2) hk0) (gC2 _ _ _ _) gcl1 iX1_slipsOf_X1 1 (by decide) mX1_slipsOf_1 rfl rfl dX1_slipsOf_8 ?_
    refine lv_iload_n hx hb dX1_slipsOf_11 rfl (lv_at hl 1 rfl) ?_
    have hb4 := hw.1
    have hw := hw.2
    refine g_iald hx hb hK hP (hLx.h (f := 4) hk0) (gC4 _ _ _ _) hb4 dX1_slipsOf_12 ?_
    refine lv_goto (tgt := 17) hx hb dX1_slipsOf_13 (by decide) ?_
    exact g_iret hx hb hr hlocks hw hP hS dX1_slipsOf_17
abbrev rmX1_needOf : Room := { frames := 2, cells := 0, slots := 0, locals := 41 }
theorem eX1_needOf : yX1_needOf.cls = RX1 ∧ yX1_needOf.cls ≠ "java/lang/invoke/MethodHandle" ∧ yX1_needOf.cls ≠ "java/lang/invoke/VarHandle" ∧ (parseMethodDescriptor yX1_needOf.desc).map (fun d => d.parameters.length) = some 1 := by decide +kernel
theorem mX1_needOf_1 : Cond.methodLink RX1 29 Lib.Math.max.name ∈ wsX1_needOf := List.mem_of_getElem? (i := 1) rfl
theorem mX1_needOf_2 : Cond.static Lib.Math.max.name ∈ wsX1_needOf := List.mem_of_getElem? (i := 2) rfl
theorem mX1_needOf_3 : Cond.initialized "java/lang/Math" ∈ wsX1_needOf := List.mem_of_getElem? (i := 3) rfl
theorem mX1_needOf_4 : Cond.code Lib.Math.max.name Lib.Math.max.code 2 (some .int) ∈ wsX1_needOf := List.mem_of_getElem? (i := 4) rfl
set_option maxHeartbeats 4000000 in
set_option maxRecDepth 100000 in
theorem qX1_needOf (l : Launch) (D : va_G) (E : Nat → ClassId) (ad : Nat → Nat → Nat) (L : List (Nat × Nat)) (A : Nat → Prop) (hF : gF E ad L A) (hLx : gLx L) (M0 : gW) (k0 : Nat) (a1 : Int32) (hk0 : k0 < gN 2) (K : Int32 → gW → Prop) (hw : wX1_needOf M0 k0 a1 K) : Met l yX1_needOf wsX1_needOf rmX1_needOf (va_Pc [.ref (ad 2 k0), .int a1] (gPre D E ad L M0)) (gQi D E ad L A K) 0 0 A := by
  refine Met.ofW (cc := cX1_needOf) (maxL := 2) (ret := (some .int)) (by decide) rfl ?_
  intro p e s m args below meth c s₁ B hml hv
  obtain ⟨rfl, hP, hK, hN⟩ := hv
  have hx := B.exec
  have hb := B.bytes
  have hr := B.returns
  have hts := atoms_spec (ws := wsX1_needOf) B.pre
  have hown : s.vm.findClass RX1 = some m.cls := findClass_of_methodNamed B.named
  have hlocks := B.notSynchronized
  have S : CallFix p m c cX1_needOf 2 s ([.ref (ad 2 k0), .int a1] : List Value).toArray wsX1_needOf RX1 := ⟨hx, hb, hml, hown, hts⟩
  have hS : va_S A s.heap s.heap [] := va_S.rf
  have hl := lv_entry ([.ref (ad 2 k0), .int a1]) (n := 2) (Nat.le_of_ble_eq_true rfl)
  rw [lg_entry_eq]
  generalize (lg_sl ([.ref (ad 2 k0), .int a1]) ++ List.replicate (2 - (lg_sl ([.ref (ad 2 k0), .int a1])).length) Slot.unset).toArray = ls at hl ⊢
  have hl : lv_has ls 2 [(0, .ref (ad 2 k0)), (1, .int a1)] := hl
  refine lv_bipush (v := (100 : Int32)) hx hb dX1_needOf_0 (by decide) ?_
  refine lv_aload_n hx hb dX1_needOf_2 rfl (lv_at hl 0 rfl) ?_
  refine lv_iload_n hx hb dX1_needOf_3 rfl (lv_at hl 1 rfl) ?_
  refine g_Vi (As := [.int a1]) (rest := [.int (100 : Int32)]) S hK hN hP hS (qX1_slipsOf l D E ad L A hF hLx M0 k0 a1 hk0 _ hw) (cwV 1 hts gX1_needOf_X1_slipsOf rfl rfl rfl eX1_slipsOf ⟨Nat.le_of_ble_eq_true rfl, Nat.le_of_ble_eq_true rfl⟩) (hLx.h (f := 2) hk0) (gC2 _ _ _ _) gcl1 rfl rfl rfl hl.1 (Nat.le_of_ble_eq_true rfl) ⟨Nat.zero_le _, Nat.zero_le _⟩ dX1_needOf_4 (fun r2 M1 H locs hw hP hS => ?_)
  refine lv_imul hx hb dX1_needOf_7 ?_
  refine lv_aload_n hx hb dX1_needOf_8 rfl (lv_at hl 0 rfl) ?_
  refine lv_iload_n hx hb dX1_needOf_9 rfl (lv_at hl 1 rfl) ?_
  refine g_Vi (As := [.int a1]) (rest := [.int ((100 : Int32) * r2)]) S hK hN hP hS (qX1_triesOf l D E ad L A hF hLx M1 k0 a1 hk0 _ hw) (cwV 1 hts gX1_needOf_X1_triesOf rfl rfl rfl eX1_triesOf ⟨Nat.le_of_ble_eq_true rfl, Nat.le_of_ble_eq_true rfl⟩) (hLx.h (f := 2) hk0) (gC2 _ _ _ _) gcl1 rfl rfl rfl hl.1 (Nat.le_of_ble_eq_true rfl) ⟨Nat.zero_le _, Nat.zero_le _⟩ dX1_needOf_10 (fun r4 M3 H locs hw hP hS => ?_)
  refine lv_iconst (v := (0 : Int32)) hx hb dX1_needOf_13 (by decide) ?_
  refine va_mmax hx hb (by rw [hml]; exact hl.1.symm) hown (hts _ mX1_needOf_1) (hts _ mX1_needOf_2) (hts _ mX1_needOf_3) (hts _ mX1_needOf_4) (Nat.le_of_ble_eq_true rfl) (Nat.le_of_ble_eq_true rfl) (Nat.zero_le _) (Nat.zero_le _) dX1_needOf_14 ?_
  refine lv_iconst (v := (2 : Int32)) hx hb dX1_needOf_17 (by decide) ?_
  refine lv_iadd hx hb dX1_needOf_18 ?_
  have hb5 := hw.1
  have hw := hw.2
  refine lv_idiv hx hb dX1_needOf_19 hb5 ?_
  exact g_iret hx hb hr hlocks hw hP hS dX1_needOf_20
abbrev rmX1_isUntried : Room := { frames := 2, cells := 0, slots := 0, locals := 41 }
theorem eX1_isUntried : yX1_isUntried.cls = RX1 ∧ yX1_isUntried.cls ≠ "java/lang/invoke/MethodHandle" ∧ yX1_isUntried.cls ≠ "java/lang/invoke/VarHandle" ∧ (parseMethodDescriptor yX1_isUntried.desc).map (fun d => d.parameters.length) = some 1 := by decide +kernel
set_option maxHeartbeats 4000000 in
set_option maxRecDepth 100000 in
theorem qX1_isUntried (l : Launch) (D : va_G) (E : Nat → ClassId) (ad : Nat → Nat → Nat) (L : List (Nat × Nat)) (A : Nat → Prop) (hF : gF E ad L A) (hLx : gLx L) (M0 : gW) (k0 : Nat) (a1 : Int32) (hk0 : k0 < gN 2) (K : Int32 → gW → Prop) (hw : wX1_isUntried M0 k0 a1 K) : Met l yX1_isUntried wsX1_isUntried rmX1_isUntried (va_Pc [.ref (ad 2 k0), .int a1] (gPre D E ad L M0)) (gQi D E ad L A K) 0 0 A := by
  refine Met.ofW (cc := cX1_isUntried) (maxL := 2) (ret := (some .boolean)) (by decide) rfl ?_
  intro p e s m args below meth c s₁ B hml hv
  obtain ⟨rfl, hP, hK, hN⟩ := hv
  have hx := B.exec
  have hb := B.bytes
  have hr := B.returns
  have hts := atoms_spec (ws := wsX1_isUntried) B.pre
  have hown : s.vm.findClass RX1 = some m.cls := findClass_of_methodNamed B.named
  have hlocks := B.notSynchronized
  have S : CallFix p m c cX1_isUntried 2 s ([.ref (ad 2 k0), .int a1] : List Value).toArray wsX1_isUntried RX1 := ⟨hx, hb, hml, hown, hts⟩
  have hS : va_S A s.heap s.heap [] := va_S.rf
  have hl := lv_entry ([.ref (ad 2 k0), .int a1]) (n := 2) (Nat.le_of_ble_eq_true rfl)
  rw [lg_entry_eq]
  generalize (lg_sl ([.ref (ad 2 k0), .int a1]) ++ List.replicate (2 - (lg_sl ([.ref (ad 2 k0), .int a1])).length) Slot.unset).toArray = ls at hl ⊢
  have hl : lv_has ls 2 [(0, .ref (ad 2 k0)), (1, .int a1)] := hl
  refine lv_aload_n hx hb dX1_isUntried_0 rfl (lv_at hl 0 rfl) ?_
  refine lv_iload_n hx hb dX1_isUntried_1 rfl (lv_at hl 1 rfl) ?_
  refine g_Vi (As := [.int a1]) (rest := []) S hK hN hP hS (qX1_triesOf l D E ad L A hF hLx M0 k0 a1 hk0 _ hw) (cwV 1 hts gX1_isUntried_X1_triesOf rfl rfl rfl eX1_triesOf ⟨Nat.le_of_ble_eq_true rfl, Nat.le_of_ble_eq_true rfl⟩) (hLx.h (f := 2) hk0) (gC2 _ _ _ _) gcl1 rfl rfl rfl hl.1 (Nat.le_of_ble_eq_true rfl) ⟨Nat.zero_le _, Nat.zero_le _⟩ dX1_isUntried_2 (fun r2 M1 H locs hw hP hS => ?_)
  refine lv_if_ne (tgt := 12) hx hb dX1_isUntried_5 (by decide) (fun c3 => ?_) (fun c3 => ?_)
  · have hw := hw.2 c3
    refine lv_iconst (v := (0 : Int32)) hx hb dX1_isUntried_12 (by decide) ?_
    exact g_zret hx hb hr hlocks (by decide) hw hP hS dX1_isUntried_13
  · have hw := hw.1 c3
    refine lv_iconst (v := (1 : Int32)) hx hb dX1_isUntried_8 (by decide) ?_
    refine lv_goto (tgt := 13) hx hb dX1_isUntried_9 (by decide) ?_
    exact g_zret hx hb hr hlocks (by decide) hw hP hS dX1_isUntried_13
abbrev rmX1_addTry : Room := { frames := 1, cells := 0, slots := 0, locals := 20 }
theorem eX1_addTry : yX1_addTry.cls = RX1 ∧ yX1_addTry.cls ≠ "java/lang/invoke/MethodHandle" ∧ yX1_addTry.cls ≠ "java/lang/invoke/VarHandle" ∧ (parseMethodDescriptor yX1_addTry.desc).map (fun d => d.parameters.length) = some 1 := by decide +kernel
theorem mX1_addTry_3 : Cond.initialized RX8 ∈ wsX1_addTry := List.mem_of_getElem? (i := 3) rfl
theorem mX1_addTry_2 : Cond.static yX8_isPart ∈ wsX1_addTry := List.mem_of_getElem? (i := 2) rfl
theorem iX1_addTry_X1 : ∀ w ∈ wsX10, w ∈ wsX1_addTry := fun _ h => List.mem_cons_of_mem _ (List.mem_append_right _ (h))
theorem mX1_addTry_1 : Cond.fieldLink RX1 9 "PracticeSheets$Practice" "tries" "[I" ∈ wsX1_addTry := List.mem_of_getElem? (i := 1) rfl
set_option maxHeartbeats 4000000 in
set_option maxRecDepth 100000 in
theorem qX1_addTry (l : Launch) (D : va_G) (E : Nat → ClassId) (ad : Nat → Nat → Nat) (L : List (Nat × Nat)) (A : Nat → Prop) (hF : gF E ad L A) (hLx : gLx L) (M0 : gW) (k0 : Nat) (a1 : Int32) (hk0 : k0 < gN 2) (K : gW → Prop) (hw : wX1_addTry M0 k0 a1 K) : Met l yX1_addTry wsX1_addTry rmX1_addTry (va_Pc [.ref (ad 2 k0), .int a1] (gPre D E ad L M0)) (gQv D E ad L A K) 0 0 A := by
  refine Met.ofW (cc := cX1_addTry) (maxL := 2) (ret := none) (by decide) rfl ?_
  intro p e s m args below meth c s₁ B hml hv
  obtain ⟨rfl, hP, hK, hN⟩ := hv
  have hx := B.exec
  have hb := B.bytes
  have hr := B.returns
  have hts := atoms_spec (ws := wsX1_addTry) B.pre
  have hown : s.vm.findClass RX1 = some m.cls := findClass_of_methodNamed B.named
  have hlocks := B.notSynchronized
  have S : CallFix p m c cX1_addTry 2 s ([.ref (ad 2 k0), .int a1] : List Value).toArray wsX1_addTry RX1 := ⟨hx, hb, hml, hown, hts⟩
  have hS : va_S A s.heap s.heap [] := va_S.rf
  have hl := lv_entry ([.ref (ad 2 k0), .int a1]) (n := 2) (Nat.le_of_ble_eq_true rfl)
  rw [lg_entry_eq]
  generalize (lg_sl ([.ref (ad 2 k0), .int a1]) ++ List.replicate (2 - (lg_sl ([.ref (ad 2 k0), .int a1])).length) Slot.unset).toArray = ls at hl ⊢
  have hl : lv_has ls 2 [(0, .ref (ad 2 k0)), (1, .int a1)] := hl
  refine lv_iload_n hx hb dX1_addTry_0 rfl (lv_at hl 1 rfl) ?_
  refine g_SNi (As := [.int a1]) (rest := []) S hK hN hP hS (qX8_isPart l D E ad L A hF hLx M0 a1  _ hw) ⟨va_cnB 1 hts gX1_addTry_X8_isPart_n18 rfl rfl rfl (hN.2 1 _ rfl) (hts _ mX1_addTry_3) eX8_isPart.2 ⟨Nat.le_of_ble_eq_true rfl, Nat.le_of_ble_eq_true rfl⟩, hts _ mX1_addTry_2, trivial⟩ rfl rfl hl.1 (Nat.le_of_ble_eq_true rfl) ⟨Nat.zero_le _, Nat.zero_le _⟩ dX1_addTry_1 (fun r2 M1 H locs hw hP hS => ?_)
  refine lv_if_eq (tgt := 29) hx hb dX1_addTry_4 (by decide) (fun c3 => ?_) (fun c3 => ?_)
  · have hw := hw.1 c3
    exact g_vret hx hb hr hlocks hw hP hS dX1_addTry_29
  · have hw := hw.2 c3
    refine lv_aload_n hx hb dX1_addTry_7 rfl (lv_at hl 0 rfl) ?_
    refine g_get (v := .ref (ad 3 k0)) hx hb hts hown hK hP (hLx.h (f := 2) hk0) (gC2 _ _ _ _) gcl1 iX1_addTry_X1 0 (by decide) mX1_addTry_1 rfl rfl dX1_addTry_8 ?_
    refine lv_iload_n hx hb dX1_addTry_11 rfl (lv_at hl 1 rfl) ?_
    have hb4 := hw.1
    have hw := hw.2
    refine g_iald hx hb hK hP (hLx.h (f := 3) hk0) (gC3 _ _ _ _) hb4 dX1_addTry_12 ?_
    refine lv_sipush (v := (9999 : Int32)) hx hb dX1_addTry_13 (by decide) ?_
    refine lv_icmp_ge (tgt := 29) hx hb dX1_addTry_16 (by decide) (fun c5 => ?_) (fun c5 => ?_)
    · have hw := hw.1 c5
      exact g_vret hx hb hr hlocks hw hP hS dX1_addTry_29
    · have hw := hw.2 c5
      refine lv_aload_n hx hb dX1_addTry_19 rfl (lv_at hl 0 rfl) ?_
      refine g_get (v := .ref (ad 3 k0)) hx hb hts hown hK hP (hLx.h (f := 2) hk0) (gC2 _ _ _ _) gcl1 iX1_addTry_X1 0 (by decide) mX1_addTry_1 rfl rfl dX1_addTry_20 ?_
      refine lv_iload_n hx hb dX1_addTry_23 rfl (lv_at hl 1 rfl) ?_
      refine lv_dup2_11 hx hb dX1_addTry_24 rfl rfl ?_
      have hb6 := hw.1
      have hw := hw.2
      refine g_iald hx hb hK hP (hLx.h (f := 3) hk0) (gC3 _ _ _ _) hb6 dX1_addTry_25 ?_
      refine lv_iconst (v := (1 : Int32)) hx hb dX1_addTry_26 (by decide) ?_
      refine lv_iadd hx hb dX1_addTry_27 ?_
      have hb7 := hw.1
      have hw := hw.2
      refine g_iast hx hb hF hK hP hS (hLx.h (f := 3) hk0) (fun r => gC3 _ _ _ r) hb7 dX1_addTry_28 (fun M8 e9 H locs hP hS => ?_)
      have hw := hw M8 e9
      exact g_vret hx hb hr hlocks hw hP hS dX1_addTry_29
abbrev rmX1_addSlip : Room := { frames := 1, cells := 0, slots := 0, locals := 20 }
theorem eX1_addSlip : yX1_addSlip.cls = RX1 ∧ yX1_addSlip.cls ≠ "java/lang/invoke/MethodHandle" ∧ yX1_addSlip.cls ≠ "java/lang/invoke/VarHandle" ∧ (parseMethodDescriptor yX1_addSlip.desc).map (fun d => d.parameters.length) = some 1 := by decide +kernel
theorem mX1_addSlip_3 : Cond.initialized RX8 ∈ wsX1_addSlip := List.mem_of_getElem? (i := 3) rfl
theorem mX1_addSlip_2 : Cond.static yX8_isPart ∈ wsX1_addSlip := List.mem_of_getElem? (i := 2) rfl
theorem iX1_addSlip_X1 : ∀ w ∈ wsX10, w ∈ wsX1_addSlip := fun _ h => List.mem_cons_of_mem _ (List.mem_append_right _ (h))
theorem mX1_addSlip_1 : Cond.fieldLink RX1 15 "PracticeSheets$Practice" "slips" "[I" ∈ wsX1_addSlip := List.mem_of_getElem? (i := 1) rfl
set_option maxHeartbeats 4000000 in
set_option maxRecDepth 100000 in
theorem qX1_addSlip (l : Launch) (D : va_G) (E : Nat → ClassId) (ad : Nat → Nat → Nat) (L : List (Nat × Nat)) (A : Nat → Prop) (hF : gF E ad L A) (hLx : gLx L) (M0 : gW) (k0 : Nat) (a1 : Int32) (hk0 : k0 < gN 2) (K : gW → Prop) (hw : wX1_addSlip M0 k0 a1 K) : Met l yX1_addSlip wsX1_addSlip rmX1_addSlip (va_Pc [.ref (ad 2 k0), .int a1] (gPre D E ad L M0)) (gQv D E ad L A K) 0 0 A := by
  refine Met.ofW (cc := cX1_addSlip) (maxL := 2) (ret := none) (by decide) rfl ?_
  intro p e s m args below meth c s₁ B hml hv
  obtain ⟨rfl, hP, hK, hN⟩ := hv
  have hx := B.exec
  have hb := B.bytes
  have hr := B.returns
  have hts := atoms_spec (ws := wsX1_addSlip) B.pre
  have hown : s.vm.findClass RX1 = some m.cls := findClass_of_methodNamed B.named
  have hlocks := B.notSynchronized
  have S : CallFix p m c cX1_addSlip 2 s ([.ref (ad 2 k0), .int a1] : List Value).toArray wsX1_addSlip RX1 := ⟨hx, hb, hml, hown, hts⟩
  have hS : va_S A s.heap s.heap [] := va_S.rf
  have hl := lv_entry ([.ref (ad 2 k0), .int a1]) (n := 2) (Nat.le_of_ble_eq_true rfl)
  rw [lg_entry_eq]
  generalize (lg_sl ([.ref (ad 2 k0), .int a1]) ++ List.replicate (2 - (lg_sl ([.ref (ad 2 k0), .int a1])).length) Slot.unset).toArray = ls at hl ⊢
  have hl : lv_has ls 2 [(0, .ref (ad 2 k0)), (1, .int a1)] := hl
  refine lv_iload_n hx hb dX1_addSlip_0 rfl (lv_at hl 1 rfl) ?_
  refine g_SNi (As := [.int a1]) (rest := []) S hK hN hP hS (qX8_isPart l D E ad L A hF hLx M0 a1  _ hw) ⟨va_cnB 1 hts gX1_addSlip_X8_isPart_n18 rfl rfl rfl (hN.2 1 _ rfl) (hts _ mX1_addSlip_3) eX8_isPart.2 ⟨Nat.le_of_ble_eq_true rfl, Nat.le_of_ble_eq_true rfl⟩, hts _ mX1_addSlip_2, trivial⟩ rfl rfl hl.1 (Nat.le_of_ble_eq_true rfl) ⟨Nat.zero_le _, Nat.zero_le _⟩ dX1_addSlip_1 (fun r2 M1 H locs hw hP hS => ?_)
  refine lv_if_eq (tgt := 29) hx hb dX1_addSlip_4 (by decide) (fun c3 => ?_) (fun c3 => ?_)
  · have hw := hw.1 c3
    exact g_vret hx hb hr hlocks hw hP hS dX1_addSlip_29
  · have hw := hw.2 c3
    refine lv_aload_n hx hb dX1_addSlip_7 rfl (lv_at hl 0 rfl) ?_
    refine g_get (v := .ref (ad 4 k0)) hx hb hts hown hK hP (hLx.h (f := 2) hk0) (gC2 _ _ _ _) gcl1 iX1_addSlip_X1 1 (by decide) mX1_addSlip_1 rfl rfl dX1_addSlip_8 ?_
    refine lv_iload_n hx hb dX1_addSlip_11 rfl (lv_at hl 1 rfl) ?_
    have hb4 := hw.1
    have hw := hw.2
    refine g_iald hx hb hK hP (hLx.h (f := 4) hk0) (gC4 _ _ _ _) hb4 dX1_addSlip_12 ?_
    refine lv_sipush (v := (9999 : Int32)) hx hb dX1_addSlip_13 (by decide) ?_
    refine lv_icmp_ge (tgt := 29) hx hb dX1_addSlip_16 (by decide) (fun c5 => ?_) (fun c5 => ?_)
    · have hw := hw.1 c5
      exact g_vret hx hb hr hlocks hw hP hS dX1_addSlip_29
    · have hw := hw.2 c5
      refine lv_aload_n hx hb dX1_addSlip_19 rfl (lv_at hl 0 rfl) ?_
      refine g_get (v := .ref (ad 4 k0)) hx hb hts hown hK hP (hLx.h (f := 2) hk0) (gC2 _ _ _ _) gcl1 iX1_addSlip_X1 1 (by decide) mX1_addSlip_1 rfl rfl dX1_addSlip_20 ?_
      refine lv_iload_n hx hb dX1_addSlip_23 rfl (lv_at hl 1 rfl) ?_
      refine lv_dup2_11 hx hb dX1_addSlip_24 rfl rfl ?_
      have hb6 := hw.1
      have hw := hw.2
      refine g_iald hx hb hK hP (hLx.h (f := 4) hk0) (gC4 _ _ _ _) hb6 dX1_addSlip_25 ?_
      refine lv_iconst (v := (1 : Int32)) hx hb dX1_addSlip_26 (by decide) ?_
      refine lv_iadd hx hb dX1_addSlip_27 ?_
      have hb7 := hw.1
      have hw := hw.2
      refine g_iast hx hb hF hK hP hS (hLx.h (f := 4) hk0) (fun r => gC4 _ _ _ r) hb7 dX1_addSlip_28 (fun M8 e9 H locs hP hS => ?_)
      have hw := hw M8 e9
      exact g_vret hx hb hr hlocks hw hP hS dX1_addSlip_29
abbrev rmX8_joinPart : Room := { frames := 0, cells := 0, slots := 0, locals := 0 }
theorem eX8_joinPart : yX8_joinPart.cls = RX8 ∧ yX8_joinPart.cls ≠ "java/lang/invoke/MethodHandle" ∧ yX8_joinPart.cls ≠ "java/lang/invoke/VarHandle" ∧ (parseMethodDescriptor yX8_joinPart.desc).map (fun d => d.parameters.length) = some 2 := by decide +kernel
set_option maxHeartbeats 4000000 in
set_option maxRecDepth 100000 in
theorem qX8_joinPart (l : Launch) (D : va_G) (E : Nat → ClassId) (ad : Nat → Nat → Nat) (L : List (Nat × Nat)) (A : Nat → Prop) (hF : gF E ad L A) (hLx : gLx L) (M0 : gW) (a0 : Int32) (a1 : Int32)  (K : Int32 → gW → Prop) (hw : wX8_joinPart M0 a0 a1 K) : Met l yX8_joinPart wsX8_joinPart rmX8_joinPart (va_Pc [.int a0, .int a1] (gPre D E ad L M0)) (gQi D E ad L A K) 0 0 A := by
  refine Met.ofW (cc := cX8_joinPart) (maxL := 2) (ret := (some .int)) (by decide) rfl ?_
  intro p e s m args below meth c s₁ B hml hv
  obtain ⟨rfl, hP, hK, hN⟩ := hv
  have hx := B.exec
  have hb := B.bytes
  have hr := B.returns
  have hts := atoms_spec (ws := wsX8_joinPart) B.pre
  have hown : s.vm.findClass RX8 = some m.cls := findClass_of_methodNamed B.named
  have hlocks := B.notSynchronized
  have S : CallFix p m c cX8_joinPart 2 s ([.int a0, .int a1] : List Value).toArray wsX8_joinPart RX8 := ⟨hx, hb, hml, hown, hts⟩
  have hS : va_S A s.heap s.heap [] := va_S.rf
  have hl := lv_entry ([.int a0, .int a1]) (n := 2) (Nat.le_of_ble_eq_true rfl)
  rw [lg_entry_eq]
  generalize (lg_sl ([.int a0, .int a1]) ++ List.replicate (2 - (lg_sl ([.int a0, .int a1])).length) Slot.unset).toArray = ls at hl ⊢
  have hl : lv_has ls 2 [(0, .int a0), (1, .int a1)] := hl
  refine lv_bipush (v := (26 : Int32)) hx hb dX8_joinPart_0 (by decide) ?_
  refine lv_bipush (v := (26 : Int32)) hx hb dX8_joinPart_2 (by decide) ?_
  refine lv_iload_n hx hb dX8_joinPart_4 rfl (lv_at hl 0 rfl) ?_
  refine lv_imul hx hb dX8_joinPart_5 ?_
  refine lv_iadd hx hb dX8_joinPart_6 ?_
  refine lv_iload_n hx hb dX8_joinPart_7 rfl (lv_at hl 1 rfl) ?_
  refine lv_iadd hx hb dX8_joinPart_8 ?_
  exact g_iret hx hb hr hlocks hw hP hS dX8_joinPart_9
abbrev rmX1_addTriesOf : Room := { frames := 2, cells := 0, slots := 0, locals := 41 }
theorem eX1_addTriesOf : yX1_addTriesOf.cls = RX1 ∧ yX1_addTriesOf.cls ≠ "java/lang/invoke/MethodHandle" ∧ yX1_addTriesOf.cls ≠ "java/lang/invoke/VarHandle" ∧ (parseMethodDescriptor yX1_addTriesOf.desc).map (fun d => d.parameters.length) = some 1 := by decide +kernel
theorem iX1_addTriesOf_X6 : ∀ w ∈ wsX60, w ∈ wsX1_addTriesOf := fun _ h => List.mem_cons_of_mem _ (List.mem_append_left _ (List.mem_append_right _ (h)))
theorem mX1_addTriesOf_8 : Cond.initialized RX8 ∈ wsX1_addTriesOf := List.mem_of_getElem? (i := 8) rfl
theorem mX1_addTriesOf_10 : Cond.static yX8_joinPart ∈ wsX1_addTriesOf := List.mem_of_getElem? (i := 10) rfl
set_option maxHeartbeats 4000000 in
set_option maxRecDepth 100000 in
theorem qX1_addTriesOf (l : Launch) (D : va_G) (E : Nat → ClassId) (ad : Nat → Nat → Nat) (L : List (Nat × Nat)) (A : Nat → Prop) (hF : gF E ad L A) (hLx : gLx L) (M0 : gW) (k0 : Nat) (k1 : Nat) (hk0 : k0 < gN 2) (hk1 : k1 < gN 7) (K : gW → Prop) (hw : wX1_addTriesOf M0 k0 k1 K) : Met l yX1_addTriesOf wsX1_addTriesOf rmX1_addTriesOf (va_Pc [.ref (ad 2 k0), .ref (ad 7 k1)] (gPre D E ad L M0)) (gQv D E ad L A K) 0 0 A := by
  refine Met.ofW (cc := cX1_addTriesOf) (maxL := 3) (ret := none) (by decide) rfl ?_
  intro p e s m args below meth c s₁ B hml hv
  obtain ⟨rfl, hP, hK, hN⟩ := hv
  have hx := B.exec
  have hb := B.bytes
  have hr := B.returns
  have hts := atoms_spec (ws := wsX1_addTriesOf) B.pre
  have hown : s.vm.findClass RX1 = some m.cls := findClass_of_methodNamed B.named
  have hlocks := B.notSynchronized
  have S : CallFix p m c cX1_addTriesOf 3 s ([.ref (ad 2 k0), .ref (ad 7 k1)] : List Value).toArray wsX1_addTriesOf RX1 := ⟨hx, hb, hml, hown, hts⟩
  have hS : va_S A s.heap s.heap [] := va_S.rf
  have hl := lv_entry ([.ref (ad 2 k0), .ref (ad 7 k1)]) (n := 3) (Nat.le_of_ble_eq_true rfl)
  rw [lg_entry_eq]
  generalize (lg_sl ([.ref (ad 2 k0), .ref (ad 7 k1)]) ++ List.replicate (3 - (lg_sl ([.ref (ad 2 k0), .ref (ad 7 k1)])).length) Slot.unset).toArray = ls at hl ⊢
  have hl : lv_has ls 3 [(0, .ref (ad 2 k0)), (1, .ref (ad 7 k1))] := hl
  refine lv_iconst (v := (0 : Int32)) hx hb dX1_addTriesOf_0 (by decide) ?_
  refine lv_istore_n (lv' := [(2, .int (0 : Int32)), (0, .ref (ad 2 k0)), (1, .ref (ad 7 k1))]) hx hb dX1_addTriesOf_1 rfl hl (by decide) rfl (fun ls hl => ?_)
  obtain ⟨n15, hw⟩ := hw
  have hxX1_addTriesOf_L2_0 : ∀ (M13 : gW) (x2_14 : Int32) (H : Heap) (locs : List Loc) (ls : Array Slot), (K M13) → va_P D vwCl (gL E ad L M13) H → va_S A s.heap H locs → lv_has ls 3 [(0, .ref (ad 2 k0)), (1, .ref (ad 7 k1)), (2, .int x2_14)] → W p l e (headSpec wsX1_addTriesOf rmX1_addTriesOf).room s m (([.ref (ad 2 k0), .ref (ad 7 k1)] : List Value).toArray) below meth c H locs 0 0 (MQ below (gQv D E ad L A K) ([.ref (ad 2 k0), .ref (ad 7 k1)] : List Value).toArray s 0 0 A) (F0 m 51 ls []) := by
    intro M13 x2_14 H locs ls hw hP hS hl
    exact g_vret hx hb hr hlocks hw hP hS dX1_addTriesOf_51
  have hlX1_addTriesOf_L2 : ∀ (n1 : Nat) (M2 : gW) (x2_3 : Int32) (H : Heap) (locs : List Loc) (ls : Array Slot), wX1_addTriesOf_L2 k0 k1 (fun M13 x2_14 => (K M13)) n1 M2 x2_3 → va_P D vwCl (gL E ad L M2) H → va_S A s.heap H locs → lv_has ls 3 [(0, .ref (ad 2 k0)), (1, .ref (ad 7 k1)), (2, .int x2_3)] → W p l e (headSpec wsX1_addTriesOf rmX1_addTriesOf).room s m (([.ref (ad 2 k0), .ref (ad 7 k1)] : List Value).toArray) below meth c H locs 0 0 (MQ below (gQv D E ad L A K) ([.ref (ad 2 k0), .ref (ad 7 k1)] : List Value).toArray s 0 0 A) (F0 m 2 ls []) := by
    intro n1
    induction n1 with
    | zero => intro M2 x2_3 H locs ls hw; exact False.elim hw
    | succ n1 ihn1 =>
      intro M2 x2_3 H locs ls hw hP hS hl
      refine lv_iload_n hx hb dX1_addTriesOf_2 rfl (lv_at hl 2 rfl) ?_
      refine lv_aload_n hx hb dX1_addTriesOf_3 rfl (lv_at hl 1 rfl) ?_
      refine g_getN (v := .int (M2 7 k1 2)) hx hb hts hown hK hN hP (hLx.h (f := 7) hk1) (gC7 _ _ _ _) gcl6 iX1_addTriesOf_X6 2 (by decide) 5 rfl rfl rfl dX1_addTriesOf_4 ?_
      refine lv_icmp_ge (tgt := 51) hx hb dX1_addTriesOf_7 (by decide) (fun c4 => ?_) (fun c4 => ?_)
      · have hw := hw.1 c4
        exact hxX1_addTriesOf_L2_0 _ _ _ _ _ hw hP hS (lv_sub hl [0, 1, 2] rfl)
      · have hw := hw.2 c4
        refine lv_aload_n hx hb dX1_addTriesOf_10 rfl (lv_at hl 0 rfl) ?_
        refine lv_aload_n hx hb dX1_addTriesOf_11 rfl (lv_at hl 1 rfl) ?_
        refine g_getN (v := .ref (ad 8 k1)) hx hb hts hown hK hN hP (hLx.h (f := 7) hk1) (gC7 _ _ _ _) gcl6 iX1_addTriesOf_X6 0 (by decide) 0 rfl rfl rfl dX1_addTriesOf_12 ?_
        refine lv_iload_n hx hb dX1_addTriesOf_15 rfl (lv_at hl 2 rfl) ?_
        have hb5 := hw.1
        have hw := hw.2
        refine g_iald hx hb hK hP (hLx.h (f := 8) hk1) (gC8 _ _ _ _) hb5 dX1_addTriesOf_16 ?_
        refine g_Vv (As := [.int (M2 8 k1 x2_3.toNatClampNeg)]) (rest := []) S hK hN hP hS (qX1_addTry l D E ad L A hF hLx M2 k0 (M2 8 k1 x2_3.toNatClampNeg) hk0 _ hw) (cwV 1 hts gX1_addTriesOf_X1_addTry rfl rfl rfl eX1_addTry ⟨Nat.le_of_ble_eq_true rfl, Nat.le_of_ble_eq_true rfl⟩) (hLx.h (f := 2) hk0) (gC2 _ _ _ _) gcl1 rfl rfl rfl hl.1 (Nat.le_of_ble_eq_true rfl) ⟨Nat.zero_le _, Nat.zero_le _⟩ dX1_addTriesOf_17 (fun M6 H locs hw hP hS => ?_)
        refine lv_iload_n hx hb dX1_addTriesOf_20 rfl (lv_at hl 2 rfl) ?_
        refine lv_if_le (tgt := 45) hx hb dX1_addTriesOf_21 (by decide) (fun c7 => ?_) (fun c7 => ?_)
        · have hw := hw.1 c7
          refine lv_iinc (v := (x2_3 + (1 : Int32))) (lv' := [(2, .int (x2_3 + (1 : Int32))), (0, .ref (ad 2 k0)), (1, .ref (ad 7 k1))]) hx hb dX1_addTriesOf_45 hl (k := 2) rfl rfl (by decide) rfl (fun ls hl => ?_)
          refine lv_goto (tgt := 2) hx hb dX1_addTriesOf_48 (by decide) ?_
          exact ihn1 _ _ _ _ _ hw hP hS (lv_sub hl [1, 2, 0] rfl)
        · have hw := hw.2 c7
          refine lv_aload_n hx hb dX1_addTriesOf_24 rfl (lv_at hl 0 rfl) ?_
          refine lv_aload_n hx hb dX1_addTriesOf_25 rfl (lv_at hl 1 rfl) ?_
          refine g_getN (v := .ref (ad 8 k1)) hx hb hts hown hK hN hP (hLx.h (f := 7) hk1) (gC7 _ _ _ _) gcl6 iX1_addTriesOf_X6 0 (by decide) 0 rfl rfl rfl dX1_addTriesOf_26 ?_
          refine lv_iload_n hx hb dX1_addTriesOf_29 rfl (lv_at hl 2 rfl) ?_
          refine lv_iconst (v := (1 : Int32)) hx hb dX1_addTriesOf_30 (by decide) ?_
          refine lv_isub hx hb dX1_addTriesOf_31 ?_
          have hb8 := hw.1
          have hw := hw.2
          refine g_iald hx hb hK hP (hLx.h (f := 8) hk1) (gC8 _ _ _ _) hb8 dX1_addTriesOf_32 ?_
          refine lv_aload_n hx hb dX1_addTriesOf_33 rfl (lv_at hl 1 rfl) ?_
          refine g_getN (v := .ref (ad 8 k1)) hx hb hts hown hK hN hP (hLx.h (f := 7) hk1) (gC7 _ _ _ _) gcl6 iX1_addTriesOf_X6 0 (by decide) 0 rfl rfl rfl dX1_addTriesOf_34 ?_
          refine lv_iload_n hx hb dX1_addTriesOf_37 rfl (lv_at hl 2 rfl) ?_
          have hb9 := hw.1
          have hw := hw.2
          refine g_iald hx hb hK hP (hLx.h (f := 8) hk1) (gC8 _ _ _ _) hb9 dX1_addTriesOf_38 ?_
          refine g_SNi (As := [.int (M6 8 k1 (x2_3 - (1 : Int32)).toNatClampNeg), .int (M6 8 k1 x2_3.toNatClampNeg)]) (rest := [.ref (ad 2 k0)]) S hK hN hP hS (qX8_joinPart l D E ad L A hF hLx M6 (M6 8 k1 (x2_3 - (1 : Int32)).toNatClampNeg) (M6 8 k1 x2_3.toNatClampNeg)  _ hw) ⟨va_cnB 2 hts gX1_addTriesOf_X8_joinPart_n48 rfl rfl rfl (hN.2 6 _ rfl) (hts _ mX1_addTriesOf_8) eX8_joinPart.2 ⟨Nat.le_of_ble_eq_true rfl, Nat.le_of_ble_eq_true rfl⟩, hts _ mX1_addTriesOf_10, trivial⟩ rfl rfl hl.1 (Nat.le_of_ble_eq_true rfl) ⟨Nat.zero_le _, Nat.zero_le _⟩ dX1_addTriesOf_39 (fun r11 M10 H locs hw hP hS => ?_)
          refine g_Vv (As := [.int r11]) (rest := []) S hK hN hP hS (qX1_addTry l D E ad L A hF hLx M10 k0 r11 hk0 _ hw) (cwV 1 hts gX1_addTriesOf_X1_addTry rfl rfl rfl eX1_addTry ⟨Nat.le_of_ble_eq_true rfl, Nat.le_of_ble_eq_true rfl⟩) (hLx.h (f := 2) hk0) (gC2 _ _ _ _) gcl1 rfl rfl rfl hl.1 (Nat.le_of_ble_eq_true rfl) ⟨Nat.zero_le _, Nat.zero_le _⟩ dX1_addTriesOf_42 (fun M12 H locs hw hP hS => ?_)
          refine lv_iinc (v := (x2_3 + (1 : Int32))) (lv' := [(2, .int (x2_3 + (1 : Int32))), (0, .ref (ad 2 k0)), (1, .ref (ad 7 k1))]) hx hb dX1_addTriesOf_45 hl (k := 2) rfl rfl (by decide) rfl (fun ls hl => ?_)
          refine lv_goto (tgt := 2) hx hb dX1_addTriesOf_48 (by decide) ?_
          exact ihn1 _ _ _ _ _ hw hP hS (lv_sub hl [1, 2, 0] rfl)
  exact hlX1_addTriesOf_L2 n15 _ _ _ _ _ hw hP hS (lv_sub hl [1, 2, 0] rfl)
abbrev rmX1_fade : Room := { frames := 0, cells := 0, slots := 0, locals := 0 }
theorem eX1_fade : yX1_fade.cls = RX1 ∧ yX1_fade.cls ≠ "java/lang/invoke/MethodHandle" ∧ yX1_fade.cls ≠ "java/lang/invoke/VarHandle" ∧ (parseMethodDescriptor yX1_fade.desc).map (fun d => d.parameters.length) = some 1 := by decide +kernel
theorem iX1_fade_X1 : ∀ w ∈ wsX10, w ∈ wsX1_fade := fun _ h => List.mem_cons_of_mem _ (List.mem_append_right _ (h))
theorem mX1_fade_1 : Cond.fieldLink RX1 9 "PracticeSheets$Practice" "tries" "[I" ∈ wsX1_fade := List.mem_of_getElem? (i := 1) rfl
theorem mX1_fade_2 : Cond.fieldLink RX1 15 "PracticeSheets$Practice" "slips" "[I" ∈ wsX1_fade := List.mem_of_getElem? (i := 2) rfl
set_option maxHeartbeats 4000000 in
set_option maxRecDepth 100000 in
theorem qX1_fade (l : Launch) (D : va_G) (E : Nat → ClassId) (ad : Nat → Nat → Nat) (L : List (Nat × Nat)) (A : Nat → Prop) (hF : gF E ad L A) (hLx : gLx L) (M0 : gW) (k0 : Nat) (a1 : Int32) (hk0 : k0 < gN 2) (K : Int32 → gW → Prop) (hw : wX1_fade M0 k0 a1 K) : Met l yX1_fade wsX1_fade rmX1_fade (va_Pc [.ref (ad 2 k0), .int a1] (gPre D E ad L M0)) (gQi D E ad L A K) 0 0 A := by
  refine Met.ofW (cc := cX1_fade) (maxL := 5) (ret := (some .int)) (by decide) rfl ?_
  intro p e s m args below meth c s₁ B hml hv
  obtain ⟨rfl, hP, hK, hN⟩ := hv
  have hx := B.exec
  have hb := B.bytes
  have hr := B.returns
  have hts := atoms_spec (ws := wsX1_fade) B.pre
  have hown : s.vm.findClass RX1 = some m.cls := findClass_of_methodNamed B.named
  have hlocks := B.notSynchronized
  have S : CallFix p m c cX1_fade 5 s ([.ref (ad 2 k0), .int a1] : List Value).toArray wsX1_fade RX1 := ⟨hx, hb, hml, hown, hts⟩
  have hS : va_S A s.heap s.heap [] := va_S.rf
  have hl := lv_entry ([.ref (ad 2 k0), .int a1]) (n := 5) (Nat.le_of_ble_eq_true rfl)
  rw [lg_entry_eq]
  generalize (lg_sl ([.ref (ad 2 k0), .int a1]) ++ List.replicate (5 - (lg_sl ([.ref (ad 2 k0), .int a1])).length) Slot.unset).toArray = ls at hl ⊢
  have hl : lv_has ls 5 [(0, .ref (ad 2 k0)), (1, .int a1)] := hl
  refine lv_iconst (v := (0 : Int32)) hx hb dX1_fade_0 (by decide) ?_
  refine lv_istore_n (lv' := [(2, .int (0 : Int32)), (0, .ref (ad 2 k0)), (1, .int a1)]) hx hb dX1_fade_1 rfl hl (by decide) rfl (fun ls hl => ?_)
  refine lv_iconst (v := (0 : Int32)) hx hb dX1_fade_2 (by decide) ?_
  refine lv_istore_n (lv' := [(3, .int (0 : Int32)), (2, .int (0 : Int32)), (0, .ref (ad 2 k0)), (1, .int a1)]) hx hb dX1_fade_3 rfl hl (by decide) rfl (fun ls hl => ?_)
  obtain ⟨n29, hw⟩ := hw
  have hxX1_fade_L4_0 : ∀ (M26 : gW) (x2_27 : Int32) (x3_28 : Int32) (H : Heap) (locs : List Loc) (ls : Array Slot), (K x2_27 M26) → va_P D vwCl (gL E ad L M26) H → va_S A s.heap H locs → lv_has ls 5 [(0, .ref (ad 2 k0)), (1, .int a1), (2, .int x2_27), (3, .int x3_28)] → W p l e (headSpec wsX1_fade rmX1_fade).room s m (([.ref (ad 2 k0), .int a1] : List Value).toArray) below meth c H locs 0 0 (MQ below (gQi D E ad L A K) ([.ref (ad 2 k0), .int a1] : List Value).toArray s 0 0 A) (F0 m 70 ls []) := by
    intro M26 x2_27 x3_28 H locs ls hw hP hS hl
    refine lv_iload_n hx hb dX1_fade_70 rfl (lv_at hl 2 rfl) ?_
    exact g_iret hx hb hr hlocks hw hP hS dX1_fade_71
  have hlX1_fade_L4 : ∀ (n1 : Nat) (M2 : gW) (x2_3 : Int32) (x3_4 : Int32) (H : Heap) (locs : List Loc) (ls : Array Slot), wX1_fade_L4 k0 a1 (fun M26 x2_27 x3_28 => (K x2_27 M26)) n1 M2 x2_3 x3_4 → va_P D vwCl (gL E ad L M2) H → va_S A s.heap H locs → lv_has ls 5 [(0, .ref (ad 2 k0)), (1, .int a1), (2, .int x2_3), (3, .int x3_4)] → W p l e (headSpec wsX1_fade rmX1_fade).room s m (([.ref (ad 2 k0), .int a1] : List Value).toArray) below meth c H locs 0 0 (MQ below (gQi D E ad L A K) ([.ref (ad 2 k0), .int a1] : List Value).toArray s 0 0 A) (F0 m 4 ls []) := by
    intro n1
    induction n1 with
    | zero => intro M2 x2_3 x3_4 H locs ls hw; exact False.elim hw
    | succ n1 ihn1 =>
      intro M2 x2_3 x3_4 H locs ls hw hP hS hl
      refine lv_iload_n hx hb dX1_fade_4 rfl (lv_at hl 3 rfl) ?_
      refine lv_sipush (v := (702 : Int32)) hx hb dX1_fade_5 (by decide) ?_
      refine lv_icmp_ge (tgt := 70) hx hb dX1_fade_8 (by decide) (fun c5 => ?_) (fun c5 => ?_)
      · have hw := hw.1 c5
        exact hxX1_fade_L4_0 _ _ _ _ _ _ hw hP hS (lv_sub hl [0, 1, 2, 3] rfl)
      · have hw := hw.2 c5
        refine lv_aload_n hx hb dX1_fade_11 rfl (lv_at hl 0 rfl) ?_
        refine g_get (v := .ref (ad 3 k0)) hx hb hts hown hK hP (hLx.h (f := 2) hk0) (gC2 _ _ _ _) gcl1 iX1_fade_X1 0 (by decide) mX1_fade_1 rfl rfl dX1_fade_12 ?_
        refine lv_iload_n hx hb dX1_fade_15 rfl (lv_at hl 3 rfl) ?_
        have hb6 := hw.1
        have hw := hw.2
        refine g_iald hx hb hK hP (hLx.h (f := 3) hk0) (gC3 _ _ _ _) hb6 dX1_fade_16 ?_
        refine lv_if_le (tgt := 24) hx hb dX1_fade_17 (by decide) (fun c7 => ?_) (fun c7 => ?_)
        · have hw := hw.1 c7
          refine lv_iconst (v := (0 : Int32)) hx hb dX1_fade_24 (by decide) ?_
          refine lv_istore (lv' := [(4, .int (0 : Int32)), (0, .ref (ad 2 k0)), (1, .int a1), (2, .int x2_3), (3, .int x3_4)]) hx hb dX1_fade_25 hl (by decide) rfl (fun ls hl => ?_)
          refine lv_aload_n hx hb dX1_fade_27 rfl (lv_at hl 1 rfl) ?_
          refine g_get (v := .ref (ad 3 k0)) hx hb hts hown hK hP (hLx.h (f := 2) hk0) (gC2 _ _ _ _) gcl1 iX1_fade_X1 0 (by decide) mX1_fade_1 rfl rfl dX1_fade_28 ?_
          refine lv_iload_n hx hb dX1_fade_31 rfl (lv_at hl 4 rfl) ?_
          refine lv_dup2_11 hx hb dX1_fade_32 rfl rfl ?_
          have hb8 := hw.1
          have hw := hw.2
          refine g_iald hx hb hK hP (hLx.h (f := 3) hk0) (gC3 _ _ _ _) hb8 dX1_fade_33 ?_
          refine lv_iload_n hx hb dX1_fade_34 rfl (lv_at hl 2 rfl) ?_
          refine lv_ishr hx hb dX1_fade_35 ?_
          have hb9 := hw.1
          have hw := hw.2
          refine g_iast hx hb hF hK hP hS (hLx.h (f := 3) hk0) (fun r => gC3 _ _ _ r) hb9 dX1_fade_36 (fun M10 e11 H locs hP hS => ?_)
          have hw := hw M10 e11
          refine lv_aload_n hx hb dX1_fade_37 rfl (lv_at hl 1 rfl) ?_
          refine g_get (v := .ref (ad 4 k0)) hx hb hts hown hK hP (hLx.h (f := 2) hk0) (gC2 _ _ _ _) gcl1 iX1_fade_X1 1 (by decide) mX1_fade_2 rfl rfl dX1_fade_38 ?_
          refine lv_iload_n hx hb dX1_fade_41 rfl (lv_at hl 4 rfl) ?_
          refine lv_dup2_11 hx hb dX1_fade_42 rfl rfl ?_
          have hb12 := hw.1
          have hw := hw.2
          refine g_iald hx hb hK hP (hLx.h (f := 4) hk0) (gC4 _ _ _ _) hb12 dX1_fade_43 ?_
          refine lv_iload_n hx hb dX1_fade_44 rfl (lv_at hl 2 rfl) ?_
          refine lv_ishr hx hb dX1_fade_45 ?_
          have hb13 := hw.1
          have hw := hw.2
          refine g_iast hx hb hF hK hP hS (hLx.h (f := 4) hk0) (fun r => gC4 _ _ _ r) hb13 dX1_fade_46 (fun M14 e15 H locs hP hS => ?_)
          have hw := hw M14 e15
          refine lv_iload hx hb dX1_fade_47 (lv_at hl 0 rfl) ?_
          refine lv_if_eq (tgt := 64) hx hb dX1_fade_49 (by decide) (fun _ => ?_) (fun c => absurd (by decide) c)
          refine lv_iinc (v := (x3_4 + (1 : Int32))) (lv' := [(3, .int (x3_4 + (1 : Int32))), (4, .int (0 : Int32)), (0, .ref (ad 2 k0)), (1, .int a1), (2, .int x2_3)]) hx hb dX1_fade_64 hl (k := 4) rfl rfl (by decide) rfl (fun ls hl => ?_)
          refine lv_goto (tgt := 4) hx hb dX1_fade_67 (by decide) ?_
          exact ihn1 _ _ _ _ _ _ hw hP hS (lv_sub hl [2, 3, 4, 0] rfl)
        · have hw := hw.2 c7
          refine lv_iconst (v := (1 : Int32)) hx hb dX1_fade_20 (by decide) ?_
          refine lv_goto (tgt := 25) hx hb dX1_fade_21 (by decide) ?_
          refine lv_istore (lv' := [(4, .int (1 : Int32)), (0, .ref (ad 2 k0)), (1, .int a1), (2, .int x2_3), (3, .int x3_4)]) hx hb dX1_fade_25 hl (by decide) rfl (fun ls hl => ?_)
          refine lv_aload_n hx hb dX1_fade_27 rfl (lv_at hl 1 rfl) ?_
          refine g_get (v := .ref (ad 3 k0)) hx hb hts hown hK hP (hLx.h (f := 2) hk0) (gC2 _ _ _ _) gcl1 iX1_fade_X1 0 (by decide) mX1_fade_1 rfl rfl dX1_fade_28 ?_
          refine lv_iload_n hx hb dX1_fade_31 rfl (lv_at hl 4 rfl) ?_
          refine lv_dup2_11 hx hb dX1_fade_32 rfl rfl ?_
          have hb16 := hw.1
          have hw := hw.2
          refine g_iald hx hb hK hP (hLx.h (f := 3) hk0) (gC3 _ _ _ _) hb16 dX1_fade_33 ?_
          refine lv_iload_n hx hb dX1_fade_34 rfl (lv_at hl 2 rfl) ?_
          refine lv_ishr hx hb dX1_fade_35 ?_
          have hb17 := hw.1
          have hw := hw.2
          refine g_iast hx hb hF hK hP hS (hLx.h (f := 3) hk0) (fun r => gC3 _ _ _ r) hb17 dX1_fade_36 (fun M18 e19 H locs hP hS => ?_)
          have hw := hw M18 e19
          refine lv_aload_n hx hb dX1_fade_37 rfl (lv_at hl 1 rfl) ?_
          refine g_get (v := .ref (ad 4 k0)) hx hb hts hown hK hP (hLx.h (f := 2) hk0) (gC2 _ _ _ _) gcl1 iX1_fade_X1 1 (by decide) mX1_fade_2 rfl rfl dX1_fade_38 ?_
          refine lv_iload_n hx hb dX1_fade_41 rfl (lv_at hl 4 rfl) ?_
          refine lv_dup2_11 hx hb dX1_fade_42 rfl rfl ?_
          have hb20 := hw.1
          have hw := hw.2
          refine g_iald hx hb hK hP (hLx.h (f := 4) hk0) (gC4 _ _ _ _) hb20 dX1_fade_43 ?_
          refine lv_iload_n hx hb dX1_fade_44 rfl (lv_at hl 2 rfl) ?_
          refine lv_ishr hx hb dX1_fade_45 ?_
          have hb21 := hw.1
          have hw := hw.2
          refine g_iast hx hb hF hK hP hS (hLx.h (f := 4) hk0) (fun r => gC4 _ _ _ r) hb21 dX1_fade_46 (fun M22 e23 H locs hP hS => ?_)
          have hw := hw M22 e23
          refine lv_iload hx hb dX1_fade_47 (lv_at hl 0 rfl) ?_
          refine lv_if_eq (tgt := 64) hx hb dX1_fade_49 (by decide) (fun c => absurd c (by decide)) (fun _ => ?_)
          refine lv_aload_n hx hb dX1_fade_52 rfl (lv_at hl 1 rfl) ?_
          refine g_get (v := .ref (ad 3 k0)) hx hb hts hown hK hP (hLx.h (f := 2) hk0) (gC2 _ _ _ _) gcl1 iX1_fade_X1 0 (by decide) mX1_fade_1 rfl rfl dX1_fade_53 ?_
          refine lv_iload_n hx hb dX1_fade_56 rfl (lv_at hl 4 rfl) ?_
          have hb24 := hw.1
          have hw := hw.2
          refine g_iald hx hb hK hP (hLx.h (f := 3) hk0) (gC3 _ _ _ _) hb24 dX1_fade_57 ?_
          refine lv_if_ne (tgt := 64) hx hb dX1_fade_58 (by decide) (fun c25 => ?_) (fun c25 => ?_)
          · have hw := hw.2 c25
            refine lv_iinc (v := (x3_4 + (1 : Int32))) (lv' := [(3, .int (x3_4 + (1 : Int32))), (4, .int (1 : Int32)), (0, .ref (ad 2 k0)), (1, .int a1), (2, .int x2_3)]) hx hb dX1_fade_64 hl (k := 4) rfl rfl (by decide) rfl (fun ls hl => ?_)
            refine lv_goto (tgt := 4) hx hb dX1_fade_67 (by decide) ?_
            exact ihn1 _ _ _ _ _ _ hw hP hS (lv_sub hl [2, 3, 4, 0] rfl)
          · have hw := hw.1 c25
            refine lv_iinc (v := (x2_3 + (1 : Int32))) (lv' := [(2, .int (x2_3 + (1 : Int32))), (4, .int (1 : Int32)), (0, .ref (ad 2 k0)), (1, .int a1), (3, .int x3_4)]) hx hb dX1_fade_61 hl (k := 3) rfl rfl (by decide) rfl (fun ls hl => ?_)
            refine lv_iinc (v := (x3_4 + (1 : Int32))) (lv' := [(3, .int (x3_4 + (1 : Int32))), (2, .int (x2_3 + (1 : Int32))), (4, .int (1 : Int32)), (0, .ref (ad 2 k0)), (1, .int a1)]) hx hb dX1_fade_64 hl (k := 4) rfl rfl (by decide) rfl (fun ls hl => ?_)
            refine lv_goto (tgt := 4) hx hb dX1_fade_67 (by decide) ?_
            exact ihn1 _ _ _ _ _ _ hw hP hS (lv_sub hl [3, 4, 1, 0] rfl)
  exact hlX1_fade_L4 n29 _ _ _ _ _ _ hw hP hS (lv_sub hl [2, 3, 1, 0] rfl)
abbrev rmX1_needOfAll : Room := { frames := 3, cells := 0, slots := 0, locals := 62 }
theorem eX1_needOfAll : yX1_needOfAll.cls = RX1 ∧ yX1_needOfAll.cls ≠ "java/lang/invoke/MethodHandle" ∧ yX1_needOfAll.cls ≠ "java/lang/invoke/VarHandle" ∧ (parseMethodDescriptor yX1_needOfAll.desc).map (fun d => d.parameters.length) = some 1 := by decide +kernel
theorem iX1_needOfAll_X6 : ∀ w ∈ wsX60, w ∈ wsX1_needOfAll := fun _ h => List.mem_cons_of_mem _ (List.mem_append_left _ (List.mem_append_right _ (h)))
set_option maxHeartbeats 4000000 in
set_option maxRecDepth 100000 in
theorem qX1_needOfAll (l : Launch) (D : va_G) (E : Nat → ClassId) (ad : Nat → Nat → Nat) (L : List (Nat × Nat)) (A : Nat → Prop) (hF : gF E ad L A) (hLx : gLx L) (M0 : gW) (k0 : Nat) (k1 : Nat) (hk0 : k0 < gN 2) (hk1 : k1 < gN 7) (K : Int32 → gW → Prop) (hw : wX1_needOfAll M0 k0 k1 K) : Met l yX1_needOfAll wsX1_needOfAll rmX1_needOfAll (va_Pc [.ref (ad 2 k0), .ref (ad 7 k1)] (gPre D E ad L M0)) (gQi D E ad L A K) 0 0 A := by
  refine Met.ofW (cc := cX1_needOfAll) (maxL := 4) (ret := (some .int)) (by decide) rfl ?_
  intro p e s m args below meth c s₁ B hml hv
  obtain ⟨rfl, hP, hK, hN⟩ := hv
  have hx := B.exec
  have hb := B.bytes
  have hr := B.returns
  have hts := atoms_spec (ws := wsX1_needOfAll) B.pre
  have hown : s.vm.findClass RX1 = some m.cls := findClass_of_methodNamed B.named
  have hlocks := B.notSynchronized
  have S : CallFix p m c cX1_needOfAll 4 s ([.ref (ad 2 k0), .ref (ad 7 k1)] : List Value).toArray wsX1_needOfAll RX1 := ⟨hx, hb, hml, hown, hts⟩
  have hS : va_S A s.heap s.heap [] := va_S.rf
  have hl := lv_entry ([.ref (ad 2 k0), .ref (ad 7 k1)]) (n := 4) (Nat.le_of_ble_eq_true rfl)
  rw [lg_entry_eq]
  generalize (lg_sl ([.ref (ad 2 k0), .ref (ad 7 k1)]) ++ List.replicate (4 - (lg_sl ([.ref (ad 2 k0), .ref (ad 7 k1)])).length) Slot.unset).toArray = ls at hl ⊢
  have hl : lv_has ls 4 [(0, .ref (ad 2 k0)), (1, .ref (ad 7 k1))] := hl
  refine lv_iconst (v := (0 : Int32)) hx hb dX1_needOfAll_0 (by decide) ?_
  refine lv_istore_n (lv' := [(2, .int (0 : Int32)), (0, .ref (ad 2 k0)), (1, .ref (ad 7 k1))]) hx hb dX1_needOfAll_1 rfl hl (by decide) rfl (fun ls hl => ?_)
  refine lv_iconst (v := (0 : Int32)) hx hb dX1_needOfAll_2 (by decide) ?_
  refine lv_istore_n (lv' := [(3, .int (0 : Int32)), (2, .int (0 : Int32)), (0, .ref (ad 2 k0)), (1, .ref (ad 7 k1))]) hx hb dX1_needOfAll_3 rfl hl (by decide) rfl (fun ls hl => ?_)
  obtain ⟨n12, hw⟩ := hw
  have hxX1_needOfAll_L4_0 : ∀ (M9 : gW) (x2_10 : Int32) (x3_11 : Int32) (H : Heap) (locs : List Loc) (ls : Array Slot), (K x2_10 M9) → va_P D vwCl (gL E ad L M9) H → va_S A s.heap H locs → lv_has ls 4 [(0, .ref (ad 2 k0)), (1, .ref (ad 7 k1)), (2, .int x2_10), (3, .int x3_11)] → W p l e (headSpec wsX1_needOfAll rmX1_needOfAll).room s m (([.ref (ad 2 k0), .ref (ad 7 k1)] : List Value).toArray) below meth c H locs 0 0 (MQ below (gQi D E ad L A K) ([.ref (ad 2 k0), .ref (ad 7 k1)] : List Value).toArray s 0 0 A) (F0 m 31 ls []) := by
    intro M9 x2_10 x3_11 H locs ls hw hP hS hl
    refine lv_iload_n hx hb dX1_needOfAll_31 rfl (lv_at hl 2 rfl) ?_
    exact g_iret hx hb hr hlocks hw hP hS dX1_needOfAll_32
  have hlX1_needOfAll_L4 : ∀ (n1 : Nat) (M2 : gW) (x2_3 : Int32) (x3_4 : Int32) (H : Heap) (locs : List Loc) (ls : Array Slot), wX1_needOfAll_L4 k0 k1 (fun M9 x2_10 x3_11 => (K x2_10 M9)) n1 M2 x2_3 x3_4 → va_P D vwCl (gL E ad L M2) H → va_S A s.heap H locs → lv_has ls 4 [(0, .ref (ad 2 k0)), (1, .ref (ad 7 k1)), (2, .int x2_3), (3, .int x3_4)] → W p l e (headSpec wsX1_needOfAll rmX1_needOfAll).room s m (([.ref (ad 2 k0), .ref (ad 7 k1)] : List Value).toArray) below meth c H locs 0 0 (MQ below (gQi D E ad L A K) ([.ref (ad 2 k0), .ref (ad 7 k1)] : List Value).toArray s 0 0 A) (F0 m 4 ls []) := by
    intro n1
    induction n1 with
    | zero => intro M2 x2_3 x3_4 H locs ls hw; exact False.elim hw
    | succ n1 ihn1 =>
      intro M2 x2_3 x3_4 H locs ls hw hP hS hl
      refine lv_iload_n hx hb dX1_needOfAll_4 rfl (lv_at hl 3 rfl) ?_
      refine lv_aload_n hx hb dX1_needOfAll_5 rfl (lv_at hl 1 rfl) ?_
      refine g_getN (v := .int (M2 7 k1 3)) hx hb hts hown hK hN hP (hLx.h (f := 7) hk1) (gC7 _ _ _ _) gcl6 iX1_needOfAll_X6 3 (by decide) 8 rfl rfl rfl dX1_needOfAll_6 ?_
      refine lv_icmp_ge (tgt := 31) hx hb dX1_needOfAll_9 (by decide) (fun c5 => ?_) (fun c5 => ?_)
      · have hw := hw.1 c5
        exact hxX1_needOfAll_L4_0 _ _ _ _ _ _ hw hP hS (lv_sub hl [0, 1, 2, 3] rfl)
      · have hw := hw.2 c5
        refine lv_iload_n hx hb dX1_needOfAll_12 rfl (lv_at hl 2 rfl) ?_
        refine lv_aload_n hx hb dX1_needOfAll_13 rfl (lv_at hl 0 rfl) ?_
        refine lv_aload_n hx hb dX1_needOfAll_14 rfl (lv_at hl 1 rfl) ?_
        refine g_getN (v := .ref (ad 9 k1)) hx hb hts hown hK hN hP (hLx.h (f := 7) hk1) (gC7 _ _ _ _) gcl6 iX1_needOfAll_X6 1 (by decide) 3 rfl rfl rfl dX1_needOfAll_15 ?_
        refine lv_iload_n hx hb dX1_needOfAll_18 rfl (lv_at hl 3 rfl) ?_
        have hb6 := hw.1
        have hw := hw.2
        refine g_iald hx hb hK hP (hLx.h (f := 9) hk1) (gC9 _ _ _ _) hb6 dX1_needOfAll_19 ?_
        refine g_Vi (As := [.int (M2 9 k1 x3_4.toNatClampNeg)]) (rest := [.int x2_3]) S hK hN hP hS (qX1_needOf l D E ad L A hF hLx M2 k0 (M2 9 k1 x3_4.toNatClampNeg) hk0 _ hw) (cwV 1 hts gX1_needOfAll_X1_needOf rfl rfl rfl eX1_needOf ⟨Nat.le_of_ble_eq_true rfl, Nat.le_of_ble_eq_true rfl⟩) (hLx.h (f := 2) hk0) (gC2 _ _ _ _) gcl1 rfl rfl rfl hl.1 (Nat.le_of_ble_eq_true rfl) ⟨Nat.zero_le _, Nat.zero_le _⟩ dX1_needOfAll_20 (fun r8 M7 H locs hw hP hS => ?_)
        refine lv_iadd hx hb dX1_needOfAll_23 ?_
        refine lv_istore_n (lv' := [(2, .int (x2_3 + r8)), (0, .ref (ad 2 k0)), (1, .ref (ad 7 k1)), (3, .int x3_4)]) hx hb dX1_needOfAll_24 rfl hl (by decide) rfl (fun ls hl => ?_)
        refine lv_iinc (v := (x3_4 + (1 : Int32))) (lv' := [(3, .int (x3_4 + (1 : Int32))), (2, .int (x2_3 + r8)), (0, .ref (ad 2 k0)), (1, .ref (ad 7 k1))]) hx hb dX1_needOfAll_25 hl (k := 3) rfl rfl (by decide) rfl (fun ls hl => ?_)
        refine lv_goto (tgt := 4) hx hb dX1_needOfAll_28 (by decide) ?_
        exact ihn1 _ _ _ _ _ _ hw hP hS (lv_sub hl [2, 3, 1, 0] rfl)
  exact hlX1_needOfAll_L4 n12 _ _ _ _ _ _ hw hP hS (lv_sub hl [2, 3, 1, 0] rfl)
abbrev rmX1_untriedOf : Room := { frames := 3, cells := 0, slots := 0, locals := 62 }
theorem eX1_untriedOf : yX1_untriedOf.cls = RX1 ∧ yX1_untriedOf.cls ≠ "java/lang/invoke/MethodHandle" ∧ yX1_untriedOf.cls ≠ "java/lang/invoke/VarHandle" ∧ (parseMethodDescriptor yX1_untriedOf.desc).map (fun d => d.parameters.length) = some 1 := by decide +kernel
theorem iX1_untriedOf_X6 : ∀ w ∈ wsX60, w ∈ wsX1_untriedOf := fun _ h => List.mem_cons_of_mem _ (List.mem_append_left _ (List.mem_append_right _ (h)))
set_option maxHeartbeats 4000000 in
set_option maxRecDepth 100000 in
theorem qX1_untriedOf (l : Launch) (D : va_G) (E : Nat → ClassId) (ad : Nat → Nat → Nat) (L : List (Nat × Nat)) (A : Nat → Prop) (hF : gF E ad L A) (hLx : gLx L) (M0 : gW) (k0 : Nat) (k1 : Nat) (hk0 : k0 < gN 2) (hk1 : k1 < gN 7) (K : Int32 → gW → Prop) (hw : wX1_untriedOf M0 k0 k1 K) : Met l yX1_untriedOf wsX1_untriedOf rmX1_untriedOf (va_Pc [.ref (ad 2 k0), .ref (ad 7 k1)] (gPre D E ad L M0)) (gQi D E ad L A K) 0 0 A := by
  refine Met.ofW (cc := cX1_untriedOf) (maxL := 4) (ret := (some .int)) (by decide) rfl ?_
  intro p e s m args below meth c s₁ B hml hv
  obtain ⟨rfl, hP, hK, hN⟩ := hv
  have hx := B.exec
  have hb := B.bytes
  have hr := B.returns
  have hts := atoms_spec (ws := wsX1_untriedOf) B.pre
  have hown : s.vm.findClass RX1 = some m.cls := findClass_of_methodNamed B.named
  have hlocks := B.notSynchronized
  have S : CallFix p m c cX1_untriedOf 4 s ([.ref (ad 2 k0), .ref (ad 7 k1)] : List Value).toArray wsX1_untriedOf RX1 := ⟨hx, hb, hml, hown, hts⟩
  have hS : va_S A s.heap s.heap [] := va_S.rf
  have hl := lv_entry ([.ref (ad 2 k0), .ref (ad 7 k1)]) (n := 4) (Nat.le_of_ble_eq_true rfl)
  rw [lg_entry_eq]
  generalize (lg_sl ([.ref (ad 2 k0), .ref (ad 7 k1)]) ++ List.replicate (4 - (lg_sl ([.ref (ad 2 k0), .ref (ad 7 k1)])).length) Slot.unset).toArray = ls at hl ⊢
  have hl : lv_has ls 4 [(0, .ref (ad 2 k0)), (1, .ref (ad 7 k1))] := hl
  refine lv_iconst (v := (0 : Int32)) hx hb dX1_untriedOf_0 (by decide) ?_
  refine lv_istore_n (lv' := [(2, .int (0 : Int32)), (0, .ref (ad 2 k0)), (1, .ref (ad 7 k1))]) hx hb dX1_untriedOf_1 rfl hl (by decide) rfl (fun ls hl => ?_)
  refine lv_iconst (v := (0 : Int32)) hx hb dX1_untriedOf_2 (by decide) ?_
  refine lv_istore_n (lv' := [(3, .int (0 : Int32)), (2, .int (0 : Int32)), (0, .ref (ad 2 k0)), (1, .ref (ad 7 k1))]) hx hb dX1_untriedOf_3 rfl hl (by decide) rfl (fun ls hl => ?_)
  obtain ⟨n13, hw⟩ := hw
  have hxX1_untriedOf_L4_0 : ∀ (M10 : gW) (x2_11 : Int32) (x3_12 : Int32) (H : Heap) (locs : List Loc) (ls : Array Slot), (K x2_11 M10) → va_P D vwCl (gL E ad L M10) H → va_S A s.heap H locs → lv_has ls 4 [(0, .ref (ad 2 k0)), (1, .ref (ad 7 k1)), (2, .int x2_11), (3, .int x3_12)] → W p l e (headSpec wsX1_untriedOf rmX1_untriedOf).room s m (([.ref (ad 2 k0), .ref (ad 7 k1)] : List Value).toArray) below meth c H locs 0 0 (MQ below (gQi D E ad L A K) ([.ref (ad 2 k0), .ref (ad 7 k1)] : List Value).toArray s 0 0 A) (F0 m 34 ls []) := by
    intro M10 x2_11 x3_12 H locs ls hw hP hS hl
    refine lv_iload_n hx hb dX1_untriedOf_34 rfl (lv_at hl 2 rfl) ?_
    exact g_iret hx hb hr hlocks hw hP hS dX1_untriedOf_35
  have hlX1_untriedOf_L4 : ∀ (n1 : Nat) (M2 : gW) (x2_3 : Int32) (x3_4 : Int32) (H : Heap) (locs : List Loc) (ls : Array Slot), wX1_untriedOf_L4 k0 k1 (fun M10 x2_11 x3_12 => (K x2_11 M10)) n1 M2 x2_3 x3_4 → va_P D vwCl (gL E ad L M2) H → va_S A s.heap H locs → lv_has ls 4 [(0, .ref (ad 2 k0)), (1, .ref (ad 7 k1)), (2, .int x2_3), (3, .int x3_4)] → W p l e (headSpec wsX1_untriedOf rmX1_untriedOf).room s m (([.ref (ad 2 k0), .ref (ad 7 k1)] : List Value).toArray) below meth c H locs 0 0 (MQ below (gQi D E ad L A K) ([.ref (ad 2 k0), .ref (ad 7 k1)] : List Value).toArray s 0 0 A) (F0 m 4 ls []) := by
    intro n1
    induction n1 with
    | zero => intro M2 x2_3 x3_4 H locs ls hw; exact False.elim hw
    | succ n1 ihn1 =>
      intro M2 x2_3 x3_4 H locs ls hw hP hS hl
      refine lv_iload_n hx hb dX1_untriedOf_4 rfl (lv_at hl 3 rfl) ?_
      refine lv_aload_n hx hb dX1_untriedOf_5 rfl (lv_at hl 1 rfl) ?_
      refine g_getN (v := .int (M2 7 k1 3)) hx hb hts hown hK hN hP (hLx.h (f := 7) hk1) (gC7 _ _ _ _) gcl6 iX1_untriedOf_X6 3 (by decide) 8 rfl rfl rfl dX1_untriedOf_6 ?_
      refine lv_icmp_ge (tgt := 34) hx hb dX1_untriedOf_9 (by decide) (fun c5 => ?_) (fun c5 => ?_)
      · have hw := hw.1 c5
        exact hxX1_untriedOf_L4_0 _ _ _ _ _ _ hw hP hS (lv_sub hl [0, 1, 2, 3] rfl)
      · have hw := hw.2 c5
        refine lv_aload_n hx hb dX1_untriedOf_12 rfl (lv_at hl 0 rfl) ?_
        refine lv_aload_n hx hb dX1_untriedOf_13 rfl (lv_at hl 1 rfl) ?_
        refine g_getN (v := .ref (ad 9 k1)) hx hb hts hown hK hN hP (hLx.h (f := 7) hk1) (gC7 _ _ _ _) gcl6 iX1_untriedOf_X6 1 (by decide) 3 rfl rfl rfl dX1_untriedOf_14 ?_
        refine lv_iload_n hx hb dX1_untriedOf_17 rfl (lv_at hl 3 rfl) ?_
        have hb6 := hw.1
        have hw := hw.2
        refine g_iald hx hb hK hP (hLx.h (f := 9) hk1) (gC9 _ _ _ _) hb6 dX1_untriedOf_18 ?_
        refine g_Vi (As := [.int (M2 9 k1 x3_4.toNatClampNeg)]) (rest := []) S hK hN hP hS (qX1_isUntried l D E ad L A hF hLx M2 k0 (M2 9 k1 x3_4.toNatClampNeg) hk0 _ hw) (cwV 1 hts gX1_untriedOf_X1_isUntried rfl rfl rfl eX1_isUntried ⟨Nat.le_of_ble_eq_true rfl, Nat.le_of_ble_eq_true rfl⟩) (hLx.h (f := 2) hk0) (gC2 _ _ _ _) gcl1 rfl rfl rfl hl.1 (Nat.le_of_ble_eq_true rfl) ⟨Nat.zero_le _, Nat.zero_le _⟩ dX1_untriedOf_19 (fun r8 M7 H locs hw hP hS => ?_)
        refine lv_if_eq (tgt := 28) hx hb dX1_untriedOf_22 (by decide) (fun c9 => ?_) (fun c9 => ?_)
        · have hw := hw.1 c9
          refine lv_iinc (v := (x3_4 + (1 : Int32))) (lv' := [(3, .int (x3_4 + (1 : Int32))), (0, .ref (ad 2 k0)), (1, .ref (ad 7 k1)), (2, .int x2_3)]) hx hb dX1_untriedOf_28 hl (k := 3) rfl rfl (by decide) rfl (fun ls hl => ?_)
          refine lv_goto (tgt := 4) hx hb dX1_untriedOf_31 (by decide) ?_
          exact ihn1 _ _ _ _ _ _ hw hP hS (lv_sub hl [1, 2, 3, 0] rfl)
        · have hw := hw.2 c9
          refine lv_iinc (v := (x2_3 + (1 : Int32))) (lv' := [(2, .int (x2_3 + (1 : Int32))), (0, .ref (ad 2 k0)), (1, .ref (ad 7 k1)), (3, .int x3_4)]) hx hb dX1_untriedOf_25 hl (k := 2) rfl rfl (by decide) rfl (fun ls hl => ?_)
          refine lv_iinc (v := (x3_4 + (1 : Int32))) (lv' := [(3, .int (x3_4 + (1 : Int32))), (2, .int (x2_3 + (1 : Int32))), (0, .ref (ad 2 k0)), (1, .ref (ad 7 k1))]) hx hb dX1_untriedOf_28 hl (k := 3) rfl rfl (by decide) rfl (fun ls hl => ?_)
          refine lv_goto (tgt := 4) hx hb dX1_untriedOf_31 (by decide) ?_
          exact ihn1 _ _ _ _ _ _ hw hP hS (lv_sub hl [2, 3, 1, 0] rfl)
  exact hlX1_untriedOf_L4 n13 _ _ _ _ _ _ hw hP hS (lv_sub hl [2, 3, 1, 0] rfl)
abbrev rmX1_greatestNeedOf : Room := { frames := 3, cells := 0, slots := 0, locals := 62 }
theorem eX1_greatestNeedOf : yX1_greatestNeedOf.cls = RX1 ∧ yX1_greatestNeedOf.cls ≠ "java/lang/invoke/MethodHandle" ∧ yX1_greatestNeedOf.cls ≠ "java/lang/invoke/VarHandle" ∧ (parseMethodDescriptor yX1_greatestNeedOf.desc).map (fun d => d.parameters.length) = some 1 := by decide +kernel
theorem iX1_greatestNeedOf_X6 : ∀ w ∈ wsX60, w ∈ wsX1_greatestNeedOf := fun _ h => List.mem_cons_of_mem _ (List.mem_append_left _ (List.mem_append_right _ (h)))
theorem mX1_greatestNeedOf_1 : Cond.methodLink RX1 29 Lib.Math.max.name ∈ wsX1_greatestNeedOf := List.mem_of_getElem? (i := 1) rfl
theorem mX1_greatestNeedOf_2 : Cond.static Lib.Math.max.name ∈ wsX1_greatestNeedOf := List.mem_of_getElem? (i := 2) rfl
theorem mX1_greatestNeedOf_3 : Cond.initialized "java/lang/Math" ∈ wsX1_greatestNeedOf := List.mem_of_getElem? (i := 3) rfl
theorem mX1_greatestNeedOf_4 : Cond.code Lib.Math.max.name Lib.Math.max.code 2 (some .int) ∈ wsX1_greatestNeedOf := List.mem_of_getElem? (i := 4) rfl
set_option maxHeartbeats 4000000 in
set_option maxRecDepth 100000 in
theorem qX1_greatestNeedOf (l : Launch) (D : va_G) (E : Nat → ClassId) (ad : Nat → Nat → Nat) (L : List (Nat × Nat)) (A : Nat → Prop) (hF : gF E ad L A) (hLx : gLx L) (M0 : gW) (k0 : Nat) (k1 : Nat) (hk0 : k0 < gN 2) (hk1 : k1 < gN 7) (K : Int32 → gW → Prop) (hw : wX1_greatestNeedOf M0 k0 k1 K) : Met l yX1_greatestNeedOf wsX1_greatestNeedOf rmX1_greatestNeedOf (va_Pc [.ref (ad 2 k0), .ref (ad 7 k1)] (gPre D E ad L M0)) (gQi D E ad L A K) 0 0 A := by
  refine Met.ofW (cc := cX1_greatestNeedOf) (maxL := 4) (ret := (some .int)) (by decide) rfl ?_
  intro p e s m args below meth c s₁ B hml hv
  obtain ⟨rfl, hP, hK, hN⟩ := hv
  have hx := B.exec
  have hb := B.bytes
  have hr := B.returns
  have hts := atoms_spec (ws := wsX1_greatestNeedOf) B.pre
  have hown : s.vm.findClass RX1 = some m.cls := findClass_of_methodNamed B.named
  have hlocks := B.notSynchronized
  have S : CallFix p m c cX1_greatestNeedOf 4 s ([.ref (ad 2 k0), .ref (ad 7 k1)] : List Value).toArray wsX1_greatestNeedOf RX1 := ⟨hx, hb, hml, hown, hts⟩
  have hS : va_S A s.heap s.heap [] := va_S.rf
  have hl := lv_entry ([.ref (ad 2 k0), .ref (ad 7 k1)]) (n := 4) (Nat.le_of_ble_eq_true rfl)
  rw [lg_entry_eq]
  generalize (lg_sl ([.ref (ad 2 k0), .ref (ad 7 k1)]) ++ List.replicate (4 - (lg_sl ([.ref (ad 2 k0), .ref (ad 7 k1)])).length) Slot.unset).toArray = ls at hl ⊢
  have hl : lv_has ls 4 [(0, .ref (ad 2 k0)), (1, .ref (ad 7 k1))] := hl
  refine lv_iconst (v := (0 : Int32)) hx hb dX1_greatestNeedOf_0 (by decide) ?_
  refine lv_istore_n (lv' := [(2, .int (0 : Int32)), (0, .ref (ad 2 k0)), (1, .ref (ad 7 k1))]) hx hb dX1_greatestNeedOf_1 rfl hl (by decide) rfl (fun ls hl => ?_)
  refine lv_iconst (v := (0 : Int32)) hx hb dX1_greatestNeedOf_2 (by decide) ?_
  refine lv_istore_n (lv' := [(3, .int (0 : Int32)), (2, .int (0 : Int32)), (0, .ref (ad 2 k0)), (1, .ref (ad 7 k1))]) hx hb dX1_greatestNeedOf_3 rfl hl (by decide) rfl (fun ls hl => ?_)
  obtain ⟨n12, hw⟩ := hw
  have hxX1_greatestNeedOf_L4_0 : ∀ (M9 : gW) (x2_10 : Int32) (x3_11 : Int32) (H : Heap) (locs : List Loc) (ls : Array Slot), (K x2_10 M9) → va_P D vwCl (gL E ad L M9) H → va_S A s.heap H locs → lv_has ls 4 [(0, .ref (ad 2 k0)), (1, .ref (ad 7 k1)), (2, .int x2_10), (3, .int x3_11)] → W p l e (headSpec wsX1_greatestNeedOf rmX1_greatestNeedOf).room s m (([.ref (ad 2 k0), .ref (ad 7 k1)] : List Value).toArray) below meth c H locs 0 0 (MQ below (gQi D E ad L A K) ([.ref (ad 2 k0), .ref (ad 7 k1)] : List Value).toArray s 0 0 A) (F0 m 33 ls []) := by
    intro M9 x2_10 x3_11 H locs ls hw hP hS hl
    refine lv_iload_n hx hb dX1_greatestNeedOf_33 rfl (lv_at hl 2 rfl) ?_
    exact g_iret hx hb hr hlocks hw hP hS dX1_greatestNeedOf_34
  have hlX1_greatestNeedOf_L4 : ∀ (n1 : Nat) (M2 : gW) (x2_3 : Int32) (x3_4 : Int32) (H : Heap) (locs : List Loc) (ls : Array Slot), wX1_greatestNeedOf_L4 k0 k1 (fun M9 x2_10 x3_11 => (K x2_10 M9)) n1 M2 x2_3 x3_4 → va_P D vwCl (gL E ad L M2) H → va_S A s.heap H locs → lv_has ls 4 [(0, .ref (ad 2 k0)), (1, .ref (ad 7 k1)), (2, .int x2_3), (3, .int x3_4)] → W p l e (headSpec wsX1_greatestNeedOf rmX1_greatestNeedOf).room s m (([.ref (ad 2 k0), .ref (ad 7 k1)] : List Value).toArray) below meth c H locs 0 0 (MQ below (gQi D E ad L A K) ([.ref (ad 2 k0), .ref (ad 7 k1)] : List Value).toArray s 0 0 A) (F0 m 4 ls []) := by
    intro n1
    induction n1 with
    | zero => intro M2 x2_3 x3_4 H locs ls hw; exact False.elim hw
    | succ n1 ihn1 =>
      intro M2 x2_3 x3_4 H locs ls hw hP hS hl
      refine lv_iload_n hx hb dX1_greatestNeedOf_4 rfl (lv_at hl 3 rfl) ?_
      refine lv_aload_n hx hb dX1_greatestNeedOf_5 rfl (lv_at hl 1 rfl) ?_
      refine g_getN (v := .int (M2 7 k1 3)) hx hb hts hown hK hN hP (hLx.h (f := 7) hk1) (gC7 _ _ _ _) gcl6 iX1_greatestNeedOf_X6 3 (by decide) 8 rfl rfl rfl dX1_greatestNeedOf_6 ?_
      refine lv_icmp_ge (tgt := 33) hx hb dX1_greatestNeedOf_9 (by decide) (fun c5 => ?_) (fun c5 => ?_)
      · have hw := hw.1 c5
        exact hxX1_greatestNeedOf_L4_0 _ _ _ _ _ _ hw hP hS (lv_sub hl [0, 1, 2, 3] rfl)
      · have hw := hw.2 c5
        refine lv_iload_n hx hb dX1_greatestNeedOf_12 rfl (lv_at hl 2 rfl) ?_
        refine lv_aload_n hx hb dX1_greatestNeedOf_13 rfl (lv_at hl 0 rfl) ?_
        refine lv_aload_n hx hb dX1_greatestNeedOf_14 rfl (lv_at hl 1 rfl) ?_
        refine g_getN (v := .ref (ad 9 k1)) hx hb hts hown hK hN hP (hLx.h (f := 7) hk1) (gC7 _ _ _ _) gcl6 iX1_greatestNeedOf_X6 1 (by decide) 3 rfl rfl rfl dX1_greatestNeedOf_15 ?_
        refine lv_iload_n hx hb dX1_greatestNeedOf_18 rfl (lv_at hl 3 rfl) ?_
        have hb6 := hw.1
        have hw := hw.2
        refine g_iald hx hb hK hP (hLx.h (f := 9) hk1) (gC9 _ _ _ _) hb6 dX1_greatestNeedOf_19 ?_
        refine g_Vi (As := [.int (M2 9 k1 x3_4.toNatClampNeg)]) (rest := [.int x2_3]) S hK hN hP hS (qX1_needOf l D E ad L A hF hLx M2 k0 (M2 9 k1 x3_4.toNatClampNeg) hk0 _ hw) (cwV 1 hts gX1_greatestNeedOf_X1_needOf rfl rfl rfl eX1_needOf ⟨Nat.le_of_ble_eq_true rfl, Nat.le_of_ble_eq_true rfl⟩) (hLx.h (f := 2) hk0) (gC2 _ _ _ _) gcl1 rfl rfl rfl hl.1 (Nat.le_of_ble_eq_true rfl) ⟨Nat.zero_le _, Nat.zero_le _⟩ dX1_greatestNeedOf_20 (fun r8 M7 H locs hw hP hS => ?_)
        refine va_mmax hx hb (by rw [hml]; exact hl.1.symm) hown (hts _ mX1_greatestNeedOf_1) (hts _ mX1_greatestNeedOf_2) (hts _ mX1_greatestNeedOf_3) (hts _ mX1_greatestNeedOf_4) (Nat.le_of_ble_eq_true rfl) (Nat.le_of_ble_eq_true rfl) (Nat.zero_le _) (Nat.zero_le _) dX1_greatestNeedOf_23 ?_
        refine lv_istore_n (lv' := [(2, .int (if x2_3 < r8 then r8 else x2_3)), (0, .ref (ad 2 k0)), (1, .ref (ad 7 k1)), (3, .int x3_4)]) hx hb dX1_greatestNeedOf_26 rfl hl (by decide) rfl (fun ls hl => ?_)
        refine lv_iinc (v := (x3_4 + (1 : Int32))) (lv' := [(3, .int (x3_4 + (1 : Int32))), (2, .int (if x2_3 < r8 then r8 else x2_3)), (0, .ref (ad 2 k0)), (1, .ref (ad 7 k1))]) hx hb dX1_greatestNeedOf_27 hl (k := 3) rfl rfl (by decide) rfl (fun ls hl => ?_)
        refine lv_goto (tgt := 4) hx hb dX1_greatestNeedOf_30 (by decide) ?_
        exact ihn1 _ _ _ _ _ _ hw hP hS (lv_sub hl [2, 3, 1, 0] rfl)
  exact hlX1_greatestNeedOf_L4 n12 _ _ _ _ _ _ hw hP hS (lv_sub hl [2, 3, 1, 0] rfl)
abbrev rmX1_greatestNeedFrom : Room := { frames := 3, cells := 0, slots := 0, locals := 62 }
theorem eX1_greatestNeedFrom : yX1_greatestNeedFrom.cls = RX1 ∧ yX1_greatestNeedFrom.cls ≠ "java/lang/invoke/MethodHandle" ∧ yX1_greatestNeedFrom.cls ≠ "java/lang/invoke/VarHandle" ∧ (parseMethodDescriptor yX1_greatestNeedFrom.desc).map (fun d => d.parameters.length) = some 2 := by decide +kernel
theorem mX1_greatestNeedFrom_1 : Cond.methodLink RX1 29 Lib.Math.max.name ∈ wsX1_greatestNeedFrom := List.mem_of_getElem? (i := 1) rfl
theorem mX1_greatestNeedFrom_2 : Cond.static Lib.Math.max.name ∈ wsX1_greatestNeedFrom := List.mem_of_getElem? (i := 2) rfl
theorem mX1_greatestNeedFrom_3 : Cond.initialized "java/lang/Math" ∈ wsX1_greatestNeedFrom := List.mem_of_getElem? (i := 3) rfl
theorem mX1_greatestNeedFrom_4 : Cond.code Lib.Math.max.name Lib.Math.max.code 2 (some .int) ∈ wsX1_greatestNeedFrom := List.mem_of_getElem? (i := 4) rfl
set_option maxHeartbeats 4000000 in
set_option maxRecDepth 100000 in
theorem qX1_greatestNeedFrom (l : Launch) (D : va_G) (E : Nat → ClassId) (ad : Nat → Nat → Nat) (L : List (Nat × Nat)) (A : Nat → Prop) (hF : gF E ad L A) (hLx : gLx L) (M0 : gW) (k0 : Nat) (a1 : Int32) (a2 : Int32) (hk0 : k0 < gN 2) (K : Int32 → gW → Prop) (hw : wX1_greatestNeedFrom M0 k0 a1 a2 K) : Met l yX1_greatestNeedFrom wsX1_greatestNeedFrom rmX1_greatestNeedFrom (va_Pc [.ref (ad 2 k0), .int a1, .int a2] (gPre D E ad L M0)) (gQi D E ad L A K) 0 0 A := by
  refine Met.ofW (cc := cX1_greatestNeedFrom) (maxL := 5) (ret := (some .int)) (by decide) rfl ?_
  intro p e s m args below meth c s₁ B hml hv
  obtain ⟨rfl, hP, hK, hN⟩ := hv
  have hx := B.exec
  have hb := B.bytes
  have hr := B.returns
  have hts := atoms_spec (ws := wsX1_greatestNeedFrom) B.pre
  have hown : s.vm.findClass RX1 = some m.cls := findClass_of_methodNamed B.named
  have hlocks := B.notSynchronized
  have S : CallFix p m c cX1_greatestNeedFrom 5 s ([.ref (ad 2 k0), .int a1, .int a2] : List Value).toArray wsX1_greatestNeedFrom RX1 := ⟨hx, hb, hml, hown, hts⟩
  have hS : va_S A s.heap s.heap [] := va_S.rf
  have hl := lv_entry ([.ref (ad 2 k0), .int a1, .int a2]) (n := 5) (Nat.le_of_ble_eq_true rfl)
  rw [lg_entry_eq]
  generalize (lg_sl ([.ref (ad 2 k0), .int a1, .int a2]) ++ List.replicate (5 - (lg_sl ([.ref (ad 2 k0), .int a1, .int a2])).length) Slot.unset).toArray = ls at hl ⊢
  have hl : lv_has ls 5 [(0, .ref (ad 2 k0)), (1, .int a1), (2, .int a2)] := hl
  refine lv_iconst (v := (0 : Int32)) hx hb dX1_greatestNeedFrom_0 (by decide) ?_
  refine lv_istore_n (lv' := [(3, .int (0 : Int32)), (0, .ref (ad 2 k0)), (1, .int a1), (2, .int a2)]) hx hb dX1_greatestNeedFrom_1 rfl hl (by decide) rfl (fun ls hl => ?_)
  refine lv_iload_n hx hb dX1_greatestNeedFrom_2 rfl (lv_at hl 2 rfl) ?_
  refine lv_istore (lv' := [(4, .int a1), (3, .int (0 : Int32)), (0, .ref (ad 2 k0)), (1, .int a1), (2, .int a2)]) hx hb dX1_greatestNeedFrom_3 hl (by decide) rfl (fun ls hl => ?_)
  obtain ⟨n11, hw⟩ := hw
  have hxX1_greatestNeedFrom_L5_0 : ∀ (M8 : gW) (x3_9 : Int32) (x4_10 : Int32) (H : Heap) (locs : List Loc) (ls : Array Slot), (K x3_9 M8) → va_P D vwCl (gL E ad L M8) H → va_S A s.heap H locs → lv_has ls 5 [(0, .ref (ad 2 k0)), (1, .int a1), (2, .int a2), (3, .int x3_9), (4, .int x4_10)] → W p l e (headSpec wsX1_greatestNeedFrom rmX1_greatestNeedFrom).room s m (([.ref (ad 2 k0), .int a1, .int a2] : List Value).toArray) below meth c H locs 0 0 (MQ below (gQi D E ad L A K) ([.ref (ad 2 k0), .int a1, .int a2] : List Value).toArray s 0 0 A) (F0 m 28 ls []) := by
    intro M8 x3_9 x4_10 H locs ls hw hP hS hl
    refine lv_iload_n hx hb dX1_greatestNeedFrom_28 rfl (lv_at hl 3 rfl) ?_
    exact g_iret hx hb hr hlocks hw hP hS dX1_greatestNeedFrom_29
  have hlX1_greatestNeedFrom_L5 : ∀ (n1 : Nat) (M2 : gW) (x3_3 : Int32) (x4_4 : Int32) (H : Heap) (locs : List Loc) (ls : Array Slot), wX1_greatestNeedFrom_L5 k0 a2 (fun M8 x3_9 x4_10 => (K x3_9 M8)) n1 M2 x3_3 x4_4 → va_P D vwCl (gL E ad L M2) H → va_S A s.heap H locs → lv_has ls 5 [(0, .ref (ad 2 k0)), (1, .int a1), (2, .int a2), (3, .int x3_3), (4, .int x4_4)] → W p l e (headSpec wsX1_greatestNeedFrom rmX1_greatestNeedFrom).room s m (([.ref (ad 2 k0), .int a1, .int a2] : List Value).toArray) below meth c H locs 0 0 (MQ below (gQi D E ad L A K) ([.ref (ad 2 k0), .int a1, .int a2] : List Value).toArray s 0 0 A) (F0 m 5 ls []) := by
    intro n1
    induction n1 with
    | zero => intro M2 x3_3 x4_4 H locs ls hw; exact False.elim hw
    | succ n1 ihn1 =>
      intro M2 x3_3 x4_4 H locs ls hw hP hS hl
      refine lv_iload hx hb dX1_greatestNeedFrom_5 (lv_at hl 4 rfl) ?_
      refine lv_iload_n hx hb dX1_greatestNeedFrom_7 rfl (lv_at hl 2 rfl) ?_
      refine lv_icmp_ge (tgt := 28) hx hb dX1_greatestNeedFrom_8 (by decide) (fun c5 => ?_) (fun c5 => ?_)
      · have hw := hw.1 c5
        exact hxX1_greatestNeedFrom_L5_0 _ _ _ _ _ _ hw hP hS (lv_sub hl [0, 1, 2, 3, 4] rfl)
      · have hw := hw.2 c5
        refine lv_iload_n hx hb dX1_greatestNeedFrom_11 rfl (lv_at hl 3 rfl) ?_
        refine lv_aload_n hx hb dX1_greatestNeedFrom_12 rfl (lv_at hl 0 rfl) ?_
        refine lv_iload hx hb dX1_greatestNeedFrom_13 (lv_at hl 4 rfl) ?_
        refine g_Vi (As := [.int x4_4]) (rest := [.int x3_3]) S hK hN hP hS (qX1_needOf l D E ad L A hF hLx M2 k0 x4_4 hk0 _ hw) (cwV 1 hts gX1_greatestNeedFrom_X1_needOf rfl rfl rfl eX1_needOf ⟨Nat.le_of_ble_eq_true rfl, Nat.le_of_ble_eq_true rfl⟩) (hLx.h (f := 2) hk0) (gC2 _ _ _ _) gcl1 rfl rfl rfl hl.1 (Nat.le_of_ble_eq_true rfl) ⟨Nat.zero_le _, Nat.zero_le _⟩ dX1_greatestNeedFrom_15 (fun r7 M6 H locs hw hP hS => ?_)
        refine va_mmax hx hb (by rw [hml]; exact hl.1.symm) hown (hts _ mX1_greatestNeedFrom_1) (hts _ mX1_greatestNeedFrom_2) (hts _ mX1_greatestNeedFrom_3) (hts _ mX1_greatestNeedFrom_4) (Nat.le_of_ble_eq_true rfl) (Nat.le_of_ble_eq_true rfl) (Nat.zero_le _) (Nat.zero_le _) dX1_greatestNeedFrom_18 ?_
        refine lv_istore_n (lv' := [(3, .int (if x3_3 < r7 then r7 else x3_3)), (0, .ref (ad 2 k0)), (1, .int a1), (2, .int a2), (4, .int x4_4)]) hx hb dX1_greatestNeedFrom_21 rfl hl (by decide) rfl (fun ls hl => ?_)
        refine lv_iinc (v := (x4_4 + (1 : Int32))) (lv' := [(4, .int (x4_4 + (1 : Int32))), (3, .int (if x3_3 < r7 then r7 else x3_3)), (0, .ref (ad 2 k0)), (1, .int a1), (2, .int a2)]) hx hb dX1_greatestNeedFrom_22 hl (k := 4) rfl rfl (by decide) rfl (fun ls hl => ?_)
        refine lv_goto (tgt := 5) hx hb dX1_greatestNeedFrom_25 (by decide) ?_
        exact ihn1 _ _ _ _ _ _ hw hP hS (lv_sub hl [2, 3, 4, 1, 0] rfl)
  exact hlX1_greatestNeedFrom_L5 n11 _ _ _ _ _ _ hw hP hS (lv_sub hl [2, 3, 4, 1, 0] rfl)
end
