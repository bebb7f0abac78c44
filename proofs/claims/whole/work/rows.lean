section
-- ===== PART A: goes FIRST, ahead of the names: the tables' words, and 'selects' of the private methods out of them =====
/-- a private method of a class that the tables say can be made, by its rows of tables_1 -/
def lw_okq (q : MethodName × Nat) : Prop := (q.1.cls ≠ "java/lang/invoke/MethodHandle" ∧ q.1.cls ≠ "java/lang/invoke/VarHandle") ∧ Cond.instantiable q.1.cls q.2 ∈ tables_1 ∧ Cond.privateMethod q.1 ∈ tables_1 ∧ Cond.instanceMethod q.1 ∈ tables_1
theorem lw_p0 : lw_okq (⟨"RecordMatcher", "textOf", "(II)LRecordMatcher$Text;"⟩, 7) := ⟨⟨by decide +kernel, by decide +kernel⟩, List.mem_of_getElem? (i := 12) (by decide +kernel), List.mem_of_getElem? (i := 115) (by decide +kernel), List.mem_of_getElem? (i := 116) (by decide +kernel)⟩
theorem lw_p1 : lw_okq (⟨"RecordMatcher$Text", "put", "(C)V"⟩, 4) := ⟨⟨by decide +kernel, by decide +kernel⟩, List.mem_of_getElem? (i := 55) (by decide +kernel), List.mem_of_getElem? (i := 130) (by decide +kernel), List.mem_of_getElem? (i := 131) (by decide +kernel)⟩
theorem lw_p2 : lw_okq (⟨"RecordMatcher", "isRecord", "(I)Z"⟩, 7) := ⟨⟨by decide +kernel, by decide +kernel⟩, List.mem_of_getElem? (i := 12) (by decide +kernel), List.mem_of_getElem? (i := 153) (by decide +kernel), List.mem_of_getElem? (i := 154) (by decide +kernel)⟩
theorem lw_p3 : lw_okq (⟨"RecordMatcher$Text", "beginsWord", "(I)Z"⟩, 4) := ⟨⟨by decide +kernel, by decide +kernel⟩, List.mem_of_getElem? (i := 55) (by decide +kernel), List.mem_of_getElem? (i := 161) (by decide +kernel), List.mem_of_getElem? (i := 162) (by decide +kernel)⟩
theorem lw_p4 : lw_okq (⟨"RecordMatcher$Text", "hasWordBefore", "(ILRecordMatcher$Text;I)Z"⟩, 4) := ⟨⟨by decide +kernel, by decide +kernel⟩, List.mem_of_getElem? (i := 55) (by decide +kernel), List.mem_of_getElem? (i := 165) (by decide +kernel), List.mem_of_getElem? (i := 166) (by decide +kernel)⟩
theorem lw_p5 : lw_okq (⟨"RecordMatcher$Text", "isSameWord", "(ILRecordMatcher$Text;I)Z"⟩, 4) := ⟨⟨by decide +kernel, by decide +kernel⟩, List.mem_of_getElem? (i := 55) (by decide +kernel), List.mem_of_getElem? (i := 169) (by decide +kernel), List.mem_of_getElem? (i := 170) (by decide +kernel)⟩
theorem lw_p6 : lw_okq (⟨"RecordMatcher$Text", "endsWord", "(I)Z"⟩, 4) := ⟨⟨by decide +kernel, by decide +kernel⟩, List.mem_of_getElem? (i := 55) (by decide +kernel), List.mem_of_getElem? (i := 173) (by decide +kernel), List.mem_of_getElem? (i := 174) (by decide +kernel)⟩
theorem lw_p7 : lw_okq (⟨"RecordMatcher", "push", "(LRecordMatcher$Expression;)V"⟩, 7) := ⟨⟨by decide +kernel, by decide +kernel⟩, List.mem_of_getElem? (i := 12) (by decide +kernel), List.mem_of_getElem? (i := 218) (by decide +kernel), List.mem_of_getElem? (i := 219) (by decide +kernel)⟩
theorem lw_p8 : lw_okq (⟨"RecordMatcher", "fromTop", "(I)LRecordMatcher$Expression;"⟩, 7) := ⟨⟨by decide +kernel, by decide +kernel⟩, List.mem_of_getElem? (i := 12) (by decide +kernel), List.mem_of_getElem? (i := 248) (by decide +kernel), List.mem_of_getElem? (i := 249) (by decide +kernel)⟩
theorem lw_p9 : lw_okq (⟨"RecordMatcher", "areTwoRecords", "(II)Z"⟩, 7) := ⟨⟨by decide +kernel, by decide +kernel⟩, List.mem_of_getElem? (i := 12) (by decide +kernel), List.mem_of_getElem? (i := 282) (by decide +kernel), List.mem_of_getElem? (i := 283) (by decide +kernel)⟩
theorem lw_p10 : lw_okq (⟨"RecordMatcher$Edit", "countSteps", "(LRecordMatcher$Text;LRecordMatcher$Text;)I"⟩, 5) := ⟨⟨by decide +kernel, by decide +kernel⟩, List.mem_of_getElem? (i := 226) (by decide +kernel), List.mem_of_getElem? (i := 293) (by decide +kernel), List.mem_of_getElem? (i := 294) (by decide +kernel)⟩
theorem lw_p11 : lw_okq (⟨"RecordMatcher$Edit", "goThrough", "(CLRecordMatcher$Text;)V"⟩, 5) := ⟨⟨by decide +kernel, by decide +kernel⟩, List.mem_of_getElem? (i := 226) (by decide +kernel), List.mem_of_getElem? (i := 297) (by decide +kernel), List.mem_of_getElem? (i := 298) (by decide +kernel)⟩
theorem lw_p12 : lw_okq (⟨"RecordMatcher$Run", "taskOf", "(II)I"⟩, 5) := ⟨⟨by decide +kernel, by decide +kernel⟩, List.mem_of_getElem? (i := 24) (by decide +kernel), List.mem_of_getElem? (i := 341) (by decide +kernel), List.mem_of_getElem? (i := 342) (by decide +kernel)⟩
theorem lw_p13 : lw_okq (⟨"RecordMatcher$Run", "forgetPairsOf", "(I)V"⟩, 5) := ⟨⟨by decide +kernel, by decide +kernel⟩, List.mem_of_getElem? (i := 24) (by decide +kernel), List.mem_of_getElem? (i := 368) (by decide +kernel), List.mem_of_getElem? (i := 369) (by decide +kernel)⟩
theorem lw_p14 : lw_okq (⟨"RecordMatcher$Run", "unite", "(II)V"⟩, 5) := ⟨⟨by decide +kernel, by decide +kernel⟩, List.mem_of_getElem? (i := 24) (by decide +kernel), List.mem_of_getElem? (i := 401) (by decide +kernel), List.mem_of_getElem? (i := 402) (by decide +kernel)⟩
theorem lw_p15 : lw_okq (⟨"RecordMatcher", "bestOfCluster", "(II)I"⟩, 7) := ⟨⟨by decide +kernel, by decide +kernel⟩, List.mem_of_getElem? (i := 12) (by decide +kernel), List.mem_of_getElem? (i := 415) (by decide +kernel), List.mem_of_getElem? (i := 416) (by decide +kernel)⟩
def lw_privs_1 : List (MethodName × Nat) := [(⟨"RecordMatcher", "textOf", "(II)LRecordMatcher$Text;"⟩, 7), (⟨"RecordMatcher$Text", "put", "(C)V"⟩, 4), (⟨"RecordMatcher", "isRecord", "(I)Z"⟩, 7), (⟨"RecordMatcher$Text", "beginsWord", "(I)Z"⟩, 4), (⟨"RecordMatcher$Text", "hasWordBefore", "(ILRecordMatcher$Text;I)Z"⟩, 4), (⟨"RecordMatcher$Text", "isSameWord", "(ILRecordMatcher$Text;I)Z"⟩, 4), (⟨"RecordMatcher$Text", "endsWord", "(I)Z"⟩, 4), (⟨"RecordMatcher", "push", "(LRecordMatcher$Expression;)V"⟩, 7), (⟨"RecordMatcher", "fromTop", "(I)LRecordMatcher$Expression;"⟩, 7), (⟨"RecordMatcher", "areTwoRecords", "(II)Z"⟩, 7), (⟨"RecordMatcher$Edit", "countSteps", "(LRecordMatcher$Text;LRecordMatcher$Text;)I"⟩, 5), (⟨"RecordMatcher$Edit", "goThrough", "(CLRecordMatcher$Text;)V"⟩, 5), (⟨"RecordMatcher$Run", "taskOf", "(II)I"⟩, 5), (⟨"RecordMatcher$Run", "forgetPairsOf", "(I)V"⟩, 5), (⟨"RecordMatcher$Run", "unite", "(II)V"⟩, 5), (⟨"RecordMatcher", "bestOfCluster", "(II)I"⟩, 7)]
theorem lw_r1 : ∀ q ∈ lw_privs_1, lw_okq q := List.forall_mem_cons.mpr ⟨lw_p0, List.forall_mem_cons.mpr ⟨lw_p1, List.forall_mem_cons.mpr ⟨lw_p2, List.forall_mem_cons.mpr ⟨lw_p3, List.forall_mem_cons.mpr ⟨lw_p4, List.forall_mem_cons.mpr ⟨lw_p5, List.forall_mem_cons.mpr ⟨lw_p6, List.forall_mem_cons.mpr ⟨lw_p7, List.forall_mem_cons.mpr ⟨lw_p8, List.forall_mem_cons.mpr ⟨lw_p9, List.forall_mem_cons.mpr ⟨lw_p10, List.forall_mem_cons.mpr ⟨lw_p11, List.forall_mem_cons.mpr ⟨lw_p12, List.forall_mem_cons.mpr ⟨lw_p13, List.forall_mem_cons.mpr ⟨lw_p14, List.forall_mem_cons.mpr ⟨lw_p15, fun _ h => absurd h List.not_mem_nil⟩⟩⟩⟩⟩⟩⟩⟩⟩⟩⟩⟩⟩⟩⟩⟩
theorem lw_p16 : lw_okq (⟨"RecordMatcher", "isBetter", "(III)Z"⟩, 7) := ⟨⟨by decide +kernel, by decide +kernel⟩, List.mem_of_getElem? (i := 12) (by decide +kernel), List.mem_of_getElem? (i := 419) (by decide +kernel), List.mem_of_getElem? (i := 420) (by decide +kernel)⟩
theorem lw_p17 : lw_okq (⟨"RecordMatcher", "countHavingTextOf", "(II)I"⟩, 7) := ⟨⟨by decide +kernel, by decide +kernel⟩, List.mem_of_getElem? (i := 12) (by decide +kernel), List.mem_of_getElem? (i := 423) (by decide +kernel), List.mem_of_getElem? (i := 424) (by decide +kernel)⟩
theorem lw_p18 : lw_okq (⟨"RecordMatcherModel", "isRecord", "(I)Z"⟩, 22) := ⟨⟨by decide +kernel, by decide +kernel⟩, List.mem_of_getElem? (i := 432) (by decide +kernel), List.mem_of_getElem? (i := 524) (by decide +kernel), List.mem_of_getElem? (i := 525) (by decide +kernel)⟩
theorem lw_p19 : lw_okq (⟨"RecordMatcherModel", "look", "(III)V"⟩, 22) := ⟨⟨by decide +kernel, by decide +kernel⟩, List.mem_of_getElem? (i := 432) (by decide +kernel), List.mem_of_getElem? (i := 528) (by decide +kernel), List.mem_of_getElem? (i := 529) (by decide +kernel)⟩
theorem lw_p20 : lw_okq (⟨"RecordMatcherModel", "inSet", "(IIZ)I"⟩, 22) := ⟨⟨by decide +kernel, by decide +kernel⟩, List.mem_of_getElem? (i := 432) (by decide +kernel), List.mem_of_getElem? (i := 535) (by decide +kernel), List.mem_of_getElem? (i := 536) (by decide +kernel)⟩
theorem lw_p21 : lw_okq (⟨"RecordMatcherModel", "begins", "(II)Z"⟩, 22) := ⟨⟨by decide +kernel, by decide +kernel⟩, List.mem_of_getElem? (i := 432) (by decide +kernel), List.mem_of_getElem? (i := 539) (by decide +kernel), List.mem_of_getElem? (i := 540) (by decide +kernel)⟩
theorem lw_p22 : lw_okq (⟨"RecordMatcherModel", "at", "(II)I"⟩, 22) := ⟨⟨by decide +kernel, by decide +kernel⟩, List.mem_of_getElem? (i := 432) (by decide +kernel), List.mem_of_getElem? (i := 543) (by decide +kernel), List.mem_of_getElem? (i := 544) (by decide +kernel)⟩
theorem lw_p23 : lw_okq (⟨"RecordMatcherModel", "stands", "(IIII)Z"⟩, 22) := ⟨⟨by decide +kernel, by decide +kernel⟩, List.mem_of_getElem? (i := 432) (by decide +kernel), List.mem_of_getElem? (i := 547) (by decide +kernel), List.mem_of_getElem? (i := 548) (by decide +kernel)⟩
theorem lw_p24 : lw_okq (⟨"RecordMatcherModel", "sameWord", "(IIII)Z"⟩, 22) := ⟨⟨by decide +kernel, by decide +kernel⟩, List.mem_of_getElem? (i := 432) (by decide +kernel), List.mem_of_getElem? (i := 551) (by decide +kernel), List.mem_of_getElem? (i := 552) (by decide +kernel)⟩
theorem lw_p25 : lw_okq (⟨"RecordMatcherModel", "mark", "(IIII)V"⟩, 22) := ⟨⟨by decide +kernel, by decide +kernel⟩, List.mem_of_getElem? (i := 432) (by decide +kernel), List.mem_of_getElem? (i := 568) (by decide +kernel), List.mem_of_getElem? (i := 569) (by decide +kernel)⟩
theorem lw_p26 : lw_okq (⟨"RecordMatcherModel", "marks", "()I"⟩, 22) := ⟨⟨by decide +kernel, by decide +kernel⟩, List.mem_of_getElem? (i := 432) (by decide +kernel), List.mem_of_getElem? (i := 572) (by decide +kernel), List.mem_of_getElem? (i := 573) (by decide +kernel)⟩
theorem lw_p27 : lw_okq (⟨"RecordMatcherModel", "push", "()V"⟩, 22) := ⟨⟨by decide +kernel, by decide +kernel⟩, List.mem_of_getElem? (i := 432) (by decide +kernel), List.mem_of_getElem? (i := 576) (by decide +kernel), List.mem_of_getElem? (i := 577) (by decide +kernel)⟩
theorem lw_p28 : lw_okq (⟨"RecordMatcherModel", "leaves", "(II)I"⟩, 22) := ⟨⟨by decide +kernel, by decide +kernel⟩, List.mem_of_getElem? (i := 432) (by decide +kernel), List.mem_of_getElem? (i := 588) (by decide +kernel), List.mem_of_getElem? (i := 589) (by decide +kernel)⟩
theorem lw_p29 : lw_okq (⟨"RecordMatcherModel", "driven", "()Z"⟩, 22) := ⟨⟨by decide +kernel, by decide +kernel⟩, List.mem_of_getElem? (i := 432) (by decide +kernel), List.mem_of_getElem? (i := 596) (by decide +kernel), List.mem_of_getElem? (i := 597) (by decide +kernel)⟩
theorem lw_p30 : lw_okq (⟨"RecordMatcherModel", "holds", "(II)Z"⟩, 22) := ⟨⟨by decide +kernel, by decide +kernel⟩, List.mem_of_getElem? (i := 432) (by decide +kernel), List.mem_of_getElem? (i := 608) (by decide +kernel), List.mem_of_getElem? (i := 609) (by decide +kernel)⟩
theorem lw_p31 : lw_okq (⟨"RecordMatcherModel", "leafHolds", "(III)Z"⟩, 22) := ⟨⟨by decide +kernel, by decide +kernel⟩, List.mem_of_getElem? (i := 432) (by decide +kernel), List.mem_of_getElem? (i := 612) (by decide +kernel), List.mem_of_getElem? (i := 613) (by decide +kernel)⟩
def lw_privs_2 : List (MethodName × Nat) := [(⟨"RecordMatcher", "isBetter", "(III)Z"⟩, 7), (⟨"RecordMatcher", "countHavingTextOf", "(II)I"⟩, 7), (⟨"RecordMatcherModel", "isRecord", "(I)Z"⟩, 22), (⟨"RecordMatcherModel", "look", "(III)V"⟩, 22), (⟨"RecordMatcherModel", "inSet", "(IIZ)I"⟩, 22), (⟨"RecordMatcherModel", "begins", "(II)Z"⟩, 22), (⟨"RecordMatcherModel", "at", "(II)I"⟩, 22), (⟨"RecordMatcherModel", "stands", "(IIII)Z"⟩, 22), (⟨"RecordMatcherModel", "sameWord", "(IIII)Z"⟩, 22), (⟨"RecordMatcherModel", "mark", "(IIII)V"⟩, 22), (⟨"RecordMatcherModel", "marks", "()I"⟩, 22), (⟨"RecordMatcherModel", "push", "()V"⟩, 22), (⟨"RecordMatcherModel", "leaves", "(II)I"⟩, 22), (⟨"RecordMatcherModel", "driven", "()Z"⟩, 22), (⟨"RecordMatcherModel", "holds", "(II)Z"⟩, 22), (⟨"RecordMatcherModel", "leafHolds", "(III)Z"⟩, 22)]
theorem lw_r2 : ∀ q ∈ lw_privs_2, lw_okq q := List.forall_mem_cons.mpr ⟨lw_p16, List.forall_mem_cons.mpr ⟨lw_p17, List.forall_mem_cons.mpr ⟨lw_p18, List.forall_mem_cons.mpr ⟨lw_p19, List.forall_mem_cons.mpr ⟨lw_p20, List.forall_mem_cons.mpr ⟨lw_p21, List.forall_mem_cons.mpr ⟨lw_p22, List.forall_mem_cons.mpr ⟨lw_p23, List.forall_mem_cons.mpr ⟨lw_p24, List.forall_mem_cons.mpr ⟨lw_p25, List.forall_mem_cons.mpr ⟨lw_p26, List.forall_mem_cons.mpr ⟨lw_p27, List.forall_mem_cons.mpr ⟨lw_p28, List.forall_mem_cons.mpr ⟨lw_p29, List.forall_mem_cons.mpr ⟨lw_p30, List.forall_mem_cons.mpr ⟨lw_p31, fun _ h => absurd h List.not_mem_nil⟩⟩⟩⟩⟩⟩⟩⟩⟩⟩⟩⟩⟩⟩⟩⟩
theorem lw_p32 : lw_okq (⟨"RecordMatcherModel", "distance", "()I"⟩, 22) := ⟨⟨by decide +kernel, by decide +kernel⟩, List.mem_of_getElem? (i := 432) (by decide +kernel), List.mem_of_getElem? (i := 616) (by decide +kernel), List.mem_of_getElem? (i := 617) (by decide +kernel)⟩
theorem lw_p33 : lw_okq (⟨"RecordMatcherModel", "isWorker", "(I)Z"⟩, 22) := ⟨⟨by decide +kernel, by decide +kernel⟩, List.mem_of_getElem? (i := 432) (by decide +kernel), List.mem_of_getElem? (i := 628) (by decide +kernel), List.mem_of_getElem? (i := 629) (by decide +kernel)⟩
theorem lw_p34 : lw_okq (⟨"RecordMatcherModel", "tasksOf", "(I)I"⟩, 22) := ⟨⟨by decide +kernel, by decide +kernel⟩, List.mem_of_getElem? (i := 432) (by decide +kernel), List.mem_of_getElem? (i := 632) (by decide +kernel), List.mem_of_getElem? (i := 633) (by decide +kernel)⟩
theorem lw_p35 : lw_okq (⟨"RecordMatcherModel", "isDone", "()Z"⟩, 22) := ⟨⟨by decide +kernel, by decide +kernel⟩, List.mem_of_getElem? (i := 432) (by decide +kernel), List.mem_of_getElem? (i := 640) (by decide +kernel), List.mem_of_getElem? (i := 641) (by decide +kernel)⟩
theorem lw_p36 : lw_okq (⟨"RecordMatcherModel", "isFound", "(II)Z"⟩, 22) := ⟨⟨by decide +kernel, by decide +kernel⟩, List.mem_of_getElem? (i := 432) (by decide +kernel), List.mem_of_getElem? (i := 648) (by decide +kernel), List.mem_of_getElem? (i := 649) (by decide +kernel)⟩
theorem lw_p37 : lw_okq (⟨"RecordMatcherModel", "spread", "()V"⟩, 22) := ⟨⟨by decide +kernel, by decide +kernel⟩, List.mem_of_getElem? (i := 432) (by decide +kernel), List.mem_of_getElem? (i := 660) (by decide +kernel), List.mem_of_getElem? (i := 661) (by decide +kernel)⟩
theorem lw_p38 : lw_okq (⟨"RecordMatcherModel", "better", "(IIII)Z"⟩, 22) := ⟨⟨by decide +kernel, by decide +kernel⟩, List.mem_of_getElem? (i := 432) (by decide +kernel), List.mem_of_getElem? (i := 672) (by decide +kernel), List.mem_of_getElem? (i := 673) (by decide +kernel)⟩
theorem lw_p39 : lw_okq (⟨"RecordMatcherModel", "sizeOf", "(II)I"⟩, 22) := ⟨⟨by decide +kernel, by decide +kernel⟩, List.mem_of_getElem? (i := 432) (by decide +kernel), List.mem_of_getElem? (i := 676) (by decide +kernel), List.mem_of_getElem? (i := 677) (by decide +kernel)⟩
theorem lw_p40 : lw_okq (⟨"RecordMatcherModel", "compare", "(III)I"⟩, 22) := ⟨⟨by decide +kernel, by decide +kernel⟩, List.mem_of_getElem? (i := 432) (by decide +kernel), List.mem_of_getElem? (i := 680) (by decide +kernel), List.mem_of_getElem? (i := 681) (by decide +kernel)⟩
theorem lw_p41 : lw_okq (⟨"RecordMatcherModel", "same", "(III)I"⟩, 22) := ⟨⟨by decide +kernel, by decide +kernel⟩, List.mem_of_getElem? (i := 432) (by decide +kernel), List.mem_of_getElem? (i := 684) (by decide +kernel), List.mem_of_getElem? (i := 685) (by decide +kernel)⟩
def lw_privs_3 : List (MethodName × Nat) := [(⟨"RecordMatcherModel", "distance", "()I"⟩, 22), (⟨"RecordMatcherModel", "isWorker", "(I)Z"⟩, 22), (⟨"RecordMatcherModel", "tasksOf", "(I)I"⟩, 22), (⟨"RecordMatcherModel", "isDone", "()Z"⟩, 22), (⟨"RecordMatcherModel", "isFound", "(II)Z"⟩, 22), (⟨"RecordMatcherModel", "spread", "()V"⟩, 22), (⟨"RecordMatcherModel", "better", "(IIII)Z"⟩, 22), (⟨"RecordMatcherModel", "sizeOf", "(II)I"⟩, 22), (⟨"RecordMatcherModel", "compare", "(III)I"⟩, 22), (⟨"RecordMatcherModel", "same", "(III)I"⟩, 22)]
theorem lw_r3 : ∀ q ∈ lw_privs_3, lw_okq q := List.forall_mem_cons.mpr ⟨lw_p32, List.forall_mem_cons.mpr ⟨lw_p33, List.forall_mem_cons.mpr ⟨lw_p34, List.forall_mem_cons.mpr ⟨lw_p35, List.forall_mem_cons.mpr ⟨lw_p36, List.forall_mem_cons.mpr ⟨lw_p37, List.forall_mem_cons.mpr ⟨lw_p38, List.forall_mem_cons.mpr ⟨lw_p39, List.forall_mem_cons.mpr ⟨lw_p40, List.forall_mem_cons.mpr ⟨lw_p41, fun _ h => absurd h List.not_mem_nil⟩⟩⟩⟩⟩⟩⟩⟩⟩⟩
def lw_privs : List (MethodName × Nat) := lw_privs_1 ++ (lw_privs_2 ++ (lw_privs_3))
def lw_tbl : List Cond := k2_sels lw_privs ++ tables_1
theorem lw_privs_ok : ∀ q ∈ lw_privs, lw_okq q := by
  show ∀ q ∈ lw_privs_1 ++ (lw_privs_2 ++ (lw_privs_3)), lw_okq q
  exact List.forall_mem_append.mpr ⟨lw_r1, List.forall_mem_append.mpr ⟨lw_r2, lw_r3⟩⟩
end
section
/-! The words: those of the tables that hold in every later state too. -/
def zW : List Cond := lw_tbl.filter goodWord
theorem zw_in (i : Nat) {w : Cond} (h : lw_tbl[i]? = some w) (hg : goodWord w = true) : w ∈ zW := List.mem_filter.mpr ⟨List.mem_of_getElem? h, hg⟩
theorem zw_good {w : Cond} (h : w ∈ zW) : w ∈ zW ∧ ((w.onTables && w.keeps) = true ∨ ∃ ty, w = .arrayClass ty) := ⟨h, good_of_word (List.mem_filter.mp h).2⟩
theorem zw_all {c : Cond} (h : c ∈ zW) : GoodIn zW (c :: zW) := fun w hw => zw_good ((List.mem_cons.mp hw).elim (fun e => e ▸ h) id)
theorem zm_0 : (Jvm.Cond.initialized "RecordMatcherLaw") ∈ zW := zw_in 42 (by decide +kernel) rfl
theorem zm_1 : (Jvm.Cond.initialized "RecordMatcher") ∈ zW := zw_in 43 (by decide +kernel) rfl
theorem zm_2 : (Jvm.Cond.initialized "RecordMatcher$Run") ∈ zW := zw_in 44 (by decide +kernel) rfl
theorem zm_3 : (Jvm.Cond.initialized "RecordMatcher$Entry") ∈ zW := zw_in 45 (by decide +kernel) rfl
theorem zm_4 : (Jvm.Cond.initialized "RecordMatcher$Text") ∈ zW := zw_in 46 (by decide +kernel) rfl
theorem zm_5 : (Jvm.Cond.initialized "RecordMatcherModel") ∈ zW := zw_in 47 (by decide +kernel) rfl
theorem zm_6 : (Jvm.Cond.initialized "RecordMatcher$Expression") ∈ zW := zw_in 48 (by decide +kernel) rfl
theorem zm_7 : (Jvm.Cond.initialized "RecordMatcher$Jaccard") ∈ zW := zw_in 49 (by decide +kernel) rfl
theorem zm_8 : (Jvm.Cond.initialized "RecordMatcher$Edit") ∈ zW := zw_in 50 (by decide +kernel) rfl
theorem zm_9 : (Jvm.Cond.initialized "RecordMatcher$Joined") ∈ zW := zw_in 51 (by decide +kernel) rfl
theorem zm_10 : (Jvm.Cond.initialized "java/lang/Math") ∈ zW := zw_in 52 (by decide +kernel) rfl
theorem zm_11 : (Jvm.Cond.classLink "RecordMatcherLaw" (7 : Nat) "RecordMatcher") ∈ zW := zw_in 53 (by decide +kernel) rfl
theorem zm_12 : (Jvm.Cond.instantiable "RecordMatcher" (7 : Nat)) ∈ zW := zw_in 54 (by decide +kernel) rfl
theorem zm_13 : (Jvm.Cond.methodLink "RecordMatcherLaw" (9 : Nat) ({ cls := "RecordMatcher", name := "<init>", desc := "()V" } : Jvm.MethodName)) ∈ zW := zw_in 55 (by decide +kernel) rfl
theorem zm_14 : (Jvm.Cond.instanceMethod ({ cls := "RecordMatcher", name := "<init>", desc := "()V" } : Jvm.MethodName)) ∈ zW := zw_in 56 (by decide +kernel) rfl
theorem zm_15 : (Jvm.Cond.code ({ cls := "RecordMatcher", name := "<init>", desc := "()V" } : Jvm.MethodName) prog_1_method_1_code (2 : Nat) (Option.none : Option Jvm.ClassFile.FieldType)) ∈ zW := zw_in 57 (by decide +kernel) rfl
theorem zm_16 : (Jvm.Cond.methodLink "RecordMatcher" (1 : Nat) ({ cls := "java/lang/Object", name := "<init>", desc := "()V" } : Jvm.MethodName)) ∈ zW := zw_in 58 (by decide +kernel) rfl
theorem zm_17 : (Jvm.Cond.instanceMethod ({ cls := "java/lang/Object", name := "<init>", desc := "()V" } : Jvm.MethodName)) ∈ zW := zw_in 59 (by decide +kernel) rfl
theorem zm_18 : (Jvm.Cond.code ({ cls := "java/lang/Object", name := "<init>", desc := "()V" } : Jvm.MethodName) object_method_1_code (1 : Nat) (Option.none : Option Jvm.ClassFile.FieldType)) ∈ zW := zw_in 60 (by decide +kernel) rfl
theorem zm_19 : (Jvm.Cond.classLink "RecordMatcher" (9 : Nat) "RecordMatcher$Entry") ∈ zW := zw_in 61 (by decide +kernel) rfl
theorem zm_21 : (Jvm.Cond.classLink "RecordMatcher" (15 : Nat) "RecordMatcher$Expression") ∈ zW := zw_in 63 (by decide +kernel) rfl
theorem zm_23 : (Jvm.Cond.classLink "RecordMatcher" (21 : Nat) "RecordMatcher$Run") ∈ zW := zw_in 65 (by decide +kernel) rfl
theorem zm_24 : (Jvm.Cond.instantiable "RecordMatcher$Run" (5 : Nat)) ∈ zW := zw_in 66 (by decide +kernel) rfl
theorem zm_26 : (Jvm.Cond.instanceMethod ({ cls := "RecordMatcher$Run", name := "<init>", desc := "()V" } : Jvm.MethodName)) ∈ zW := zw_in 68 (by decide +kernel) rfl
theorem zm_27 : (Jvm.Cond.code ({ cls := "RecordMatcher$Run", name := "<init>", desc := "()V" } : Jvm.MethodName) prog_7_method_1_code (1 : Nat) (Option.none : Option Jvm.ClassFile.FieldType)) ∈ zW := zw_in 69 (by decide +kernel) rfl
theorem zm_28 : (Jvm.Cond.methodLink "RecordMatcher$Run" (3 : Nat) ({ cls := "java/lang/Object", name := "<init>", desc := "()V" } : Jvm.MethodName)) ∈ zW := zw_in 70 (by decide +kernel) rfl
theorem zm_29 : (Jvm.Cond.fieldLink "RecordMatcher$Run" (9 : Nat) "RecordMatcher$Run" "done" "[I") ∈ zW := zw_in 71 (by decide +kernel) rfl
theorem zm_30 : (Jvm.Cond.fieldLink "RecordMatcher$Run" (15 : Nat) "RecordMatcher$Run" "noted" "[Z") ∈ zW := zw_in 72 (by decide +kernel) rfl
theorem zm_31 : (Jvm.Cond.fieldLink "RecordMatcher$Run" (19 : Nat) "RecordMatcher$Run" "leaders" "[I") ∈ zW := zw_in 73 (by decide +kernel) rfl
theorem zm_33 : (Jvm.Cond.fieldLink "RecordMatcher$Run" (26 : Nat) "RecordMatcher$Run" "tasks" "I") ∈ zW := zw_in 75 (by decide +kernel) rfl
theorem zm_35 : (Jvm.Cond.fieldLink "RecordMatcher$Run" (22 : Nat) "RecordMatcher$Run" "workers" "I") ∈ zW := zw_in 77 (by decide +kernel) rfl
theorem zm_47 : (Jvm.Cond.arrayClass Jvm.ClassFile.FieldType.int) ∈ zW := zw_in 89 (by decide +kernel) rfl
theorem zm_48 : (Jvm.Cond.arrayClass Jvm.ClassFile.FieldType.boolean) ∈ zW := zw_in 90 (by decide +kernel) rfl
theorem zm_49 : (Jvm.Cond.instantiable "RecordMatcher$Entry" (2 : Nat)) ∈ zW := zw_in 91 (by decide +kernel) rfl
theorem zm_51 : (Jvm.Cond.instanceMethod ({ cls := "RecordMatcher$Entry", name := "<init>", desc := "()V" } : Jvm.MethodName)) ∈ zW := zw_in 93 (by decide +kernel) rfl
theorem zm_52 : (Jvm.Cond.code ({ cls := "RecordMatcher$Entry", name := "<init>", desc := "()V" } : Jvm.MethodName) prog_3_method_1_code (1 : Nat) (Option.none : Option Jvm.ClassFile.FieldType)) ∈ zW := zw_in 94 (by decide +kernel) rfl
theorem zm_53 : (Jvm.Cond.methodLink "RecordMatcher$Entry" (1 : Nat) ({ cls := "java/lang/Object", name := "<init>", desc := "()V" } : Jvm.MethodName)) ∈ zW := zw_in 95 (by decide +kernel) rfl
theorem zm_54 : (Jvm.Cond.classLink "RecordMatcher$Entry" (7 : Nat) "RecordMatcher$Text") ∈ zW := zw_in 96 (by decide +kernel) rfl
theorem zm_55 : (Jvm.Cond.instantiable "RecordMatcher$Text" (4 : Nat)) ∈ zW := zw_in 97 (by decide +kernel) rfl
theorem zm_57 : (Jvm.Cond.instanceMethod ({ cls := "RecordMatcher$Text", name := "<init>", desc := "()V" } : Jvm.MethodName)) ∈ zW := zw_in 99 (by decide +kernel) rfl
theorem zm_58 : (Jvm.Cond.code ({ cls := "RecordMatcher$Text", name := "<init>", desc := "()V" } : Jvm.MethodName) prog_8_method_1_code (1 : Nat) (Option.none : Option Jvm.ClassFile.FieldType)) ∈ zW := zw_in 100 (by decide +kernel) rfl
theorem zm_59 : (Jvm.Cond.methodLink "RecordMatcher$Text" (3 : Nat) ({ cls := "java/lang/Object", name := "<init>", desc := "()V" } : Jvm.MethodName)) ∈ zW := zw_in 101 (by decide +kernel) rfl
theorem zm_60 : (Jvm.Cond.fieldLink "RecordMatcher$Text" (9 : Nat) "RecordMatcher$Text" "codes" "[C") ∈ zW := zw_in 102 (by decide +kernel) rfl
theorem zm_63 : (Jvm.Cond.fieldLink "RecordMatcher$Text" (27 : Nat) "RecordMatcher$Text" "size" "I") ∈ zW := zw_in 105 (by decide +kernel) rfl
theorem zm_66 : (Jvm.Cond.fieldLink "RecordMatcher$Text" (15 : Nat) "RecordMatcher$Text" "typed" "I") ∈ zW := zw_in 108 (by decide +kernel) rfl
theorem zm_67 : (Jvm.Cond.fieldLink "RecordMatcher$Text" (19 : Nat) "RecordMatcher$Text" "inWord" "Z") ∈ zW := zw_in 109 (by decide +kernel) rfl
theorem zm_77 : (Jvm.Cond.arrayClass Jvm.ClassFile.FieldType.char) ∈ zW := zw_in 119 (by decide +kernel) rfl
theorem zm_78 : (Jvm.Cond.fieldLink "RecordMatcher$Entry" (10 : Nat) "RecordMatcher$Entry" "first" "LRecordMatcher$Text;") ∈ zW := zw_in 120 (by decide +kernel) rfl
theorem zm_79 : (Jvm.Cond.fieldLink "RecordMatcher$Entry" (16 : Nat) "RecordMatcher$Entry" "second" "LRecordMatcher$Text;") ∈ zW := zw_in 121 (by decide +kernel) rfl
theorem zm_85 : (Jvm.Cond.fieldLink "RecordMatcher" (11 : Nat) "RecordMatcher" "entries" "[LRecordMatcher$Entry;") ∈ zW := zw_in 127 (by decide +kernel) rfl
theorem zm_86 : (Jvm.Cond.fieldLink "RecordMatcher" (37 : Nat) "RecordMatcher" "recordCount" "I") ∈ zW := zw_in 128 (by decide +kernel) rfl
theorem zm_87 : (Jvm.Cond.fieldLink "RecordMatcher" (17 : Nat) "RecordMatcher" "stack" "[LRecordMatcher$Expression;") ∈ zW := zw_in 129 (by decide +kernel) rfl
theorem zm_88 : (Jvm.Cond.fieldLink "RecordMatcher" (68 : Nat) "RecordMatcher" "height" "I") ∈ zW := zw_in 130 (by decide +kernel) rfl
theorem zm_89 : (Jvm.Cond.fieldLink "RecordMatcher" (101 : Nat) "RecordMatcher" "rule" "LRecordMatcher$Expression;") ∈ zW := zw_in 131 (by decide +kernel) rfl
theorem zm_90 : (Jvm.Cond.fieldLink "RecordMatcher" (24 : Nat) "RecordMatcher" "run" "LRecordMatcher$Run;") ∈ zW := zw_in 132 (by decide +kernel) rfl
theorem zm_91 : (Jvm.Cond.fieldLink "RecordMatcher" (28 : Nat) "RecordMatcher" "ways" "[I") ∈ zW := zw_in 133 (by decide +kernel) rfl
theorem zm_107 : (Jvm.Cond.methodLink "RecordMatcherLaw" (13 : Nat) ({ cls := "RecordMatcher", name := "type", desc := "(IC)Z" } : Jvm.MethodName)) ∈ zW := zw_in 149 (by decide +kernel) rfl
theorem zm_108 : (Jvm.Cond.instanceMethod ({ cls := "RecordMatcher", name := "type", desc := "(IC)Z" } : Jvm.MethodName)) ∈ zW := zw_in 150 (by decide +kernel) rfl
theorem zm_109 : (Jvm.Cond.selects "RecordMatcher" ({ cls := "RecordMatcher", name := "type", desc := "(IC)Z" } : Jvm.MethodName) ({ cls := "RecordMatcher", name := "type", desc := "(IC)Z" } : Jvm.MethodName)) ∈ zW := zw_in 151 (by decide +kernel) rfl
theorem zm_110 : (Jvm.Cond.code ({ cls := "RecordMatcher", name := "type", desc := "(IC)Z" } : Jvm.MethodName) prog_1_method_2_code (3 : Nat) (Option.some Jvm.ClassFile.FieldType.boolean)) ∈ zW := zw_in 152 (by decide +kernel) rfl
theorem zm_111 : (Jvm.Cond.methodLink "RecordMatcher" (33 : Nat) ({ cls := "RecordMatcher", name := "isField", desc := "(I)Z" } : Jvm.MethodName)) ∈ zW := zw_in 153 (by decide +kernel) rfl
theorem zm_112 : (Jvm.Cond.static ({ cls := "RecordMatcher", name := "isField", desc := "(I)Z" } : Jvm.MethodName)) ∈ zW := zw_in 154 (by decide +kernel) rfl
theorem zm_113 : (Jvm.Cond.code ({ cls := "RecordMatcher", name := "isField", desc := "(I)Z" } : Jvm.MethodName) prog_1_method_23_code (1 : Nat) (Option.some Jvm.ClassFile.FieldType.boolean)) ∈ zW := zw_in 155 (by decide +kernel) rfl
theorem zm_114 : (Jvm.Cond.methodLink "RecordMatcher" (41 : Nat) ({ cls := "RecordMatcher", name := "textOf", desc := "(II)LRecordMatcher$Text;" } : Jvm.MethodName)) ∈ zW := zw_in 156 (by decide +kernel) rfl
theorem zm_116 : (Jvm.Cond.instanceMethod ({ cls := "RecordMatcher", name := "textOf", desc := "(II)LRecordMatcher$Text;" } : Jvm.MethodName)) ∈ zW := zw_in 158 (by decide +kernel) rfl
theorem zm_117 : (Jvm.Cond.code ({ cls := "RecordMatcher", name := "textOf", desc := "(II)LRecordMatcher$Text;" } : Jvm.MethodName) prog_1_method_25_code (3 : Nat) (Option.some (Jvm.ClassFile.FieldType.object "RecordMatcher$Text"))) ∈ zW := zw_in 159 (by decide +kernel) rfl
theorem zm_118 : (Jvm.Cond.methodLink "RecordMatcher" (167 : Nat) ({ cls := "RecordMatcher$Entry", name := "text", desc := "(I)LRecordMatcher$Text;" } : Jvm.MethodName)) ∈ zW := zw_in 160 (by decide +kernel) rfl
theorem zm_119 : (Jvm.Cond.instanceMethod ({ cls := "RecordMatcher$Entry", name := "text", desc := "(I)LRecordMatcher$Text;" } : Jvm.MethodName)) ∈ zW := zw_in 161 (by decide +kernel) rfl
theorem zm_120 : (Jvm.Cond.selects "RecordMatcher$Entry" ({ cls := "RecordMatcher$Entry", name := "text", desc := "(I)LRecordMatcher$Text;" } : Jvm.MethodName) ({ cls := "RecordMatcher$Entry", name := "text", desc := "(I)LRecordMatcher$Text;" } : Jvm.MethodName)) ∈ zW := zw_in 162 (by decide +kernel) rfl
theorem zm_121 : (Jvm.Cond.code ({ cls := "RecordMatcher$Entry", name := "text", desc := "(I)LRecordMatcher$Text;" } : Jvm.MethodName) prog_3_method_2_code (2 : Nat) (Option.some (Jvm.ClassFile.FieldType.object "RecordMatcher$Text"))) ∈ zW := zw_in 163 (by decide +kernel) rfl
theorem zm_122 : (Jvm.Cond.methodLink "RecordMatcher" (45 : Nat) ({ cls := "RecordMatcher$Text", name := "take", desc := "(C)Z" } : Jvm.MethodName)) ∈ zW := zw_in 164 (by decide +kernel) rfl
theorem zm_123 : (Jvm.Cond.instanceMethod ({ cls := "RecordMatcher$Text", name := "take", desc := "(C)Z" } : Jvm.MethodName)) ∈ zW := zw_in 165 (by decide +kernel) rfl
theorem zm_124 : (Jvm.Cond.selects "RecordMatcher$Text" ({ cls := "RecordMatcher$Text", name := "take", desc := "(C)Z" } : Jvm.MethodName) ({ cls := "RecordMatcher$Text", name := "take", desc := "(C)Z" } : Jvm.MethodName)) ∈ zW := zw_in 166 (by decide +kernel) rfl
theorem zm_125 : (Jvm.Cond.code ({ cls := "RecordMatcher$Text", name := "take", desc := "(C)Z" } : Jvm.MethodName) prog_8_method_2_code (3 : Nat) (Option.some Jvm.ClassFile.FieldType.boolean)) ∈ zW := zw_in 167 (by decide +kernel) rfl
theorem zm_126 : (Jvm.Cond.methodLink "RecordMatcher$Text" (23 : Nat) ({ cls := "RecordMatcher$Text", name := "isOfWord", desc := "(C)Z" } : Jvm.MethodName)) ∈ zW := zw_in 168 (by decide +kernel) rfl
theorem zm_127 : (Jvm.Cond.static ({ cls := "RecordMatcher$Text", name := "isOfWord", desc := "(C)Z" } : Jvm.MethodName)) ∈ zW := zw_in 169 (by decide +kernel) rfl
theorem zm_128 : (Jvm.Cond.code ({ cls := "RecordMatcher$Text", name := "isOfWord", desc := "(C)Z" } : Jvm.MethodName) prog_8_method_4_code (1 : Nat) (Option.some Jvm.ClassFile.FieldType.boolean)) ∈ zW := zw_in 170 (by decide +kernel) rfl
theorem zm_129 : (Jvm.Cond.methodLink "RecordMatcher$Text" (30 : Nat) ({ cls := "RecordMatcher$Text", name := "put", desc := "(C)V" } : Jvm.MethodName)) ∈ zW := zw_in 171 (by decide +kernel) rfl
theorem zm_131 : (Jvm.Cond.instanceMethod ({ cls := "RecordMatcher$Text", name := "put", desc := "(C)V" } : Jvm.MethodName)) ∈ zW := zw_in 173 (by decide +kernel) rfl
theorem zm_132 : (Jvm.Cond.code ({ cls := "RecordMatcher$Text", name := "put", desc := "(C)V" } : Jvm.MethodName) prog_8_method_3_code (2 : Nat) (Option.none : Option Jvm.ClassFile.FieldType)) ∈ zW := zw_in 174 (by decide +kernel) rfl
theorem zm_133 : (Jvm.Cond.methodLink "RecordMatcher$Text" (34 : Nat) ({ cls := "RecordMatcher$Text", name := "small", desc := "(C)C" } : Jvm.MethodName)) ∈ zW := zw_in 175 (by decide +kernel) rfl
theorem zm_134 : (Jvm.Cond.static ({ cls := "RecordMatcher$Text", name := "small", desc := "(C)C" } : Jvm.MethodName)) ∈ zW := zw_in 176 (by decide +kernel) rfl
theorem zm_135 : (Jvm.Cond.code ({ cls := "RecordMatcher$Text", name := "small", desc := "(C)C" } : Jvm.MethodName) prog_8_method_5_code (1 : Nat) (Option.some Jvm.ClassFile.FieldType.char)) ∈ zW := zw_in 177 (by decide +kernel) rfl
theorem zm_136 : (Jvm.Cond.methodLink "RecordMatcherLaw" (18 : Nat) ({ cls := "RecordMatcher", name := "add", desc := "()I" } : Jvm.MethodName)) ∈ zW := zw_in 178 (by decide +kernel) rfl
theorem zm_137 : (Jvm.Cond.instanceMethod ({ cls := "RecordMatcher", name := "add", desc := "()I" } : Jvm.MethodName)) ∈ zW := zw_in 179 (by decide +kernel) rfl
theorem zm_138 : (Jvm.Cond.selects "RecordMatcher" ({ cls := "RecordMatcher", name := "add", desc := "()I" } : Jvm.MethodName) ({ cls := "RecordMatcher", name := "add", desc := "()I" } : Jvm.MethodName)) ∈ zW := zw_in 180 (by decide +kernel) rfl
theorem zm_139 : (Jvm.Cond.code ({ cls := "RecordMatcher", name := "add", desc := "()I" } : Jvm.MethodName) prog_1_method_3_code (1 : Nat) (Option.some Jvm.ClassFile.FieldType.int)) ∈ zW := zw_in 181 (by decide +kernel) rfl
theorem zm_140 : (Jvm.Cond.methodLink "RecordMatcher" (51 : Nat) ({ cls := "RecordMatcher$Run", name := "end", desc := "()V" } : Jvm.MethodName)) ∈ zW := zw_in 182 (by decide +kernel) rfl
theorem zm_141 : (Jvm.Cond.instanceMethod ({ cls := "RecordMatcher$Run", name := "end", desc := "()V" } : Jvm.MethodName)) ∈ zW := zw_in 183 (by decide +kernel) rfl
theorem zm_142 : (Jvm.Cond.selects "RecordMatcher$Run" ({ cls := "RecordMatcher$Run", name := "end", desc := "()V" } : Jvm.MethodName) ({ cls := "RecordMatcher$Run", name := "end", desc := "()V" } : Jvm.MethodName)) ∈ zW := zw_in 184 (by decide +kernel) rfl
theorem zm_143 : (Jvm.Cond.code ({ cls := "RecordMatcher$Run", name := "end", desc := "()V" } : Jvm.MethodName) prog_7_method_3_code (1 : Nat) (Option.none : Option Jvm.ClassFile.FieldType)) ∈ zW := zw_in 185 (by decide +kernel) rfl
theorem zm_144 : (Jvm.Cond.methodLink "RecordMatcherLaw" (23 : Nat) ({ cls := "RecordMatcher", name := "records", desc := "()I" } : Jvm.MethodName)) ∈ zW := zw_in 186 (by decide +kernel) rfl
theorem zm_145 : (Jvm.Cond.instanceMethod ({ cls := "RecordMatcher", name := "records", desc := "()I" } : Jvm.MethodName)) ∈ zW := zw_in 187 (by decide +kernel) rfl
theorem zm_146 : (Jvm.Cond.selects "RecordMatcher" ({ cls := "RecordMatcher", name := "records", desc := "()I" } : Jvm.MethodName) ({ cls := "RecordMatcher", name := "records", desc := "()I" } : Jvm.MethodName)) ∈ zW := zw_in 188 (by decide +kernel) rfl
theorem zm_147 : (Jvm.Cond.code ({ cls := "RecordMatcher", name := "records", desc := "()I" } : Jvm.MethodName) prog_1_method_4_code (1 : Nat) (Option.some Jvm.ClassFile.FieldType.int)) ∈ zW := zw_in 189 (by decide +kernel) rfl
theorem zm_148 : (Jvm.Cond.methodLink "RecordMatcherLaw" (27 : Nat) ({ cls := "RecordMatcher", name := "words", desc := "(II)I" } : Jvm.MethodName)) ∈ zW := zw_in 190 (by decide +kernel) rfl
theorem zm_149 : (Jvm.Cond.instanceMethod ({ cls := "RecordMatcher", name := "words", desc := "(II)I" } : Jvm.MethodName)) ∈ zW := zw_in 191 (by decide +kernel) rfl
theorem zm_150 : (Jvm.Cond.selects "RecordMatcher" ({ cls := "RecordMatcher", name := "words", desc := "(II)I" } : Jvm.MethodName) ({ cls := "RecordMatcher", name := "words", desc := "(II)I" } : Jvm.MethodName)) ∈ zW := zw_in 192 (by decide +kernel) rfl
theorem zm_151 : (Jvm.Cond.code ({ cls := "RecordMatcher", name := "words", desc := "(II)I" } : Jvm.MethodName) prog_1_method_5_code (3 : Nat) (Option.some Jvm.ClassFile.FieldType.int)) ∈ zW := zw_in 193 (by decide +kernel) rfl
theorem zm_152 : (Jvm.Cond.methodLink "RecordMatcher" (54 : Nat) ({ cls := "RecordMatcher", name := "isRecord", desc := "(I)Z" } : Jvm.MethodName)) ∈ zW := zw_in 194 (by decide +kernel) rfl
theorem zm_154 : (Jvm.Cond.instanceMethod ({ cls := "RecordMatcher", name := "isRecord", desc := "(I)Z" } : Jvm.MethodName)) ∈ zW := zw_in 196 (by decide +kernel) rfl
theorem zm_155 : (Jvm.Cond.code ({ cls := "RecordMatcher", name := "isRecord", desc := "(I)Z" } : Jvm.MethodName) prog_1_method_22_code (2 : Nat) (Option.some Jvm.ClassFile.FieldType.boolean)) ∈ zW := zw_in 197 (by decide +kernel) rfl
theorem zm_156 : (Jvm.Cond.methodLink "RecordMatcher" (57 : Nat) ({ cls := "RecordMatcher$Text", name := "wordSetSize", desc := "()I" } : Jvm.MethodName)) ∈ zW := zw_in 198 (by decide +kernel) rfl
theorem zm_157 : (Jvm.Cond.instanceMethod ({ cls := "RecordMatcher$Text", name := "wordSetSize", desc := "()I" } : Jvm.MethodName)) ∈ zW := zw_in 199 (by decide +kernel) rfl
theorem zm_158 : (Jvm.Cond.selects "RecordMatcher$Text" ({ cls := "RecordMatcher$Text", name := "wordSetSize", desc := "()I" } : Jvm.MethodName) ({ cls := "RecordMatcher$Text", name := "wordSetSize", desc := "()I" } : Jvm.MethodName)) ∈ zW := zw_in 200 (by decide +kernel) rfl
theorem zm_159 : (Jvm.Cond.code ({ cls := "RecordMatcher$Text", name := "wordSetSize", desc := "()I" } : Jvm.MethodName) prog_8_method_6_code (3 : Nat) (Option.some Jvm.ClassFile.FieldType.int)) ∈ zW := zw_in 201 (by decide +kernel) rfl
theorem zm_160 : (Jvm.Cond.methodLink "RecordMatcher$Text" (38 : Nat) ({ cls := "RecordMatcher$Text", name := "beginsWord", desc := "(I)Z" } : Jvm.MethodName)) ∈ zW := zw_in 202 (by decide +kernel) rfl
theorem zm_162 : (Jvm.Cond.instanceMethod ({ cls := "RecordMatcher$Text", name := "beginsWord", desc := "(I)Z" } : Jvm.MethodName)) ∈ zW := zw_in 204 (by decide +kernel) rfl
theorem zm_163 : (Jvm.Cond.code ({ cls := "RecordMatcher$Text", name := "beginsWord", desc := "(I)Z" } : Jvm.MethodName) prog_8_method_10_code (2 : Nat) (Option.some Jvm.ClassFile.FieldType.boolean)) ∈ zW := zw_in 205 (by decide +kernel) rfl
theorem zm_164 : (Jvm.Cond.methodLink "RecordMatcher$Text" (42 : Nat) ({ cls := "RecordMatcher$Text", name := "hasWordBefore", desc := "(ILRecordMatcher$Text;I)Z" } : Jvm.MethodName)) ∈ zW := zw_in 206 (by decide +kernel) rfl
theorem zm_166 : (Jvm.Cond.instanceMethod ({ cls := "RecordMatcher$Text", name := "hasWordBefore", desc := "(ILRecordMatcher$Text;I)Z" } : Jvm.MethodName)) ∈ zW := zw_in 208 (by decide +kernel) rfl
theorem zm_167 : (Jvm.Cond.code ({ cls := "RecordMatcher$Text", name := "hasWordBefore", desc := "(ILRecordMatcher$Text;I)Z" } : Jvm.MethodName) prog_8_method_8_code (5 : Nat) (Option.some Jvm.ClassFile.FieldType.boolean)) ∈ zW := zw_in 209 (by decide +kernel) rfl
theorem zm_168 : (Jvm.Cond.methodLink "RecordMatcher$Text" (46 : Nat) ({ cls := "RecordMatcher$Text", name := "isSameWord", desc := "(ILRecordMatcher$Text;I)Z" } : Jvm.MethodName)) ∈ zW := zw_in 210 (by decide +kernel) rfl
theorem zm_170 : (Jvm.Cond.instanceMethod ({ cls := "RecordMatcher$Text", name := "isSameWord", desc := "(ILRecordMatcher$Text;I)Z" } : Jvm.MethodName)) ∈ zW := zw_in 212 (by decide +kernel) rfl
theorem zm_171 : (Jvm.Cond.code ({ cls := "RecordMatcher$Text", name := "isSameWord", desc := "(ILRecordMatcher$Text;I)Z" } : Jvm.MethodName) prog_8_method_9_code (5 : Nat) (Option.some Jvm.ClassFile.FieldType.boolean)) ∈ zW := zw_in 213 (by decide +kernel) rfl
theorem zm_172 : (Jvm.Cond.methodLink "RecordMatcher$Text" (49 : Nat) ({ cls := "RecordMatcher$Text", name := "endsWord", desc := "(I)Z" } : Jvm.MethodName)) ∈ zW := zw_in 214 (by decide +kernel) rfl
theorem zm_174 : (Jvm.Cond.instanceMethod ({ cls := "RecordMatcher$Text", name := "endsWord", desc := "(I)Z" } : Jvm.MethodName)) ∈ zW := zw_in 216 (by decide +kernel) rfl
theorem zm_175 : (Jvm.Cond.code ({ cls := "RecordMatcher$Text", name := "endsWord", desc := "(I)Z" } : Jvm.MethodName) prog_8_method_11_code (2 : Nat) (Option.some Jvm.ClassFile.FieldType.boolean)) ∈ zW := zw_in 217 (by decide +kernel) rfl
theorem zm_176 : (Jvm.Cond.methodLink "RecordMatcherLaw" (32 : Nat) ({ cls := "RecordMatcher", name := "length", desc := "(II)I" } : Jvm.MethodName)) ∈ zW := zw_in 218 (by decide +kernel) rfl
theorem zm_177 : (Jvm.Cond.instanceMethod ({ cls := "RecordMatcher", name := "length", desc := "(II)I" } : Jvm.MethodName)) ∈ zW := zw_in 219 (by decide +kernel) rfl
theorem zm_178 : (Jvm.Cond.selects "RecordMatcher" ({ cls := "RecordMatcher", name := "length", desc := "(II)I" } : Jvm.MethodName) ({ cls := "RecordMatcher", name := "length", desc := "(II)I" } : Jvm.MethodName)) ∈ zW := zw_in 220 (by decide +kernel) rfl
theorem zm_179 : (Jvm.Cond.code ({ cls := "RecordMatcher", name := "length", desc := "(II)I" } : Jvm.MethodName) prog_1_method_6_code (3 : Nat) (Option.some Jvm.ClassFile.FieldType.int)) ∈ zW := zw_in 221 (by decide +kernel) rfl
theorem zm_180 : (Jvm.Cond.methodLink "RecordMatcherLaw" (36 : Nat) ({ cls := "RecordMatcher", name := "unit", desc := "(III)I" } : Jvm.MethodName)) ∈ zW := zw_in 222 (by decide +kernel) rfl
theorem zm_181 : (Jvm.Cond.instanceMethod ({ cls := "RecordMatcher", name := "unit", desc := "(III)I" } : Jvm.MethodName)) ∈ zW := zw_in 223 (by decide +kernel) rfl
theorem zm_182 : (Jvm.Cond.selects "RecordMatcher" ({ cls := "RecordMatcher", name := "unit", desc := "(III)I" } : Jvm.MethodName) ({ cls := "RecordMatcher", name := "unit", desc := "(III)I" } : Jvm.MethodName)) ∈ zW := zw_in 224 (by decide +kernel) rfl
theorem zm_183 : (Jvm.Cond.code ({ cls := "RecordMatcher", name := "unit", desc := "(III)I" } : Jvm.MethodName) prog_1_method_7_code (5 : Nat) (Option.some Jvm.ClassFile.FieldType.int)) ∈ zW := zw_in 225 (by decide +kernel) rfl
theorem zm_184 : (Jvm.Cond.methodLink "RecordMatcherLaw" (41 : Nat) ({ cls := "RecordMatcher", name := "jaccard", desc := "(III)Z" } : Jvm.MethodName)) ∈ zW := zw_in 226 (by decide +kernel) rfl
theorem zm_185 : (Jvm.Cond.instanceMethod ({ cls := "RecordMatcher", name := "jaccard", desc := "(III)Z" } : Jvm.MethodName)) ∈ zW := zw_in 227 (by decide +kernel) rfl
theorem zm_186 : (Jvm.Cond.selects "RecordMatcher" ({ cls := "RecordMatcher", name := "jaccard", desc := "(III)Z" } : Jvm.MethodName) ({ cls := "RecordMatcher", name := "jaccard", desc := "(III)Z" } : Jvm.MethodName)) ∈ zW := zw_in 228 (by decide +kernel) rfl
theorem zm_187 : (Jvm.Cond.code ({ cls := "RecordMatcher", name := "jaccard", desc := "(III)Z" } : Jvm.MethodName) prog_1_method_8_code (4 : Nat) (Option.some Jvm.ClassFile.FieldType.boolean)) ∈ zW := zw_in 229 (by decide +kernel) rfl
theorem zm_188 : (Jvm.Cond.classLink "RecordMatcher" (71 : Nat) "RecordMatcher$Jaccard") ∈ zW := zw_in 230 (by decide +kernel) rfl
theorem zm_189 : (Jvm.Cond.instantiable "RecordMatcher$Jaccard" (5 : Nat)) ∈ zW := zw_in 231 (by decide +kernel) rfl
theorem zm_190 : (Jvm.Cond.methodLink "RecordMatcher" (73 : Nat) ({ cls := "RecordMatcher$Jaccard", name := "<init>", desc := "(III)V" } : Jvm.MethodName)) ∈ zW := zw_in 232 (by decide +kernel) rfl
theorem zm_191 : (Jvm.Cond.instanceMethod ({ cls := "RecordMatcher$Jaccard", name := "<init>", desc := "(III)V" } : Jvm.MethodName)) ∈ zW := zw_in 233 (by decide +kernel) rfl
theorem zm_192 : (Jvm.Cond.code ({ cls := "RecordMatcher$Jaccard", name := "<init>", desc := "(III)V" } : Jvm.MethodName) prog_5_method_1_code (4 : Nat) (Option.none : Option Jvm.ClassFile.FieldType)) ∈ zW := zw_in 234 (by decide +kernel) rfl
theorem zm_193 : (Jvm.Cond.methodLink "RecordMatcher$Jaccard" (1 : Nat) ({ cls := "RecordMatcher$Expression", name := "<init>", desc := "(IZ)V" } : Jvm.MethodName)) ∈ zW := zw_in 235 (by decide +kernel) rfl
theorem zm_194 : (Jvm.Cond.instanceMethod ({ cls := "RecordMatcher$Expression", name := "<init>", desc := "(IZ)V" } : Jvm.MethodName)) ∈ zW := zw_in 236 (by decide +kernel) rfl
theorem zm_195 : (Jvm.Cond.code ({ cls := "RecordMatcher$Expression", name := "<init>", desc := "(IZ)V" } : Jvm.MethodName) prog_4_method_1_code (3 : Nat) (Option.none : Option Jvm.ClassFile.FieldType)) ∈ zW := zw_in 237 (by decide +kernel) rfl
theorem zm_196 : (Jvm.Cond.methodLink "RecordMatcher$Expression" (1 : Nat) ({ cls := "java/lang/Object", name := "<init>", desc := "()V" } : Jvm.MethodName)) ∈ zW := zw_in 238 (by decide +kernel) rfl
theorem zm_197 : (Jvm.Cond.fieldLink "RecordMatcher$Jaccard" (7 : Nat) "RecordMatcher$Jaccard" "field" "I") ∈ zW := zw_in 239 (by decide +kernel) rfl
theorem zm_198 : (Jvm.Cond.fieldLink "RecordMatcher$Jaccard" (13 : Nat) "RecordMatcher$Jaccard" "num" "I") ∈ zW := zw_in 240 (by decide +kernel) rfl
theorem zm_199 : (Jvm.Cond.fieldLink "RecordMatcher$Jaccard" (16 : Nat) "RecordMatcher$Jaccard" "den" "I") ∈ zW := zw_in 241 (by decide +kernel) rfl
theorem zm_200 : (Jvm.Cond.fieldLink "RecordMatcher$Joined" (1 : Nat) "RecordMatcher$Expression" "comparisons" "I") ∈ zW := zw_in 242 (by decide +kernel) rfl
theorem zm_201 : (Jvm.Cond.fieldLink "RecordMatcher$Expression" (7 : Nat) "RecordMatcher$Expression" "comparisons" "I") ∈ zW := zw_in 243 (by decide +kernel) rfl
theorem zm_202 : (Jvm.Cond.fieldLink "RecordMatcher" (89 : Nat) "RecordMatcher$Expression" "comparisons" "I") ∈ zW := zw_in 244 (by decide +kernel) rfl
theorem zm_203 : (Jvm.Cond.fieldLink "RecordMatcher$Expression" (13 : Nat) "RecordMatcher$Expression" "driven" "Z") ∈ zW := zw_in 245 (by decide +kernel) rfl
theorem zm_204 : (Jvm.Cond.fieldLink "RecordMatcher$Joined" (7 : Nat) "RecordMatcher$Expression" "driven" "Z") ∈ zW := zw_in 246 (by decide +kernel) rfl
theorem zm_205 : (Jvm.Cond.fieldLink "RecordMatcher" (97 : Nat) "RecordMatcher$Expression" "driven" "Z") ∈ zW := zw_in 247 (by decide +kernel) rfl
theorem zm_217 : (Jvm.Cond.methodLink "RecordMatcher" (76 : Nat) ({ cls := "RecordMatcher", name := "push", desc := "(LRecordMatcher$Expression;)V" } : Jvm.MethodName)) ∈ zW := zw_in 259 (by decide +kernel) rfl
theorem zm_219 : (Jvm.Cond.instanceMethod ({ cls := "RecordMatcher", name := "push", desc := "(LRecordMatcher$Expression;)V" } : Jvm.MethodName)) ∈ zW := zw_in 261 (by decide +kernel) rfl
theorem zm_220 : (Jvm.Cond.code ({ cls := "RecordMatcher", name := "push", desc := "(LRecordMatcher$Expression;)V" } : Jvm.MethodName) prog_1_method_27_code (2 : Nat) (Option.none : Option Jvm.ClassFile.FieldType)) ∈ zW := zw_in 262 (by decide +kernel) rfl
theorem zm_221 : (Jvm.Cond.methodLink "RecordMatcherLaw" (46 : Nat) ({ cls := "RecordMatcher", name := "edit", desc := "(II)Z" } : Jvm.MethodName)) ∈ zW := zw_in 263 (by decide +kernel) rfl
theorem zm_222 : (Jvm.Cond.instanceMethod ({ cls := "RecordMatcher", name := "edit", desc := "(II)Z" } : Jvm.MethodName)) ∈ zW := zw_in 264 (by decide +kernel) rfl
theorem zm_223 : (Jvm.Cond.selects "RecordMatcher" ({ cls := "RecordMatcher", name := "edit", desc := "(II)Z" } : Jvm.MethodName) ({ cls := "RecordMatcher", name := "edit", desc := "(II)Z" } : Jvm.MethodName)) ∈ zW := zw_in 265 (by decide +kernel) rfl
theorem zm_224 : (Jvm.Cond.code ({ cls := "RecordMatcher", name := "edit", desc := "(II)Z" } : Jvm.MethodName) prog_1_method_9_code (3 : Nat) (Option.some Jvm.ClassFile.FieldType.boolean)) ∈ zW := zw_in 266 (by decide +kernel) rfl
theorem zm_225 : (Jvm.Cond.classLink "RecordMatcher" (80 : Nat) "RecordMatcher$Edit") ∈ zW := zw_in 267 (by decide +kernel) rfl
theorem zm_226 : (Jvm.Cond.instantiable "RecordMatcher$Edit" (5 : Nat)) ∈ zW := zw_in 268 (by decide +kernel) rfl
theorem zm_227 : (Jvm.Cond.methodLink "RecordMatcher" (82 : Nat) ({ cls := "RecordMatcher$Edit", name := "<init>", desc := "(II)V" } : Jvm.MethodName)) ∈ zW := zw_in 269 (by decide +kernel) rfl
theorem zm_228 : (Jvm.Cond.instanceMethod ({ cls := "RecordMatcher$Edit", name := "<init>", desc := "(II)V" } : Jvm.MethodName)) ∈ zW := zw_in 270 (by decide +kernel) rfl
theorem zm_229 : (Jvm.Cond.code ({ cls := "RecordMatcher$Edit", name := "<init>", desc := "(II)V" } : Jvm.MethodName) prog_2_method_1_code (3 : Nat) (Option.none : Option Jvm.ClassFile.FieldType)) ∈ zW := zw_in 271 (by decide +kernel) rfl
theorem zm_230 : (Jvm.Cond.methodLink "RecordMatcher$Edit" (3 : Nat) ({ cls := "RecordMatcher$Expression", name := "<init>", desc := "(IZ)V" } : Jvm.MethodName)) ∈ zW := zw_in 272 (by decide +kernel) rfl
theorem zm_231 : (Jvm.Cond.fieldLink "RecordMatcher$Edit" (15 : Nat) "RecordMatcher$Edit" "field" "I") ∈ zW := zw_in 273 (by decide +kernel) rfl
theorem zm_232 : (Jvm.Cond.fieldLink "RecordMatcher$Edit" (19 : Nat) "RecordMatcher$Edit" "most" "I") ∈ zW := zw_in 274 (by decide +kernel) rfl
theorem zm_233 : (Jvm.Cond.fieldLink "RecordMatcher$Edit" (9 : Nat) "RecordMatcher$Edit" "row" "[I") ∈ zW := zw_in 275 (by decide +kernel) rfl
theorem zm_243 : (Jvm.Cond.methodLink "RecordMatcherLaw" (51 : Nat) ({ cls := "RecordMatcher", name := "join", desc := "(Z)Z" } : Jvm.MethodName)) ∈ zW := zw_in 285 (by decide +kernel) rfl
theorem zm_244 : (Jvm.Cond.instanceMethod ({ cls := "RecordMatcher", name := "join", desc := "(Z)Z" } : Jvm.MethodName)) ∈ zW := zw_in 286 (by decide +kernel) rfl
theorem zm_245 : (Jvm.Cond.selects "RecordMatcher" ({ cls := "RecordMatcher", name := "join", desc := "(Z)Z" } : Jvm.MethodName) ({ cls := "RecordMatcher", name := "join", desc := "(Z)Z" } : Jvm.MethodName)) ∈ zW := zw_in 287 (by decide +kernel) rfl
theorem zm_246 : (Jvm.Cond.code ({ cls := "RecordMatcher", name := "join", desc := "(Z)Z" } : Jvm.MethodName) prog_1_method_10_code (4 : Nat) (Option.some Jvm.ClassFile.FieldType.boolean)) ∈ zW := zw_in 288 (by decide +kernel) rfl
theorem zm_247 : (Jvm.Cond.methodLink "RecordMatcher" (85 : Nat) ({ cls := "RecordMatcher", name := "fromTop", desc := "(I)LRecordMatcher$Expression;" } : Jvm.MethodName)) ∈ zW := zw_in 289 (by decide +kernel) rfl
theorem zm_249 : (Jvm.Cond.instanceMethod ({ cls := "RecordMatcher", name := "fromTop", desc := "(I)LRecordMatcher$Expression;" } : Jvm.MethodName)) ∈ zW := zw_in 291 (by decide +kernel) rfl
theorem zm_250 : (Jvm.Cond.code ({ cls := "RecordMatcher", name := "fromTop", desc := "(I)LRecordMatcher$Expression;" } : Jvm.MethodName) prog_1_method_26_code (2 : Nat) (Option.some (Jvm.ClassFile.FieldType.object "RecordMatcher$Expression"))) ∈ zW := zw_in 292 (by decide +kernel) rfl
theorem zm_251 : (Jvm.Cond.classLink "RecordMatcher" (92 : Nat) "RecordMatcher$Joined") ∈ zW := zw_in 293 (by decide +kernel) rfl
theorem zm_252 : (Jvm.Cond.instantiable "RecordMatcher$Joined" (5 : Nat)) ∈ zW := zw_in 294 (by decide +kernel) rfl
theorem zm_253 : (Jvm.Cond.methodLink "RecordMatcher" (94 : Nat) ({ cls := "RecordMatcher$Joined", name := "<init>", desc := "(ZLRecordMatcher$Expression;LRecordMatcher$Expression;)V" } : Jvm.MethodName)) ∈ zW := zw_in 295 (by decide +kernel) rfl
theorem zm_254 : (Jvm.Cond.instanceMethod ({ cls := "RecordMatcher$Joined", name := "<init>", desc := "(ZLRecordMatcher$Expression;LRecordMatcher$Expression;)V" } : Jvm.MethodName)) ∈ zW := zw_in 296 (by decide +kernel) rfl
theorem zm_255 : (Jvm.Cond.code ({ cls := "RecordMatcher$Joined", name := "<init>", desc := "(ZLRecordMatcher$Expression;LRecordMatcher$Expression;)V" } : Jvm.MethodName) prog_6_method_1_code (4 : Nat) (Option.none : Option Jvm.ClassFile.FieldType)) ∈ zW := zw_in 297 (by decide +kernel) rfl
theorem zm_256 : (Jvm.Cond.methodLink "RecordMatcher$Joined" (11 : Nat) ({ cls := "RecordMatcher$Expression", name := "<init>", desc := "(IZ)V" } : Jvm.MethodName)) ∈ zW := zw_in 298 (by decide +kernel) rfl
theorem zm_257 : (Jvm.Cond.fieldLink "RecordMatcher$Joined" (15 : Nat) "RecordMatcher$Joined" "all" "Z") ∈ zW := zw_in 299 (by decide +kernel) rfl
theorem zm_258 : (Jvm.Cond.fieldLink "RecordMatcher$Joined" (20 : Nat) "RecordMatcher$Joined" "lower" "LRecordMatcher$Expression;") ∈ zW := zw_in 300 (by decide +kernel) rfl
theorem zm_259 : (Jvm.Cond.fieldLink "RecordMatcher$Joined" (24 : Nat) "RecordMatcher$Joined" "upper" "LRecordMatcher$Expression;") ∈ zW := zw_in 301 (by decide +kernel) rfl
theorem zm_269 : (Jvm.Cond.methodLink "RecordMatcherLaw" (56 : Nat) ({ cls := "RecordMatcher", name := "accept", desc := "()I" } : Jvm.MethodName)) ∈ zW := zw_in 311 (by decide +kernel) rfl
theorem zm_270 : (Jvm.Cond.instanceMethod ({ cls := "RecordMatcher", name := "accept", desc := "()I" } : Jvm.MethodName)) ∈ zW := zw_in 312 (by decide +kernel) rfl
theorem zm_271 : (Jvm.Cond.selects "RecordMatcher" ({ cls := "RecordMatcher", name := "accept", desc := "()I" } : Jvm.MethodName) ({ cls := "RecordMatcher", name := "accept", desc := "()I" } : Jvm.MethodName)) ∈ zW := zw_in 313 (by decide +kernel) rfl
theorem zm_272 : (Jvm.Cond.code ({ cls := "RecordMatcher", name := "accept", desc := "()I" } : Jvm.MethodName) prog_1_method_11_code (2 : Nat) (Option.some Jvm.ClassFile.FieldType.int)) ∈ zW := zw_in 314 (by decide +kernel) rfl
theorem zm_273 : (Jvm.Cond.methodLink "RecordMatcherLaw" (60 : Nat) ({ cls := "RecordMatcher", name := "discard", desc := "()Z" } : Jvm.MethodName)) ∈ zW := zw_in 315 (by decide +kernel) rfl
theorem zm_274 : (Jvm.Cond.instanceMethod ({ cls := "RecordMatcher", name := "discard", desc := "()Z" } : Jvm.MethodName)) ∈ zW := zw_in 316 (by decide +kernel) rfl
theorem zm_275 : (Jvm.Cond.selects "RecordMatcher" ({ cls := "RecordMatcher", name := "discard", desc := "()Z" } : Jvm.MethodName) ({ cls := "RecordMatcher", name := "discard", desc := "()Z" } : Jvm.MethodName)) ∈ zW := zw_in 317 (by decide +kernel) rfl
theorem zm_276 : (Jvm.Cond.code ({ cls := "RecordMatcher", name := "discard", desc := "()Z" } : Jvm.MethodName) prog_1_method_12_code (1 : Nat) (Option.some Jvm.ClassFile.FieldType.boolean)) ∈ zW := zw_in 318 (by decide +kernel) rfl
theorem zm_277 : (Jvm.Cond.methodLink "RecordMatcherLaw" (65 : Nat) ({ cls := "RecordMatcher", name := "similar", desc := "(II)I" } : Jvm.MethodName)) ∈ zW := zw_in 319 (by decide +kernel) rfl
theorem zm_278 : (Jvm.Cond.instanceMethod ({ cls := "RecordMatcher", name := "similar", desc := "(II)I" } : Jvm.MethodName)) ∈ zW := zw_in 320 (by decide +kernel) rfl
theorem zm_279 : (Jvm.Cond.selects "RecordMatcher" ({ cls := "RecordMatcher", name := "similar", desc := "(II)I" } : Jvm.MethodName) ({ cls := "RecordMatcher", name := "similar", desc := "(II)I" } : Jvm.MethodName)) ∈ zW := zw_in 321 (by decide +kernel) rfl
theorem zm_280 : (Jvm.Cond.code ({ cls := "RecordMatcher", name := "similar", desc := "(II)I" } : Jvm.MethodName) prog_1_method_13_code (3 : Nat) (Option.some Jvm.ClassFile.FieldType.int)) ∈ zW := zw_in 322 (by decide +kernel) rfl
theorem zm_281 : (Jvm.Cond.methodLink "RecordMatcher" (105 : Nat) ({ cls := "RecordMatcher", name := "areTwoRecords", desc := "(II)Z" } : Jvm.MethodName)) ∈ zW := zw_in 323 (by decide +kernel) rfl
theorem zm_283 : (Jvm.Cond.instanceMethod ({ cls := "RecordMatcher", name := "areTwoRecords", desc := "(II)Z" } : Jvm.MethodName)) ∈ zW := zw_in 325 (by decide +kernel) rfl
theorem zm_284 : (Jvm.Cond.code ({ cls := "RecordMatcher", name := "areTwoRecords", desc := "(II)Z" } : Jvm.MethodName) prog_1_method_24_code (3 : Nat) (Option.some Jvm.ClassFile.FieldType.boolean)) ∈ zW := zw_in 326 (by decide +kernel) rfl
theorem zm_285 : (Jvm.Cond.methodLink "RecordMatcher" (109 : Nat) ({ cls := "RecordMatcher$Expression", name := "holdsOf", desc := "(LRecordMatcher$Entry;LRecordMatcher$Entry;)Z" } : Jvm.MethodName)) ∈ zW := zw_in 327 (by decide +kernel) rfl
theorem zm_287 : (Jvm.Cond.sameMethod "RecordMatcher$Expression" "RecordMatcher$Expression" "holdsOf" "(LRecordMatcher$Entry;LRecordMatcher$Entry;)Z") ∈ zW := zw_in 329 (by decide +kernel) rfl
theorem zm_288 : (Jvm.Cond.selects "RecordMatcher$Edit" ({ cls := "RecordMatcher$Expression", name := "holdsOf", desc := "(LRecordMatcher$Entry;LRecordMatcher$Entry;)Z" } : Jvm.MethodName) ({ cls := "RecordMatcher$Edit", name := "holdsOf", desc := "(LRecordMatcher$Entry;LRecordMatcher$Entry;)Z" } : Jvm.MethodName)) ∈ zW := zw_in 330 (by decide +kernel) rfl
theorem zm_289 : (Jvm.Cond.instanceMethod ({ cls := "RecordMatcher$Edit", name := "holdsOf", desc := "(LRecordMatcher$Entry;LRecordMatcher$Entry;)Z" } : Jvm.MethodName)) ∈ zW := zw_in 331 (by decide +kernel) rfl
theorem zm_290 : (Jvm.Cond.code ({ cls := "RecordMatcher$Edit", name := "holdsOf", desc := "(LRecordMatcher$Entry;LRecordMatcher$Entry;)Z" } : Jvm.MethodName) prog_2_method_2_code (3 : Nat) (Option.some Jvm.ClassFile.FieldType.boolean)) ∈ zW := zw_in 332 (by decide +kernel) rfl
theorem zm_291 : (Jvm.Cond.methodLink "RecordMatcher$Edit" (22 : Nat) ({ cls := "RecordMatcher$Entry", name := "text", desc := "(I)LRecordMatcher$Text;" } : Jvm.MethodName)) ∈ zW := zw_in 333 (by decide +kernel) rfl
theorem zm_292 : (Jvm.Cond.methodLink "RecordMatcher$Edit" (28 : Nat) ({ cls := "RecordMatcher$Edit", name := "countSteps", desc := "(LRecordMatcher$Text;LRecordMatcher$Text;)I" } : Jvm.MethodName)) ∈ zW := zw_in 334 (by decide +kernel) rfl
theorem zm_294 : (Jvm.Cond.instanceMethod ({ cls := "RecordMatcher$Edit", name := "countSteps", desc := "(LRecordMatcher$Text;LRecordMatcher$Text;)I" } : Jvm.MethodName)) ∈ zW := zw_in 336 (by decide +kernel) rfl
theorem zm_295 : (Jvm.Cond.code ({ cls := "RecordMatcher$Edit", name := "countSteps", desc := "(LRecordMatcher$Text;LRecordMatcher$Text;)I" } : Jvm.MethodName) prog_2_method_3_code (4 : Nat) (Option.some Jvm.ClassFile.FieldType.int)) ∈ zW := zw_in 337 (by decide +kernel) rfl
theorem zm_296 : (Jvm.Cond.methodLink "RecordMatcher$Edit" (41 : Nat) ({ cls := "RecordMatcher$Edit", name := "goThrough", desc := "(CLRecordMatcher$Text;)V" } : Jvm.MethodName)) ∈ zW := zw_in 338 (by decide +kernel) rfl
theorem zm_298 : (Jvm.Cond.instanceMethod ({ cls := "RecordMatcher$Edit", name := "goThrough", desc := "(CLRecordMatcher$Text;)V" } : Jvm.MethodName)) ∈ zW := zw_in 340 (by decide +kernel) rfl
theorem zm_299 : (Jvm.Cond.code ({ cls := "RecordMatcher$Edit", name := "goThrough", desc := "(CLRecordMatcher$Text;)V" } : Jvm.MethodName) prog_2_method_4_code (6 : Nat) (Option.none : Option Jvm.ClassFile.FieldType)) ∈ zW := zw_in 341 (by decide +kernel) rfl
theorem zm_300 : (Jvm.Cond.methodLink "RecordMatcher$Edit" (45 : Nat) ({ cls := "java/lang/Math", name := "min", desc := "(II)I" } : Jvm.MethodName)) ∈ zW := zw_in 342 (by decide +kernel) rfl
theorem zm_301 : (Jvm.Cond.static ({ cls := "java/lang/Math", name := "min", desc := "(II)I" } : Jvm.MethodName)) ∈ zW := zw_in 343 (by decide +kernel) rfl
theorem zm_302 : (Jvm.Cond.code ({ cls := "java/lang/Math", name := "min", desc := "(II)I" } : Jvm.MethodName) prog_11_method_69_code (2 : Nat) (Option.some Jvm.ClassFile.FieldType.int)) ∈ zW := zw_in 344 (by decide +kernel) rfl
theorem zm_303 : (Jvm.Cond.selects "RecordMatcher$Jaccard" ({ cls := "RecordMatcher$Expression", name := "holdsOf", desc := "(LRecordMatcher$Entry;LRecordMatcher$Entry;)Z" } : Jvm.MethodName) ({ cls := "RecordMatcher$Jaccard", name := "holdsOf", desc := "(LRecordMatcher$Entry;LRecordMatcher$Entry;)Z" } : Jvm.MethodName)) ∈ zW := zw_in 345 (by decide +kernel) rfl
theorem zm_304 : (Jvm.Cond.instanceMethod ({ cls := "RecordMatcher$Jaccard", name := "holdsOf", desc := "(LRecordMatcher$Entry;LRecordMatcher$Entry;)Z" } : Jvm.MethodName)) ∈ zW := zw_in 346 (by decide +kernel) rfl
theorem zm_305 : (Jvm.Cond.code ({ cls := "RecordMatcher$Jaccard", name := "holdsOf", desc := "(LRecordMatcher$Entry;LRecordMatcher$Entry;)Z" } : Jvm.MethodName) prog_5_method_2_code (7 : Nat) (Option.some Jvm.ClassFile.FieldType.boolean)) ∈ zW := zw_in 347 (by decide +kernel) rfl
theorem zm_306 : (Jvm.Cond.methodLink "RecordMatcher$Jaccard" (19 : Nat) ({ cls := "RecordMatcher$Entry", name := "text", desc := "(I)LRecordMatcher$Text;" } : Jvm.MethodName)) ∈ zW := zw_in 348 (by decide +kernel) rfl
theorem zm_307 : (Jvm.Cond.methodLink "RecordMatcher$Jaccard" (25 : Nat) ({ cls := "RecordMatcher$Text", name := "countWordsSharedWith", desc := "(LRecordMatcher$Text;)I" } : Jvm.MethodName)) ∈ zW := zw_in 349 (by decide +kernel) rfl
theorem zm_308 : (Jvm.Cond.instanceMethod ({ cls := "RecordMatcher$Text", name := "countWordsSharedWith", desc := "(LRecordMatcher$Text;)I" } : Jvm.MethodName)) ∈ zW := zw_in 350 (by decide +kernel) rfl
theorem zm_309 : (Jvm.Cond.selects "RecordMatcher$Text" ({ cls := "RecordMatcher$Text", name := "countWordsSharedWith", desc := "(LRecordMatcher$Text;)I" } : Jvm.MethodName) ({ cls := "RecordMatcher$Text", name := "countWordsSharedWith", desc := "(LRecordMatcher$Text;)I" } : Jvm.MethodName)) ∈ zW := zw_in 351 (by decide +kernel) rfl
theorem zm_310 : (Jvm.Cond.code ({ cls := "RecordMatcher$Text", name := "countWordsSharedWith", desc := "(LRecordMatcher$Text;)I" } : Jvm.MethodName) prog_8_method_7_code (4 : Nat) (Option.some Jvm.ClassFile.FieldType.int)) ∈ zW := zw_in 352 (by decide +kernel) rfl
theorem zm_311 : (Jvm.Cond.methodLink "RecordMatcher$Jaccard" (31 : Nat) ({ cls := "RecordMatcher$Text", name := "wordSetSize", desc := "()I" } : Jvm.MethodName)) ∈ zW := zw_in 353 (by decide +kernel) rfl
theorem zm_312 : (Jvm.Cond.selects "RecordMatcher$Joined" ({ cls := "RecordMatcher$Expression", name := "holdsOf", desc := "(LRecordMatcher$Entry;LRecordMatcher$Entry;)Z" } : Jvm.MethodName) ({ cls := "RecordMatcher$Joined", name := "holdsOf", desc := "(LRecordMatcher$Entry;LRecordMatcher$Entry;)Z" } : Jvm.MethodName)) ∈ zW := zw_in 354 (by decide +kernel) rfl
theorem zm_313 : (Jvm.Cond.instanceMethod ({ cls := "RecordMatcher$Joined", name := "holdsOf", desc := "(LRecordMatcher$Entry;LRecordMatcher$Entry;)Z" } : Jvm.MethodName)) ∈ zW := zw_in 355 (by decide +kernel) rfl
theorem zm_314 : (Jvm.Cond.code ({ cls := "RecordMatcher$Joined", name := "holdsOf", desc := "(LRecordMatcher$Entry;LRecordMatcher$Entry;)Z" } : Jvm.MethodName) prog_6_method_2_code (3 : Nat) (Option.some Jvm.ClassFile.FieldType.boolean)) ∈ zW := zw_in 356 (by decide +kernel) rfl
theorem zm_315 : (Jvm.Cond.methodLink "RecordMatcher$Joined" (27 : Nat) ({ cls := "RecordMatcher$Expression", name := "holdsOf", desc := "(LRecordMatcher$Entry;LRecordMatcher$Entry;)Z" } : Jvm.MethodName)) ∈ zW := zw_in 357 (by decide +kernel) rfl
theorem zm_316 : (Jvm.Cond.methodLink "RecordMatcherLaw" (69 : Nat) ({ cls := "RecordMatcher", name := "start", desc := "(I)I" } : Jvm.MethodName)) ∈ zW := zw_in 358 (by decide +kernel) rfl
theorem zm_317 : (Jvm.Cond.instanceMethod ({ cls := "RecordMatcher", name := "start", desc := "(I)I" } : Jvm.MethodName)) ∈ zW := zw_in 359 (by decide +kernel) rfl
theorem zm_318 : (Jvm.Cond.selects "RecordMatcher" ({ cls := "RecordMatcher", name := "start", desc := "(I)I" } : Jvm.MethodName) ({ cls := "RecordMatcher", name := "start", desc := "(I)I" } : Jvm.MethodName)) ∈ zW := zw_in 360 (by decide +kernel) rfl
theorem zm_319 : (Jvm.Cond.code ({ cls := "RecordMatcher", name := "start", desc := "(I)I" } : Jvm.MethodName) prog_1_method_14_code (2 : Nat) (Option.some Jvm.ClassFile.FieldType.int)) ∈ zW := zw_in 361 (by decide +kernel) rfl
theorem zm_320 : (Jvm.Cond.methodLink "RecordMatcher" (113 : Nat) ({ cls := "RecordMatcher$Run", name := "begin", desc := "(II)V" } : Jvm.MethodName)) ∈ zW := zw_in 362 (by decide +kernel) rfl
theorem zm_321 : (Jvm.Cond.instanceMethod ({ cls := "RecordMatcher$Run", name := "begin", desc := "(II)V" } : Jvm.MethodName)) ∈ zW := zw_in 363 (by decide +kernel) rfl
theorem zm_322 : (Jvm.Cond.selects "RecordMatcher$Run" ({ cls := "RecordMatcher$Run", name := "begin", desc := "(II)V" } : Jvm.MethodName) ({ cls := "RecordMatcher$Run", name := "begin", desc := "(II)V" } : Jvm.MethodName)) ∈ zW := zw_in 364 (by decide +kernel) rfl
theorem zm_323 : (Jvm.Cond.code ({ cls := "RecordMatcher$Run", name := "begin", desc := "(II)V" } : Jvm.MethodName) prog_7_method_2_code (4 : Nat) (Option.none : Option Jvm.ClassFile.FieldType)) ∈ zW := zw_in 365 (by decide +kernel) rfl
theorem zm_324 : (Jvm.Cond.methodLink "RecordMatcherLaw" (74 : Nat) ({ cls := "RecordMatcher", name := "work", desc := "(I)I" } : Jvm.MethodName)) ∈ zW := zw_in 366 (by decide +kernel) rfl
theorem zm_325 : (Jvm.Cond.instanceMethod ({ cls := "RecordMatcher", name := "work", desc := "(I)I" } : Jvm.MethodName)) ∈ zW := zw_in 367 (by decide +kernel) rfl
theorem zm_326 : (Jvm.Cond.selects "RecordMatcher" ({ cls := "RecordMatcher", name := "work", desc := "(I)I" } : Jvm.MethodName) ({ cls := "RecordMatcher", name := "work", desc := "(I)I" } : Jvm.MethodName)) ∈ zW := zw_in 368 (by decide +kernel) rfl
theorem zm_327 : (Jvm.Cond.code ({ cls := "RecordMatcher", name := "work", desc := "(I)I" } : Jvm.MethodName) prog_1_method_15_code (5 : Nat) (Option.some Jvm.ClassFile.FieldType.int)) ∈ zW := zw_in 369 (by decide +kernel) rfl
theorem zm_328 : (Jvm.Cond.methodLink "RecordMatcher" (116 : Nat) ({ cls := "RecordMatcher$Run", name := "isOpen", desc := "()Z" } : Jvm.MethodName)) ∈ zW := zw_in 370 (by decide +kernel) rfl
theorem zm_329 : (Jvm.Cond.instanceMethod ({ cls := "RecordMatcher$Run", name := "isOpen", desc := "()Z" } : Jvm.MethodName)) ∈ zW := zw_in 371 (by decide +kernel) rfl
theorem zm_330 : (Jvm.Cond.selects "RecordMatcher$Run" ({ cls := "RecordMatcher$Run", name := "isOpen", desc := "()Z" } : Jvm.MethodName) ({ cls := "RecordMatcher$Run", name := "isOpen", desc := "()Z" } : Jvm.MethodName)) ∈ zW := zw_in 372 (by decide +kernel) rfl
theorem zm_331 : (Jvm.Cond.code ({ cls := "RecordMatcher$Run", name := "isOpen", desc := "()Z" } : Jvm.MethodName) prog_7_method_4_code (1 : Nat) (Option.some Jvm.ClassFile.FieldType.boolean)) ∈ zW := zw_in 373 (by decide +kernel) rfl
theorem zm_332 : (Jvm.Cond.methodLink "RecordMatcher" (120 : Nat) ({ cls := "RecordMatcher$Run", name := "hasWorker", desc := "(I)Z" } : Jvm.MethodName)) ∈ zW := zw_in 374 (by decide +kernel) rfl
theorem zm_333 : (Jvm.Cond.instanceMethod ({ cls := "RecordMatcher$Run", name := "hasWorker", desc := "(I)Z" } : Jvm.MethodName)) ∈ zW := zw_in 375 (by decide +kernel) rfl
theorem zm_334 : (Jvm.Cond.selects "RecordMatcher$Run" ({ cls := "RecordMatcher$Run", name := "hasWorker", desc := "(I)Z" } : Jvm.MethodName) ({ cls := "RecordMatcher$Run", name := "hasWorker", desc := "(I)Z" } : Jvm.MethodName)) ∈ zW := zw_in 376 (by decide +kernel) rfl
theorem zm_335 : (Jvm.Cond.code ({ cls := "RecordMatcher$Run", name := "hasWorker", desc := "(I)Z" } : Jvm.MethodName) prog_7_method_5_code (2 : Nat) (Option.some Jvm.ClassFile.FieldType.boolean)) ∈ zW := zw_in 377 (by decide +kernel) rfl
theorem zm_336 : (Jvm.Cond.methodLink "RecordMatcher" (123 : Nat) ({ cls := "RecordMatcher$Run", name := "nextTask", desc := "(I)I" } : Jvm.MethodName)) ∈ zW := zw_in 378 (by decide +kernel) rfl
theorem zm_337 : (Jvm.Cond.instanceMethod ({ cls := "RecordMatcher$Run", name := "nextTask", desc := "(I)I" } : Jvm.MethodName)) ∈ zW := zw_in 379 (by decide +kernel) rfl
theorem zm_338 : (Jvm.Cond.selects "RecordMatcher$Run" ({ cls := "RecordMatcher$Run", name := "nextTask", desc := "(I)I" } : Jvm.MethodName) ({ cls := "RecordMatcher$Run", name := "nextTask", desc := "(I)I" } : Jvm.MethodName)) ∈ zW := zw_in 380 (by decide +kernel) rfl
theorem zm_339 : (Jvm.Cond.code ({ cls := "RecordMatcher$Run", name := "nextTask", desc := "(I)I" } : Jvm.MethodName) prog_7_method_7_code (2 : Nat) (Option.some Jvm.ClassFile.FieldType.int)) ∈ zW := zw_in 381 (by decide +kernel) rfl
theorem zm_340 : (Jvm.Cond.methodLink "RecordMatcher$Run" (29 : Nat) ({ cls := "RecordMatcher$Run", name := "taskOf", desc := "(II)I" } : Jvm.MethodName)) ∈ zW := zw_in 382 (by decide +kernel) rfl
theorem zm_342 : (Jvm.Cond.instanceMethod ({ cls := "RecordMatcher$Run", name := "taskOf", desc := "(II)I" } : Jvm.MethodName)) ∈ zW := zw_in 384 (by decide +kernel) rfl
theorem zm_343 : (Jvm.Cond.code ({ cls := "RecordMatcher$Run", name := "taskOf", desc := "(II)I" } : Jvm.MethodName) prog_7_method_8_code (3 : Nat) (Option.some Jvm.ClassFile.FieldType.int)) ∈ zW := zw_in 385 (by decide +kernel) rfl
theorem zm_344 : (Jvm.Cond.methodLink "RecordMatcher" (130 : Nat) ({ cls := "RecordMatcher$Run", name := "note", desc := "(II)V" } : Jvm.MethodName)) ∈ zW := zw_in 386 (by decide +kernel) rfl
theorem zm_345 : (Jvm.Cond.instanceMethod ({ cls := "RecordMatcher$Run", name := "note", desc := "(II)V" } : Jvm.MethodName)) ∈ zW := zw_in 387 (by decide +kernel) rfl
theorem zm_346 : (Jvm.Cond.selects "RecordMatcher$Run" ({ cls := "RecordMatcher$Run", name := "note", desc := "(II)V" } : Jvm.MethodName) ({ cls := "RecordMatcher$Run", name := "note", desc := "(II)V" } : Jvm.MethodName)) ∈ zW := zw_in 388 (by decide +kernel) rfl
theorem zm_347 : (Jvm.Cond.code ({ cls := "RecordMatcher$Run", name := "note", desc := "(II)V" } : Jvm.MethodName) prog_7_method_12_code (3 : Nat) (Option.none : Option Jvm.ClassFile.FieldType)) ∈ zW := zw_in 389 (by decide +kernel) rfl
theorem zm_348 : (Jvm.Cond.methodLink "RecordMatcher$Run" (37 : Nat) ({ cls := "RecordMatcher$Run", name := "placeOf", desc := "(II)I" } : Jvm.MethodName)) ∈ zW := zw_in 390 (by decide +kernel) rfl
theorem zm_349 : (Jvm.Cond.static ({ cls := "RecordMatcher$Run", name := "placeOf", desc := "(II)I" } : Jvm.MethodName)) ∈ zW := zw_in 391 (by decide +kernel) rfl
theorem zm_350 : (Jvm.Cond.code ({ cls := "RecordMatcher$Run", name := "placeOf", desc := "(II)I" } : Jvm.MethodName) prog_7_method_14_code (2 : Nat) (Option.some Jvm.ClassFile.FieldType.int)) ∈ zW := zw_in 392 (by decide +kernel) rfl
theorem zm_351 : (Jvm.Cond.methodLink "RecordMatcher" (133 : Nat) ({ cls := "RecordMatcher$Run", name := "finishTask", desc := "(I)V" } : Jvm.MethodName)) ∈ zW := zw_in 393 (by decide +kernel) rfl
theorem zm_352 : (Jvm.Cond.instanceMethod ({ cls := "RecordMatcher$Run", name := "finishTask", desc := "(I)V" } : Jvm.MethodName)) ∈ zW := zw_in 394 (by decide +kernel) rfl
theorem zm_353 : (Jvm.Cond.selects "RecordMatcher$Run" ({ cls := "RecordMatcher$Run", name := "finishTask", desc := "(I)V" } : Jvm.MethodName) ({ cls := "RecordMatcher$Run", name := "finishTask", desc := "(I)V" } : Jvm.MethodName)) ∈ zW := zw_in 395 (by decide +kernel) rfl
theorem zm_354 : (Jvm.Cond.code ({ cls := "RecordMatcher$Run", name := "finishTask", desc := "(I)V" } : Jvm.MethodName) prog_7_method_9_code (2 : Nat) (Option.none : Option Jvm.ClassFile.FieldType)) ∈ zW := zw_in 396 (by decide +kernel) rfl
theorem zm_355 : (Jvm.Cond.methodLink "RecordMatcherLaw" (78 : Nat) ({ cls := "RecordMatcher", name := "crash", desc := "(I)I" } : Jvm.MethodName)) ∈ zW := zw_in 397 (by decide +kernel) rfl
theorem zm_356 : (Jvm.Cond.instanceMethod ({ cls := "RecordMatcher", name := "crash", desc := "(I)I" } : Jvm.MethodName)) ∈ zW := zw_in 398 (by decide +kernel) rfl
theorem zm_357 : (Jvm.Cond.selects "RecordMatcher" ({ cls := "RecordMatcher", name := "crash", desc := "(I)I" } : Jvm.MethodName) ({ cls := "RecordMatcher", name := "crash", desc := "(I)I" } : Jvm.MethodName)) ∈ zW := zw_in 399 (by decide +kernel) rfl
theorem zm_358 : (Jvm.Cond.code ({ cls := "RecordMatcher", name := "crash", desc := "(I)I" } : Jvm.MethodName) prog_1_method_16_code (2 : Nat) (Option.some Jvm.ClassFile.FieldType.int)) ∈ zW := zw_in 400 (by decide +kernel) rfl
theorem zm_359 : (Jvm.Cond.methodLink "RecordMatcher" (137 : Nat) ({ cls := "RecordMatcher$Run", name := "isDone", desc := "()Z" } : Jvm.MethodName)) ∈ zW := zw_in 401 (by decide +kernel) rfl
theorem zm_360 : (Jvm.Cond.instanceMethod ({ cls := "RecordMatcher$Run", name := "isDone", desc := "()Z" } : Jvm.MethodName)) ∈ zW := zw_in 402 (by decide +kernel) rfl
theorem zm_361 : (Jvm.Cond.selects "RecordMatcher$Run" ({ cls := "RecordMatcher$Run", name := "isDone", desc := "()Z" } : Jvm.MethodName) ({ cls := "RecordMatcher$Run", name := "isDone", desc := "()Z" } : Jvm.MethodName)) ∈ zW := zw_in 403 (by decide +kernel) rfl
theorem zm_362 : (Jvm.Cond.code ({ cls := "RecordMatcher$Run", name := "isDone", desc := "()Z" } : Jvm.MethodName) prog_7_method_6_code (3 : Nat) (Option.some Jvm.ClassFile.FieldType.boolean)) ∈ zW := zw_in 404 (by decide +kernel) rfl
theorem zm_363 : (Jvm.Cond.methodLink "RecordMatcher" (140 : Nat) ({ cls := "RecordMatcher$Run", name := "undoTasks", desc := "(I)I" } : Jvm.MethodName)) ∈ zW := zw_in 405 (by decide +kernel) rfl
theorem zm_364 : (Jvm.Cond.instanceMethod ({ cls := "RecordMatcher$Run", name := "undoTasks", desc := "(I)I" } : Jvm.MethodName)) ∈ zW := zw_in 406 (by decide +kernel) rfl
theorem zm_365 : (Jvm.Cond.selects "RecordMatcher$Run" ({ cls := "RecordMatcher$Run", name := "undoTasks", desc := "(I)I" } : Jvm.MethodName) ({ cls := "RecordMatcher$Run", name := "undoTasks", desc := "(I)I" } : Jvm.MethodName)) ∈ zW := zw_in 407 (by decide +kernel) rfl
theorem zm_366 : (Jvm.Cond.code ({ cls := "RecordMatcher$Run", name := "undoTasks", desc := "(I)I" } : Jvm.MethodName) prog_7_method_10_code (4 : Nat) (Option.some Jvm.ClassFile.FieldType.int)) ∈ zW := zw_in 408 (by decide +kernel) rfl
theorem zm_367 : (Jvm.Cond.methodLink "RecordMatcher$Run" (33 : Nat) ({ cls := "RecordMatcher$Run", name := "forgetPairsOf", desc := "(I)V" } : Jvm.MethodName)) ∈ zW := zw_in 409 (by decide +kernel) rfl
theorem zm_369 : (Jvm.Cond.instanceMethod ({ cls := "RecordMatcher$Run", name := "forgetPairsOf", desc := "(I)V" } : Jvm.MethodName)) ∈ zW := zw_in 411 (by decide +kernel) rfl
theorem zm_370 : (Jvm.Cond.code ({ cls := "RecordMatcher$Run", name := "forgetPairsOf", desc := "(I)V" } : Jvm.MethodName) prog_7_method_11_code (3 : Nat) (Option.none : Option Jvm.ClassFile.FieldType)) ∈ zW := zw_in 412 (by decide +kernel) rfl
theorem zm_371 : (Jvm.Cond.methodLink "RecordMatcherLaw" (82 : Nat) ({ cls := "RecordMatcher", name := "pairs", desc := "()I" } : Jvm.MethodName)) ∈ zW := zw_in 413 (by decide +kernel) rfl
theorem zm_372 : (Jvm.Cond.instanceMethod ({ cls := "RecordMatcher", name := "pairs", desc := "()I" } : Jvm.MethodName)) ∈ zW := zw_in 414 (by decide +kernel) rfl
theorem zm_373 : (Jvm.Cond.selects "RecordMatcher" ({ cls := "RecordMatcher", name := "pairs", desc := "()I" } : Jvm.MethodName) ({ cls := "RecordMatcher", name := "pairs", desc := "()I" } : Jvm.MethodName)) ∈ zW := zw_in 415 (by decide +kernel) rfl
theorem zm_374 : (Jvm.Cond.code ({ cls := "RecordMatcher", name := "pairs", desc := "()I" } : Jvm.MethodName) prog_1_method_17_code (1 : Nat) (Option.some Jvm.ClassFile.FieldType.int)) ∈ zW := zw_in 416 (by decide +kernel) rfl
theorem zm_375 : (Jvm.Cond.methodLink "RecordMatcher" (143 : Nat) ({ cls := "RecordMatcher$Run", name := "countPairs", desc := "()I" } : Jvm.MethodName)) ∈ zW := zw_in 417 (by decide +kernel) rfl
theorem zm_376 : (Jvm.Cond.instanceMethod ({ cls := "RecordMatcher$Run", name := "countPairs", desc := "()I" } : Jvm.MethodName)) ∈ zW := zw_in 418 (by decide +kernel) rfl
theorem zm_377 : (Jvm.Cond.selects "RecordMatcher$Run" ({ cls := "RecordMatcher$Run", name := "countPairs", desc := "()I" } : Jvm.MethodName) ({ cls := "RecordMatcher$Run", name := "countPairs", desc := "()I" } : Jvm.MethodName)) ∈ zW := zw_in 419 (by decide +kernel) rfl
theorem zm_378 : (Jvm.Cond.code ({ cls := "RecordMatcher$Run", name := "countPairs", desc := "()I" } : Jvm.MethodName) prog_7_method_15_code (4 : Nat) (Option.some Jvm.ClassFile.FieldType.int)) ∈ zW := zw_in 420 (by decide +kernel) rfl
theorem zm_379 : (Jvm.Cond.methodLink "RecordMatcher$Run" (40 : Nat) ({ cls := "RecordMatcher$Run", name := "isNoted", desc := "(II)Z" } : Jvm.MethodName)) ∈ zW := zw_in 421 (by decide +kernel) rfl
theorem zm_380 : (Jvm.Cond.instanceMethod ({ cls := "RecordMatcher$Run", name := "isNoted", desc := "(II)Z" } : Jvm.MethodName)) ∈ zW := zw_in 422 (by decide +kernel) rfl
theorem zm_381 : (Jvm.Cond.selects "RecordMatcher$Run" ({ cls := "RecordMatcher$Run", name := "isNoted", desc := "(II)Z" } : Jvm.MethodName) ({ cls := "RecordMatcher$Run", name := "isNoted", desc := "(II)Z" } : Jvm.MethodName)) ∈ zW := zw_in 423 (by decide +kernel) rfl
theorem zm_382 : (Jvm.Cond.code ({ cls := "RecordMatcher$Run", name := "isNoted", desc := "(II)Z" } : Jvm.MethodName) prog_7_method_13_code (3 : Nat) (Option.some Jvm.ClassFile.FieldType.boolean)) ∈ zW := zw_in 424 (by decide +kernel) rfl
theorem zm_383 : (Jvm.Cond.methodLink "RecordMatcherLaw" (86 : Nat) ({ cls := "RecordMatcher", name := "found", desc := "(II)I" } : Jvm.MethodName)) ∈ zW := zw_in 425 (by decide +kernel) rfl
theorem zm_384 : (Jvm.Cond.instanceMethod ({ cls := "RecordMatcher", name := "found", desc := "(II)I" } : Jvm.MethodName)) ∈ zW := zw_in 426 (by decide +kernel) rfl
theorem zm_385 : (Jvm.Cond.selects "RecordMatcher" ({ cls := "RecordMatcher", name := "found", desc := "(II)I" } : Jvm.MethodName) ({ cls := "RecordMatcher", name := "found", desc := "(II)I" } : Jvm.MethodName)) ∈ zW := zw_in 427 (by decide +kernel) rfl
theorem zm_386 : (Jvm.Cond.code ({ cls := "RecordMatcher", name := "found", desc := "(II)I" } : Jvm.MethodName) prog_1_method_18_code (3 : Nat) (Option.some Jvm.ClassFile.FieldType.int)) ∈ zW := zw_in 428 (by decide +kernel) rfl
theorem zm_387 : (Jvm.Cond.methodLink "RecordMatcher" (146 : Nat) ({ cls := "java/lang/Math", name := "min", desc := "(II)I" } : Jvm.MethodName)) ∈ zW := zw_in 429 (by decide +kernel) rfl
theorem zm_388 : (Jvm.Cond.methodLink "RecordMatcher" (152 : Nat) ({ cls := "java/lang/Math", name := "max", desc := "(II)I" } : Jvm.MethodName)) ∈ zW := zw_in 430 (by decide +kernel) rfl
theorem zm_389 : (Jvm.Cond.static ({ cls := "java/lang/Math", name := "max", desc := "(II)I" } : Jvm.MethodName)) ∈ zW := zw_in 431 (by decide +kernel) rfl
theorem zm_390 : (Jvm.Cond.code ({ cls := "java/lang/Math", name := "max", desc := "(II)I" } : Jvm.MethodName) prog_11_method_65_code (2 : Nat) (Option.some Jvm.ClassFile.FieldType.int)) ∈ zW := zw_in 432 (by decide +kernel) rfl
theorem zm_391 : (Jvm.Cond.methodLink "RecordMatcher" (155 : Nat) ({ cls := "RecordMatcher$Run", name := "isNoted", desc := "(II)Z" } : Jvm.MethodName)) ∈ zW := zw_in 433 (by decide +kernel) rfl
theorem zm_392 : (Jvm.Cond.methodLink "RecordMatcherLaw" (90 : Nat) ({ cls := "RecordMatcher", name := "cluster", desc := "(I)I" } : Jvm.MethodName)) ∈ zW := zw_in 434 (by decide +kernel) rfl
theorem zm_393 : (Jvm.Cond.instanceMethod ({ cls := "RecordMatcher", name := "cluster", desc := "(I)I" } : Jvm.MethodName)) ∈ zW := zw_in 435 (by decide +kernel) rfl
theorem zm_394 : (Jvm.Cond.selects "RecordMatcher" ({ cls := "RecordMatcher", name := "cluster", desc := "(I)I" } : Jvm.MethodName) ({ cls := "RecordMatcher", name := "cluster", desc := "(I)I" } : Jvm.MethodName)) ∈ zW := zw_in 436 (by decide +kernel) rfl
theorem zm_395 : (Jvm.Cond.code ({ cls := "RecordMatcher", name := "cluster", desc := "(I)I" } : Jvm.MethodName) prog_1_method_19_code (2 : Nat) (Option.some Jvm.ClassFile.FieldType.int)) ∈ zW := zw_in 437 (by decide +kernel) rfl
theorem zm_396 : (Jvm.Cond.methodLink "RecordMatcher" (158 : Nat) ({ cls := "RecordMatcher$Run", name := "gather", desc := "()V" } : Jvm.MethodName)) ∈ zW := zw_in 438 (by decide +kernel) rfl
theorem zm_397 : (Jvm.Cond.instanceMethod ({ cls := "RecordMatcher$Run", name := "gather", desc := "()V" } : Jvm.MethodName)) ∈ zW := zw_in 439 (by decide +kernel) rfl
theorem zm_398 : (Jvm.Cond.selects "RecordMatcher$Run" ({ cls := "RecordMatcher$Run", name := "gather", desc := "()V" } : Jvm.MethodName) ({ cls := "RecordMatcher$Run", name := "gather", desc := "()V" } : Jvm.MethodName)) ∈ zW := zw_in 440 (by decide +kernel) rfl
theorem zm_399 : (Jvm.Cond.code ({ cls := "RecordMatcher$Run", name := "gather", desc := "()V" } : Jvm.MethodName) prog_7_method_16_code (3 : Nat) (Option.none : Option Jvm.ClassFile.FieldType)) ∈ zW := zw_in 441 (by decide +kernel) rfl
theorem zm_400 : (Jvm.Cond.methodLink "RecordMatcher$Run" (44 : Nat) ({ cls := "RecordMatcher$Run", name := "unite", desc := "(II)V" } : Jvm.MethodName)) ∈ zW := zw_in 442 (by decide +kernel) rfl
theorem zm_402 : (Jvm.Cond.instanceMethod ({ cls := "RecordMatcher$Run", name := "unite", desc := "(II)V" } : Jvm.MethodName)) ∈ zW := zw_in 444 (by decide +kernel) rfl
theorem zm_403 : (Jvm.Cond.code ({ cls := "RecordMatcher$Run", name := "unite", desc := "(II)V" } : Jvm.MethodName) prog_7_method_17_code (6 : Nat) (Option.none : Option Jvm.ClassFile.FieldType)) ∈ zW := zw_in 445 (by decide +kernel) rfl
theorem zm_404 : (Jvm.Cond.methodLink "RecordMatcher$Run" (48 : Nat) ({ cls := "java/lang/Math", name := "min", desc := "(II)I" } : Jvm.MethodName)) ∈ zW := zw_in 446 (by decide +kernel) rfl
theorem zm_405 : (Jvm.Cond.methodLink "RecordMatcher$Run" (53 : Nat) ({ cls := "java/lang/Math", name := "max", desc := "(II)I" } : Jvm.MethodName)) ∈ zW := zw_in 447 (by decide +kernel) rfl
theorem zm_406 : (Jvm.Cond.methodLink "RecordMatcherLaw" (94 : Nat) ({ cls := "RecordMatcher", name := "keep", desc := "(II)Z" } : Jvm.MethodName)) ∈ zW := zw_in 448 (by decide +kernel) rfl
theorem zm_407 : (Jvm.Cond.instanceMethod ({ cls := "RecordMatcher", name := "keep", desc := "(II)Z" } : Jvm.MethodName)) ∈ zW := zw_in 449 (by decide +kernel) rfl
theorem zm_408 : (Jvm.Cond.selects "RecordMatcher" ({ cls := "RecordMatcher", name := "keep", desc := "(II)Z" } : Jvm.MethodName) ({ cls := "RecordMatcher", name := "keep", desc := "(II)Z" } : Jvm.MethodName)) ∈ zW := zw_in 450 (by decide +kernel) rfl
theorem zm_409 : (Jvm.Cond.code ({ cls := "RecordMatcher", name := "keep", desc := "(II)Z" } : Jvm.MethodName) prog_1_method_20_code (3 : Nat) (Option.some Jvm.ClassFile.FieldType.boolean)) ∈ zW := zw_in 451 (by decide +kernel) rfl
theorem zm_410 : (Jvm.Cond.methodLink "RecordMatcherLaw" (98 : Nat) ({ cls := "RecordMatcher", name := "kept", desc := "(II)I" } : Jvm.MethodName)) ∈ zW := zw_in 452 (by decide +kernel) rfl
theorem zm_411 : (Jvm.Cond.instanceMethod ({ cls := "RecordMatcher", name := "kept", desc := "(II)I" } : Jvm.MethodName)) ∈ zW := zw_in 453 (by decide +kernel) rfl
theorem zm_412 : (Jvm.Cond.selects "RecordMatcher" ({ cls := "RecordMatcher", name := "kept", desc := "(II)I" } : Jvm.MethodName) ({ cls := "RecordMatcher", name := "kept", desc := "(II)I" } : Jvm.MethodName)) ∈ zW := zw_in 454 (by decide +kernel) rfl
theorem zm_413 : (Jvm.Cond.code ({ cls := "RecordMatcher", name := "kept", desc := "(II)I" } : Jvm.MethodName) prog_1_method_21_code (3 : Nat) (Option.some Jvm.ClassFile.FieldType.int)) ∈ zW := zw_in 455 (by decide +kernel) rfl
theorem zm_414 : (Jvm.Cond.methodLink "RecordMatcher" (164 : Nat) ({ cls := "RecordMatcher", name := "bestOfCluster", desc := "(II)I" } : Jvm.MethodName)) ∈ zW := zw_in 456 (by decide +kernel) rfl
theorem zm_416 : (Jvm.Cond.instanceMethod ({ cls := "RecordMatcher", name := "bestOfCluster", desc := "(II)I" } : Jvm.MethodName)) ∈ zW := zw_in 458 (by decide +kernel) rfl
theorem zm_417 : (Jvm.Cond.code ({ cls := "RecordMatcher", name := "bestOfCluster", desc := "(II)I" } : Jvm.MethodName) prog_1_method_28_code (5 : Nat) (Option.some Jvm.ClassFile.FieldType.int)) ∈ zW := zw_in 459 (by decide +kernel) rfl
theorem zm_418 : (Jvm.Cond.methodLink "RecordMatcher" (171 : Nat) ({ cls := "RecordMatcher", name := "isBetter", desc := "(III)Z" } : Jvm.MethodName)) ∈ zW := zw_in 460 (by decide +kernel) rfl
theorem zm_420 : (Jvm.Cond.instanceMethod ({ cls := "RecordMatcher", name := "isBetter", desc := "(III)Z" } : Jvm.MethodName)) ∈ zW := zw_in 462 (by decide +kernel) rfl
theorem zm_421 : (Jvm.Cond.code ({ cls := "RecordMatcher", name := "isBetter", desc := "(III)Z" } : Jvm.MethodName) prog_1_method_29_code (6 : Nat) (Option.some Jvm.ClassFile.FieldType.boolean)) ∈ zW := zw_in 463 (by decide +kernel) rfl
theorem zm_422 : (Jvm.Cond.methodLink "RecordMatcher" (175 : Nat) ({ cls := "RecordMatcher", name := "countHavingTextOf", desc := "(II)I" } : Jvm.MethodName)) ∈ zW := zw_in 464 (by decide +kernel) rfl
theorem zm_424 : (Jvm.Cond.instanceMethod ({ cls := "RecordMatcher", name := "countHavingTextOf", desc := "(II)I" } : Jvm.MethodName)) ∈ zW := zw_in 466 (by decide +kernel) rfl
theorem zm_425 : (Jvm.Cond.code ({ cls := "RecordMatcher", name := "countHavingTextOf", desc := "(II)I" } : Jvm.MethodName) prog_1_method_30_code (6 : Nat) (Option.some Jvm.ClassFile.FieldType.int)) ∈ zW := zw_in 467 (by decide +kernel) rfl
theorem zm_426 : (Jvm.Cond.methodLink "RecordMatcher" (178 : Nat) ({ cls := "RecordMatcher$Text", name := "compareWith", desc := "(LRecordMatcher$Text;)I" } : Jvm.MethodName)) ∈ zW := zw_in 468 (by decide +kernel) rfl
theorem zm_427 : (Jvm.Cond.instanceMethod ({ cls := "RecordMatcher$Text", name := "compareWith", desc := "(LRecordMatcher$Text;)I" } : Jvm.MethodName)) ∈ zW := zw_in 469 (by decide +kernel) rfl
theorem zm_428 : (Jvm.Cond.selects "RecordMatcher$Text" ({ cls := "RecordMatcher$Text", name := "compareWith", desc := "(LRecordMatcher$Text;)I" } : Jvm.MethodName) ({ cls := "RecordMatcher$Text", name := "compareWith", desc := "(LRecordMatcher$Text;)I" } : Jvm.MethodName)) ∈ zW := zw_in 470 (by decide +kernel) rfl
theorem zm_429 : (Jvm.Cond.code ({ cls := "RecordMatcher$Text", name := "compareWith", desc := "(LRecordMatcher$Text;)I" } : Jvm.MethodName) prog_8_method_12_code (4 : Nat) (Option.some Jvm.ClassFile.FieldType.int)) ∈ zW := zw_in 471 (by decide +kernel) rfl
theorem zm_430 : (Jvm.Cond.methodLink "RecordMatcher$Text" (52 : Nat) ({ cls := "java/lang/Math", name := "min", desc := "(II)I" } : Jvm.MethodName)) ∈ zW := zw_in 472 (by decide +kernel) rfl
theorem zm_431 : (Jvm.Cond.classLink "RecordMatcherLaw" (10 : Nat) "RecordMatcherModel") ∈ zW := zw_in 473 (by decide +kernel) rfl
theorem zm_432 : (Jvm.Cond.instantiable "RecordMatcherModel" (22 : Nat)) ∈ zW := zw_in 474 (by decide +kernel) rfl
theorem zm_433 : (Jvm.Cond.methodLink "RecordMatcherLaw" (12 : Nat) ({ cls := "RecordMatcherModel", name := "<init>", desc := "()V" } : Jvm.MethodName)) ∈ zW := zw_in 475 (by decide +kernel) rfl
theorem zm_434 : (Jvm.Cond.instanceMethod ({ cls := "RecordMatcherModel", name := "<init>", desc := "()V" } : Jvm.MethodName)) ∈ zW := zw_in 476 (by decide +kernel) rfl
theorem zm_435 : (Jvm.Cond.code ({ cls := "RecordMatcherModel", name := "<init>", desc := "()V" } : Jvm.MethodName) prog_10_method_1_code (1 : Nat) (Option.none : Option Jvm.ClassFile.FieldType)) ∈ zW := zw_in 477 (by decide +kernel) rfl
theorem zm_436 : (Jvm.Cond.methodLink "RecordMatcherModel" (1 : Nat) ({ cls := "java/lang/Object", name := "<init>", desc := "()V" } : Jvm.MethodName)) ∈ zW := zw_in 478 (by decide +kernel) rfl
theorem zm_437 : (Jvm.Cond.fieldLink "RecordMatcherModel" (7 : Nat) "RecordMatcherModel" "raw" "[I") ∈ zW := zw_in 479 (by decide +kernel) rfl
theorem zm_438 : (Jvm.Cond.fieldLink "RecordMatcherModel" (13 : Nat) "RecordMatcherModel" "size" "[I") ∈ zW := zw_in 480 (by decide +kernel) rfl
theorem zm_439 : (Jvm.Cond.fieldLink "RecordMatcherModel" (65 : Nat) "RecordMatcherModel" "records" "I") ∈ zW := zw_in 481 (by decide +kernel) rfl
theorem zm_440 : (Jvm.Cond.fieldLink "RecordMatcherModel" (16 : Nat) "RecordMatcherModel" "normal" "[I") ∈ zW := zw_in 482 (by decide +kernel) rfl
theorem zm_441 : (Jvm.Cond.fieldLink "RecordMatcherModel" (19 : Nat) "RecordMatcherModel" "normalSize" "[I") ∈ zW := zw_in 483 (by decide +kernel) rfl
theorem zm_442 : (Jvm.Cond.fieldLink "RecordMatcherModel" (22 : Nat) "RecordMatcherModel" "steps" "[I") ∈ zW := zw_in 484 (by decide +kernel) rfl
theorem zm_443 : (Jvm.Cond.fieldLink "RecordMatcherModel" (25 : Nat) "RecordMatcherModel" "kind" "[I") ∈ zW := zw_in 485 (by decide +kernel) rfl
theorem zm_444 : (Jvm.Cond.fieldLink "RecordMatcherModel" (28 : Nat) "RecordMatcherModel" "field" "[I") ∈ zW := zw_in 486 (by decide +kernel) rfl
theorem zm_445 : (Jvm.Cond.fieldLink "RecordMatcherModel" (31 : Nat) "RecordMatcherModel" "num" "[I") ∈ zW := zw_in 487 (by decide +kernel) rfl
theorem zm_446 : (Jvm.Cond.fieldLink "RecordMatcherModel" (34 : Nat) "RecordMatcherModel" "den" "[I") ∈ zW := zw_in 488 (by decide +kernel) rfl
theorem zm_447 : (Jvm.Cond.fieldLink "RecordMatcherModel" (37 : Nat) "RecordMatcherModel" "start" "[I") ∈ zW := zw_in 489 (by decide +kernel) rfl
theorem zm_448 : (Jvm.Cond.fieldLink "RecordMatcherModel" (109 : Nat) "RecordMatcherModel" "top" "I") ∈ zW := zw_in 490 (by decide +kernel) rfl
theorem zm_449 : (Jvm.Cond.fieldLink "RecordMatcherModel" (130 : Nat) "RecordMatcherModel" "ruleSize" "I") ∈ zW := zw_in 491 (by decide +kernel) rfl
theorem zm_450 : (Jvm.Cond.fieldLink "RecordMatcherModel" (40 : Nat) "RecordMatcherModel" "ruleKind" "[I") ∈ zW := zw_in 492 (by decide +kernel) rfl
theorem zm_451 : (Jvm.Cond.fieldLink "RecordMatcherModel" (43 : Nat) "RecordMatcherModel" "ruleField" "[I") ∈ zW := zw_in 493 (by decide +kernel) rfl
theorem zm_452 : (Jvm.Cond.fieldLink "RecordMatcherModel" (46 : Nat) "RecordMatcherModel" "ruleNum" "[I") ∈ zW := zw_in 494 (by decide +kernel) rfl
theorem zm_453 : (Jvm.Cond.fieldLink "RecordMatcherModel" (49 : Nat) "RecordMatcherModel" "ruleDen" "[I") ∈ zW := zw_in 495 (by decide +kernel) rfl
theorem zm_454 : (Jvm.Cond.fieldLink "RecordMatcherModel" (52 : Nat) "RecordMatcherModel" "held" "[Z") ∈ zW := zw_in 496 (by decide +kernel) rfl
theorem zm_455 : (Jvm.Cond.fieldLink "RecordMatcherModel" (73 : Nat) "RecordMatcherModel" "workers" "I") ∈ zW := zw_in 497 (by decide +kernel) rfl
theorem zm_456 : (Jvm.Cond.fieldLink "RecordMatcherModel" (56 : Nat) "RecordMatcherModel" "did" "[I") ∈ zW := zw_in 498 (by decide +kernel) rfl
theorem zm_457 : (Jvm.Cond.fieldLink "RecordMatcherModel" (59 : Nat) "RecordMatcherModel" "keeps" "[I") ∈ zW := zw_in 499 (by decide +kernel) rfl
theorem zm_458 : (Jvm.Cond.fieldLink "RecordMatcherModel" (62 : Nat) "RecordMatcherModel" "label" "[I") ∈ zW := zw_in 500 (by decide +kernel) rfl
theorem zm_504 : (Jvm.Cond.methodLink "RecordMatcherLaw" (17 : Nat) ({ cls := "RecordMatcherModel", name := "type", desc := "(IC)Z" } : Jvm.MethodName)) ∈ zW := zw_in 546 (by decide +kernel) rfl
theorem zm_505 : (Jvm.Cond.instanceMethod ({ cls := "RecordMatcherModel", name := "type", desc := "(IC)Z" } : Jvm.MethodName)) ∈ zW := zw_in 547 (by decide +kernel) rfl
theorem zm_506 : (Jvm.Cond.selects "RecordMatcherModel" ({ cls := "RecordMatcherModel", name := "type", desc := "(IC)Z" } : Jvm.MethodName) ({ cls := "RecordMatcherModel", name := "type", desc := "(IC)Z" } : Jvm.MethodName)) ∈ zW := zw_in 548 (by decide +kernel) rfl
theorem zm_507 : (Jvm.Cond.code ({ cls := "RecordMatcherModel", name := "type", desc := "(IC)Z" } : Jvm.MethodName) prog_10_method_4_code (3 : Nat) (Option.some Jvm.ClassFile.FieldType.boolean)) ∈ zW := zw_in 549 (by decide +kernel) rfl
theorem zm_508 : (Jvm.Cond.methodLink "RecordMatcherModel" (69 : Nat) ({ cls := "RecordMatcherModel", name := "isField", desc := "(I)Z" } : Jvm.MethodName)) ∈ zW := zw_in 550 (by decide +kernel) rfl
theorem zm_509 : (Jvm.Cond.static ({ cls := "RecordMatcherModel", name := "isField", desc := "(I)Z" } : Jvm.MethodName)) ∈ zW := zw_in 551 (by decide +kernel) rfl
theorem zm_510 : (Jvm.Cond.code ({ cls := "RecordMatcherModel", name := "isField", desc := "(I)Z" } : Jvm.MethodName) prog_10_method_3_code (1 : Nat) (Option.some Jvm.ClassFile.FieldType.boolean)) ∈ zW := zw_in 552 (by decide +kernel) rfl
theorem zm_511 : (Jvm.Cond.methodLink "RecordMatcherLaw" (22 : Nat) ({ cls := "RecordMatcherModel", name := "add", desc := "()I" } : Jvm.MethodName)) ∈ zW := zw_in 553 (by decide +kernel) rfl
theorem zm_512 : (Jvm.Cond.instanceMethod ({ cls := "RecordMatcherModel", name := "add", desc := "()I" } : Jvm.MethodName)) ∈ zW := zw_in 554 (by decide +kernel) rfl
theorem zm_513 : (Jvm.Cond.selects "RecordMatcherModel" ({ cls := "RecordMatcherModel", name := "add", desc := "()I" } : Jvm.MethodName) ({ cls := "RecordMatcherModel", name := "add", desc := "()I" } : Jvm.MethodName)) ∈ zW := zw_in 555 (by decide +kernel) rfl
theorem zm_514 : (Jvm.Cond.code ({ cls := "RecordMatcherModel", name := "add", desc := "()I" } : Jvm.MethodName) prog_10_method_5_code (4 : Nat) (Option.some Jvm.ClassFile.FieldType.int)) ∈ zW := zw_in 556 (by decide +kernel) rfl
theorem zm_515 : (Jvm.Cond.methodLink "RecordMatcherLaw" (26 : Nat) ({ cls := "RecordMatcherModel", name := "records", desc := "()I" } : Jvm.MethodName)) ∈ zW := zw_in 557 (by decide +kernel) rfl
theorem zm_516 : (Jvm.Cond.instanceMethod ({ cls := "RecordMatcherModel", name := "records", desc := "()I" } : Jvm.MethodName)) ∈ zW := zw_in 558 (by decide +kernel) rfl
theorem zm_517 : (Jvm.Cond.selects "RecordMatcherModel" ({ cls := "RecordMatcherModel", name := "records", desc := "()I" } : Jvm.MethodName) ({ cls := "RecordMatcherModel", name := "records", desc := "()I" } : Jvm.MethodName)) ∈ zW := zw_in 559 (by decide +kernel) rfl
theorem zm_518 : (Jvm.Cond.code ({ cls := "RecordMatcherModel", name := "records", desc := "()I" } : Jvm.MethodName) prog_10_method_6_code (1 : Nat) (Option.some Jvm.ClassFile.FieldType.int)) ∈ zW := zw_in 560 (by decide +kernel) rfl
theorem zm_519 : (Jvm.Cond.methodLink "RecordMatcherLaw" (31 : Nat) ({ cls := "RecordMatcherModel", name := "words", desc := "(II)I" } : Jvm.MethodName)) ∈ zW := zw_in 561 (by decide +kernel) rfl
theorem zm_520 : (Jvm.Cond.instanceMethod ({ cls := "RecordMatcherModel", name := "words", desc := "(II)I" } : Jvm.MethodName)) ∈ zW := zw_in 562 (by decide +kernel) rfl
theorem zm_521 : (Jvm.Cond.selects "RecordMatcherModel" ({ cls := "RecordMatcherModel", name := "words", desc := "(II)I" } : Jvm.MethodName) ({ cls := "RecordMatcherModel", name := "words", desc := "(II)I" } : Jvm.MethodName)) ∈ zW := zw_in 563 (by decide +kernel) rfl
theorem zm_522 : (Jvm.Cond.code ({ cls := "RecordMatcherModel", name := "words", desc := "(II)I" } : Jvm.MethodName) prog_10_method_14_code (3 : Nat) (Option.some Jvm.ClassFile.FieldType.int)) ∈ zW := zw_in 564 (by decide +kernel) rfl
theorem zm_523 : (Jvm.Cond.methodLink "RecordMatcherModel" (95 : Nat) ({ cls := "RecordMatcherModel", name := "isRecord", desc := "(I)Z" } : Jvm.MethodName)) ∈ zW := zw_in 565 (by decide +kernel) rfl
theorem zm_525 : (Jvm.Cond.instanceMethod ({ cls := "RecordMatcherModel", name := "isRecord", desc := "(I)Z" } : Jvm.MethodName)) ∈ zW := zw_in 567 (by decide +kernel) rfl
theorem zm_526 : (Jvm.Cond.code ({ cls := "RecordMatcherModel", name := "isRecord", desc := "(I)Z" } : Jvm.MethodName) prog_10_method_2_code (2 : Nat) (Option.some Jvm.ClassFile.FieldType.boolean)) ∈ zW := zw_in 568 (by decide +kernel) rfl
theorem zm_527 : (Jvm.Cond.methodLink "RecordMatcherModel" (98 : Nat) ({ cls := "RecordMatcherModel", name := "look", desc := "(III)V" } : Jvm.MethodName)) ∈ zW := zw_in 569 (by decide +kernel) rfl
theorem zm_529 : (Jvm.Cond.instanceMethod ({ cls := "RecordMatcherModel", name := "look", desc := "(III)V" } : Jvm.MethodName)) ∈ zW := zw_in 571 (by decide +kernel) rfl
theorem zm_530 : (Jvm.Cond.code ({ cls := "RecordMatcherModel", name := "look", desc := "(III)V" } : Jvm.MethodName) prog_10_method_8_code (9 : Nat) (Option.none : Option Jvm.ClassFile.FieldType)) ∈ zW := zw_in 572 (by decide +kernel) rfl
theorem zm_531 : (Jvm.Cond.methodLink "RecordMatcherModel" (76 : Nat) ({ cls := "RecordMatcherModel", name := "letter", desc := "(I)I" } : Jvm.MethodName)) ∈ zW := zw_in 573 (by decide +kernel) rfl
theorem zm_532 : (Jvm.Cond.static ({ cls := "RecordMatcherModel", name := "letter", desc := "(I)I" } : Jvm.MethodName)) ∈ zW := zw_in 574 (by decide +kernel) rfl
theorem zm_533 : (Jvm.Cond.code ({ cls := "RecordMatcherModel", name := "letter", desc := "(I)I" } : Jvm.MethodName) prog_10_method_7_code (1 : Nat) (Option.some Jvm.ClassFile.FieldType.int)) ∈ zW := zw_in 575 (by decide +kernel) rfl
theorem zm_534 : (Jvm.Cond.methodLink "RecordMatcherModel" (102 : Nat) ({ cls := "RecordMatcherModel", name := "inSet", desc := "(IIZ)I" } : Jvm.MethodName)) ∈ zW := zw_in 576 (by decide +kernel) rfl
theorem zm_536 : (Jvm.Cond.instanceMethod ({ cls := "RecordMatcherModel", name := "inSet", desc := "(IIZ)I" } : Jvm.MethodName)) ∈ zW := zw_in 578 (by decide +kernel) rfl
theorem zm_537 : (Jvm.Cond.code ({ cls := "RecordMatcherModel", name := "inSet", desc := "(IIZ)I" } : Jvm.MethodName) prog_10_method_13_code (7 : Nat) (Option.some Jvm.ClassFile.FieldType.int)) ∈ zW := zw_in 579 (by decide +kernel) rfl
theorem zm_538 : (Jvm.Cond.methodLink "RecordMatcherModel" (84 : Nat) ({ cls := "RecordMatcherModel", name := "begins", desc := "(II)Z" } : Jvm.MethodName)) ∈ zW := zw_in 580 (by decide +kernel) rfl
theorem zm_540 : (Jvm.Cond.instanceMethod ({ cls := "RecordMatcherModel", name := "begins", desc := "(II)Z" } : Jvm.MethodName)) ∈ zW := zw_in 582 (by decide +kernel) rfl
theorem zm_541 : (Jvm.Cond.code ({ cls := "RecordMatcherModel", name := "begins", desc := "(II)Z" } : Jvm.MethodName) prog_10_method_10_code (3 : Nat) (Option.some Jvm.ClassFile.FieldType.boolean)) ∈ zW := zw_in 583 (by decide +kernel) rfl
theorem zm_542 : (Jvm.Cond.methodLink "RecordMatcherModel" (80 : Nat) ({ cls := "RecordMatcherModel", name := "at", desc := "(II)I" } : Jvm.MethodName)) ∈ zW := zw_in 584 (by decide +kernel) rfl
theorem zm_544 : (Jvm.Cond.instanceMethod ({ cls := "RecordMatcherModel", name := "at", desc := "(II)I" } : Jvm.MethodName)) ∈ zW := zw_in 586 (by decide +kernel) rfl
theorem zm_545 : (Jvm.Cond.code ({ cls := "RecordMatcherModel", name := "at", desc := "(II)I" } : Jvm.MethodName) prog_10_method_9_code (3 : Nat) (Option.some Jvm.ClassFile.FieldType.int)) ∈ zW := zw_in 587 (by decide +kernel) rfl
theorem zm_546 : (Jvm.Cond.methodLink "RecordMatcherModel" (92 : Nat) ({ cls := "RecordMatcherModel", name := "stands", desc := "(IIII)Z" } : Jvm.MethodName)) ∈ zW := zw_in 588 (by decide +kernel) rfl
theorem zm_548 : (Jvm.Cond.instanceMethod ({ cls := "RecordMatcherModel", name := "stands", desc := "(IIII)Z" } : Jvm.MethodName)) ∈ zW := zw_in 590 (by decide +kernel) rfl
theorem zm_549 : (Jvm.Cond.code ({ cls := "RecordMatcherModel", name := "stands", desc := "(IIII)Z" } : Jvm.MethodName) prog_10_method_12_code (7 : Nat) (Option.some Jvm.ClassFile.FieldType.boolean)) ∈ zW := zw_in 591 (by decide +kernel) rfl
theorem zm_550 : (Jvm.Cond.methodLink "RecordMatcherModel" (88 : Nat) ({ cls := "RecordMatcherModel", name := "sameWord", desc := "(IIII)Z" } : Jvm.MethodName)) ∈ zW := zw_in 592 (by decide +kernel) rfl
theorem zm_552 : (Jvm.Cond.instanceMethod ({ cls := "RecordMatcherModel", name := "sameWord", desc := "(IIII)Z" } : Jvm.MethodName)) ∈ zW := zw_in 594 (by decide +kernel) rfl
theorem zm_553 : (Jvm.Cond.code ({ cls := "RecordMatcherModel", name := "sameWord", desc := "(IIII)Z" } : Jvm.MethodName) prog_10_method_11_code (6 : Nat) (Option.some Jvm.ClassFile.FieldType.boolean)) ∈ zW := zw_in 595 (by decide +kernel) rfl
theorem zm_554 : (Jvm.Cond.methodLink "RecordMatcherLaw" (35 : Nat) ({ cls := "RecordMatcherModel", name := "length", desc := "(II)I" } : Jvm.MethodName)) ∈ zW := zw_in 596 (by decide +kernel) rfl
theorem zm_555 : (Jvm.Cond.instanceMethod ({ cls := "RecordMatcherModel", name := "length", desc := "(II)I" } : Jvm.MethodName)) ∈ zW := zw_in 597 (by decide +kernel) rfl
theorem zm_556 : (Jvm.Cond.selects "RecordMatcherModel" ({ cls := "RecordMatcherModel", name := "length", desc := "(II)I" } : Jvm.MethodName) ({ cls := "RecordMatcherModel", name := "length", desc := "(II)I" } : Jvm.MethodName)) ∈ zW := zw_in 598 (by decide +kernel) rfl
theorem zm_557 : (Jvm.Cond.code ({ cls := "RecordMatcherModel", name := "length", desc := "(II)I" } : Jvm.MethodName) prog_10_method_15_code (3 : Nat) (Option.some Jvm.ClassFile.FieldType.int)) ∈ zW := zw_in 599 (by decide +kernel) rfl
theorem zm_558 : (Jvm.Cond.methodLink "RecordMatcherLaw" (40 : Nat) ({ cls := "RecordMatcherModel", name := "unit", desc := "(III)I" } : Jvm.MethodName)) ∈ zW := zw_in 600 (by decide +kernel) rfl
theorem zm_559 : (Jvm.Cond.instanceMethod ({ cls := "RecordMatcherModel", name := "unit", desc := "(III)I" } : Jvm.MethodName)) ∈ zW := zw_in 601 (by decide +kernel) rfl
theorem zm_560 : (Jvm.Cond.selects "RecordMatcherModel" ({ cls := "RecordMatcherModel", name := "unit", desc := "(III)I" } : Jvm.MethodName) ({ cls := "RecordMatcherModel", name := "unit", desc := "(III)I" } : Jvm.MethodName)) ∈ zW := zw_in 602 (by decide +kernel) rfl
theorem zm_561 : (Jvm.Cond.code ({ cls := "RecordMatcherModel", name := "unit", desc := "(III)I" } : Jvm.MethodName) prog_10_method_16_code (5 : Nat) (Option.some Jvm.ClassFile.FieldType.int)) ∈ zW := zw_in 603 (by decide +kernel) rfl
theorem zm_562 : (Jvm.Cond.methodLink "RecordMatcherModel" (106 : Nat) ({ cls := "RecordMatcherModel", name := "length", desc := "(II)I" } : Jvm.MethodName)) ∈ zW := zw_in 604 (by decide +kernel) rfl
theorem zm_563 : (Jvm.Cond.methodLink "RecordMatcherLaw" (45 : Nat) ({ cls := "RecordMatcherModel", name := "jaccard", desc := "(III)Z" } : Jvm.MethodName)) ∈ zW := zw_in 605 (by decide +kernel) rfl
theorem zm_564 : (Jvm.Cond.instanceMethod ({ cls := "RecordMatcherModel", name := "jaccard", desc := "(III)Z" } : Jvm.MethodName)) ∈ zW := zw_in 606 (by decide +kernel) rfl
theorem zm_565 : (Jvm.Cond.selects "RecordMatcherModel" ({ cls := "RecordMatcherModel", name := "jaccard", desc := "(III)Z" } : Jvm.MethodName) ({ cls := "RecordMatcherModel", name := "jaccard", desc := "(III)Z" } : Jvm.MethodName)) ∈ zW := zw_in 607 (by decide +kernel) rfl
theorem zm_566 : (Jvm.Cond.code ({ cls := "RecordMatcherModel", name := "jaccard", desc := "(III)Z" } : Jvm.MethodName) prog_10_method_21_code (4 : Nat) (Option.some Jvm.ClassFile.FieldType.boolean)) ∈ zW := zw_in 608 (by decide +kernel) rfl
theorem zm_567 : (Jvm.Cond.methodLink "RecordMatcherModel" (116 : Nat) ({ cls := "RecordMatcherModel", name := "mark", desc := "(IIII)V" } : Jvm.MethodName)) ∈ zW := zw_in 609 (by decide +kernel) rfl
theorem zm_569 : (Jvm.Cond.instanceMethod ({ cls := "RecordMatcherModel", name := "mark", desc := "(IIII)V" } : Jvm.MethodName)) ∈ zW := zw_in 611 (by decide +kernel) rfl
theorem zm_570 : (Jvm.Cond.code ({ cls := "RecordMatcherModel", name := "mark", desc := "(IIII)V" } : Jvm.MethodName) prog_10_method_19_code (6 : Nat) (Option.none : Option Jvm.ClassFile.FieldType)) ∈ zW := zw_in 612 (by decide +kernel) rfl
theorem zm_571 : (Jvm.Cond.methodLink "RecordMatcherModel" (112 : Nat) ({ cls := "RecordMatcherModel", name := "marks", desc := "()I" } : Jvm.MethodName)) ∈ zW := zw_in 613 (by decide +kernel) rfl
theorem zm_573 : (Jvm.Cond.instanceMethod ({ cls := "RecordMatcherModel", name := "marks", desc := "()I" } : Jvm.MethodName)) ∈ zW := zw_in 615 (by decide +kernel) rfl
theorem zm_574 : (Jvm.Cond.code ({ cls := "RecordMatcherModel", name := "marks", desc := "()I" } : Jvm.MethodName) prog_10_method_18_code (1 : Nat) (Option.some Jvm.ClassFile.FieldType.int)) ∈ zW := zw_in 616 (by decide +kernel) rfl
theorem zm_575 : (Jvm.Cond.methodLink "RecordMatcherModel" (120 : Nat) ({ cls := "RecordMatcherModel", name := "push", desc := "()V" } : Jvm.MethodName)) ∈ zW := zw_in 617 (by decide +kernel) rfl
theorem zm_577 : (Jvm.Cond.instanceMethod ({ cls := "RecordMatcherModel", name := "push", desc := "()V" } : Jvm.MethodName)) ∈ zW := zw_in 619 (by decide +kernel) rfl
theorem zm_578 : (Jvm.Cond.code ({ cls := "RecordMatcherModel", name := "push", desc := "()V" } : Jvm.MethodName) prog_10_method_20_code (2 : Nat) (Option.none : Option Jvm.ClassFile.FieldType)) ∈ zW := zw_in 620 (by decide +kernel) rfl
theorem zm_579 : (Jvm.Cond.methodLink "RecordMatcherLaw" (50 : Nat) ({ cls := "RecordMatcherModel", name := "edit", desc := "(II)Z" } : Jvm.MethodName)) ∈ zW := zw_in 621 (by decide +kernel) rfl
theorem zm_580 : (Jvm.Cond.instanceMethod ({ cls := "RecordMatcherModel", name := "edit", desc := "(II)Z" } : Jvm.MethodName)) ∈ zW := zw_in 622 (by decide +kernel) rfl
theorem zm_581 : (Jvm.Cond.selects "RecordMatcherModel" ({ cls := "RecordMatcherModel", name := "edit", desc := "(II)Z" } : Jvm.MethodName) ({ cls := "RecordMatcherModel", name := "edit", desc := "(II)Z" } : Jvm.MethodName)) ∈ zW := zw_in 623 (by decide +kernel) rfl
theorem zm_582 : (Jvm.Cond.code ({ cls := "RecordMatcherModel", name := "edit", desc := "(II)Z" } : Jvm.MethodName) prog_10_method_22_code (3 : Nat) (Option.some Jvm.ClassFile.FieldType.boolean)) ∈ zW := zw_in 624 (by decide +kernel) rfl
theorem zm_583 : (Jvm.Cond.methodLink "RecordMatcherLaw" (55 : Nat) ({ cls := "RecordMatcherModel", name := "join", desc := "(Z)Z" } : Jvm.MethodName)) ∈ zW := zw_in 625 (by decide +kernel) rfl
theorem zm_584 : (Jvm.Cond.instanceMethod ({ cls := "RecordMatcherModel", name := "join", desc := "(Z)Z" } : Jvm.MethodName)) ∈ zW := zw_in 626 (by decide +kernel) rfl
theorem zm_585 : (Jvm.Cond.selects "RecordMatcherModel" ({ cls := "RecordMatcherModel", name := "join", desc := "(Z)Z" } : Jvm.MethodName) ({ cls := "RecordMatcherModel", name := "join", desc := "(Z)Z" } : Jvm.MethodName)) ∈ zW := zw_in 627 (by decide +kernel) rfl
theorem zm_586 : (Jvm.Cond.code ({ cls := "RecordMatcherModel", name := "join", desc := "(Z)Z" } : Jvm.MethodName) prog_10_method_24_code (3 : Nat) (Option.some Jvm.ClassFile.FieldType.boolean)) ∈ zW := zw_in 628 (by decide +kernel) rfl
theorem zm_587 : (Jvm.Cond.methodLink "RecordMatcherModel" (123 : Nat) ({ cls := "RecordMatcherModel", name := "leaves", desc := "(II)I" } : Jvm.MethodName)) ∈ zW := zw_in 629 (by decide +kernel) rfl
theorem zm_589 : (Jvm.Cond.instanceMethod ({ cls := "RecordMatcherModel", name := "leaves", desc := "(II)I" } : Jvm.MethodName)) ∈ zW := zw_in 631 (by decide +kernel) rfl
theorem zm_590 : (Jvm.Cond.code ({ cls := "RecordMatcherModel", name := "leaves", desc := "(II)I" } : Jvm.MethodName) prog_10_method_23_code (5 : Nat) (Option.some Jvm.ClassFile.FieldType.int)) ∈ zW := zw_in 632 (by decide +kernel) rfl
theorem zm_591 : (Jvm.Cond.methodLink "RecordMatcherLaw" (59 : Nat) ({ cls := "RecordMatcherModel", name := "accept", desc := "()I" } : Jvm.MethodName)) ∈ zW := zw_in 633 (by decide +kernel) rfl
theorem zm_592 : (Jvm.Cond.instanceMethod ({ cls := "RecordMatcherModel", name := "accept", desc := "()I" } : Jvm.MethodName)) ∈ zW := zw_in 634 (by decide +kernel) rfl
theorem zm_593 : (Jvm.Cond.selects "RecordMatcherModel" ({ cls := "RecordMatcherModel", name := "accept", desc := "()I" } : Jvm.MethodName) ({ cls := "RecordMatcherModel", name := "accept", desc := "()I" } : Jvm.MethodName)) ∈ zW := zw_in 635 (by decide +kernel) rfl
theorem zm_594 : (Jvm.Cond.code ({ cls := "RecordMatcherModel", name := "accept", desc := "()I" } : Jvm.MethodName) prog_10_method_26_code (3 : Nat) (Option.some Jvm.ClassFile.FieldType.int)) ∈ zW := zw_in 636 (by decide +kernel) rfl
theorem zm_595 : (Jvm.Cond.methodLink "RecordMatcherModel" (126 : Nat) ({ cls := "RecordMatcherModel", name := "driven", desc := "()Z" } : Jvm.MethodName)) ∈ zW := zw_in 637 (by decide +kernel) rfl
theorem zm_597 : (Jvm.Cond.instanceMethod ({ cls := "RecordMatcherModel", name := "driven", desc := "()Z" } : Jvm.MethodName)) ∈ zW := zw_in 639 (by decide +kernel) rfl
theorem zm_598 : (Jvm.Cond.code ({ cls := "RecordMatcherModel", name := "driven", desc := "()Z" } : Jvm.MethodName) prog_10_method_25_code (3 : Nat) (Option.some Jvm.ClassFile.FieldType.boolean)) ∈ zW := zw_in 640 (by decide +kernel) rfl
theorem zm_599 : (Jvm.Cond.methodLink "RecordMatcherLaw" (64 : Nat) ({ cls := "RecordMatcherModel", name := "discard", desc := "()Z" } : Jvm.MethodName)) ∈ zW := zw_in 641 (by decide +kernel) rfl
theorem zm_600 : (Jvm.Cond.instanceMethod ({ cls := "RecordMatcherModel", name := "discard", desc := "()Z" } : Jvm.MethodName)) ∈ zW := zw_in 642 (by decide +kernel) rfl
theorem zm_601 : (Jvm.Cond.selects "RecordMatcherModel" ({ cls := "RecordMatcherModel", name := "discard", desc := "()Z" } : Jvm.MethodName) ({ cls := "RecordMatcherModel", name := "discard", desc := "()Z" } : Jvm.MethodName)) ∈ zW := zw_in 643 (by decide +kernel) rfl
theorem zm_602 : (Jvm.Cond.code ({ cls := "RecordMatcherModel", name := "discard", desc := "()Z" } : Jvm.MethodName) prog_10_method_27_code (1 : Nat) (Option.some Jvm.ClassFile.FieldType.boolean)) ∈ zW := zw_in 644 (by decide +kernel) rfl
theorem zm_603 : (Jvm.Cond.methodLink "RecordMatcherLaw" (68 : Nat) ({ cls := "RecordMatcherModel", name := "similar", desc := "(II)I" } : Jvm.MethodName)) ∈ zW := zw_in 645 (by decide +kernel) rfl
theorem zm_604 : (Jvm.Cond.instanceMethod ({ cls := "RecordMatcherModel", name := "similar", desc := "(II)I" } : Jvm.MethodName)) ∈ zW := zw_in 646 (by decide +kernel) rfl
theorem zm_605 : (Jvm.Cond.selects "RecordMatcherModel" ({ cls := "RecordMatcherModel", name := "similar", desc := "(II)I" } : Jvm.MethodName) ({ cls := "RecordMatcherModel", name := "similar", desc := "(II)I" } : Jvm.MethodName)) ∈ zW := zw_in 647 (by decide +kernel) rfl
theorem zm_606 : (Jvm.Cond.code ({ cls := "RecordMatcherModel", name := "similar", desc := "(II)I" } : Jvm.MethodName) prog_10_method_30_code (3 : Nat) (Option.some Jvm.ClassFile.FieldType.int)) ∈ zW := zw_in 648 (by decide +kernel) rfl
theorem zm_607 : (Jvm.Cond.methodLink "RecordMatcherModel" (140 : Nat) ({ cls := "RecordMatcherModel", name := "holds", desc := "(II)Z" } : Jvm.MethodName)) ∈ zW := zw_in 649 (by decide +kernel) rfl
theorem zm_609 : (Jvm.Cond.instanceMethod ({ cls := "RecordMatcherModel", name := "holds", desc := "(II)Z" } : Jvm.MethodName)) ∈ zW := zw_in 651 (by decide +kernel) rfl
theorem zm_610 : (Jvm.Cond.code ({ cls := "RecordMatcherModel", name := "holds", desc := "(II)Z" } : Jvm.MethodName) prog_10_method_29_code (5 : Nat) (Option.some Jvm.ClassFile.FieldType.boolean)) ∈ zW := zw_in 652 (by decide +kernel) rfl
theorem zm_611 : (Jvm.Cond.methodLink "RecordMatcherModel" (136 : Nat) ({ cls := "RecordMatcherModel", name := "leafHolds", desc := "(III)Z" } : Jvm.MethodName)) ∈ zW := zw_in 653 (by decide +kernel) rfl
theorem zm_613 : (Jvm.Cond.instanceMethod ({ cls := "RecordMatcherModel", name := "leafHolds", desc := "(III)Z" } : Jvm.MethodName)) ∈ zW := zw_in 655 (by decide +kernel) rfl
theorem zm_614 : (Jvm.Cond.code ({ cls := "RecordMatcherModel", name := "leafHolds", desc := "(III)Z" } : Jvm.MethodName) prog_10_method_28_code (6 : Nat) (Option.some Jvm.ClassFile.FieldType.boolean)) ∈ zW := zw_in 656 (by decide +kernel) rfl
theorem zm_615 : (Jvm.Cond.methodLink "RecordMatcherModel" (133 : Nat) ({ cls := "RecordMatcherModel", name := "distance", desc := "()I" } : Jvm.MethodName)) ∈ zW := zw_in 657 (by decide +kernel) rfl
theorem zm_617 : (Jvm.Cond.instanceMethod ({ cls := "RecordMatcherModel", name := "distance", desc := "()I" } : Jvm.MethodName)) ∈ zW := zw_in 659 (by decide +kernel) rfl
theorem zm_618 : (Jvm.Cond.code ({ cls := "RecordMatcherModel", name := "distance", desc := "()I" } : Jvm.MethodName) prog_10_method_17_code (6 : Nat) (Option.some Jvm.ClassFile.FieldType.int)) ∈ zW := zw_in 660 (by decide +kernel) rfl
theorem zm_619 : (Jvm.Cond.methodLink "RecordMatcherLaw" (73 : Nat) ({ cls := "RecordMatcherModel", name := "start", desc := "(I)I" } : Jvm.MethodName)) ∈ zW := zw_in 661 (by decide +kernel) rfl
theorem zm_620 : (Jvm.Cond.instanceMethod ({ cls := "RecordMatcherModel", name := "start", desc := "(I)I" } : Jvm.MethodName)) ∈ zW := zw_in 662 (by decide +kernel) rfl
theorem zm_621 : (Jvm.Cond.selects "RecordMatcherModel" ({ cls := "RecordMatcherModel", name := "start", desc := "(I)I" } : Jvm.MethodName) ({ cls := "RecordMatcherModel", name := "start", desc := "(I)I" } : Jvm.MethodName)) ∈ zW := zw_in 663 (by decide +kernel) rfl
theorem zm_622 : (Jvm.Cond.code ({ cls := "RecordMatcherModel", name := "start", desc := "(I)I" } : Jvm.MethodName) prog_10_method_34_code (3 : Nat) (Option.some Jvm.ClassFile.FieldType.int)) ∈ zW := zw_in 664 (by decide +kernel) rfl
theorem zm_623 : (Jvm.Cond.methodLink "RecordMatcherLaw" (77 : Nat) ({ cls := "RecordMatcherModel", name := "work", desc := "(I)I" } : Jvm.MethodName)) ∈ zW := zw_in 665 (by decide +kernel) rfl
theorem zm_624 : (Jvm.Cond.instanceMethod ({ cls := "RecordMatcherModel", name := "work", desc := "(I)I" } : Jvm.MethodName)) ∈ zW := zw_in 666 (by decide +kernel) rfl
theorem zm_625 : (Jvm.Cond.selects "RecordMatcherModel" ({ cls := "RecordMatcherModel", name := "work", desc := "(I)I" } : Jvm.MethodName) ({ cls := "RecordMatcherModel", name := "work", desc := "(I)I" } : Jvm.MethodName)) ∈ zW := zw_in 667 (by decide +kernel) rfl
theorem zm_626 : (Jvm.Cond.code ({ cls := "RecordMatcherModel", name := "work", desc := "(I)I" } : Jvm.MethodName) prog_10_method_35_code (6 : Nat) (Option.some Jvm.ClassFile.FieldType.int)) ∈ zW := zw_in 668 (by decide +kernel) rfl
theorem zm_627 : (Jvm.Cond.methodLink "RecordMatcherModel" (146 : Nat) ({ cls := "RecordMatcherModel", name := "isWorker", desc := "(I)Z" } : Jvm.MethodName)) ∈ zW := zw_in 669 (by decide +kernel) rfl
theorem zm_629 : (Jvm.Cond.instanceMethod ({ cls := "RecordMatcherModel", name := "isWorker", desc := "(I)Z" } : Jvm.MethodName)) ∈ zW := zw_in 671 (by decide +kernel) rfl
theorem zm_630 : (Jvm.Cond.code ({ cls := "RecordMatcherModel", name := "isWorker", desc := "(I)Z" } : Jvm.MethodName) prog_10_method_33_code (2 : Nat) (Option.some Jvm.ClassFile.FieldType.boolean)) ∈ zW := zw_in 672 (by decide +kernel) rfl
theorem zm_631 : (Jvm.Cond.methodLink "RecordMatcherModel" (143 : Nat) ({ cls := "RecordMatcherModel", name := "tasksOf", desc := "(I)I" } : Jvm.MethodName)) ∈ zW := zw_in 673 (by decide +kernel) rfl
theorem zm_633 : (Jvm.Cond.instanceMethod ({ cls := "RecordMatcherModel", name := "tasksOf", desc := "(I)I" } : Jvm.MethodName)) ∈ zW := zw_in 675 (by decide +kernel) rfl
theorem zm_634 : (Jvm.Cond.code ({ cls := "RecordMatcherModel", name := "tasksOf", desc := "(I)I" } : Jvm.MethodName) prog_10_method_31_code (4 : Nat) (Option.some Jvm.ClassFile.FieldType.int)) ∈ zW := zw_in 676 (by decide +kernel) rfl
theorem zm_635 : (Jvm.Cond.methodLink "RecordMatcherLaw" (81 : Nat) ({ cls := "RecordMatcherModel", name := "crash", desc := "(I)I" } : Jvm.MethodName)) ∈ zW := zw_in 677 (by decide +kernel) rfl
theorem zm_636 : (Jvm.Cond.instanceMethod ({ cls := "RecordMatcherModel", name := "crash", desc := "(I)I" } : Jvm.MethodName)) ∈ zW := zw_in 678 (by decide +kernel) rfl
theorem zm_637 : (Jvm.Cond.selects "RecordMatcherModel" ({ cls := "RecordMatcherModel", name := "crash", desc := "(I)I" } : Jvm.MethodName) ({ cls := "RecordMatcherModel", name := "crash", desc := "(I)I" } : Jvm.MethodName)) ∈ zW := zw_in 679 (by decide +kernel) rfl
theorem zm_638 : (Jvm.Cond.code ({ cls := "RecordMatcherModel", name := "crash", desc := "(I)I" } : Jvm.MethodName) prog_10_method_36_code (3 : Nat) (Option.some Jvm.ClassFile.FieldType.int)) ∈ zW := zw_in 680 (by decide +kernel) rfl
theorem zm_639 : (Jvm.Cond.methodLink "RecordMatcherModel" (149 : Nat) ({ cls := "RecordMatcherModel", name := "isDone", desc := "()Z" } : Jvm.MethodName)) ∈ zW := zw_in 681 (by decide +kernel) rfl
theorem zm_641 : (Jvm.Cond.instanceMethod ({ cls := "RecordMatcherModel", name := "isDone", desc := "()Z" } : Jvm.MethodName)) ∈ zW := zw_in 683 (by decide +kernel) rfl
theorem zm_642 : (Jvm.Cond.code ({ cls := "RecordMatcherModel", name := "isDone", desc := "()Z" } : Jvm.MethodName) prog_10_method_32_code (3 : Nat) (Option.some Jvm.ClassFile.FieldType.boolean)) ∈ zW := zw_in 684 (by decide +kernel) rfl
theorem zm_643 : (Jvm.Cond.methodLink "RecordMatcherLaw" (85 : Nat) ({ cls := "RecordMatcherModel", name := "pairs", desc := "()I" } : Jvm.MethodName)) ∈ zW := zw_in 685 (by decide +kernel) rfl
theorem zm_644 : (Jvm.Cond.instanceMethod ({ cls := "RecordMatcherModel", name := "pairs", desc := "()I" } : Jvm.MethodName)) ∈ zW := zw_in 686 (by decide +kernel) rfl
theorem zm_645 : (Jvm.Cond.selects "RecordMatcherModel" ({ cls := "RecordMatcherModel", name := "pairs", desc := "()I" } : Jvm.MethodName) ({ cls := "RecordMatcherModel", name := "pairs", desc := "()I" } : Jvm.MethodName)) ∈ zW := zw_in 687 (by decide +kernel) rfl
theorem zm_646 : (Jvm.Cond.code ({ cls := "RecordMatcherModel", name := "pairs", desc := "()I" } : Jvm.MethodName) prog_10_method_38_code (5 : Nat) (Option.some Jvm.ClassFile.FieldType.int)) ∈ zW := zw_in 688 (by decide +kernel) rfl
theorem zm_647 : (Jvm.Cond.methodLink "RecordMatcherModel" (152 : Nat) ({ cls := "RecordMatcherModel", name := "isFound", desc := "(II)Z" } : Jvm.MethodName)) ∈ zW := zw_in 689 (by decide +kernel) rfl
theorem zm_649 : (Jvm.Cond.instanceMethod ({ cls := "RecordMatcherModel", name := "isFound", desc := "(II)Z" } : Jvm.MethodName)) ∈ zW := zw_in 691 (by decide +kernel) rfl
theorem zm_650 : (Jvm.Cond.code ({ cls := "RecordMatcherModel", name := "isFound", desc := "(II)Z" } : Jvm.MethodName) prog_10_method_37_code (5 : Nat) (Option.some Jvm.ClassFile.FieldType.boolean)) ∈ zW := zw_in 692 (by decide +kernel) rfl
theorem zm_651 : (Jvm.Cond.methodLink "RecordMatcherLaw" (89 : Nat) ({ cls := "RecordMatcherModel", name := "found", desc := "(II)I" } : Jvm.MethodName)) ∈ zW := zw_in 693 (by decide +kernel) rfl
theorem zm_652 : (Jvm.Cond.instanceMethod ({ cls := "RecordMatcherModel", name := "found", desc := "(II)I" } : Jvm.MethodName)) ∈ zW := zw_in 694 (by decide +kernel) rfl
theorem zm_653 : (Jvm.Cond.selects "RecordMatcherModel" ({ cls := "RecordMatcherModel", name := "found", desc := "(II)I" } : Jvm.MethodName) ({ cls := "RecordMatcherModel", name := "found", desc := "(II)I" } : Jvm.MethodName)) ∈ zW := zw_in 695 (by decide +kernel) rfl
theorem zm_654 : (Jvm.Cond.code ({ cls := "RecordMatcherModel", name := "found", desc := "(II)I" } : Jvm.MethodName) prog_10_method_39_code (3 : Nat) (Option.some Jvm.ClassFile.FieldType.int)) ∈ zW := zw_in 696 (by decide +kernel) rfl
theorem zm_655 : (Jvm.Cond.methodLink "RecordMatcherLaw" (93 : Nat) ({ cls := "RecordMatcherModel", name := "cluster", desc := "(I)I" } : Jvm.MethodName)) ∈ zW := zw_in 697 (by decide +kernel) rfl
theorem zm_656 : (Jvm.Cond.instanceMethod ({ cls := "RecordMatcherModel", name := "cluster", desc := "(I)I" } : Jvm.MethodName)) ∈ zW := zw_in 698 (by decide +kernel) rfl
theorem zm_657 : (Jvm.Cond.selects "RecordMatcherModel" ({ cls := "RecordMatcherModel", name := "cluster", desc := "(I)I" } : Jvm.MethodName) ({ cls := "RecordMatcherModel", name := "cluster", desc := "(I)I" } : Jvm.MethodName)) ∈ zW := zw_in 699 (by decide +kernel) rfl
theorem zm_658 : (Jvm.Cond.code ({ cls := "RecordMatcherModel", name := "cluster", desc := "(I)I" } : Jvm.MethodName) prog_10_method_41_code (2 : Nat) (Option.some Jvm.ClassFile.FieldType.int)) ∈ zW := zw_in 700 (by decide +kernel) rfl
theorem zm_659 : (Jvm.Cond.methodLink "RecordMatcherModel" (155 : Nat) ({ cls := "RecordMatcherModel", name := "spread", desc := "()V" } : Jvm.MethodName)) ∈ zW := zw_in 701 (by decide +kernel) rfl
theorem zm_661 : (Jvm.Cond.instanceMethod ({ cls := "RecordMatcherModel", name := "spread", desc := "()V" } : Jvm.MethodName)) ∈ zW := zw_in 703 (by decide +kernel) rfl
theorem zm_662 : (Jvm.Cond.code ({ cls := "RecordMatcherModel", name := "spread", desc := "()V" } : Jvm.MethodName) prog_10_method_40_code (5 : Nat) (Option.none : Option Jvm.ClassFile.FieldType)) ∈ zW := zw_in 704 (by decide +kernel) rfl
theorem zm_663 : (Jvm.Cond.methodLink "RecordMatcherLaw" (97 : Nat) ({ cls := "RecordMatcherModel", name := "keep", desc := "(II)Z" } : Jvm.MethodName)) ∈ zW := zw_in 705 (by decide +kernel) rfl
theorem zm_664 : (Jvm.Cond.instanceMethod ({ cls := "RecordMatcherModel", name := "keep", desc := "(II)Z" } : Jvm.MethodName)) ∈ zW := zw_in 706 (by decide +kernel) rfl
theorem zm_665 : (Jvm.Cond.selects "RecordMatcherModel" ({ cls := "RecordMatcherModel", name := "keep", desc := "(II)Z" } : Jvm.MethodName) ({ cls := "RecordMatcherModel", name := "keep", desc := "(II)Z" } : Jvm.MethodName)) ∈ zW := zw_in 707 (by decide +kernel) rfl
theorem zm_666 : (Jvm.Cond.code ({ cls := "RecordMatcherModel", name := "keep", desc := "(II)Z" } : Jvm.MethodName) prog_10_method_42_code (3 : Nat) (Option.some Jvm.ClassFile.FieldType.boolean)) ∈ zW := zw_in 708 (by decide +kernel) rfl
theorem zm_667 : (Jvm.Cond.methodLink "RecordMatcherLaw" (101 : Nat) ({ cls := "RecordMatcherModel", name := "kept", desc := "(II)I" } : Jvm.MethodName)) ∈ zW := zw_in 709 (by decide +kernel) rfl
theorem zm_668 : (Jvm.Cond.instanceMethod ({ cls := "RecordMatcherModel", name := "kept", desc := "(II)I" } : Jvm.MethodName)) ∈ zW := zw_in 710 (by decide +kernel) rfl
theorem zm_669 : (Jvm.Cond.selects "RecordMatcherModel" ({ cls := "RecordMatcherModel", name := "kept", desc := "(II)I" } : Jvm.MethodName) ({ cls := "RecordMatcherModel", name := "kept", desc := "(II)I" } : Jvm.MethodName)) ∈ zW := zw_in 711 (by decide +kernel) rfl
theorem zm_670 : (Jvm.Cond.code ({ cls := "RecordMatcherModel", name := "kept", desc := "(II)I" } : Jvm.MethodName) prog_10_method_47_code (7 : Nat) (Option.some Jvm.ClassFile.FieldType.int)) ∈ zW := zw_in 712 (by decide +kernel) rfl
theorem zm_671 : (Jvm.Cond.methodLink "RecordMatcherModel" (168 : Nat) ({ cls := "RecordMatcherModel", name := "better", desc := "(IIII)Z" } : Jvm.MethodName)) ∈ zW := zw_in 713 (by decide +kernel) rfl
theorem zm_673 : (Jvm.Cond.instanceMethod ({ cls := "RecordMatcherModel", name := "better", desc := "(IIII)Z" } : Jvm.MethodName)) ∈ zW := zw_in 715 (by decide +kernel) rfl
theorem zm_674 : (Jvm.Cond.code ({ cls := "RecordMatcherModel", name := "better", desc := "(IIII)Z" } : Jvm.MethodName) prog_10_method_46_code (8 : Nat) (Option.some Jvm.ClassFile.FieldType.boolean)) ∈ zW := zw_in 716 (by decide +kernel) rfl
theorem zm_675 : (Jvm.Cond.methodLink "RecordMatcherModel" (162 : Nat) ({ cls := "RecordMatcherModel", name := "sizeOf", desc := "(II)I" } : Jvm.MethodName)) ∈ zW := zw_in 717 (by decide +kernel) rfl
theorem zm_677 : (Jvm.Cond.instanceMethod ({ cls := "RecordMatcherModel", name := "sizeOf", desc := "(II)I" } : Jvm.MethodName)) ∈ zW := zw_in 719 (by decide +kernel) rfl
theorem zm_678 : (Jvm.Cond.code ({ cls := "RecordMatcherModel", name := "sizeOf", desc := "(II)I" } : Jvm.MethodName) prog_10_method_43_code (3 : Nat) (Option.some Jvm.ClassFile.FieldType.int)) ∈ zW := zw_in 720 (by decide +kernel) rfl
theorem zm_679 : (Jvm.Cond.methodLink "RecordMatcherModel" (158 : Nat) ({ cls := "RecordMatcherModel", name := "compare", desc := "(III)I" } : Jvm.MethodName)) ∈ zW := zw_in 721 (by decide +kernel) rfl
theorem zm_681 : (Jvm.Cond.instanceMethod ({ cls := "RecordMatcherModel", name := "compare", desc := "(III)I" } : Jvm.MethodName)) ∈ zW := zw_in 723 (by decide +kernel) rfl
theorem zm_682 : (Jvm.Cond.code ({ cls := "RecordMatcherModel", name := "compare", desc := "(III)I" } : Jvm.MethodName) prog_10_method_44_code (7 : Nat) (Option.some Jvm.ClassFile.FieldType.int)) ∈ zW := zw_in 724 (by decide +kernel) rfl
theorem zm_683 : (Jvm.Cond.methodLink "RecordMatcherModel" (165 : Nat) ({ cls := "RecordMatcherModel", name := "same", desc := "(III)I" } : Jvm.MethodName)) ∈ zW := zw_in 725 (by decide +kernel) rfl
theorem zm_685 : (Jvm.Cond.instanceMethod ({ cls := "RecordMatcherModel", name := "same", desc := "(III)I" } : Jvm.MethodName)) ∈ zW := zw_in 727 (by decide +kernel) rfl
theorem zm_686 : (Jvm.Cond.code ({ cls := "RecordMatcherModel", name := "same", desc := "(III)I" } : Jvm.MethodName) prog_10_method_45_code (7 : Nat) (Option.some Jvm.ClassFile.FieldType.int)) ∈ zW := zw_in 728 (by decide +kernel) rfl
theorem zp_RM_textOf : (Jvm.Cond.selects "RecordMatcher" ⟨"RecordMatcher", "textOf", "(II)LRecordMatcher$Text;"⟩ ⟨"RecordMatcher", "textOf", "(II)LRecordMatcher$Text;"⟩) ∈ zW := zw_in 0 (by decide +kernel) rfl
theorem zp_Te_put : (Jvm.Cond.selects "RecordMatcher$Text" ⟨"RecordMatcher$Text", "put", "(C)V"⟩ ⟨"RecordMatcher$Text", "put", "(C)V"⟩) ∈ zW := zw_in 1 (by decide +kernel) rfl
theorem zp_RM_isRecord : (Jvm.Cond.selects "RecordMatcher" ⟨"RecordMatcher", "isRecord", "(I)Z"⟩ ⟨"RecordMatcher", "isRecord", "(I)Z"⟩) ∈ zW := zw_in 2 (by decide +kernel) rfl
theorem zp_Te_beginsWord : (Jvm.Cond.selects "RecordMatcher$Text" ⟨"RecordMatcher$Text", "beginsWord", "(I)Z"⟩ ⟨"RecordMatcher$Text", "beginsWord", "(I)Z"⟩) ∈ zW := zw_in 3 (by decide +kernel) rfl
theorem zp_Te_hasWordBefore : (Jvm.Cond.selects "RecordMatcher$Text" ⟨"RecordMatcher$Text", "hasWordBefore", "(ILRecordMatcher$Text;I)Z"⟩ ⟨"RecordMatcher$Text", "hasWordBefore", "(ILRecordMatcher$Text;I)Z"⟩) ∈ zW := zw_in 4 (by decide +kernel) rfl
theorem zp_Te_isSameWord : (Jvm.Cond.selects "RecordMatcher$Text" ⟨"RecordMatcher$Text", "isSameWord", "(ILRecordMatcher$Text;I)Z"⟩ ⟨"RecordMatcher$Text", "isSameWord", "(ILRecordMatcher$Text;I)Z"⟩) ∈ zW := zw_in 5 (by decide +kernel) rfl
theorem zp_Te_endsWord : (Jvm.Cond.selects "RecordMatcher$Text" ⟨"RecordMatcher$Text", "endsWord", "(I)Z"⟩ ⟨"RecordMatcher$Text", "endsWord", "(I)Z"⟩) ∈ zW := zw_in 6 (by decide +kernel) rfl
theorem zp_RM_push : (Jvm.Cond.selects "RecordMatcher" ⟨"RecordMatcher", "push", "(LRecordMatcher$Expression;)V"⟩ ⟨"RecordMatcher", "push", "(LRecordMatcher$Expression;)V"⟩) ∈ zW := zw_in 7 (by decide +kernel) rfl
theorem zp_RM_fromTop : (Jvm.Cond.selects "RecordMatcher" ⟨"RecordMatcher", "fromTop", "(I)LRecordMatcher$Expression;"⟩ ⟨"RecordMatcher", "fromTop", "(I)LRecordMatcher$Expression;"⟩) ∈ zW := zw_in 8 (by decide +kernel) rfl
theorem zp_RM_areTwoRecords : (Jvm.Cond.selects "RecordMatcher" ⟨"RecordMatcher", "areTwoRecords", "(II)Z"⟩ ⟨"RecordMatcher", "areTwoRecords", "(II)Z"⟩) ∈ zW := zw_in 9 (by decide +kernel) rfl
theorem zp_Ed_countSteps : (Jvm.Cond.selects "RecordMatcher$Edit" ⟨"RecordMatcher$Edit", "countSteps", "(LRecordMatcher$Text;LRecordMatcher$Text;)I"⟩ ⟨"RecordMatcher$Edit", "countSteps", "(LRecordMatcher$Text;LRecordMatcher$Text;)I"⟩) ∈ zW := zw_in 10 (by decide +kernel) rfl
theorem zp_Ed_goThrough : (Jvm.Cond.selects "RecordMatcher$Edit" ⟨"RecordMatcher$Edit", "goThrough", "(CLRecordMatcher$Text;)V"⟩ ⟨"RecordMatcher$Edit", "goThrough", "(CLRecordMatcher$Text;)V"⟩) ∈ zW := zw_in 11 (by decide +kernel) rfl
theorem zp_Ru_taskOf : (Jvm.Cond.selects "RecordMatcher$Run" ⟨"RecordMatcher$Run", "taskOf", "(II)I"⟩ ⟨"RecordMatcher$Run", "taskOf", "(II)I"⟩) ∈ zW := zw_in 12 (by decide +kernel) rfl
theorem zp_Ru_forgetPairsOf : (Jvm.Cond.selects "RecordMatcher$Run" ⟨"RecordMatcher$Run", "forgetPairsOf", "(I)V"⟩ ⟨"RecordMatcher$Run", "forgetPairsOf", "(I)V"⟩) ∈ zW := zw_in 13 (by decide +kernel) rfl
theorem zp_Ru_unite : (Jvm.Cond.selects "RecordMatcher$Run" ⟨"RecordMatcher$Run", "unite", "(II)V"⟩ ⟨"RecordMatcher$Run", "unite", "(II)V"⟩) ∈ zW := zw_in 14 (by decide +kernel) rfl
theorem zp_RM_bestOfCluster : (Jvm.Cond.selects "RecordMatcher" ⟨"RecordMatcher", "bestOfCluster", "(II)I"⟩ ⟨"RecordMatcher", "bestOfCluster", "(II)I"⟩) ∈ zW := zw_in 15 (by decide +kernel) rfl
theorem zp_RM_isBetter : (Jvm.Cond.selects "RecordMatcher" ⟨"RecordMatcher", "isBetter", "(III)Z"⟩ ⟨"RecordMatcher", "isBetter", "(III)Z"⟩) ∈ zW := zw_in 16 (by decide +kernel) rfl
theorem zp_RM_countHavingTextOf : (Jvm.Cond.selects "RecordMatcher" ⟨"RecordMatcher", "countHavingTextOf", "(II)I"⟩ ⟨"RecordMatcher", "countHavingTextOf", "(II)I"⟩) ∈ zW := zw_in 17 (by decide +kernel) rfl
theorem zp_Mo_isRecord : (Jvm.Cond.selects "RecordMatcherModel" ⟨"RecordMatcherModel", "isRecord", "(I)Z"⟩ ⟨"RecordMatcherModel", "isRecord", "(I)Z"⟩) ∈ zW := zw_in 18 (by decide +kernel) rfl
theorem zp_Mo_look : (Jvm.Cond.selects "RecordMatcherModel" ⟨"RecordMatcherModel", "look", "(III)V"⟩ ⟨"RecordMatcherModel", "look", "(III)V"⟩) ∈ zW := zw_in 19 (by decide +kernel) rfl
theorem zp_Mo_inSet : (Jvm.Cond.selects "RecordMatcherModel" ⟨"RecordMatcherModel", "inSet", "(IIZ)I"⟩ ⟨"RecordMatcherModel", "inSet", "(IIZ)I"⟩) ∈ zW := zw_in 20 (by decide +kernel) rfl
theorem zp_Mo_begins : (Jvm.Cond.selects "RecordMatcherModel" ⟨"RecordMatcherModel", "begins", "(II)Z"⟩ ⟨"RecordMatcherModel", "begins", "(II)Z"⟩) ∈ zW := zw_in 21 (by decide +kernel) rfl
theorem zp_Mo_at : (Jvm.Cond.selects "RecordMatcherModel" ⟨"RecordMatcherModel", "at", "(II)I"⟩ ⟨"RecordMatcherModel", "at", "(II)I"⟩) ∈ zW := zw_in 22 (by decide +kernel) rfl
theorem zp_Mo_stands : (Jvm.Cond.selects "RecordMatcherModel" ⟨"RecordMatcherModel", "stands", "(IIII)Z"⟩ ⟨"RecordMatcherModel", "stands", "(IIII)Z"⟩) ∈ zW := zw_in 23 (by decide +kernel) rfl
theorem zp_Mo_sameWord : (Jvm.Cond.selects "RecordMatcherModel" ⟨"RecordMatcherModel", "sameWord", "(IIII)Z"⟩ ⟨"RecordMatcherModel", "sameWord", "(IIII)Z"⟩) ∈ zW := zw_in 24 (by decide +kernel) rfl
theorem zp_Mo_mark : (Jvm.Cond.selects "RecordMatcherModel" ⟨"RecordMatcherModel", "mark", "(IIII)V"⟩ ⟨"RecordMatcherModel", "mark", "(IIII)V"⟩) ∈ zW := zw_in 25 (by decide +kernel) rfl
theorem zp_Mo_marks : (Jvm.Cond.selects "RecordMatcherModel" ⟨"RecordMatcherModel", "marks", "()I"⟩ ⟨"RecordMatcherModel", "marks", "()I"⟩) ∈ zW := zw_in 26 (by decide +kernel) rfl
theorem zp_Mo_push : (Jvm.Cond.selects "RecordMatcherModel" ⟨"RecordMatcherModel", "push", "()V"⟩ ⟨"RecordMatcherModel", "push", "()V"⟩) ∈ zW := zw_in 27 (by decide +kernel) rfl
theorem zp_Mo_leaves : (Jvm.Cond.selects "RecordMatcherModel" ⟨"RecordMatcherModel", "leaves", "(II)I"⟩ ⟨"RecordMatcherModel", "leaves", "(II)I"⟩) ∈ zW := zw_in 28 (by decide +kernel) rfl
theorem zp_Mo_driven : (Jvm.Cond.selects "RecordMatcherModel" ⟨"RecordMatcherModel", "driven", "()Z"⟩ ⟨"RecordMatcherModel", "driven", "()Z"⟩) ∈ zW := zw_in 29 (by decide +kernel) rfl
theorem zp_Mo_holds : (Jvm.Cond.selects "RecordMatcherModel" ⟨"RecordMatcherModel", "holds", "(II)Z"⟩ ⟨"RecordMatcherModel", "holds", "(II)Z"⟩) ∈ zW := zw_in 30 (by decide +kernel) rfl
theorem zp_Mo_leafHolds : (Jvm.Cond.selects "RecordMatcherModel" ⟨"RecordMatcherModel", "leafHolds", "(III)Z"⟩ ⟨"RecordMatcherModel", "leafHolds", "(III)Z"⟩) ∈ zW := zw_in 31 (by decide +kernel) rfl
theorem zp_Mo_distance : (Jvm.Cond.selects "RecordMatcherModel" ⟨"RecordMatcherModel", "distance", "()I"⟩ ⟨"RecordMatcherModel", "distance", "()I"⟩) ∈ zW := zw_in 32 (by decide +kernel) rfl
theorem zp_Mo_isWorker : (Jvm.Cond.selects "RecordMatcherModel" ⟨"RecordMatcherModel", "isWorker", "(I)Z"⟩ ⟨"RecordMatcherModel", "isWorker", "(I)Z"⟩) ∈ zW := zw_in 33 (by decide +kernel) rfl
theorem zp_Mo_tasksOf : (Jvm.Cond.selects "RecordMatcherModel" ⟨"RecordMatcherModel", "tasksOf", "(I)I"⟩ ⟨"RecordMatcherModel", "tasksOf", "(I)I"⟩) ∈ zW := zw_in 34 (by decide +kernel) rfl
theorem zp_Mo_isDone : (Jvm.Cond.selects "RecordMatcherModel" ⟨"RecordMatcherModel", "isDone", "()Z"⟩ ⟨"RecordMatcherModel", "isDone", "()Z"⟩) ∈ zW := zw_in 35 (by decide +kernel) rfl
theorem zp_Mo_isFound : (Jvm.Cond.selects "RecordMatcherModel" ⟨"RecordMatcherModel", "isFound", "(II)Z"⟩ ⟨"RecordMatcherModel", "isFound", "(II)Z"⟩) ∈ zW := zw_in 36 (by decide +kernel) rfl
theorem zp_Mo_spread : (Jvm.Cond.selects "RecordMatcherModel" ⟨"RecordMatcherModel", "spread", "()V"⟩ ⟨"RecordMatcherModel", "spread", "()V"⟩) ∈ zW := zw_in 37 (by decide +kernel) rfl
theorem zp_Mo_better : (Jvm.Cond.selects "RecordMatcherModel" ⟨"RecordMatcherModel", "better", "(IIII)Z"⟩ ⟨"RecordMatcherModel", "better", "(IIII)Z"⟩) ∈ zW := zw_in 38 (by decide +kernel) rfl
theorem zp_Mo_sizeOf : (Jvm.Cond.selects "RecordMatcherModel" ⟨"RecordMatcherModel", "sizeOf", "(II)I"⟩ ⟨"RecordMatcherModel", "sizeOf", "(II)I"⟩) ∈ zW := zw_in 39 (by decide +kernel) rfl
theorem zp_Mo_compare : (Jvm.Cond.selects "RecordMatcherModel" ⟨"RecordMatcherModel", "compare", "(III)I"⟩ ⟨"RecordMatcherModel", "compare", "(III)I"⟩) ∈ zW := zw_in 40 (by decide +kernel) rfl
theorem zp_Mo_same : (Jvm.Cond.selects "RecordMatcherModel" ⟨"RecordMatcherModel", "same", "(III)I"⟩ ⟨"RecordMatcherModel", "same", "(III)I"⟩) ∈ zW := zw_in 41 (by decide +kernel) rfl
/-- words that are carried by hand -/
def zN : List Cond := [(Jvm.Cond.methodLinkNest "RecordMatcher" (23 : Nat) ({ cls := "RecordMatcher$Run", name := "<init>", desc := "()V" } : Jvm.MethodName) "RecordMatcher"), (Jvm.Cond.fieldLinkNest "RecordMatcher" (161 : Nat) "RecordMatcher$Run" "leaders" "[I" "RecordMatcher"), (Jvm.Cond.fieldLinkNest "RecordMatcher" (127 : Nat) "RecordMatcher$Run" "tasks" "I" "RecordMatcher"), (Jvm.Cond.methodLinkNest "RecordMatcher" (32 : Nat) ({ cls := "RecordMatcher$Entry", name := "<init>", desc := "()V" } : Jvm.MethodName) "RecordMatcher"), (Jvm.Cond.methodLinkNest "RecordMatcher$Entry" (9 : Nat) ({ cls := "RecordMatcher$Text", name := "<init>", desc := "()V" } : Jvm.MethodName) "RecordMatcher"), (Jvm.Cond.fieldLinkNest "RecordMatcher$Edit" (37 : Nat) "RecordMatcher$Text" "codes" "[C" "RecordMatcher"), (Jvm.Cond.fieldLinkNest "RecordMatcher" (64 : Nat) "RecordMatcher$Text" "codes" "[C" "RecordMatcher"), (Jvm.Cond.fieldLinkNest "RecordMatcher$Edit" (32 : Nat) "RecordMatcher$Text" "size" "I" "RecordMatcher"), (Jvm.Cond.fieldLinkNest "RecordMatcher" (61 : Nat) "RecordMatcher$Text" "size" "I" "RecordMatcher"), (Jvm.Cond.declares ({ cls := "RecordMatcher$Expression", name := "holdsOf", desc := "(LRecordMatcher$Entry;LRecordMatcher$Entry;)Z" } : Jvm.MethodName)), (Jvm.Cond.castable "RecordMatcher$Edit" "RecordMatcher$Expression"), (Jvm.Cond.castable "RecordMatcher$Jaccard" "RecordMatcher$Expression"), (Jvm.Cond.castable "RecordMatcher$Joined" "RecordMatcher$Expression")]
theorem zn_in : ∀ w ∈ zN, w ∈ lw_tbl := by decide +kernel
def zn_k : Cond → Bool
  | .fieldLinkNest _ _ _ _ _ _ => true
  | .methodLinkNest _ _ _ _ => true
  | .castable _ _ => true
  | .declares _ => true
  | _ => false
theorem zn_ok : ∀ w ∈ zN, zn_k w = true := by decide +kernel
theorem zn_25 : (Jvm.Cond.methodLinkNest "RecordMatcher" (23 : Nat) ({ cls := "RecordMatcher$Run", name := "<init>", desc := "()V" } : Jvm.MethodName) "RecordMatcher") ∈ zN := List.mem_of_getElem? (i := 0) rfl
theorem zn_32 : (Jvm.Cond.fieldLinkNest "RecordMatcher" (161 : Nat) "RecordMatcher$Run" "leaders" "[I" "RecordMatcher") ∈ zN := List.mem_of_getElem? (i := 1) rfl
theorem zn_34 : (Jvm.Cond.fieldLinkNest "RecordMatcher" (127 : Nat) "RecordMatcher$Run" "tasks" "I" "RecordMatcher") ∈ zN := List.mem_of_getElem? (i := 2) rfl
theorem zn_50 : (Jvm.Cond.methodLinkNest "RecordMatcher" (32 : Nat) ({ cls := "RecordMatcher$Entry", name := "<init>", desc := "()V" } : Jvm.MethodName) "RecordMatcher") ∈ zN := List.mem_of_getElem? (i := 3) rfl
theorem zn_56 : (Jvm.Cond.methodLinkNest "RecordMatcher$Entry" (9 : Nat) ({ cls := "RecordMatcher$Text", name := "<init>", desc := "()V" } : Jvm.MethodName) "RecordMatcher") ∈ zN := List.mem_of_getElem? (i := 4) rfl
theorem zn_61 : (Jvm.Cond.fieldLinkNest "RecordMatcher$Edit" (37 : Nat) "RecordMatcher$Text" "codes" "[C" "RecordMatcher") ∈ zN := List.mem_of_getElem? (i := 5) rfl
theorem zn_62 : (Jvm.Cond.fieldLinkNest "RecordMatcher" (64 : Nat) "RecordMatcher$Text" "codes" "[C" "RecordMatcher") ∈ zN := List.mem_of_getElem? (i := 6) rfl
theorem zn_64 : (Jvm.Cond.fieldLinkNest "RecordMatcher$Edit" (32 : Nat) "RecordMatcher$Text" "size" "I" "RecordMatcher") ∈ zN := List.mem_of_getElem? (i := 7) rfl
theorem zn_65 : (Jvm.Cond.fieldLinkNest "RecordMatcher" (61 : Nat) "RecordMatcher$Text" "size" "I" "RecordMatcher") ∈ zN := List.mem_of_getElem? (i := 8) rfl
theorem zn_286 : (Jvm.Cond.declares ({ cls := "RecordMatcher$Expression", name := "holdsOf", desc := "(LRecordMatcher$Entry;LRecordMatcher$Entry;)Z" } : Jvm.MethodName)) ∈ zN := List.mem_of_getElem? (i := 9) rfl
theorem zn_687 : (Jvm.Cond.castable "RecordMatcher$Edit" "RecordMatcher$Expression") ∈ zN := List.mem_of_getElem? (i := 10) rfl
theorem zn_688 : (Jvm.Cond.castable "RecordMatcher$Jaccard" "RecordMatcher$Expression") ∈ zN := List.mem_of_getElem? (i := 11) rfl
theorem zn_689 : (Jvm.Cond.castable "RecordMatcher$Joined" "RecordMatcher$Expression") ∈ zN := List.mem_of_getElem? (i := 12) rfl
end
section
/-! Classes, their fields in the order of the slots, the methods' codes and names. -/
abbrev R_Te : String := "RecordMatcher$Text"
def T_Te : u_T := fun k => match k with
  | 0 => ("RecordMatcher$Text", "codes", "[C", true)
  | 1 => ("RecordMatcher$Text", "size", "I", false)
  | 2 => ("RecordMatcher$Text", "typed", "I", false)
  | _ => ("RecordMatcher$Text", "inWord", "Z", false)
def ty_Te : Nat → FieldType := fun k => match k with
  | 0 => .array .char
  | 1 => .int
  | 2 => .int
  | _ => .boolean
theorem nm_Te : ∀ a, a < 4 → ∀ b, b < 4 → a ≠ b → (T_Te a).2.1 ≠ (T_Te b).2.1 := by decide +kernel
theorem tk_Te : ∀ k, k < 4 → parseFieldDescriptor (T_Te k).2.2.1 = some (ty_Te k) := by decide +kernel
theorem in0_Te : ∀ w ∈ u_ws R_Te T_Te 4, w ∈ lw_tbl ∧ goodWord w = true := by decide +kernel
theorem in_Te : ∀ w ∈ u_ws R_Te T_Te 4, w ∈ zW := fun w h => List.mem_filter.mpr (in0_Te w h)
abbrev R_En : String := "RecordMatcher$Entry"
def T_En : u_T := fun k => match k with
  | 0 => ("RecordMatcher$Entry", "first", "LRecordMatcher$Text;", true)
  | _ => ("RecordMatcher$Entry", "second", "LRecordMatcher$Text;", true)
def ty_En : Nat → FieldType := fun k => match k with
  | 0 => .object "RecordMatcher$Text"
  | _ => .object "RecordMatcher$Text"
theorem nm_En : ∀ a, a < 2 → ∀ b, b < 2 → a ≠ b → (T_En a).2.1 ≠ (T_En b).2.1 := by decide +kernel
theorem tk_En : ∀ k, k < 2 → parseFieldDescriptor (T_En k).2.2.1 = some (ty_En k) := by decide +kernel
theorem in0_En : ∀ w ∈ u_ws R_En T_En 2, w ∈ lw_tbl ∧ goodWord w = true := by decide +kernel
theorem in_En : ∀ w ∈ u_ws R_En T_En 2, w ∈ zW := fun w h => List.mem_filter.mpr (in0_En w h)
abbrev R_Ja : String := "RecordMatcher$Jaccard"
def T_Ja : u_T := fun k => match k with
  | 0 => ("RecordMatcher$Expression", "comparisons", "I", true)
  | 1 => ("RecordMatcher$Expression", "driven", "Z", true)
  | 2 => ("RecordMatcher$Jaccard", "field", "I", true)
  | 3 => ("RecordMatcher$Jaccard", "num", "I", true)
  | _ => ("RecordMatcher$Jaccard", "den", "I", true)
def ty_Ja : Nat → FieldType := fun k => match k with
  | 0 => .int
  | 1 => .boolean
  | 2 => .int
  | 3 => .int
  | _ => .int
theorem nm_Ja : ∀ a, a < 5 → ∀ b, b < 5 → a ≠ b → (T_Ja a).2.1 ≠ (T_Ja b).2.1 := by decide +kernel
theorem tk_Ja : ∀ k, k < 5 → parseFieldDescriptor (T_Ja k).2.2.1 = some (ty_Ja k) := by decide +kernel
theorem in0_Ja : ∀ w ∈ u_ws R_Ja T_Ja 5, w ∈ lw_tbl ∧ goodWord w = true := by decide +kernel
theorem in_Ja : ∀ w ∈ u_ws R_Ja T_Ja 5, w ∈ zW := fun w h => List.mem_filter.mpr (in0_Ja w h)
abbrev R_Ed : String := "RecordMatcher$Edit"
def T_Ed : u_T := fun k => match k with
  | 0 => ("RecordMatcher$Expression", "comparisons", "I", true)
  | 1 => ("RecordMatcher$Expression", "driven", "Z", true)
  | 2 => ("RecordMatcher$Edit", "field", "I", true)
  | 3 => ("RecordMatcher$Edit", "most", "I", true)
  | _ => ("RecordMatcher$Edit", "row", "[I", true)
def ty_Ed : Nat → FieldType := fun k => match k with
  | 0 => .int
  | 1 => .boolean
  | 2 => .int
  | 3 => .int
  | _ => .array .int
theorem nm_Ed : ∀ a, a < 5 → ∀ b, b < 5 → a ≠ b → (T_Ed a).2.1 ≠ (T_Ed b).2.1 := by decide +kernel
theorem tk_Ed : ∀ k, k < 5 → parseFieldDescriptor (T_Ed k).2.2.1 = some (ty_Ed k) := by decide +kernel
theorem in0_Ed : ∀ w ∈ u_ws R_Ed T_Ed 5, w ∈ lw_tbl ∧ goodWord w = true := by decide +kernel
theorem in_Ed : ∀ w ∈ u_ws R_Ed T_Ed 5, w ∈ zW := fun w h => List.mem_filter.mpr (in0_Ed w h)
abbrev R_Jo : String := "RecordMatcher$Joined"
def T_Jo : u_T := fun k => match k with
  | 0 => ("RecordMatcher$Expression", "comparisons", "I", true)
  | 1 => ("RecordMatcher$Expression", "driven", "Z", true)
  | 2 => ("RecordMatcher$Joined", "all", "Z", true)
  | 3 => ("RecordMatcher$Joined", "lower", "LRecordMatcher$Expression;", true)
  | _ => ("RecordMatcher$Joined", "upper", "LRecordMatcher$Expression;", true)
def ty_Jo : Nat → FieldType := fun k => match k with
  | 0 => .int
  | 1 => .boolean
  | 2 => .boolean
  | 3 => .object "RecordMatcher$Expression"
  | _ => .object "RecordMatcher$Expression"
theorem nm_Jo : ∀ a, a < 5 → ∀ b, b < 5 → a ≠ b → (T_Jo a).2.1 ≠ (T_Jo b).2.1 := by decide +kernel
theorem tk_Jo : ∀ k, k < 5 → parseFieldDescriptor (T_Jo k).2.2.1 = some (ty_Jo k) := by decide +kernel
theorem in0_Jo : ∀ w ∈ u_ws R_Jo T_Jo 5, w ∈ lw_tbl ∧ goodWord w = true := by decide +kernel
theorem in_Jo : ∀ w ∈ u_ws R_Jo T_Jo 5, w ∈ zW := fun w h => List.mem_filter.mpr (in0_Jo w h)
abbrev R_Ru : String := "RecordMatcher$Run"
def T_Ru : u_T := fun k => match k with
  | 0 => ("RecordMatcher$Run", "done", "[I", true)
  | 1 => ("RecordMatcher$Run", "noted", "[Z", true)
  | 2 => ("RecordMatcher$Run", "leaders", "[I", true)
  | 3 => ("RecordMatcher$Run", "tasks", "I", false)
  | _ => ("RecordMatcher$Run", "workers", "I", false)
def ty_Ru : Nat → FieldType := fun k => match k with
  | 0 => .array .int
  | 1 => .array .boolean
  | 2 => .array .int
  | 3 => .int
  | _ => .int
theorem nm_Ru : ∀ a, a < 5 → ∀ b, b < 5 → a ≠ b → (T_Ru a).2.1 ≠ (T_Ru b).2.1 := by decide +kernel
theorem tk_Ru : ∀ k, k < 5 → parseFieldDescriptor (T_Ru k).2.2.1 = some (ty_Ru k) := by decide +kernel
theorem in0_Ru : ∀ w ∈ u_ws R_Ru T_Ru 5, w ∈ lw_tbl ∧ goodWord w = true := by decide +kernel
theorem in_Ru : ∀ w ∈ u_ws R_Ru T_Ru 5, w ∈ zW := fun w h => List.mem_filter.mpr (in0_Ru w h)
abbrev R_RM : String := "RecordMatcher"
def T_RM : u_T := fun k => match k with
  | 0 => ("RecordMatcher", "entries", "[LRecordMatcher$Entry;", true)
  | 1 => ("RecordMatcher", "recordCount", "I", false)
  | 2 => ("RecordMatcher", "stack", "[LRecordMatcher$Expression;", true)
  | 3 => ("RecordMatcher", "height", "I", false)
  | 4 => ("RecordMatcher", "rule", "LRecordMatcher$Expression;", false)
  | 5 => ("RecordMatcher", "run", "LRecordMatcher$Run;", true)
  | _ => ("RecordMatcher", "ways", "[I", true)
def ty_RM : Nat → FieldType := fun k => match k with
  | 0 => .array (.object "RecordMatcher$Entry")
  | 1 => .int
  | 2 => .array (.object "RecordMatcher$Expression")
  | 3 => .int
  | 4 => .object "RecordMatcher$Expression"
  | 5 => .object "RecordMatcher$Run"
  | _ => .array .int
theorem nm_RM : ∀ a, a < 7 → ∀ b, b < 7 → a ≠ b → (T_RM a).2.1 ≠ (T_RM b).2.1 := by decide +kernel
theorem tk_RM : ∀ k, k < 7 → parseFieldDescriptor (T_RM k).2.2.1 = some (ty_RM k) := by decide +kernel
theorem in0_RM : ∀ w ∈ u_ws R_RM T_RM 7, w ∈ lw_tbl ∧ goodWord w = true := by decide +kernel
theorem in_RM : ∀ w ∈ u_ws R_RM T_RM 7, w ∈ zW := fun w h => List.mem_filter.mpr (in0_RM w h)
abbrev R_Mo : String := "RecordMatcherModel"
def T_Mo : u_T := fun k => match k with
  | 0 => ("RecordMatcherModel", "raw", "[I", true)
  | 1 => ("RecordMatcherModel", "size", "[I", true)
  | 2 => ("RecordMatcherModel", "records", "I", false)
  | 3 => ("RecordMatcherModel", "normal", "[I", true)
  | 4 => ("RecordMatcherModel", "normalSize", "[I", true)
  | 5 => ("RecordMatcherModel", "steps", "[I", true)
  | 6 => ("RecordMatcherModel", "kind", "[I", true)
  | 7 => ("RecordMatcherModel", "field", "[I", true)
  | 8 => ("RecordMatcherModel", "num", "[I", true)
  | 9 => ("RecordMatcherModel", "den", "[I", true)
  | 10 => ("RecordMatcherModel", "start", "[I", true)
  | 11 => ("RecordMatcherModel", "top", "I", false)
  | 12 => ("RecordMatcherModel", "ruleSize", "I", false)
  | 13 => ("RecordMatcherModel", "ruleKind", "[I", true)
  | 14 => ("RecordMatcherModel", "ruleField", "[I", true)
  | 15 => ("RecordMatcherModel", "ruleNum", "[I", true)
  | 16 => ("RecordMatcherModel", "ruleDen", "[I", true)
  | 17 => ("RecordMatcherModel", "held", "[Z", true)
  | 18 => ("RecordMatcherModel", "workers", "I", false)
  | 19 => ("RecordMatcherModel", "did", "[I", true)
  | 20 => ("RecordMatcherModel", "keeps", "[I", true)
  | _ => ("RecordMatcherModel", "label", "[I", true)
def ty_Mo : Nat → FieldType := fun k => match k with
  | 0 => .array .int
  | 1 => .array .int
  | 2 => .int
  | 3 => .array .int
  | 4 => .array .int
  | 5 => .array .int
  | 6 => .array .int
  | 7 => .array .int
  | 8 => .array .int
  | 9 => .array .int
  | 10 => .array .int
  | 11 => .int
  | 12 => .int
  | 13 => .array .int
  | 14 => .array .int
  | 15 => .array .int
  | 16 => .array .int
  | 17 => .array .boolean
  | 18 => .int
  | 19 => .array .int
  | 20 => .array .int
  | _ => .array .int
theorem nm_Mo : ∀ a, a < 22 → ∀ b, b < 22 → a ≠ b → (T_Mo a).2.1 ≠ (T_Mo b).2.1 := by decide +kernel
theorem tk_Mo : ∀ k, k < 22 → parseFieldDescriptor (T_Mo k).2.2.1 = some (ty_Mo k) := by decide +kernel
theorem in0_Mo : ∀ w ∈ u_ws R_Mo T_Mo 22, w ∈ lw_tbl ∧ goodWord w = true := by decide +kernel
theorem in_Mo : ∀ w ∈ u_ws R_Mo T_Mo 22, w ∈ zW := fun w h => List.mem_filter.mpr (in0_Mo w h)
abbrev R_Ex : String := "RecordMatcher$Expression"
abbrev R_La : String := "RecordMatcherLaw"
abbrev zC : List vw_C := [(R_Te, T_Te, 4), (R_En, T_En, 2), (R_Ja, T_Ja, 5), (R_Ed, T_Ed, 5), (R_Jo, T_Jo, 5), (R_Ru, T_Ru, 5), (R_RM, T_RM, 7), (R_Mo, T_Mo, 22)]
abbrev c_RM_init : ByteArray := prog_1_method_1_code
abbrev y_RM_init : MethodName := ⟨"RecordMatcher", "<init>", "()V"⟩
abbrev w_RM_init : List Cond := .code y_RM_init c_RM_init 2 (none) :: zW
theorem g_RM_init : GoodIn zW w_RM_init := zw_all zm_15
abbrev c_RM_type : ByteArray := prog_1_method_2_code
abbrev y_RM_type : MethodName := ⟨"RecordMatcher", "type", "(IC)Z"⟩
abbrev w_RM_type : List Cond := .code y_RM_type c_RM_type 3 (some .boolean) :: zW
theorem g_RM_type : GoodIn zW w_RM_type := zw_all zm_110
abbrev c_RM_add : ByteArray := prog_1_method_3_code
abbrev y_RM_add : MethodName := ⟨"RecordMatcher", "add", "()I"⟩
abbrev w_RM_add : List Cond := .code y_RM_add c_RM_add 1 (some .int) :: zW
theorem g_RM_add : GoodIn zW w_RM_add := zw_all zm_139
abbrev c_RM_records : ByteArray := prog_1_method_4_code
abbrev y_RM_records : MethodName := ⟨"RecordMatcher", "records", "()I"⟩
abbrev w_RM_records : List Cond := .code y_RM_records c_RM_records 1 (some .int) :: zW
theorem g_RM_records : GoodIn zW w_RM_records := zw_all zm_147
abbrev c_RM_words : ByteArray := prog_1_method_5_code
abbrev y_RM_words : MethodName := ⟨"RecordMatcher", "words", "(II)I"⟩
abbrev w_RM_words : List Cond := .code y_RM_words c_RM_words 3 (some .int) :: zW
theorem g_RM_words : GoodIn zW w_RM_words := zw_all zm_151
abbrev c_RM_length : ByteArray := prog_1_method_6_code
abbrev y_RM_length : MethodName := ⟨"RecordMatcher", "length", "(II)I"⟩
abbrev w_RM_length : List Cond := .code y_RM_length c_RM_length 3 (some .int) :: zW
theorem g_RM_length : GoodIn zW w_RM_length := zw_all zm_179
abbrev c_RM_unit : ByteArray := prog_1_method_7_code
abbrev y_RM_unit : MethodName := ⟨"RecordMatcher", "unit", "(III)I"⟩
abbrev w_RM_unit : List Cond := .code y_RM_unit c_RM_unit 5 (some .int) :: zW
theorem g_RM_unit : GoodIn zW w_RM_unit := zw_all zm_183
abbrev c_RM_jaccard : ByteArray := prog_1_method_8_code
abbrev y_RM_jaccard : MethodName := ⟨"RecordMatcher", "jaccard", "(III)Z"⟩
abbrev w_RM_jaccard : List Cond := .code y_RM_jaccard c_RM_jaccard 4 (some .boolean) :: zW
theorem g_RM_jaccard : GoodIn zW w_RM_jaccard := zw_all zm_187
abbrev c_RM_edit : ByteArray := prog_1_method_9_code
abbrev y_RM_edit : MethodName := ⟨"RecordMatcher", "edit", "(II)Z"⟩
abbrev w_RM_edit : List Cond := .code y_RM_edit c_RM_edit 3 (some .boolean) :: zW
theorem g_RM_edit : GoodIn zW w_RM_edit := zw_all zm_224
abbrev c_RM_join : ByteArray := prog_1_method_10_code
abbrev y_RM_join : MethodName := ⟨"RecordMatcher", "join", "(Z)Z"⟩
abbrev w_RM_join : List Cond := .code y_RM_join c_RM_join 4 (some .boolean) :: zW
theorem g_RM_join : GoodIn zW w_RM_join := zw_all zm_246
abbrev c_RM_accept : ByteArray := prog_1_method_11_code
abbrev y_RM_accept : MethodName := ⟨"RecordMatcher", "accept", "()I"⟩
abbrev w_RM_accept : List Cond := .code y_RM_accept c_RM_accept 2 (some .int) :: zW
theorem g_RM_accept : GoodIn zW w_RM_accept := zw_all zm_272
abbrev c_RM_discard : ByteArray := prog_1_method_12_code
abbrev y_RM_discard : MethodName := ⟨"RecordMatcher", "discard", "()Z"⟩
abbrev w_RM_discard : List Cond := .code y_RM_discard c_RM_discard 1 (some .boolean) :: zW
theorem g_RM_discard : GoodIn zW w_RM_discard := zw_all zm_276
abbrev c_RM_similar : ByteArray := prog_1_method_13_code
abbrev y_RM_similar : MethodName := ⟨"RecordMatcher", "similar", "(II)I"⟩
abbrev w_RM_similar : List Cond := .code y_RM_similar c_RM_similar 3 (some .int) :: zW
theorem g_RM_similar : GoodIn zW w_RM_similar := zw_all zm_280
abbrev c_RM_start : ByteArray := prog_1_method_14_code
abbrev y_RM_start : MethodName := ⟨"RecordMatcher", "start", "(I)I"⟩
abbrev w_RM_start : List Cond := .code y_RM_start c_RM_start 2 (some .int) :: zW
theorem g_RM_start : GoodIn zW w_RM_start := zw_all zm_319
abbrev c_RM_work : ByteArray := prog_1_method_15_code
abbrev y_RM_work : MethodName := ⟨"RecordMatcher", "work", "(I)I"⟩
abbrev w_RM_work : List Cond := .code y_RM_work c_RM_work 5 (some .int) :: zW
theorem g_RM_work : GoodIn zW w_RM_work := zw_all zm_327
abbrev c_RM_crash : ByteArray := prog_1_method_16_code
abbrev y_RM_crash : MethodName := ⟨"RecordMatcher", "crash", "(I)I"⟩
abbrev w_RM_crash : List Cond := .code y_RM_crash c_RM_crash 2 (some .int) :: zW
theorem g_RM_crash : GoodIn zW w_RM_crash := zw_all zm_358
abbrev c_RM_pairs : ByteArray := prog_1_method_17_code
abbrev y_RM_pairs : MethodName := ⟨"RecordMatcher", "pairs", "()I"⟩
abbrev w_RM_pairs : List Cond := .code y_RM_pairs c_RM_pairs 1 (some .int) :: zW
theorem g_RM_pairs : GoodIn zW w_RM_pairs := zw_all zm_374
abbrev c_RM_found : ByteArray := prog_1_method_18_code
abbrev y_RM_found : MethodName := ⟨"RecordMatcher", "found", "(II)I"⟩
abbrev w_RM_found : List Cond := .code y_RM_found c_RM_found 3 (some .int) :: zW
theorem g_RM_found : GoodIn zW w_RM_found := zw_all zm_386
abbrev c_RM_cluster : ByteArray := prog_1_method_19_code
abbrev y_RM_cluster : MethodName := ⟨"RecordMatcher", "cluster", "(I)I"⟩
abbrev w_RM_cluster : List Cond := .code y_RM_cluster c_RM_cluster 2 (some .int) :: zW
theorem g_RM_cluster : GoodIn zW w_RM_cluster := zw_all zm_395
abbrev c_RM_keep : ByteArray := prog_1_method_20_code
abbrev y_RM_keep : MethodName := ⟨"RecordMatcher", "keep", "(II)Z"⟩
abbrev w_RM_keep : List Cond := .code y_RM_keep c_RM_keep 3 (some .boolean) :: zW
theorem g_RM_keep : GoodIn zW w_RM_keep := zw_all zm_409
abbrev c_RM_kept : ByteArray := prog_1_method_21_code
abbrev y_RM_kept : MethodName := ⟨"RecordMatcher", "kept", "(II)I"⟩
abbrev w_RM_kept : List Cond := .code y_RM_kept c_RM_kept 3 (some .int) :: zW
theorem g_RM_kept : GoodIn zW w_RM_kept := zw_all zm_413
abbrev c_RM_isRecord : ByteArray := prog_1_method_22_code
abbrev y_RM_isRecord : MethodName := ⟨"RecordMatcher", "isRecord", "(I)Z"⟩
abbrev w_RM_isRecord : List Cond := .code y_RM_isRecord c_RM_isRecord 2 (some .boolean) :: zW
theorem g_RM_isRecord : GoodIn zW w_RM_isRecord := zw_all zm_155
abbrev c_RM_isField : ByteArray := prog_1_method_23_code
abbrev y_RM_isField : MethodName := ⟨"RecordMatcher", "isField", "(I)Z"⟩
abbrev w_RM_isField : List Cond := .code y_RM_isField c_RM_isField 1 (some .boolean) :: zW
theorem g_RM_isField : GoodIn zW w_RM_isField := zw_all zm_113
abbrev c_RM_areTwoRecords : ByteArray := prog_1_method_24_code
abbrev y_RM_areTwoRecords : MethodName := ⟨"RecordMatcher", "areTwoRecords", "(II)Z"⟩
abbrev w_RM_areTwoRecords : List Cond := .code y_RM_areTwoRecords c_RM_areTwoRecords 3 (some .boolean) :: zW
theorem g_RM_areTwoRecords : GoodIn zW w_RM_areTwoRecords := zw_all zm_284
abbrev c_RM_textOf : ByteArray := prog_1_method_25_code
abbrev y_RM_textOf : MethodName := ⟨"RecordMatcher", "textOf", "(II)LRecordMatcher$Text;"⟩
abbrev w_RM_textOf : List Cond := .code y_RM_textOf c_RM_textOf 3 (some (.object "RecordMatcher$Text")) :: zW
theorem g_RM_textOf : GoodIn zW w_RM_textOf := zw_all zm_117
abbrev c_RM_fromTop : ByteArray := prog_1_method_26_code
abbrev y_RM_fromTop : MethodName := ⟨"RecordMatcher", "fromTop", "(I)LRecordMatcher$Expression;"⟩
abbrev w_RM_fromTop : List Cond := .code y_RM_fromTop c_RM_fromTop 2 (some (.object "RecordMatcher$Expression")) :: zW
theorem g_RM_fromTop : GoodIn zW w_RM_fromTop := zw_all zm_250
abbrev c_RM_push : ByteArray := prog_1_method_27_code
abbrev y_RM_push : MethodName := ⟨"RecordMatcher", "push", "(LRecordMatcher$Expression;)V"⟩
abbrev w_RM_push : List Cond := .code y_RM_push c_RM_push 2 (none) :: zW
theorem g_RM_push : GoodIn zW w_RM_push := zw_all zm_220
abbrev c_RM_bestOfCluster : ByteArray := prog_1_method_28_code
abbrev y_RM_bestOfCluster : MethodName := ⟨"RecordMatcher", "bestOfCluster", "(II)I"⟩
abbrev w_RM_bestOfCluster : List Cond := .code y_RM_bestOfCluster c_RM_bestOfCluster 5 (some .int) :: zW
theorem g_RM_bestOfCluster : GoodIn zW w_RM_bestOfCluster := zw_all zm_417
abbrev c_RM_isBetter : ByteArray := prog_1_method_29_code
abbrev y_RM_isBetter : MethodName := ⟨"RecordMatcher", "isBetter", "(III)Z"⟩
abbrev w_RM_isBetter : List Cond := .code y_RM_isBetter c_RM_isBetter 6 (some .boolean) :: zW
theorem g_RM_isBetter : GoodIn zW w_RM_isBetter := zw_all zm_421
abbrev c_RM_countHavingTextOf : ByteArray := prog_1_method_30_code
abbrev y_RM_countHavingTextOf : MethodName := ⟨"RecordMatcher", "countHavingTextOf", "(II)I"⟩
abbrev w_RM_countHavingTextOf : List Cond := .code y_RM_countHavingTextOf c_RM_countHavingTextOf 6 (some .int) :: zW
theorem g_RM_countHavingTextOf : GoodIn zW w_RM_countHavingTextOf := zw_all zm_425
abbrev c_Mo_init : ByteArray := prog_10_method_1_code
abbrev y_Mo_init : MethodName := ⟨"RecordMatcherModel", "<init>", "()V"⟩
abbrev w_Mo_init : List Cond := .code y_Mo_init c_Mo_init 1 (none) :: zW
theorem g_Mo_init : GoodIn zW w_Mo_init := zw_all zm_435
abbrev c_Mo_isRecord : ByteArray := prog_10_method_2_code
abbrev y_Mo_isRecord : MethodName := ⟨"RecordMatcherModel", "isRecord", "(I)Z"⟩
abbrev w_Mo_isRecord : List Cond := .code y_Mo_isRecord c_Mo_isRecord 2 (some .boolean) :: zW
theorem g_Mo_isRecord : GoodIn zW w_Mo_isRecord := zw_all zm_526
abbrev c_Mo_isField : ByteArray := prog_10_method_3_code
abbrev y_Mo_isField : MethodName := ⟨"RecordMatcherModel", "isField", "(I)Z"⟩
abbrev w_Mo_isField : List Cond := .code y_Mo_isField c_Mo_isField 1 (some .boolean) :: zW
theorem g_Mo_isField : GoodIn zW w_Mo_isField := zw_all zm_510
abbrev c_Mo_type : ByteArray := prog_10_method_4_code
abbrev y_Mo_type : MethodName := ⟨"RecordMatcherModel", "type", "(IC)Z"⟩
abbrev w_Mo_type : List Cond := .code y_Mo_type c_Mo_type 3 (some .boolean) :: zW
theorem g_Mo_type : GoodIn zW w_Mo_type := zw_all zm_507
abbrev c_Mo_add : ByteArray := prog_10_method_5_code
abbrev y_Mo_add : MethodName := ⟨"RecordMatcherModel", "add", "()I"⟩
abbrev w_Mo_add : List Cond := .code y_Mo_add c_Mo_add 4 (some .int) :: zW
theorem g_Mo_add : GoodIn zW w_Mo_add := zw_all zm_514
abbrev c_Mo_records : ByteArray := prog_10_method_6_code
abbrev y_Mo_records : MethodName := ⟨"RecordMatcherModel", "records", "()I"⟩
abbrev w_Mo_records : List Cond := .code y_Mo_records c_Mo_records 1 (some .int) :: zW
theorem g_Mo_records : GoodIn zW w_Mo_records := zw_all zm_518
abbrev c_Mo_letter : ByteArray := prog_10_method_7_code
abbrev y_Mo_letter : MethodName := ⟨"RecordMatcherModel", "letter", "(I)I"⟩
abbrev w_Mo_letter : List Cond := .code y_Mo_letter c_Mo_letter 1 (some .int) :: zW
theorem g_Mo_letter : GoodIn zW w_Mo_letter := zw_all zm_533
abbrev c_Mo_look : ByteArray := prog_10_method_8_code
abbrev y_Mo_look : MethodName := ⟨"RecordMatcherModel", "look", "(III)V"⟩
abbrev w_Mo_look : List Cond := .code y_Mo_look c_Mo_look 9 (none) :: zW
theorem g_Mo_look : GoodIn zW w_Mo_look := zw_all zm_530
abbrev c_Mo_at : ByteArray := prog_10_method_9_code
abbrev y_Mo_at : MethodName := ⟨"RecordMatcherModel", "at", "(II)I"⟩
abbrev w_Mo_at : List Cond := .code y_Mo_at c_Mo_at 3 (some .int) :: zW
theorem g_Mo_at : GoodIn zW w_Mo_at := zw_all zm_545
abbrev c_Mo_begins : ByteArray := prog_10_method_10_code
abbrev y_Mo_begins : MethodName := ⟨"RecordMatcherModel", "begins", "(II)Z"⟩
abbrev w_Mo_begins : List Cond := .code y_Mo_begins c_Mo_begins 3 (some .boolean) :: zW
theorem g_Mo_begins : GoodIn zW w_Mo_begins := zw_all zm_541
abbrev c_Mo_sameWord : ByteArray := prog_10_method_11_code
abbrev y_Mo_sameWord : MethodName := ⟨"RecordMatcherModel", "sameWord", "(IIII)Z"⟩
abbrev w_Mo_sameWord : List Cond := .code y_Mo_sameWord c_Mo_sameWord 6 (some .boolean) :: zW
theorem g_Mo_sameWord : GoodIn zW w_Mo_sameWord := zw_all zm_553
abbrev c_Mo_stands : ByteArray := prog_10_method_12_code
abbrev y_Mo_stands : MethodName := ⟨"RecordMatcherModel", "stands", "(IIII)Z"⟩
abbrev w_Mo_stands : List Cond := .code y_Mo_stands c_Mo_stands 7 (some .boolean) :: zW
theorem g_Mo_stands : GoodIn zW w_Mo_stands := zw_all zm_549
abbrev c_Mo_inSet : ByteArray := prog_10_method_13_code
abbrev y_Mo_inSet : MethodName := ⟨"RecordMatcherModel", "inSet", "(IIZ)I"⟩
abbrev w_Mo_inSet : List Cond := .code y_Mo_inSet c_Mo_inSet 7 (some .int) :: zW
theorem g_Mo_inSet : GoodIn zW w_Mo_inSet := zw_all zm_537
abbrev c_Mo_words : ByteArray := prog_10_method_14_code
abbrev y_Mo_words : MethodName := ⟨"RecordMatcherModel", "words", "(II)I"⟩
abbrev w_Mo_words : List Cond := .code y_Mo_words c_Mo_words 3 (some .int) :: zW
theorem g_Mo_words : GoodIn zW w_Mo_words := zw_all zm_522
abbrev c_Mo_length : ByteArray := prog_10_method_15_code
abbrev y_Mo_length : MethodName := ⟨"RecordMatcherModel", "length", "(II)I"⟩
abbrev w_Mo_length : List Cond := .code y_Mo_length c_Mo_length 3 (some .int) :: zW
theorem g_Mo_length : GoodIn zW w_Mo_length := zw_all zm_557
abbrev c_Mo_unit : ByteArray := prog_10_method_16_code
abbrev y_Mo_unit : MethodName := ⟨"RecordMatcherModel", "unit", "(III)I"⟩
abbrev w_Mo_unit : List Cond := .code y_Mo_unit c_Mo_unit 5 (some .int) :: zW
theorem g_Mo_unit : GoodIn zW w_Mo_unit := zw_all zm_561
abbrev c_Mo_distance : ByteArray := prog_10_method_17_code
abbrev y_Mo_distance : MethodName := ⟨"RecordMatcherModel", "distance", "()I"⟩
abbrev w_Mo_distance : List Cond := .code y_Mo_distance c_Mo_distance 6 (some .int) :: zW
theorem g_Mo_distance : GoodIn zW w_Mo_distance := zw_all zm_618
abbrev c_Mo_marks : ByteArray := prog_10_method_18_code
abbrev y_Mo_marks : MethodName := ⟨"RecordMatcherModel", "marks", "()I"⟩
abbrev w_Mo_marks : List Cond := .code y_Mo_marks c_Mo_marks 1 (some .int) :: zW
theorem g_Mo_marks : GoodIn zW w_Mo_marks := zw_all zm_574
abbrev c_Mo_mark : ByteArray := prog_10_method_19_code
abbrev y_Mo_mark : MethodName := ⟨"RecordMatcherModel", "mark", "(IIII)V"⟩
abbrev w_Mo_mark : List Cond := .code y_Mo_mark c_Mo_mark 6 (none) :: zW
theorem g_Mo_mark : GoodIn zW w_Mo_mark := zw_all zm_570
abbrev c_Mo_push : ByteArray := prog_10_method_20_code
abbrev y_Mo_push : MethodName := ⟨"RecordMatcherModel", "push", "()V"⟩
abbrev w_Mo_push : List Cond := .code y_Mo_push c_Mo_push 2 (none) :: zW
theorem g_Mo_push : GoodIn zW w_Mo_push := zw_all zm_578
abbrev c_Mo_jaccard : ByteArray := prog_10_method_21_code
abbrev y_Mo_jaccard : MethodName := ⟨"RecordMatcherModel", "jaccard", "(III)Z"⟩
abbrev w_Mo_jaccard : List Cond := .code y_Mo_jaccard c_Mo_jaccard 4 (some .boolean) :: zW
theorem g_Mo_jaccard : GoodIn zW w_Mo_jaccard := zw_all zm_566
abbrev c_Mo_edit : ByteArray := prog_10_method_22_code
abbrev y_Mo_edit : MethodName := ⟨"RecordMatcherModel", "edit", "(II)Z"⟩
abbrev w_Mo_edit : List Cond := .code y_Mo_edit c_Mo_edit 3 (some .boolean) :: zW
theorem g_Mo_edit : GoodIn zW w_Mo_edit := zw_all zm_582
abbrev c_Mo_leaves : ByteArray := prog_10_method_23_code
abbrev y_Mo_leaves : MethodName := ⟨"RecordMatcherModel", "leaves", "(II)I"⟩
abbrev w_Mo_leaves : List Cond := .code y_Mo_leaves c_Mo_leaves 5 (some .int) :: zW
theorem g_Mo_leaves : GoodIn zW w_Mo_leaves := zw_all zm_590
abbrev c_Mo_join : ByteArray := prog_10_method_24_code
abbrev y_Mo_join : MethodName := ⟨"RecordMatcherModel", "join", "(Z)Z"⟩
abbrev w_Mo_join : List Cond := .code y_Mo_join c_Mo_join 3 (some .boolean) :: zW
theorem g_Mo_join : GoodIn zW w_Mo_join := zw_all zm_586
abbrev c_Mo_driven : ByteArray := prog_10_method_25_code
abbrev y_Mo_driven : MethodName := ⟨"RecordMatcherModel", "driven", "()Z"⟩
abbrev w_Mo_driven : List Cond := .code y_Mo_driven c_Mo_driven 3 (some .boolean) :: zW
theorem g_Mo_driven : GoodIn zW w_Mo_driven := zw_all zm_598
abbrev c_Mo_accept : ByteArray := prog_10_method_26_code
abbrev y_Mo_accept : MethodName := ⟨"RecordMatcherModel", "accept", "()I"⟩
abbrev w_Mo_accept : List Cond := .code y_Mo_accept c_Mo_accept 3 (some .int) :: zW
theorem g_Mo_accept : GoodIn zW w_Mo_accept := zw_all zm_594
abbrev c_Mo_discard : ByteArray := prog_10_method_27_code
abbrev y_Mo_discard : MethodName := ⟨"RecordMatcherModel", "discard", "()Z"⟩
abbrev w_Mo_discard : List Cond := .code y_Mo_discard c_Mo_discard 1 (some .boolean) :: zW
theorem g_Mo_discard : GoodIn zW w_Mo_discard := zw_all zm_602
abbrev c_Mo_leafHolds : ByteArray := prog_10_method_28_code
abbrev y_Mo_leafHolds : MethodName := ⟨"RecordMatcherModel", "leafHolds", "(III)Z"⟩
abbrev w_Mo_leafHolds : List Cond := .code y_Mo_leafHolds c_Mo_leafHolds 6 (some .boolean) :: zW
theorem g_Mo_leafHolds : GoodIn zW w_Mo_leafHolds := zw_all zm_614
abbrev c_Mo_holds : ByteArray := prog_10_method_29_code
abbrev y_Mo_holds : MethodName := ⟨"RecordMatcherModel", "holds", "(II)Z"⟩
abbrev w_Mo_holds : List Cond := .code y_Mo_holds c_Mo_holds 5 (some .boolean) :: zW
theorem g_Mo_holds : GoodIn zW w_Mo_holds := zw_all zm_610
abbrev c_Mo_similar : ByteArray := prog_10_method_30_code
abbrev y_Mo_similar : MethodName := ⟨"RecordMatcherModel", "similar", "(II)I"⟩
abbrev w_Mo_similar : List Cond := .code y_Mo_similar c_Mo_similar 3 (some .int) :: zW
theorem g_Mo_similar : GoodIn zW w_Mo_similar := zw_all zm_606
abbrev c_Mo_tasksOf : ByteArray := prog_10_method_31_code
abbrev y_Mo_tasksOf : MethodName := ⟨"RecordMatcherModel", "tasksOf", "(I)I"⟩
abbrev w_Mo_tasksOf : List Cond := .code y_Mo_tasksOf c_Mo_tasksOf 4 (some .int) :: zW
theorem g_Mo_tasksOf : GoodIn zW w_Mo_tasksOf := zw_all zm_634
abbrev c_Mo_isDone : ByteArray := prog_10_method_32_code
abbrev y_Mo_isDone : MethodName := ⟨"RecordMatcherModel", "isDone", "()Z"⟩
abbrev w_Mo_isDone : List Cond := .code y_Mo_isDone c_Mo_isDone 3 (some .boolean) :: zW
theorem g_Mo_isDone : GoodIn zW w_Mo_isDone := zw_all zm_642
abbrev c_Mo_isWorker : ByteArray := prog_10_method_33_code
abbrev y_Mo_isWorker : MethodName := ⟨"RecordMatcherModel", "isWorker", "(I)Z"⟩
abbrev w_Mo_isWorker : List Cond := .code y_Mo_isWorker c_Mo_isWorker 2 (some .boolean) :: zW
theorem g_Mo_isWorker : GoodIn zW w_Mo_isWorker := zw_all zm_630
abbrev c_Mo_start : ByteArray := prog_10_method_34_code
abbrev y_Mo_start : MethodName := ⟨"RecordMatcherModel", "start", "(I)I"⟩
abbrev w_Mo_start : List Cond := .code y_Mo_start c_Mo_start 3 (some .int) :: zW
theorem g_Mo_start : GoodIn zW w_Mo_start := zw_all zm_622
abbrev c_Mo_work : ByteArray := prog_10_method_35_code
abbrev y_Mo_work : MethodName := ⟨"RecordMatcherModel", "work", "(I)I"⟩
abbrev w_Mo_work : List Cond := .code y_Mo_work c_Mo_work 6 (some .int) :: zW
theorem g_Mo_work : GoodIn zW w_Mo_work := zw_all zm_626
abbrev c_Mo_crash : ByteArray := prog_10_method_36_code
abbrev y_Mo_crash : MethodName := ⟨"RecordMatcherModel", "crash", "(I)I"⟩
abbrev w_Mo_crash : List Cond := .code y_Mo_crash c_Mo_crash 3 (some .int) :: zW
theorem g_Mo_crash : GoodIn zW w_Mo_crash := zw_all zm_638
abbrev c_Mo_isFound : ByteArray := prog_10_method_37_code
abbrev y_Mo_isFound : MethodName := ⟨"RecordMatcherModel", "isFound", "(II)Z"⟩
abbrev w_Mo_isFound : List Cond := .code y_Mo_isFound c_Mo_isFound 5 (some .boolean) :: zW
theorem g_Mo_isFound : GoodIn zW w_Mo_isFound := zw_all zm_650
abbrev c_Mo_pairs : ByteArray := prog_10_method_38_code
abbrev y_Mo_pairs : MethodName := ⟨"RecordMatcherModel", "pairs", "()I"⟩
abbrev w_Mo_pairs : List Cond := .code y_Mo_pairs c_Mo_pairs 5 (some .int) :: zW
theorem g_Mo_pairs : GoodIn zW w_Mo_pairs := zw_all zm_646
abbrev c_Mo_found : ByteArray := prog_10_method_39_code
abbrev y_Mo_found : MethodName := ⟨"RecordMatcherModel", "found", "(II)I"⟩
abbrev w_Mo_found : List Cond := .code y_Mo_found c_Mo_found 3 (some .int) :: zW
theorem g_Mo_found : GoodIn zW w_Mo_found := zw_all zm_654
abbrev c_Mo_spread : ByteArray := prog_10_method_40_code
abbrev y_Mo_spread : MethodName := ⟨"RecordMatcherModel", "spread", "()V"⟩
abbrev w_Mo_spread : List Cond := .code y_Mo_spread c_Mo_spread 5 (none) :: zW
theorem g_Mo_spread : GoodIn zW w_Mo_spread := zw_all zm_662
abbrev c_Mo_cluster : ByteArray := prog_10_method_41_code
abbrev y_Mo_cluster : MethodName := ⟨"RecordMatcherModel", "cluster", "(I)I"⟩
abbrev w_Mo_cluster : List Cond := .code y_Mo_cluster c_Mo_cluster 2 (some .int) :: zW
theorem g_Mo_cluster : GoodIn zW w_Mo_cluster := zw_all zm_658
abbrev c_Mo_keep : ByteArray := prog_10_method_42_code
abbrev y_Mo_keep : MethodName := ⟨"RecordMatcherModel", "keep", "(II)Z"⟩
abbrev w_Mo_keep : List Cond := .code y_Mo_keep c_Mo_keep 3 (some .boolean) :: zW
theorem g_Mo_keep : GoodIn zW w_Mo_keep := zw_all zm_666
abbrev c_Mo_sizeOf : ByteArray := prog_10_method_43_code
abbrev y_Mo_sizeOf : MethodName := ⟨"RecordMatcherModel", "sizeOf", "(II)I"⟩
abbrev w_Mo_sizeOf : List Cond := .code y_Mo_sizeOf c_Mo_sizeOf 3 (some .int) :: zW
theorem g_Mo_sizeOf : GoodIn zW w_Mo_sizeOf := zw_all zm_678
abbrev c_Mo_compare : ByteArray := prog_10_method_44_code
abbrev y_Mo_compare : MethodName := ⟨"RecordMatcherModel", "compare", "(III)I"⟩
abbrev w_Mo_compare : List Cond := .code y_Mo_compare c_Mo_compare 7 (some .int) :: zW
theorem g_Mo_compare : GoodIn zW w_Mo_compare := zw_all zm_682
abbrev c_Mo_same : ByteArray := prog_10_method_45_code
abbrev y_Mo_same : MethodName := ⟨"RecordMatcherModel", "same", "(III)I"⟩
abbrev w_Mo_same : List Cond := .code y_Mo_same c_Mo_same 7 (some .int) :: zW
theorem g_Mo_same : GoodIn zW w_Mo_same := zw_all zm_686
abbrev c_Mo_better : ByteArray := prog_10_method_46_code
abbrev y_Mo_better : MethodName := ⟨"RecordMatcherModel", "better", "(IIII)Z"⟩
abbrev w_Mo_better : List Cond := .code y_Mo_better c_Mo_better 8 (some .boolean) :: zW
theorem g_Mo_better : GoodIn zW w_Mo_better := zw_all zm_674
abbrev c_Mo_kept : ByteArray := prog_10_method_47_code
abbrev y_Mo_kept : MethodName := ⟨"RecordMatcherModel", "kept", "(II)I"⟩
abbrev w_Mo_kept : List Cond := .code y_Mo_kept c_Mo_kept 7 (some .int) :: zW
theorem g_Mo_kept : GoodIn zW w_Mo_kept := zw_all zm_670
abbrev c_Ed_init : ByteArray := prog_2_method_1_code
abbrev y_Ed_init : MethodName := ⟨"RecordMatcher$Edit", "<init>", "(II)V"⟩
abbrev w_Ed_init : List Cond := .code y_Ed_init c_Ed_init 3 (none) :: zW
theorem g_Ed_init : GoodIn zW w_Ed_init := zw_all zm_229
abbrev c_Ed_holdsOf : ByteArray := prog_2_method_2_code
abbrev y_Ed_holdsOf : MethodName := ⟨"RecordMatcher$Edit", "holdsOf", "(LRecordMatcher$Entry;LRecordMatcher$Entry;)Z"⟩
abbrev w_Ed_holdsOf : List Cond := .code y_Ed_holdsOf c_Ed_holdsOf 3 (some .boolean) :: zW
theorem g_Ed_holdsOf : GoodIn zW w_Ed_holdsOf := zw_all zm_290
abbrev c_Ed_countSteps : ByteArray := prog_2_method_3_code
abbrev y_Ed_countSteps : MethodName := ⟨"RecordMatcher$Edit", "countSteps", "(LRecordMatcher$Text;LRecordMatcher$Text;)I"⟩
abbrev w_Ed_countSteps : List Cond := .code y_Ed_countSteps c_Ed_countSteps 4 (some .int) :: zW
theorem g_Ed_countSteps : GoodIn zW w_Ed_countSteps := zw_all zm_295
abbrev c_Ed_goThrough : ByteArray := prog_2_method_4_code
abbrev y_Ed_goThrough : MethodName := ⟨"RecordMatcher$Edit", "goThrough", "(CLRecordMatcher$Text;)V"⟩
abbrev w_Ed_goThrough : List Cond := .code y_Ed_goThrough c_Ed_goThrough 6 (none) :: zW
theorem g_Ed_goThrough : GoodIn zW w_Ed_goThrough := zw_all zm_299
abbrev c_En_init : ByteArray := prog_3_method_1_code
abbrev y_En_init : MethodName := ⟨"RecordMatcher$Entry", "<init>", "()V"⟩
abbrev w_En_init : List Cond := .code y_En_init c_En_init 1 (none) :: zW
theorem g_En_init : GoodIn zW w_En_init := zw_all zm_52
abbrev c_En_text : ByteArray := prog_3_method_2_code
abbrev y_En_text : MethodName := ⟨"RecordMatcher$Entry", "text", "(I)LRecordMatcher$Text;"⟩
abbrev w_En_text : List Cond := .code y_En_text c_En_text 2 (some (.object "RecordMatcher$Text")) :: zW
theorem g_En_text : GoodIn zW w_En_text := zw_all zm_121
abbrev c_Ex_init : ByteArray := prog_4_method_1_code
abbrev y_Ex_init : MethodName := ⟨"RecordMatcher$Expression", "<init>", "(IZ)V"⟩
abbrev w_Ex_init : List Cond := .code y_Ex_init c_Ex_init 3 (none) :: zW
theorem g_Ex_init : GoodIn zW w_Ex_init := zw_all zm_195
abbrev c_Ja_init : ByteArray := prog_5_method_1_code
abbrev y_Ja_init : MethodName := ⟨"RecordMatcher$Jaccard", "<init>", "(III)V"⟩
abbrev w_Ja_init : List Cond := .code y_Ja_init c_Ja_init 4 (none) :: zW
theorem g_Ja_init : GoodIn zW w_Ja_init := zw_all zm_192
abbrev c_Ja_holdsOf : ByteArray := prog_5_method_2_code
abbrev y_Ja_holdsOf : MethodName := ⟨"RecordMatcher$Jaccard", "holdsOf", "(LRecordMatcher$Entry;LRecordMatcher$Entry;)Z"⟩
abbrev w_Ja_holdsOf : List Cond := .code y_Ja_holdsOf c_Ja_holdsOf 7 (some .boolean) :: zW
theorem g_Ja_holdsOf : GoodIn zW w_Ja_holdsOf := zw_all zm_305
abbrev c_Jo_init : ByteArray := prog_6_method_1_code
abbrev y_Jo_init : MethodName := ⟨"RecordMatcher$Joined", "<init>", "(ZLRecordMatcher$Expression;LRecordMatcher$Expression;)V"⟩
abbrev w_Jo_init : List Cond := .code y_Jo_init c_Jo_init 4 (none) :: zW
theorem g_Jo_init : GoodIn zW w_Jo_init := zw_all zm_255
abbrev c_Jo_holdsOf : ByteArray := prog_6_method_2_code
abbrev y_Jo_holdsOf : MethodName := ⟨"RecordMatcher$Joined", "holdsOf", "(LRecordMatcher$Entry;LRecordMatcher$Entry;)Z"⟩
abbrev w_Jo_holdsOf : List Cond := .code y_Jo_holdsOf c_Jo_holdsOf 3 (some .boolean) :: zW
theorem g_Jo_holdsOf : GoodIn zW w_Jo_holdsOf := zw_all zm_314
abbrev c_Ru_init : ByteArray := prog_7_method_1_code
abbrev y_Ru_init : MethodName := ⟨"RecordMatcher$Run", "<init>", "()V"⟩
abbrev w_Ru_init : List Cond := .code y_Ru_init c_Ru_init 1 (none) :: zW
theorem g_Ru_init : GoodIn zW w_Ru_init := zw_all zm_27
abbrev c_Ru_begin : ByteArray := prog_7_method_2_code
abbrev y_Ru_begin : MethodName := ⟨"RecordMatcher$Run", "begin", "(II)V"⟩
abbrev w_Ru_begin : List Cond := .code y_Ru_begin c_Ru_begin 4 (none) :: zW
theorem g_Ru_begin : GoodIn zW w_Ru_begin := zw_all zm_323
abbrev c_Ru_end : ByteArray := prog_7_method_3_code
abbrev y_Ru_end : MethodName := ⟨"RecordMatcher$Run", "end", "()V"⟩
abbrev w_Ru_end : List Cond := .code y_Ru_end c_Ru_end 1 (none) :: zW
theorem g_Ru_end : GoodIn zW w_Ru_end := zw_all zm_143
abbrev c_Ru_isOpen : ByteArray := prog_7_method_4_code
abbrev y_Ru_isOpen : MethodName := ⟨"RecordMatcher$Run", "isOpen", "()Z"⟩
abbrev w_Ru_isOpen : List Cond := .code y_Ru_isOpen c_Ru_isOpen 1 (some .boolean) :: zW
theorem g_Ru_isOpen : GoodIn zW w_Ru_isOpen := zw_all zm_331
abbrev c_Ru_hasWorker : ByteArray := prog_7_method_5_code
abbrev y_Ru_hasWorker : MethodName := ⟨"RecordMatcher$Run", "hasWorker", "(I)Z"⟩
abbrev w_Ru_hasWorker : List Cond := .code y_Ru_hasWorker c_Ru_hasWorker 2 (some .boolean) :: zW
theorem g_Ru_hasWorker : GoodIn zW w_Ru_hasWorker := zw_all zm_335
abbrev c_Ru_isDone : ByteArray := prog_7_method_6_code
abbrev y_Ru_isDone : MethodName := ⟨"RecordMatcher$Run", "isDone", "()Z"⟩
abbrev w_Ru_isDone : List Cond := .code y_Ru_isDone c_Ru_isDone 3 (some .boolean) :: zW
theorem g_Ru_isDone : GoodIn zW w_Ru_isDone := zw_all zm_362
abbrev c_Ru_nextTask : ByteArray := prog_7_method_7_code
abbrev y_Ru_nextTask : MethodName := ⟨"RecordMatcher$Run", "nextTask", "(I)I"⟩
abbrev w_Ru_nextTask : List Cond := .code y_Ru_nextTask c_Ru_nextTask 2 (some .int) :: zW
theorem g_Ru_nextTask : GoodIn zW w_Ru_nextTask := zw_all zm_339
abbrev c_Ru_taskOf : ByteArray := prog_7_method_8_code
abbrev y_Ru_taskOf : MethodName := ⟨"RecordMatcher$Run", "taskOf", "(II)I"⟩
abbrev w_Ru_taskOf : List Cond := .code y_Ru_taskOf c_Ru_taskOf 3 (some .int) :: zW
theorem g_Ru_taskOf : GoodIn zW w_Ru_taskOf := zw_all zm_343
abbrev c_Ru_finishTask : ByteArray := prog_7_method_9_code
abbrev y_Ru_finishTask : MethodName := ⟨"RecordMatcher$Run", "finishTask", "(I)V"⟩
abbrev w_Ru_finishTask : List Cond := .code y_Ru_finishTask c_Ru_finishTask 2 (none) :: zW
theorem g_Ru_finishTask : GoodIn zW w_Ru_finishTask := zw_all zm_354
abbrev c_Ru_undoTasks : ByteArray := prog_7_method_10_code
abbrev y_Ru_undoTasks : MethodName := ⟨"RecordMatcher$Run", "undoTasks", "(I)I"⟩
abbrev w_Ru_undoTasks : List Cond := .code y_Ru_undoTasks c_Ru_undoTasks 4 (some .int) :: zW
theorem g_Ru_undoTasks : GoodIn zW w_Ru_undoTasks := zw_all zm_366
abbrev c_Ru_forgetPairsOf : ByteArray := prog_7_method_11_code
abbrev y_Ru_forgetPairsOf : MethodName := ⟨"RecordMatcher$Run", "forgetPairsOf", "(I)V"⟩
abbrev w_Ru_forgetPairsOf : List Cond := .code y_Ru_forgetPairsOf c_Ru_forgetPairsOf 3 (none) :: zW
theorem g_Ru_forgetPairsOf : GoodIn zW w_Ru_forgetPairsOf := zw_all zm_370
abbrev c_Ru_note : ByteArray := prog_7_method_12_code
abbrev y_Ru_note : MethodName := ⟨"RecordMatcher$Run", "note", "(II)V"⟩
abbrev w_Ru_note : List Cond := .code y_Ru_note c_Ru_note 3 (none) :: zW
theorem g_Ru_note : GoodIn zW w_Ru_note := zw_all zm_347
abbrev c_Ru_isNoted : ByteArray := prog_7_method_13_code
abbrev y_Ru_isNoted : MethodName := ⟨"RecordMatcher$Run", "isNoted", "(II)Z"⟩
abbrev w_Ru_isNoted : List Cond := .code y_Ru_isNoted c_Ru_isNoted 3 (some .boolean) :: zW
theorem g_Ru_isNoted : GoodIn zW w_Ru_isNoted := zw_all zm_382
abbrev c_Ru_placeOf : ByteArray := prog_7_method_14_code
abbrev y_Ru_placeOf : MethodName := ⟨"RecordMatcher$Run", "placeOf", "(II)I"⟩
abbrev w_Ru_placeOf : List Cond := .code y_Ru_placeOf c_Ru_placeOf 2 (some .int) :: zW
theorem g_Ru_placeOf : GoodIn zW w_Ru_placeOf := zw_all zm_350
abbrev c_Ru_countPairs : ByteArray := prog_7_method_15_code
abbrev y_Ru_countPairs : MethodName := ⟨"RecordMatcher$Run", "countPairs", "()I"⟩
abbrev w_Ru_countPairs : List Cond := .code y_Ru_countPairs c_Ru_countPairs 4 (some .int) :: zW
theorem g_Ru_countPairs : GoodIn zW w_Ru_countPairs := zw_all zm_378
abbrev c_Ru_gather : ByteArray := prog_7_method_16_code
abbrev y_Ru_gather : MethodName := ⟨"RecordMatcher$Run", "gather", "()V"⟩
abbrev w_Ru_gather : List Cond := .code y_Ru_gather c_Ru_gather 3 (none) :: zW
theorem g_Ru_gather : GoodIn zW w_Ru_gather := zw_all zm_399
abbrev c_Ru_unite : ByteArray := prog_7_method_17_code
abbrev y_Ru_unite : MethodName := ⟨"RecordMatcher$Run", "unite", "(II)V"⟩
abbrev w_Ru_unite : List Cond := .code y_Ru_unite c_Ru_unite 6 (none) :: zW
theorem g_Ru_unite : GoodIn zW w_Ru_unite := zw_all zm_403
abbrev c_Te_init : ByteArray := prog_8_method_1_code
abbrev y_Te_init : MethodName := ⟨"RecordMatcher$Text", "<init>", "()V"⟩
abbrev w_Te_init : List Cond := .code y_Te_init c_Te_init 1 (none) :: zW
theorem g_Te_init : GoodIn zW w_Te_init := zw_all zm_58
abbrev c_Te_take : ByteArray := prog_8_method_2_code
abbrev y_Te_take : MethodName := ⟨"RecordMatcher$Text", "take", "(C)Z"⟩
abbrev w_Te_take : List Cond := .code y_Te_take c_Te_take 3 (some .boolean) :: zW
theorem g_Te_take : GoodIn zW w_Te_take := zw_all zm_125
abbrev c_Te_put : ByteArray := prog_8_method_3_code
abbrev y_Te_put : MethodName := ⟨"RecordMatcher$Text", "put", "(C)V"⟩
abbrev w_Te_put : List Cond := .code y_Te_put c_Te_put 2 (none) :: zW
theorem g_Te_put : GoodIn zW w_Te_put := zw_all zm_132
abbrev c_Te_isOfWord : ByteArray := prog_8_method_4_code
abbrev y_Te_isOfWord : MethodName := ⟨"RecordMatcher$Text", "isOfWord", "(C)Z"⟩
abbrev w_Te_isOfWord : List Cond := .code y_Te_isOfWord c_Te_isOfWord 1 (some .boolean) :: zW
theorem g_Te_isOfWord : GoodIn zW w_Te_isOfWord := zw_all zm_128
abbrev c_Te_small : ByteArray := prog_8_method_5_code
abbrev y_Te_small : MethodName := ⟨"RecordMatcher$Text", "small", "(C)C"⟩
abbrev w_Te_small : List Cond := .code y_Te_small c_Te_small 1 (some .char) :: zW
theorem g_Te_small : GoodIn zW w_Te_small := zw_all zm_135
abbrev c_Te_wordSetSize : ByteArray := prog_8_method_6_code
abbrev y_Te_wordSetSize : MethodName := ⟨"RecordMatcher$Text", "wordSetSize", "()I"⟩
abbrev w_Te_wordSetSize : List Cond := .code y_Te_wordSetSize c_Te_wordSetSize 3 (some .int) :: zW
theorem g_Te_wordSetSize : GoodIn zW w_Te_wordSetSize := zw_all zm_159
abbrev c_Te_countWordsSharedWith : ByteArray := prog_8_method_7_code
abbrev y_Te_countWordsSharedWith : MethodName := ⟨"RecordMatcher$Text", "countWordsSharedWith", "(LRecordMatcher$Text;)I"⟩
abbrev w_Te_countWordsSharedWith : List Cond := .code y_Te_countWordsSharedWith c_Te_countWordsSharedWith 4 (some .int) :: zW
theorem g_Te_countWordsSharedWith : GoodIn zW w_Te_countWordsSharedWith := zw_all zm_310
abbrev c_Te_hasWordBefore : ByteArray := prog_8_method_8_code
abbrev y_Te_hasWordBefore : MethodName := ⟨"RecordMatcher$Text", "hasWordBefore", "(ILRecordMatcher$Text;I)Z"⟩
abbrev w_Te_hasWordBefore : List Cond := .code y_Te_hasWordBefore c_Te_hasWordBefore 5 (some .boolean) :: zW
theorem g_Te_hasWordBefore : GoodIn zW w_Te_hasWordBefore := zw_all zm_167
abbrev c_Te_isSameWord : ByteArray := prog_8_method_9_code
abbrev y_Te_isSameWord : MethodName := ⟨"RecordMatcher$Text", "isSameWord", "(ILRecordMatcher$Text;I)Z"⟩
abbrev w_Te_isSameWord : List Cond := .code y_Te_isSameWord c_Te_isSameWord 5 (some .boolean) :: zW
theorem g_Te_isSameWord : GoodIn zW w_Te_isSameWord := zw_all zm_171
abbrev c_Te_beginsWord : ByteArray := prog_8_method_10_code
abbrev y_Te_beginsWord : MethodName := ⟨"RecordMatcher$Text", "beginsWord", "(I)Z"⟩
abbrev w_Te_beginsWord : List Cond := .code y_Te_beginsWord c_Te_beginsWord 2 (some .boolean) :: zW
theorem g_Te_beginsWord : GoodIn zW w_Te_beginsWord := zw_all zm_163
abbrev c_Te_endsWord : ByteArray := prog_8_method_11_code
abbrev y_Te_endsWord : MethodName := ⟨"RecordMatcher$Text", "endsWord", "(I)Z"⟩
abbrev w_Te_endsWord : List Cond := .code y_Te_endsWord c_Te_endsWord 2 (some .boolean) :: zW
theorem g_Te_endsWord : GoodIn zW w_Te_endsWord := zw_all zm_175
abbrev c_Te_compareWith : ByteArray := prog_8_method_12_code
abbrev y_Te_compareWith : MethodName := ⟨"RecordMatcher$Text", "compareWith", "(LRecordMatcher$Text;)I"⟩
abbrev w_Te_compareWith : List Cond := .code y_Te_compareWith c_Te_compareWith 4 (some .int) :: zW
theorem g_Te_compareWith : GoodIn zW w_Te_compareWith := zw_all zm_429
abbrev c_La_law : ByteArray := code
end
section
theorem d_RM_init_0 : decode c_RM_init 0 = .ok (.aload_n 0, 1) := by decide +kernel
theorem d_RM_init_1 : decode c_RM_init 1 = .ok (.invokespecial 1, 3) := by decide +kernel
theorem d_RM_init_4 : decode c_RM_init 4 = .ok (.aload_n 0, 1) := by decide +kernel
theorem d_RM_init_5 : decode c_RM_init 5 = .ok (.bipush 13, 2) := by decide +kernel
theorem d_RM_init_7 : decode c_RM_init 7 = .ok (.anewarray 9, 3) := by decide +kernel
theorem d_RM_init_10 : decode c_RM_init 10 = .ok (.putfield 11, 3) := by decide +kernel
theorem d_RM_init_13 : decode c_RM_init 13 = .ok (.aload_n 0, 1) := by decide +kernel
theorem d_RM_init_14 : decode c_RM_init 14 = .ok (.bipush 6, 2) := by decide +kernel
theorem d_RM_init_16 : decode c_RM_init 16 = .ok (.anewarray 15, 3) := by decide +kernel
theorem d_RM_init_19 : decode c_RM_init 19 = .ok (.putfield 17, 3) := by decide +kernel
theorem d_RM_init_22 : decode c_RM_init 22 = .ok (.aload_n 0, 1) := by decide +kernel
theorem d_RM_init_23 : decode c_RM_init 23 = .ok (.new 21, 3) := by decide +kernel
theorem d_RM_init_26 : decode c_RM_init 26 = .ok (.dup, 1) := by decide +kernel
theorem d_RM_init_27 : decode c_RM_init 27 = .ok (.invokespecial 23, 3) := by decide +kernel
theorem d_RM_init_30 : decode c_RM_init 30 = .ok (.putfield 24, 3) := by decide +kernel
theorem d_RM_init_33 : decode c_RM_init 33 = .ok (.aload_n 0, 1) := by decide +kernel
theorem d_RM_init_34 : decode c_RM_init 34 = .ok (.iconst 2, 1) := by decide +kernel
theorem d_RM_init_35 : decode c_RM_init 35 = .ok (.newarray .int, 2) := by decide +kernel
theorem d_RM_init_37 : decode c_RM_init 37 = .ok (.putfield 28, 3) := by decide +kernel
theorem d_RM_init_40 : decode c_RM_init 40 = .ok (.iconst 0, 1) := by decide +kernel
theorem d_RM_init_41 : decode c_RM_init 41 = .ok (.istore_n 1, 1) := by decide +kernel
theorem d_RM_init_42 : decode c_RM_init 42 = .ok (.iload_n 1, 1) := by decide +kernel
theorem d_RM_init_43 : decode c_RM_init 43 = .ok (.aload_n 0, 1) := by decide +kernel
theorem d_RM_init_44 : decode c_RM_init 44 = .ok (.getfield 11, 3) := by decide +kernel
theorem d_RM_init_47 : decode c_RM_init 47 = .ok (.arraylength, 1) := by decide +kernel
theorem d_RM_init_48 : decode c_RM_init 48 = .ok (.if_icmp .ge 22, 3) := by decide +kernel
theorem d_RM_init_51 : decode c_RM_init 51 = .ok (.aload_n 0, 1) := by decide +kernel
theorem d_RM_init_52 : decode c_RM_init 52 = .ok (.getfield 11, 3) := by decide +kernel
theorem d_RM_init_55 : decode c_RM_init 55 = .ok (.iload_n 1, 1) := by decide +kernel
theorem d_RM_init_56 : decode c_RM_init 56 = .ok (.new 9, 3) := by decide +kernel
theorem d_RM_init_59 : decode c_RM_init 59 = .ok (.dup, 1) := by decide +kernel
theorem d_RM_init_60 : decode c_RM_init 60 = .ok (.invokespecial 32, 3) := by decide +kernel
theorem d_RM_init_63 : decode c_RM_init 63 = .ok (.aastore, 1) := by decide +kernel
theorem d_RM_init_64 : decode c_RM_init 64 = .ok (.iinc 1 1, 3) := by decide +kernel
theorem d_RM_init_67 : decode c_RM_init 67 = .ok (.goto (-25), 3) := by decide +kernel
theorem d_RM_init_70 : decode c_RM_init 70 = .ok (.return_, 1) := by decide +kernel
theorem d_RM_type_0 : decode c_RM_type 0 = .ok (.iload_n 1, 1) := by decide +kernel
theorem d_RM_type_1 : decode c_RM_type 1 = .ok (.invokestatic 33, 3) := by decide +kernel
theorem d_RM_type_4 : decode c_RM_type 4 = .ok (.ifCond .eq 30, 3) := by decide +kernel
theorem d_RM_type_7 : decode c_RM_type 7 = .ok (.iload_n 2, 1) := by decide +kernel
theorem d_RM_type_8 : decode c_RM_type 8 = .ok (.sipush 255, 3) := by decide +kernel
theorem d_RM_type_11 : decode c_RM_type 11 = .ok (.if_icmp .gt 23, 3) := by decide +kernel
theorem d_RM_type_14 : decode c_RM_type 14 = .ok (.aload_n 0, 1) := by decide +kernel
theorem d_RM_type_15 : decode c_RM_type 15 = .ok (.aload_n 0, 1) := by decide +kernel
theorem d_RM_type_16 : decode c_RM_type 16 = .ok (.getfield 37, 3) := by decide +kernel
theorem d_RM_type_19 : decode c_RM_type 19 = .ok (.iload_n 1, 1) := by decide +kernel
theorem d_RM_type_20 : decode c_RM_type 20 = .ok (.invokevirtual 41, 3) := by decide +kernel
theorem d_RM_type_23 : decode c_RM_type 23 = .ok (.iload_n 2, 1) := by decide +kernel
theorem d_RM_type_24 : decode c_RM_type 24 = .ok (.invokevirtual 45, 3) := by decide +kernel
theorem d_RM_type_27 : decode c_RM_type 27 = .ok (.ifCond .eq 7, 3) := by decide +kernel
theorem d_RM_type_30 : decode c_RM_type 30 = .ok (.iconst 1, 1) := by decide +kernel
theorem d_RM_type_31 : decode c_RM_type 31 = .ok (.goto 4, 3) := by decide +kernel
theorem d_RM_type_34 : decode c_RM_type 34 = .ok (.iconst 0, 1) := by decide +kernel
theorem d_RM_type_35 : decode c_RM_type 35 = .ok (.ireturn, 1) := by decide +kernel
theorem d_RM_add_0 : decode c_RM_add 0 = .ok (.aload_n 0, 1) := by decide +kernel
theorem d_RM_add_1 : decode c_RM_add 1 = .ok (.getfield 37, 3) := by decide +kernel
theorem d_RM_add_4 : decode c_RM_add 4 = .ok (.bipush 12, 2) := by decide +kernel
theorem d_RM_add_6 : decode c_RM_add 6 = .ok (.if_icmp .lt 6, 3) := by decide +kernel
theorem d_RM_add_9 : decode c_RM_add 9 = .ok (.bipush (-2), 2) := by decide +kernel
theorem d_RM_add_11 : decode c_RM_add 11 = .ok (.ireturn, 1) := by decide +kernel
theorem d_RM_add_12 : decode c_RM_add 12 = .ok (.aload_n 0, 1) := by decide +kernel
theorem d_RM_add_13 : decode c_RM_add 13 = .ok (.getfield 24, 3) := by decide +kernel
theorem d_RM_add_16 : decode c_RM_add 16 = .ok (.invokevirtual 51, 3) := by decide +kernel
theorem d_RM_add_19 : decode c_RM_add 19 = .ok (.aload_n 0, 1) := by decide +kernel
theorem d_RM_add_20 : decode c_RM_add 20 = .ok (.dup, 1) := by decide +kernel
theorem d_RM_add_21 : decode c_RM_add 21 = .ok (.getfield 37, 3) := by decide +kernel
theorem d_RM_add_24 : decode c_RM_add 24 = .ok (.iconst 1, 1) := by decide +kernel
theorem d_RM_add_25 : decode c_RM_add 25 = .ok (.iadd, 1) := by decide +kernel
theorem d_RM_add_26 : decode c_RM_add 26 = .ok (.putfield 37, 3) := by decide +kernel
theorem d_RM_add_29 : decode c_RM_add 29 = .ok (.aload_n 0, 1) := by decide +kernel
theorem d_RM_add_30 : decode c_RM_add 30 = .ok (.getfield 37, 3) := by decide +kernel
theorem d_RM_add_33 : decode c_RM_add 33 = .ok (.iconst 1, 1) := by decide +kernel
theorem d_RM_add_34 : decode c_RM_add 34 = .ok (.isub, 1) := by decide +kernel
theorem d_RM_add_35 : decode c_RM_add 35 = .ok (.ireturn, 1) := by decide +kernel
theorem d_RM_records_0 : decode c_RM_records 0 = .ok (.aload_n 0, 1) := by decide +kernel
theorem d_RM_records_1 : decode c_RM_records 1 = .ok (.getfield 37, 3) := by decide +kernel
theorem d_RM_records_4 : decode c_RM_records 4 = .ok (.ireturn, 1) := by decide +kernel
theorem d_RM_words_0 : decode c_RM_words 0 = .ok (.aload_n 0, 1) := by decide +kernel
theorem d_RM_words_1 : decode c_RM_words 1 = .ok (.iload_n 1, 1) := by decide +kernel
theorem d_RM_words_2 : decode c_RM_words 2 = .ok (.invokevirtual 54, 3) := by decide +kernel
theorem d_RM_words_5 : decode c_RM_words 5 = .ok (.ifCond .eq 10, 3) := by decide +kernel
theorem d_RM_words_8 : decode c_RM_words 8 = .ok (.iload_n 2, 1) := by decide +kernel
theorem d_RM_words_9 : decode c_RM_words 9 = .ok (.invokestatic 33, 3) := by decide +kernel
theorem d_RM_words_12 : decode c_RM_words 12 = .ok (.ifCond .ne 5, 3) := by decide +kernel
theorem d_RM_words_15 : decode c_RM_words 15 = .ok (.iconst (-1), 1) := by decide +kernel
theorem d_RM_words_16 : decode c_RM_words 16 = .ok (.ireturn, 1) := by decide +kernel
theorem d_RM_words_17 : decode c_RM_words 17 = .ok (.aload_n 0, 1) := by decide +kernel
theorem d_RM_words_18 : decode c_RM_words 18 = .ok (.iload_n 1, 1) := by decide +kernel
theorem d_RM_words_19 : decode c_RM_words 19 = .ok (.iload_n 2, 1) := by decide +kernel
theorem d_RM_words_20 : decode c_RM_words 20 = .ok (.invokevirtual 41, 3) := by decide +kernel
theorem d_RM_words_23 : decode c_RM_words 23 = .ok (.invokevirtual 57, 3) := by decide +kernel
theorem d_RM_words_26 : decode c_RM_words 26 = .ok (.ireturn, 1) := by decide +kernel
theorem d_RM_length_0 : decode c_RM_length 0 = .ok (.aload_n 0, 1) := by decide +kernel
theorem d_RM_length_1 : decode c_RM_length 1 = .ok (.iload_n 1, 1) := by decide +kernel
theorem d_RM_length_2 : decode c_RM_length 2 = .ok (.invokevirtual 54, 3) := by decide +kernel
theorem d_RM_length_5 : decode c_RM_length 5 = .ok (.ifCond .eq 10, 3) := by decide +kernel
theorem d_RM_length_8 : decode c_RM_length 8 = .ok (.iload_n 2, 1) := by decide +kernel
theorem d_RM_length_9 : decode c_RM_length 9 = .ok (.invokestatic 33, 3) := by decide +kernel
theorem d_RM_length_12 : decode c_RM_length 12 = .ok (.ifCond .ne 5, 3) := by decide +kernel
theorem d_RM_length_15 : decode c_RM_length 15 = .ok (.iconst (-1), 1) := by decide +kernel
theorem d_RM_length_16 : decode c_RM_length 16 = .ok (.ireturn, 1) := by decide +kernel
theorem d_RM_length_17 : decode c_RM_length 17 = .ok (.aload_n 0, 1) := by decide +kernel
theorem d_RM_length_18 : decode c_RM_length 18 = .ok (.iload_n 1, 1) := by decide +kernel
theorem d_RM_length_19 : decode c_RM_length 19 = .ok (.iload_n 2, 1) := by decide +kernel
theorem d_RM_length_20 : decode c_RM_length 20 = .ok (.invokevirtual 41, 3) := by decide +kernel
theorem d_RM_length_23 : decode c_RM_length 23 = .ok (.getfield 61, 3) := by decide +kernel
theorem d_RM_length_26 : decode c_RM_length 26 = .ok (.ireturn, 1) := by decide +kernel
theorem d_RM_unit_0 : decode c_RM_unit 0 = .ok (.aload_n 0, 1) := by decide +kernel
theorem d_RM_unit_1 : decode c_RM_unit 1 = .ok (.iload_n 1, 1) := by decide +kernel
theorem d_RM_unit_2 : decode c_RM_unit 2 = .ok (.invokevirtual 54, 3) := by decide +kernel
theorem d_RM_unit_5 : decode c_RM_unit 5 = .ok (.ifCond .eq 10, 3) := by decide +kernel
theorem d_RM_unit_8 : decode c_RM_unit 8 = .ok (.iload_n 2, 1) := by decide +kernel
theorem d_RM_unit_9 : decode c_RM_unit 9 = .ok (.invokestatic 33, 3) := by decide +kernel
theorem d_RM_unit_12 : decode c_RM_unit 12 = .ok (.ifCond .ne 5, 3) := by decide +kernel
theorem d_RM_unit_15 : decode c_RM_unit 15 = .ok (.iconst (-1), 1) := by decide +kernel
theorem d_RM_unit_16 : decode c_RM_unit 16 = .ok (.ireturn, 1) := by decide +kernel
theorem d_RM_unit_17 : decode c_RM_unit 17 = .ok (.aload_n 0, 1) := by decide +kernel
theorem d_RM_unit_18 : decode c_RM_unit 18 = .ok (.iload_n 1, 1) := by decide +kernel
theorem d_RM_unit_19 : decode c_RM_unit 19 = .ok (.iload_n 2, 1) := by decide +kernel
theorem d_RM_unit_20 : decode c_RM_unit 20 = .ok (.invokevirtual 41, 3) := by decide +kernel
theorem d_RM_unit_23 : decode c_RM_unit 23 = .ok (.astore 4, 2) := by decide +kernel
theorem d_RM_unit_25 : decode c_RM_unit 25 = .ok (.iload_n 3, 1) := by decide +kernel
theorem d_RM_unit_26 : decode c_RM_unit 26 = .ok (.ifCond .lt 22, 3) := by decide +kernel
theorem d_RM_unit_29 : decode c_RM_unit 29 = .ok (.iload_n 3, 1) := by decide +kernel
theorem d_RM_unit_30 : decode c_RM_unit 30 = .ok (.aload 4, 2) := by decide +kernel
theorem d_RM_unit_32 : decode c_RM_unit 32 = .ok (.getfield 61, 3) := by decide +kernel
theorem d_RM_unit_35 : decode c_RM_unit 35 = .ok (.if_icmp .ge 13, 3) := by decide +kernel
theorem d_RM_unit_38 : decode c_RM_unit 38 = .ok (.aload 4, 2) := by decide +kernel
theorem d_RM_unit_40 : decode c_RM_unit 40 = .ok (.getfield 64, 3) := by decide +kernel
theorem d_RM_unit_43 : decode c_RM_unit 43 = .ok (.iload_n 3, 1) := by decide +kernel
theorem d_RM_unit_44 : decode c_RM_unit 44 = .ok (.caload, 1) := by decide +kernel
theorem d_RM_unit_45 : decode c_RM_unit 45 = .ok (.goto 4, 3) := by decide +kernel
theorem d_RM_unit_48 : decode c_RM_unit 48 = .ok (.iconst (-1), 1) := by decide +kernel
theorem d_RM_unit_49 : decode c_RM_unit 49 = .ok (.ireturn, 1) := by decide +kernel
theorem d_RM_jaccard_0 : decode c_RM_jaccard 0 = .ok (.iload_n 1, 1) := by decide +kernel
theorem d_RM_jaccard_1 : decode c_RM_jaccard 1 = .ok (.invokestatic 33, 3) := by decide +kernel
theorem d_RM_jaccard_4 : decode c_RM_jaccard 4 = .ok (.ifCond .eq 28, 3) := by decide +kernel
theorem d_RM_jaccard_7 : decode c_RM_jaccard 7 = .ok (.iload_n 2, 1) := by decide +kernel
theorem d_RM_jaccard_8 : decode c_RM_jaccard 8 = .ok (.iconst 1, 1) := by decide +kernel
theorem d_RM_jaccard_9 : decode c_RM_jaccard 9 = .ok (.if_icmp .lt 23, 3) := by decide +kernel
theorem d_RM_jaccard_12 : decode c_RM_jaccard 12 = .ok (.iload_n 2, 1) := by decide +kernel
theorem d_RM_jaccard_13 : decode c_RM_jaccard 13 = .ok (.iload_n 3, 1) := by decide +kernel
theorem d_RM_jaccard_14 : decode c_RM_jaccard 14 = .ok (.if_icmp .gt 18, 3) := by decide +kernel
theorem d_RM_jaccard_17 : decode c_RM_jaccard 17 = .ok (.iload_n 3, 1) := by decide +kernel
theorem d_RM_jaccard_18 : decode c_RM_jaccard 18 = .ok (.bipush 100, 2) := by decide +kernel
theorem d_RM_jaccard_20 : decode c_RM_jaccard 20 = .ok (.if_icmp .gt 12, 3) := by decide +kernel
theorem d_RM_jaccard_23 : decode c_RM_jaccard 23 = .ok (.aload_n 0, 1) := by decide +kernel
theorem d_RM_jaccard_24 : decode c_RM_jaccard 24 = .ok (.getfield 68, 3) := by decide +kernel
theorem d_RM_jaccard_27 : decode c_RM_jaccard 27 = .ok (.bipush 6, 2) := by decide +kernel
theorem d_RM_jaccard_29 : decode c_RM_jaccard 29 = .ok (.if_icmp .lt 5, 3) := by decide +kernel
theorem d_RM_jaccard_32 : decode c_RM_jaccard 32 = .ok (.iconst 0, 1) := by decide +kernel
theorem d_RM_jaccard_33 : decode c_RM_jaccard 33 = .ok (.ireturn, 1) := by decide +kernel
theorem d_RM_jaccard_34 : decode c_RM_jaccard 34 = .ok (.aload_n 0, 1) := by decide +kernel
theorem d_RM_jaccard_35 : decode c_RM_jaccard 35 = .ok (.new 71, 3) := by decide +kernel
theorem d_RM_jaccard_38 : decode c_RM_jaccard 38 = .ok (.dup, 1) := by decide +kernel
theorem d_RM_jaccard_39 : decode c_RM_jaccard 39 = .ok (.iload_n 1, 1) := by decide +kernel
theorem d_RM_jaccard_40 : decode c_RM_jaccard 40 = .ok (.iload_n 2, 1) := by decide +kernel
theorem d_RM_jaccard_41 : decode c_RM_jaccard 41 = .ok (.iload_n 3, 1) := by decide +kernel
theorem d_RM_jaccard_42 : decode c_RM_jaccard 42 = .ok (.invokespecial 73, 3) := by decide +kernel
theorem d_RM_jaccard_45 : decode c_RM_jaccard 45 = .ok (.invokevirtual 76, 3) := by decide +kernel
theorem d_RM_jaccard_48 : decode c_RM_jaccard 48 = .ok (.iconst 1, 1) := by decide +kernel
theorem d_RM_jaccard_49 : decode c_RM_jaccard 49 = .ok (.ireturn, 1) := by decide +kernel
theorem d_RM_edit_0 : decode c_RM_edit 0 = .ok (.iload_n 1, 1) := by decide +kernel
theorem d_RM_edit_1 : decode c_RM_edit 1 = .ok (.invokestatic 33, 3) := by decide +kernel
theorem d_RM_edit_4 : decode c_RM_edit 4 = .ok (.ifCond .eq 22, 3) := by decide +kernel
theorem d_RM_edit_7 : decode c_RM_edit 7 = .ok (.iload_n 2, 1) := by decide +kernel
theorem d_RM_edit_8 : decode c_RM_edit 8 = .ok (.ifCond .lt 18, 3) := by decide +kernel
theorem d_RM_edit_11 : decode c_RM_edit 11 = .ok (.iload_n 2, 1) := by decide +kernel
theorem d_RM_edit_12 : decode c_RM_edit 12 = .ok (.bipush 8, 2) := by decide +kernel
theorem d_RM_edit_14 : decode c_RM_edit 14 = .ok (.if_icmp .gt 12, 3) := by decide +kernel
theorem d_RM_edit_17 : decode c_RM_edit 17 = .ok (.aload_n 0, 1) := by decide +kernel
theorem d_RM_edit_18 : decode c_RM_edit 18 = .ok (.getfield 68, 3) := by decide +kernel
theorem d_RM_edit_21 : decode c_RM_edit 21 = .ok (.bipush 6, 2) := by decide +kernel
theorem d_RM_edit_23 : decode c_RM_edit 23 = .ok (.if_icmp .lt 5, 3) := by decide +kernel
theorem d_RM_edit_26 : decode c_RM_edit 26 = .ok (.iconst 0, 1) := by decide +kernel
theorem d_RM_edit_27 : decode c_RM_edit 27 = .ok (.ireturn, 1) := by decide +kernel
theorem d_RM_edit_28 : decode c_RM_edit 28 = .ok (.aload_n 0, 1) := by decide +kernel
theorem d_RM_edit_29 : decode c_RM_edit 29 = .ok (.new 80, 3) := by decide +kernel
theorem d_RM_edit_32 : decode c_RM_edit 32 = .ok (.dup, 1) := by decide +kernel
theorem d_RM_edit_33 : decode c_RM_edit 33 = .ok (.iload_n 1, 1) := by decide +kernel
theorem d_RM_edit_34 : decode c_RM_edit 34 = .ok (.iload_n 2, 1) := by decide +kernel
theorem d_RM_edit_35 : decode c_RM_edit 35 = .ok (.invokespecial 82, 3) := by decide +kernel
theorem d_RM_edit_38 : decode c_RM_edit 38 = .ok (.invokevirtual 76, 3) := by decide +kernel
theorem d_RM_edit_41 : decode c_RM_edit 41 = .ok (.iconst 1, 1) := by decide +kernel
theorem d_RM_edit_42 : decode c_RM_edit 42 = .ok (.ireturn, 1) := by decide +kernel
theorem d_RM_join_0 : decode c_RM_join 0 = .ok (.aload_n 0, 1) := by decide +kernel
theorem d_RM_join_1 : decode c_RM_join 1 = .ok (.iconst 1, 1) := by decide +kernel
theorem d_RM_join_2 : decode c_RM_join 2 = .ok (.invokevirtual 85, 3) := by decide +kernel
theorem d_RM_join_5 : decode c_RM_join 5 = .ok (.astore_n 2, 1) := by decide +kernel
theorem d_RM_join_6 : decode c_RM_join 6 = .ok (.aload_n 0, 1) := by decide +kernel
theorem d_RM_join_7 : decode c_RM_join 7 = .ok (.iconst 0, 1) := by decide +kernel
theorem d_RM_join_8 : decode c_RM_join 8 = .ok (.invokevirtual 85, 3) := by decide +kernel
theorem d_RM_join_11 : decode c_RM_join 11 = .ok (.astore_n 3, 1) := by decide +kernel
theorem d_RM_join_12 : decode c_RM_join 12 = .ok (.aload_n 2, 1) := by decide +kernel
theorem d_RM_join_13 : decode c_RM_join 13 = .ok (.ifnull 21, 3) := by decide +kernel
theorem d_RM_join_16 : decode c_RM_join 16 = .ok (.aload_n 3, 1) := by decide +kernel
theorem d_RM_join_17 : decode c_RM_join 17 = .ok (.ifnull 17, 3) := by decide +kernel
theorem d_RM_join_20 : decode c_RM_join 20 = .ok (.aload_n 2, 1) := by decide +kernel
theorem d_RM_join_21 : decode c_RM_join 21 = .ok (.getfield 89, 3) := by decide +kernel
theorem d_RM_join_24 : decode c_RM_join 24 = .ok (.aload_n 3, 1) := by decide +kernel
theorem d_RM_join_25 : decode c_RM_join 25 = .ok (.getfield 89, 3) := by decide +kernel
theorem d_RM_join_28 : decode c_RM_join 28 = .ok (.iadd, 1) := by decide +kernel
theorem d_RM_join_29 : decode c_RM_join 29 = .ok (.bipush 12, 2) := by decide +kernel
theorem d_RM_join_31 : decode c_RM_join 31 = .ok (.if_icmp .le 5, 3) := by decide +kernel
theorem d_RM_join_34 : decode c_RM_join 34 = .ok (.iconst 0, 1) := by decide +kernel
theorem d_RM_join_35 : decode c_RM_join 35 = .ok (.ireturn, 1) := by decide +kernel
theorem d_RM_join_36 : decode c_RM_join 36 = .ok (.aload_n 0, 1) := by decide +kernel
theorem d_RM_join_37 : decode c_RM_join 37 = .ok (.dup, 1) := by decide +kernel
theorem d_RM_join_38 : decode c_RM_join 38 = .ok (.getfield 68, 3) := by decide +kernel
theorem d_RM_join_41 : decode c_RM_join 41 = .ok (.iconst 2, 1) := by decide +kernel
theorem d_RM_join_42 : decode c_RM_join 42 = .ok (.isub, 1) := by decide +kernel
theorem d_RM_join_43 : decode c_RM_join 43 = .ok (.putfield 68, 3) := by decide +kernel
theorem d_RM_join_46 : decode c_RM_join 46 = .ok (.aload_n 0, 1) := by decide +kernel
theorem d_RM_join_47 : decode c_RM_join 47 = .ok (.new 92, 3) := by decide +kernel
theorem d_RM_join_50 : decode c_RM_join 50 = .ok (.dup, 1) := by decide +kernel
theorem d_RM_join_51 : decode c_RM_join 51 = .ok (.iload_n 1, 1) := by decide +kernel
theorem d_RM_join_52 : decode c_RM_join 52 = .ok (.aload_n 2, 1) := by decide +kernel
theorem d_RM_join_53 : decode c_RM_join 53 = .ok (.aload_n 3, 1) := by decide +kernel
theorem d_RM_join_54 : decode c_RM_join 54 = .ok (.invokespecial 94, 3) := by decide +kernel
theorem d_RM_join_57 : decode c_RM_join 57 = .ok (.invokevirtual 76, 3) := by decide +kernel
theorem d_RM_join_60 : decode c_RM_join 60 = .ok (.iconst 1, 1) := by decide +kernel
theorem d_RM_join_61 : decode c_RM_join 61 = .ok (.ireturn, 1) := by decide +kernel
theorem d_RM_accept_0 : decode c_RM_accept 0 = .ok (.aload_n 0, 1) := by decide +kernel
theorem d_RM_accept_1 : decode c_RM_accept 1 = .ok (.iconst 0, 1) := by decide +kernel
theorem d_RM_accept_2 : decode c_RM_accept 2 = .ok (.invokevirtual 85, 3) := by decide +kernel
theorem d_RM_accept_5 : decode c_RM_accept 5 = .ok (.astore_n 1, 1) := by decide +kernel
theorem d_RM_accept_6 : decode c_RM_accept 6 = .ok (.aload_n 1, 1) := by decide +kernel
theorem d_RM_accept_7 : decode c_RM_accept 7 = .ok (.ifnull 11, 3) := by decide +kernel
theorem d_RM_accept_10 : decode c_RM_accept 10 = .ok (.aload_n 0, 1) := by decide +kernel
theorem d_RM_accept_11 : decode c_RM_accept 11 = .ok (.getfield 68, 3) := by decide +kernel
theorem d_RM_accept_14 : decode c_RM_accept 14 = .ok (.iconst 1, 1) := by decide +kernel
theorem d_RM_accept_15 : decode c_RM_accept 15 = .ok (.if_icmp .le 5, 3) := by decide +kernel
theorem d_RM_accept_18 : decode c_RM_accept 18 = .ok (.iconst (-1), 1) := by decide +kernel
theorem d_RM_accept_19 : decode c_RM_accept 19 = .ok (.ireturn, 1) := by decide +kernel
theorem d_RM_accept_20 : decode c_RM_accept 20 = .ok (.aload_n 1, 1) := by decide +kernel
theorem d_RM_accept_21 : decode c_RM_accept 21 = .ok (.getfield 97, 3) := by decide +kernel
theorem d_RM_accept_24 : decode c_RM_accept 24 = .ok (.ifCond .ne 6, 3) := by decide +kernel
theorem d_RM_accept_27 : decode c_RM_accept 27 = .ok (.bipush (-3), 2) := by decide +kernel
theorem d_RM_accept_29 : decode c_RM_accept 29 = .ok (.ireturn, 1) := by decide +kernel
theorem d_RM_accept_30 : decode c_RM_accept 30 = .ok (.aload_n 0, 1) := by decide +kernel
theorem d_RM_accept_31 : decode c_RM_accept 31 = .ok (.aload_n 1, 1) := by decide +kernel
theorem d_RM_accept_32 : decode c_RM_accept 32 = .ok (.putfield 101, 3) := by decide +kernel
theorem d_RM_accept_35 : decode c_RM_accept 35 = .ok (.aload_n 0, 1) := by decide +kernel
theorem d_RM_accept_36 : decode c_RM_accept 36 = .ok (.iconst 0, 1) := by decide +kernel
theorem d_RM_accept_37 : decode c_RM_accept 37 = .ok (.putfield 68, 3) := by decide +kernel
theorem d_RM_accept_40 : decode c_RM_accept 40 = .ok (.aload_n 0, 1) := by decide +kernel
theorem d_RM_accept_41 : decode c_RM_accept 41 = .ok (.getfield 24, 3) := by decide +kernel
theorem d_RM_accept_44 : decode c_RM_accept 44 = .ok (.invokevirtual 51, 3) := by decide +kernel
theorem d_RM_accept_47 : decode c_RM_accept 47 = .ok (.aload_n 1, 1) := by decide +kernel
theorem d_RM_accept_48 : decode c_RM_accept 48 = .ok (.getfield 89, 3) := by decide +kernel
theorem d_RM_accept_51 : decode c_RM_accept 51 = .ok (.ireturn, 1) := by decide +kernel
theorem d_RM_discard_0 : decode c_RM_discard 0 = .ok (.aload_n 0, 1) := by decide +kernel
theorem d_RM_discard_1 : decode c_RM_discard 1 = .ok (.getfield 68, 3) := by decide +kernel
theorem d_RM_discard_4 : decode c_RM_discard 4 = .ok (.ifCond .ne 5, 3) := by decide +kernel
theorem d_RM_discard_7 : decode c_RM_discard 7 = .ok (.iconst 0, 1) := by decide +kernel
theorem d_RM_discard_8 : decode c_RM_discard 8 = .ok (.ireturn, 1) := by decide +kernel
theorem d_RM_discard_9 : decode c_RM_discard 9 = .ok (.aload_n 0, 1) := by decide +kernel
theorem d_RM_discard_10 : decode c_RM_discard 10 = .ok (.dup, 1) := by decide +kernel
theorem d_RM_discard_11 : decode c_RM_discard 11 = .ok (.getfield 68, 3) := by decide +kernel
theorem d_RM_discard_14 : decode c_RM_discard 14 = .ok (.iconst 1, 1) := by decide +kernel
theorem d_RM_discard_15 : decode c_RM_discard 15 = .ok (.isub, 1) := by decide +kernel
theorem d_RM_discard_16 : decode c_RM_discard 16 = .ok (.putfield 68, 3) := by decide +kernel
theorem d_RM_discard_19 : decode c_RM_discard 19 = .ok (.iconst 1, 1) := by decide +kernel
theorem d_RM_discard_20 : decode c_RM_discard 20 = .ok (.ireturn, 1) := by decide +kernel
theorem d_RM_similar_0 : decode c_RM_similar 0 = .ok (.aload_n 0, 1) := by decide +kernel
theorem d_RM_similar_1 : decode c_RM_similar 1 = .ok (.getfield 101, 3) := by decide +kernel
theorem d_RM_similar_4 : decode c_RM_similar 4 = .ok (.ifnonnull 6, 3) := by decide +kernel
theorem d_RM_similar_7 : decode c_RM_similar 7 = .ok (.bipush (-4), 2) := by decide +kernel
theorem d_RM_similar_9 : decode c_RM_similar 9 = .ok (.ireturn, 1) := by decide +kernel
theorem d_RM_similar_10 : decode c_RM_similar 10 = .ok (.aload_n 0, 1) := by decide +kernel
theorem d_RM_similar_11 : decode c_RM_similar 11 = .ok (.iload_n 1, 1) := by decide +kernel
theorem d_RM_similar_12 : decode c_RM_similar 12 = .ok (.iload_n 2, 1) := by decide +kernel
theorem d_RM_similar_13 : decode c_RM_similar 13 = .ok (.invokevirtual 105, 3) := by decide +kernel
theorem d_RM_similar_16 : decode c_RM_similar 16 = .ok (.ifCond .ne 5, 3) := by decide +kernel
theorem d_RM_similar_19 : decode c_RM_similar 19 = .ok (.iconst (-1), 1) := by decide +kernel
theorem d_RM_similar_20 : decode c_RM_similar 20 = .ok (.ireturn, 1) := by decide +kernel
theorem d_RM_similar_21 : decode c_RM_similar 21 = .ok (.aload_n 0, 1) := by decide +kernel
theorem d_RM_similar_22 : decode c_RM_similar 22 = .ok (.getfield 101, 3) := by decide +kernel
theorem d_RM_similar_25 : decode c_RM_similar 25 = .ok (.aload_n 0, 1) := by decide +kernel
theorem d_RM_similar_26 : decode c_RM_similar 26 = .ok (.getfield 11, 3) := by decide +kernel
theorem d_RM_similar_29 : decode c_RM_similar 29 = .ok (.iload_n 1, 1) := by decide +kernel
theorem d_RM_similar_30 : decode c_RM_similar 30 = .ok (.aaload, 1) := by decide +kernel
theorem d_RM_similar_31 : decode c_RM_similar 31 = .ok (.aload_n 0, 1) := by decide +kernel
theorem d_RM_similar_32 : decode c_RM_similar 32 = .ok (.getfield 11, 3) := by decide +kernel
theorem d_RM_similar_35 : decode c_RM_similar 35 = .ok (.iload_n 2, 1) := by decide +kernel
theorem d_RM_similar_36 : decode c_RM_similar 36 = .ok (.aaload, 1) := by decide +kernel
theorem d_RM_similar_37 : decode c_RM_similar 37 = .ok (.invokevirtual 109, 3) := by decide +kernel
theorem d_RM_similar_40 : decode c_RM_similar 40 = .ok (.ifCond .eq 7, 3) := by decide +kernel
theorem d_RM_similar_43 : decode c_RM_similar 43 = .ok (.iconst 1, 1) := by decide +kernel
theorem d_RM_similar_44 : decode c_RM_similar 44 = .ok (.goto 4, 3) := by decide +kernel
theorem d_RM_similar_47 : decode c_RM_similar 47 = .ok (.iconst 0, 1) := by decide +kernel
theorem d_RM_similar_48 : decode c_RM_similar 48 = .ok (.ireturn, 1) := by decide +kernel
theorem d_RM_start_0 : decode c_RM_start 0 = .ok (.aload_n 0, 1) := by decide +kernel
theorem d_RM_start_1 : decode c_RM_start 1 = .ok (.getfield 101, 3) := by decide +kernel
theorem d_RM_start_4 : decode c_RM_start 4 = .ok (.ifnonnull 6, 3) := by decide +kernel
theorem d_RM_start_7 : decode c_RM_start 7 = .ok (.bipush (-4), 2) := by decide +kernel
theorem d_RM_start_9 : decode c_RM_start 9 = .ok (.ireturn, 1) := by decide +kernel
theorem d_RM_start_10 : decode c_RM_start 10 = .ok (.iload_n 1, 1) := by decide +kernel
theorem d_RM_start_11 : decode c_RM_start 11 = .ok (.iconst 1, 1) := by decide +kernel
theorem d_RM_start_12 : decode c_RM_start 12 = .ok (.if_icmp .lt 8, 3) := by decide +kernel
theorem d_RM_start_15 : decode c_RM_start 15 = .ok (.iload_n 1, 1) := by decide +kernel
theorem d_RM_start_16 : decode c_RM_start 16 = .ok (.iconst 4, 1) := by decide +kernel
theorem d_RM_start_17 : decode c_RM_start 17 = .ok (.if_icmp .le 5, 3) := by decide +kernel
theorem d_RM_start_20 : decode c_RM_start 20 = .ok (.iconst (-1), 1) := by decide +kernel
theorem d_RM_start_21 : decode c_RM_start 21 = .ok (.ireturn, 1) := by decide +kernel
theorem d_RM_start_22 : decode c_RM_start 22 = .ok (.aload_n 0, 1) := by decide +kernel
theorem d_RM_start_23 : decode c_RM_start 23 = .ok (.getfield 24, 3) := by decide +kernel
theorem d_RM_start_26 : decode c_RM_start 26 = .ok (.iload_n 1, 1) := by decide +kernel
theorem d_RM_start_27 : decode c_RM_start 27 = .ok (.aload_n 0, 1) := by decide +kernel
theorem d_RM_start_28 : decode c_RM_start 28 = .ok (.getfield 37, 3) := by decide +kernel
theorem d_RM_start_31 : decode c_RM_start 31 = .ok (.invokevirtual 113, 3) := by decide +kernel
theorem d_RM_start_34 : decode c_RM_start 34 = .ok (.aload_n 0, 1) := by decide +kernel
theorem d_RM_start_35 : decode c_RM_start 35 = .ok (.getfield 37, 3) := by decide +kernel
theorem d_RM_start_38 : decode c_RM_start 38 = .ok (.ireturn, 1) := by decide +kernel
theorem d_RM_work_0 : decode c_RM_work 0 = .ok (.aload_n 0, 1) := by decide +kernel
theorem d_RM_work_1 : decode c_RM_work 1 = .ok (.getfield 101, 3) := by decide +kernel
theorem d_RM_work_4 : decode c_RM_work 4 = .ok (.ifnull 13, 3) := by decide +kernel
theorem d_RM_work_7 : decode c_RM_work 7 = .ok (.aload_n 0, 1) := by decide +kernel
theorem d_RM_work_8 : decode c_RM_work 8 = .ok (.getfield 24, 3) := by decide +kernel
theorem d_RM_work_11 : decode c_RM_work 11 = .ok (.invokevirtual 116, 3) := by decide +kernel
theorem d_RM_work_14 : decode c_RM_work 14 = .ok (.ifCond .ne 6, 3) := by decide +kernel
theorem d_RM_work_17 : decode c_RM_work 17 = .ok (.bipush (-4), 2) := by decide +kernel
theorem d_RM_work_19 : decode c_RM_work 19 = .ok (.ireturn, 1) := by decide +kernel
theorem d_RM_work_20 : decode c_RM_work 20 = .ok (.aload_n 0, 1) := by decide +kernel
theorem d_RM_work_21 : decode c_RM_work 21 = .ok (.getfield 24, 3) := by decide +kernel
theorem d_RM_work_24 : decode c_RM_work 24 = .ok (.iload_n 1, 1) := by decide +kernel
theorem d_RM_work_25 : decode c_RM_work 25 = .ok (.invokevirtual 120, 3) := by decide +kernel
theorem d_RM_work_28 : decode c_RM_work 28 = .ok (.ifCond .ne 5, 3) := by decide +kernel
theorem d_RM_work_31 : decode c_RM_work 31 = .ok (.iconst (-1), 1) := by decide +kernel
theorem d_RM_work_32 : decode c_RM_work 32 = .ok (.ireturn, 1) := by decide +kernel
theorem d_RM_work_33 : decode c_RM_work 33 = .ok (.aload_n 0, 1) := by decide +kernel
theorem d_RM_work_34 : decode c_RM_work 34 = .ok (.getfield 24, 3) := by decide +kernel
theorem d_RM_work_37 : decode c_RM_work 37 = .ok (.iload_n 1, 1) := by decide +kernel
theorem d_RM_work_38 : decode c_RM_work 38 = .ok (.invokevirtual 123, 3) := by decide +kernel
theorem d_RM_work_41 : decode c_RM_work 41 = .ok (.istore_n 2, 1) := by decide +kernel
theorem d_RM_work_42 : decode c_RM_work 42 = .ok (.iload_n 2, 1) := by decide +kernel
theorem d_RM_work_43 : decode c_RM_work 43 = .ok (.aload_n 0, 1) := by decide +kernel
theorem d_RM_work_44 : decode c_RM_work 44 = .ok (.getfield 24, 3) := by decide +kernel
theorem d_RM_work_47 : decode c_RM_work 47 = .ok (.getfield 127, 3) := by decide +kernel
theorem d_RM_work_50 : decode c_RM_work 50 = .ok (.if_icmp .lt 6, 3) := by decide +kernel
theorem d_RM_work_53 : decode c_RM_work 53 = .ok (.bipush (-5), 2) := by decide +kernel
theorem d_RM_work_55 : decode c_RM_work 55 = .ok (.ireturn, 1) := by decide +kernel
theorem d_RM_work_56 : decode c_RM_work 56 = .ok (.iconst 0, 1) := by decide +kernel
theorem d_RM_work_57 : decode c_RM_work 57 = .ok (.istore_n 3, 1) := by decide +kernel
theorem d_RM_work_58 : decode c_RM_work 58 = .ok (.iconst 0, 1) := by decide +kernel
theorem d_RM_work_59 : decode c_RM_work 59 = .ok (.istore 4, 2) := by decide +kernel
theorem d_RM_work_61 : decode c_RM_work 61 = .ok (.iload 4, 2) := by decide +kernel
theorem d_RM_work_63 : decode c_RM_work 63 = .ok (.iload_n 2, 1) := by decide +kernel
theorem d_RM_work_64 : decode c_RM_work 64 = .ok (.if_icmp .ge 45, 3) := by decide +kernel
theorem d_RM_work_67 : decode c_RM_work 67 = .ok (.aload_n 0, 1) := by decide +kernel
theorem d_RM_work_68 : decode c_RM_work 68 = .ok (.getfield 101, 3) := by decide +kernel
theorem d_RM_work_71 : decode c_RM_work 71 = .ok (.aload_n 0, 1) := by decide +kernel
theorem d_RM_work_72 : decode c_RM_work 72 = .ok (.getfield 11, 3) := by decide +kernel
theorem d_RM_work_75 : decode c_RM_work 75 = .ok (.iload 4, 2) := by decide +kernel
theorem d_RM_work_77 : decode c_RM_work 77 = .ok (.aaload, 1) := by decide +kernel
theorem d_RM_work_78 : decode c_RM_work 78 = .ok (.aload_n 0, 1) := by decide +kernel
theorem d_RM_work_79 : decode c_RM_work 79 = .ok (.getfield 11, 3) := by decide +kernel
theorem d_RM_work_82 : decode c_RM_work 82 = .ok (.iload_n 2, 1) := by decide +kernel
theorem d_RM_work_83 : decode c_RM_work 83 = .ok (.aaload, 1) := by decide +kernel
theorem d_RM_work_84 : decode c_RM_work 84 = .ok (.invokevirtual 109, 3) := by decide +kernel
theorem d_RM_work_87 : decode c_RM_work 87 = .ok (.ifCond .eq 16, 3) := by decide +kernel
theorem d_RM_work_90 : decode c_RM_work 90 = .ok (.aload_n 0, 1) := by decide +kernel
theorem d_RM_work_91 : decode c_RM_work 91 = .ok (.getfield 24, 3) := by decide +kernel
theorem d_RM_work_94 : decode c_RM_work 94 = .ok (.iload 4, 2) := by decide +kernel
theorem d_RM_work_96 : decode c_RM_work 96 = .ok (.iload_n 2, 1) := by decide +kernel
theorem d_RM_work_97 : decode c_RM_work 97 = .ok (.invokevirtual 130, 3) := by decide +kernel
theorem d_RM_work_100 : decode c_RM_work 100 = .ok (.iinc 3 1, 3) := by decide +kernel
theorem d_RM_work_103 : decode c_RM_work 103 = .ok (.iinc 4 1, 3) := by decide +kernel
theorem d_RM_work_106 : decode c_RM_work 106 = .ok (.goto (-45), 3) := by decide +kernel
theorem d_RM_work_109 : decode c_RM_work 109 = .ok (.aload_n 0, 1) := by decide +kernel
theorem d_RM_work_110 : decode c_RM_work 110 = .ok (.getfield 24, 3) := by decide +kernel
theorem d_RM_work_113 : decode c_RM_work 113 = .ok (.iload_n 1, 1) := by decide +kernel
theorem d_RM_work_114 : decode c_RM_work 114 = .ok (.invokevirtual 133, 3) := by decide +kernel
theorem d_RM_work_117 : decode c_RM_work 117 = .ok (.iload_n 3, 1) := by decide +kernel
theorem d_RM_work_118 : decode c_RM_work 118 = .ok (.ireturn, 1) := by decide +kernel
theorem d_RM_crash_0 : decode c_RM_crash 0 = .ok (.aload_n 0, 1) := by decide +kernel
theorem d_RM_crash_1 : decode c_RM_crash 1 = .ok (.getfield 24, 3) := by decide +kernel
theorem d_RM_crash_4 : decode c_RM_crash 4 = .ok (.invokevirtual 116, 3) := by decide +kernel
theorem d_RM_crash_7 : decode c_RM_crash 7 = .ok (.ifCond .ne 6, 3) := by decide +kernel
theorem d_RM_crash_10 : decode c_RM_crash 10 = .ok (.bipush (-4), 2) := by decide +kernel
theorem d_RM_crash_12 : decode c_RM_crash 12 = .ok (.ireturn, 1) := by decide +kernel
theorem d_RM_crash_13 : decode c_RM_crash 13 = .ok (.aload_n 0, 1) := by decide +kernel
theorem d_RM_crash_14 : decode c_RM_crash 14 = .ok (.getfield 24, 3) := by decide +kernel
theorem d_RM_crash_17 : decode c_RM_crash 17 = .ok (.iload_n 1, 1) := by decide +kernel
theorem d_RM_crash_18 : decode c_RM_crash 18 = .ok (.invokevirtual 120, 3) := by decide +kernel
theorem d_RM_crash_21 : decode c_RM_crash 21 = .ok (.ifCond .ne 5, 3) := by decide +kernel
theorem d_RM_crash_24 : decode c_RM_crash 24 = .ok (.iconst (-1), 1) := by decide +kernel
theorem d_RM_crash_25 : decode c_RM_crash 25 = .ok (.ireturn, 1) := by decide +kernel
theorem d_RM_crash_26 : decode c_RM_crash 26 = .ok (.aload_n 0, 1) := by decide +kernel
theorem d_RM_crash_27 : decode c_RM_crash 27 = .ok (.getfield 24, 3) := by decide +kernel
theorem d_RM_crash_30 : decode c_RM_crash 30 = .ok (.invokevirtual 137, 3) := by decide +kernel
theorem d_RM_crash_33 : decode c_RM_crash 33 = .ok (.ifCond .eq 6, 3) := by decide +kernel
theorem d_RM_crash_36 : decode c_RM_crash 36 = .ok (.bipush (-5), 2) := by decide +kernel
theorem d_RM_crash_38 : decode c_RM_crash 38 = .ok (.ireturn, 1) := by decide +kernel
theorem d_RM_crash_39 : decode c_RM_crash 39 = .ok (.aload_n 0, 1) := by decide +kernel
theorem d_RM_crash_40 : decode c_RM_crash 40 = .ok (.getfield 24, 3) := by decide +kernel
theorem d_RM_crash_43 : decode c_RM_crash 43 = .ok (.iload_n 1, 1) := by decide +kernel
theorem d_RM_crash_44 : decode c_RM_crash 44 = .ok (.invokevirtual 140, 3) := by decide +kernel
theorem d_RM_crash_47 : decode c_RM_crash 47 = .ok (.ireturn, 1) := by decide +kernel
theorem d_RM_pairs_0 : decode c_RM_pairs 0 = .ok (.aload_n 0, 1) := by decide +kernel
theorem d_RM_pairs_1 : decode c_RM_pairs 1 = .ok (.getfield 24, 3) := by decide +kernel
theorem d_RM_pairs_4 : decode c_RM_pairs 4 = .ok (.invokevirtual 116, 3) := by decide +kernel
theorem d_RM_pairs_7 : decode c_RM_pairs 7 = .ok (.ifCond .eq 13, 3) := by decide +kernel
theorem d_RM_pairs_10 : decode c_RM_pairs 10 = .ok (.aload_n 0, 1) := by decide +kernel
theorem d_RM_pairs_11 : decode c_RM_pairs 11 = .ok (.getfield 24, 3) := by decide +kernel
theorem d_RM_pairs_14 : decode c_RM_pairs 14 = .ok (.invokevirtual 143, 3) := by decide +kernel
theorem d_RM_pairs_17 : decode c_RM_pairs 17 = .ok (.goto 5, 3) := by decide +kernel
theorem d_RM_pairs_20 : decode c_RM_pairs 20 = .ok (.bipush (-4), 2) := by decide +kernel
theorem d_RM_pairs_22 : decode c_RM_pairs 22 = .ok (.ireturn, 1) := by decide +kernel
theorem d_RM_found_0 : decode c_RM_found 0 = .ok (.aload_n 0, 1) := by decide +kernel
theorem d_RM_found_1 : decode c_RM_found 1 = .ok (.getfield 24, 3) := by decide +kernel
theorem d_RM_found_4 : decode c_RM_found 4 = .ok (.invokevirtual 116, 3) := by decide +kernel
theorem d_RM_found_7 : decode c_RM_found 7 = .ok (.ifCond .ne 6, 3) := by decide +kernel
theorem d_RM_found_10 : decode c_RM_found 10 = .ok (.bipush (-4), 2) := by decide +kernel
theorem d_RM_found_12 : decode c_RM_found 12 = .ok (.ireturn, 1) := by decide +kernel
theorem d_RM_found_13 : decode c_RM_found 13 = .ok (.aload_n 0, 1) := by decide +kernel
theorem d_RM_found_14 : decode c_RM_found 14 = .ok (.iload_n 1, 1) := by decide +kernel
theorem d_RM_found_15 : decode c_RM_found 15 = .ok (.iload_n 2, 1) := by decide +kernel
theorem d_RM_found_16 : decode c_RM_found 16 = .ok (.invokevirtual 105, 3) := by decide +kernel
theorem d_RM_found_19 : decode c_RM_found 19 = .ok (.ifCond .ne 5, 3) := by decide +kernel
theorem d_RM_found_22 : decode c_RM_found 22 = .ok (.iconst (-1), 1) := by decide +kernel
theorem d_RM_found_23 : decode c_RM_found 23 = .ok (.ireturn, 1) := by decide +kernel
theorem d_RM_found_24 : decode c_RM_found 24 = .ok (.aload_n 0, 1) := by decide +kernel
theorem d_RM_found_25 : decode c_RM_found 25 = .ok (.getfield 24, 3) := by decide +kernel
theorem d_RM_found_28 : decode c_RM_found 28 = .ok (.iload_n 1, 1) := by decide +kernel
theorem d_RM_found_29 : decode c_RM_found 29 = .ok (.iload_n 2, 1) := by decide +kernel
theorem d_RM_found_30 : decode c_RM_found 30 = .ok (.invokestatic 146, 3) := by decide +kernel
theorem d_RM_found_33 : decode c_RM_found 33 = .ok (.iload_n 1, 1) := by decide +kernel
theorem d_RM_found_34 : decode c_RM_found 34 = .ok (.iload_n 2, 1) := by decide +kernel
theorem d_RM_found_35 : decode c_RM_found 35 = .ok (.invokestatic 152, 3) := by decide +kernel
theorem d_RM_found_38 : decode c_RM_found 38 = .ok (.invokevirtual 155, 3) := by decide +kernel
theorem d_RM_found_41 : decode c_RM_found 41 = .ok (.ifCond .eq 7, 3) := by decide +kernel
theorem d_RM_found_44 : decode c_RM_found 44 = .ok (.iconst 1, 1) := by decide +kernel
theorem d_RM_found_45 : decode c_RM_found 45 = .ok (.goto 4, 3) := by decide +kernel
theorem d_RM_found_48 : decode c_RM_found 48 = .ok (.iconst 0, 1) := by decide +kernel
theorem d_RM_found_49 : decode c_RM_found 49 = .ok (.ireturn, 1) := by decide +kernel
theorem d_RM_cluster_0 : decode c_RM_cluster 0 = .ok (.aload_n 0, 1) := by decide +kernel
theorem d_RM_cluster_1 : decode c_RM_cluster 1 = .ok (.getfield 24, 3) := by decide +kernel
theorem d_RM_cluster_4 : decode c_RM_cluster 4 = .ok (.invokevirtual 116, 3) := by decide +kernel
theorem d_RM_cluster_7 : decode c_RM_cluster 7 = .ok (.ifCond .ne 6, 3) := by decide +kernel
theorem d_RM_cluster_10 : decode c_RM_cluster 10 = .ok (.bipush (-4), 2) := by decide +kernel
theorem d_RM_cluster_12 : decode c_RM_cluster 12 = .ok (.ireturn, 1) := by decide +kernel
theorem d_RM_cluster_13 : decode c_RM_cluster 13 = .ok (.aload_n 0, 1) := by decide +kernel
theorem d_RM_cluster_14 : decode c_RM_cluster 14 = .ok (.iload_n 1, 1) := by decide +kernel
theorem d_RM_cluster_15 : decode c_RM_cluster 15 = .ok (.invokevirtual 54, 3) := by decide +kernel
theorem d_RM_cluster_18 : decode c_RM_cluster 18 = .ok (.ifCond .ne 5, 3) := by decide +kernel
theorem d_RM_cluster_21 : decode c_RM_cluster 21 = .ok (.iconst (-1), 1) := by decide +kernel
theorem d_RM_cluster_22 : decode c_RM_cluster 22 = .ok (.ireturn, 1) := by decide +kernel
theorem d_RM_cluster_23 : decode c_RM_cluster 23 = .ok (.aload_n 0, 1) := by decide +kernel
theorem d_RM_cluster_24 : decode c_RM_cluster 24 = .ok (.getfield 24, 3) := by decide +kernel
theorem d_RM_cluster_27 : decode c_RM_cluster 27 = .ok (.invokevirtual 137, 3) := by decide +kernel
theorem d_RM_cluster_30 : decode c_RM_cluster 30 = .ok (.ifCond .ne 6, 3) := by decide +kernel
theorem d_RM_cluster_33 : decode c_RM_cluster 33 = .ok (.bipush (-6), 2) := by decide +kernel
theorem d_RM_cluster_35 : decode c_RM_cluster 35 = .ok (.ireturn, 1) := by decide +kernel
theorem d_RM_cluster_36 : decode c_RM_cluster 36 = .ok (.aload_n 0, 1) := by decide +kernel
theorem d_RM_cluster_37 : decode c_RM_cluster 37 = .ok (.getfield 24, 3) := by decide +kernel
theorem d_RM_cluster_40 : decode c_RM_cluster 40 = .ok (.invokevirtual 158, 3) := by decide +kernel
theorem d_RM_cluster_43 : decode c_RM_cluster 43 = .ok (.aload_n 0, 1) := by decide +kernel
theorem d_RM_cluster_44 : decode c_RM_cluster 44 = .ok (.getfield 24, 3) := by decide +kernel
theorem d_RM_cluster_47 : decode c_RM_cluster 47 = .ok (.getfield 161, 3) := by decide +kernel
theorem d_RM_cluster_50 : decode c_RM_cluster 50 = .ok (.iload_n 1, 1) := by decide +kernel
theorem d_RM_cluster_51 : decode c_RM_cluster 51 = .ok (.iaload, 1) := by decide +kernel
theorem d_RM_cluster_52 : decode c_RM_cluster 52 = .ok (.ireturn, 1) := by decide +kernel
theorem d_RM_keep_0 : decode c_RM_keep 0 = .ok (.iload_n 1, 1) := by decide +kernel
theorem d_RM_keep_1 : decode c_RM_keep 1 = .ok (.invokestatic 33, 3) := by decide +kernel
theorem d_RM_keep_4 : decode c_RM_keep 4 = .ok (.ifCond .eq 12, 3) := by decide +kernel
theorem d_RM_keep_7 : decode c_RM_keep 7 = .ok (.iload_n 2, 1) := by decide +kernel
theorem d_RM_keep_8 : decode c_RM_keep 8 = .ok (.ifCond .lt 8, 3) := by decide +kernel
theorem d_RM_keep_11 : decode c_RM_keep 11 = .ok (.iload_n 2, 1) := by decide +kernel
theorem d_RM_keep_12 : decode c_RM_keep 12 = .ok (.iconst 2, 1) := by decide +kernel
theorem d_RM_keep_13 : decode c_RM_keep 13 = .ok (.if_icmp .le 5, 3) := by decide +kernel
theorem d_RM_keep_16 : decode c_RM_keep 16 = .ok (.iconst 0, 1) := by decide +kernel
theorem d_RM_keep_17 : decode c_RM_keep 17 = .ok (.ireturn, 1) := by decide +kernel
theorem d_RM_keep_18 : decode c_RM_keep 18 = .ok (.aload_n 0, 1) := by decide +kernel
theorem d_RM_keep_19 : decode c_RM_keep 19 = .ok (.getfield 28, 3) := by decide +kernel
theorem d_RM_keep_22 : decode c_RM_keep 22 = .ok (.iload_n 1, 1) := by decide +kernel
theorem d_RM_keep_23 : decode c_RM_keep 23 = .ok (.iload_n 2, 1) := by decide +kernel
theorem d_RM_keep_24 : decode c_RM_keep 24 = .ok (.iastore, 1) := by decide +kernel
theorem d_RM_keep_25 : decode c_RM_keep 25 = .ok (.iconst 1, 1) := by decide +kernel
theorem d_RM_keep_26 : decode c_RM_keep 26 = .ok (.ireturn, 1) := by decide +kernel
theorem d_RM_kept_0 : decode c_RM_kept 0 = .ok (.aload_n 0, 1) := by decide +kernel
theorem d_RM_kept_1 : decode c_RM_kept 1 = .ok (.getfield 24, 3) := by decide +kernel
theorem d_RM_kept_4 : decode c_RM_kept 4 = .ok (.invokevirtual 116, 3) := by decide +kernel
theorem d_RM_kept_7 : decode c_RM_kept 7 = .ok (.ifCond .ne 6, 3) := by decide +kernel
theorem d_RM_kept_10 : decode c_RM_kept 10 = .ok (.bipush (-4), 2) := by decide +kernel
theorem d_RM_kept_12 : decode c_RM_kept 12 = .ok (.ireturn, 1) := by decide +kernel
theorem d_RM_kept_13 : decode c_RM_kept 13 = .ok (.aload_n 0, 1) := by decide +kernel
theorem d_RM_kept_14 : decode c_RM_kept 14 = .ok (.iload_n 1, 1) := by decide +kernel
theorem d_RM_kept_15 : decode c_RM_kept 15 = .ok (.invokevirtual 54, 3) := by decide +kernel
theorem d_RM_kept_18 : decode c_RM_kept 18 = .ok (.ifCond .eq 10, 3) := by decide +kernel
theorem d_RM_kept_21 : decode c_RM_kept 21 = .ok (.iload_n 2, 1) := by decide +kernel
theorem d_RM_kept_22 : decode c_RM_kept 22 = .ok (.invokestatic 33, 3) := by decide +kernel
theorem d_RM_kept_25 : decode c_RM_kept 25 = .ok (.ifCond .ne 5, 3) := by decide +kernel
theorem d_RM_kept_28 : decode c_RM_kept 28 = .ok (.iconst (-1), 1) := by decide +kernel
theorem d_RM_kept_29 : decode c_RM_kept 29 = .ok (.ireturn, 1) := by decide +kernel
theorem d_RM_kept_30 : decode c_RM_kept 30 = .ok (.aload_n 0, 1) := by decide +kernel
theorem d_RM_kept_31 : decode c_RM_kept 31 = .ok (.getfield 24, 3) := by decide +kernel
theorem d_RM_kept_34 : decode c_RM_kept 34 = .ok (.invokevirtual 137, 3) := by decide +kernel
theorem d_RM_kept_37 : decode c_RM_kept 37 = .ok (.ifCond .ne 6, 3) := by decide +kernel
theorem d_RM_kept_40 : decode c_RM_kept 40 = .ok (.bipush (-6), 2) := by decide +kernel
theorem d_RM_kept_42 : decode c_RM_kept 42 = .ok (.ireturn, 1) := by decide +kernel
theorem d_RM_kept_43 : decode c_RM_kept 43 = .ok (.aload_n 0, 1) := by decide +kernel
theorem d_RM_kept_44 : decode c_RM_kept 44 = .ok (.getfield 24, 3) := by decide +kernel
theorem d_RM_kept_47 : decode c_RM_kept 47 = .ok (.invokevirtual 158, 3) := by decide +kernel
theorem d_RM_kept_50 : decode c_RM_kept 50 = .ok (.aload_n 0, 1) := by decide +kernel
theorem d_RM_kept_51 : decode c_RM_kept 51 = .ok (.aload_n 0, 1) := by decide +kernel
theorem d_RM_kept_52 : decode c_RM_kept 52 = .ok (.getfield 24, 3) := by decide +kernel
theorem d_RM_kept_55 : decode c_RM_kept 55 = .ok (.getfield 161, 3) := by decide +kernel
theorem d_RM_kept_58 : decode c_RM_kept 58 = .ok (.iload_n 1, 1) := by decide +kernel
theorem d_RM_kept_59 : decode c_RM_kept 59 = .ok (.iaload, 1) := by decide +kernel
theorem d_RM_kept_60 : decode c_RM_kept 60 = .ok (.iload_n 2, 1) := by decide +kernel
theorem d_RM_kept_61 : decode c_RM_kept 61 = .ok (.invokevirtual 164, 3) := by decide +kernel
theorem d_RM_kept_64 : decode c_RM_kept 64 = .ok (.ireturn, 1) := by decide +kernel
theorem d_RM_isRecord_0 : decode c_RM_isRecord 0 = .ok (.iload_n 1, 1) := by decide +kernel
theorem d_RM_isRecord_1 : decode c_RM_isRecord 1 = .ok (.ifCond .lt 15, 3) := by decide +kernel
theorem d_RM_isRecord_4 : decode c_RM_isRecord 4 = .ok (.iload_n 1, 1) := by decide +kernel
theorem d_RM_isRecord_5 : decode c_RM_isRecord 5 = .ok (.aload_n 0, 1) := by decide +kernel
theorem d_RM_isRecord_6 : decode c_RM_isRecord 6 = .ok (.getfield 37, 3) := by decide +kernel
theorem d_RM_isRecord_9 : decode c_RM_isRecord 9 = .ok (.if_icmp .ge 7, 3) := by decide +kernel
theorem d_RM_isRecord_12 : decode c_RM_isRecord 12 = .ok (.iconst 1, 1) := by decide +kernel
theorem d_RM_isRecord_13 : decode c_RM_isRecord 13 = .ok (.goto 4, 3) := by decide +kernel
theorem d_RM_isRecord_16 : decode c_RM_isRecord 16 = .ok (.iconst 0, 1) := by decide +kernel
theorem d_RM_isRecord_17 : decode c_RM_isRecord 17 = .ok (.ireturn, 1) := by decide +kernel
theorem d_RM_isField_0 : decode c_RM_isField 0 = .ok (.iload_n 0, 1) := by decide +kernel
theorem d_RM_isField_1 : decode c_RM_isField 1 = .ok (.ifCond .lt 12, 3) := by decide +kernel
theorem d_RM_isField_4 : decode c_RM_isField 4 = .ok (.iload_n 0, 1) := by decide +kernel
theorem d_RM_isField_5 : decode c_RM_isField 5 = .ok (.iconst 2, 1) := by decide +kernel
theorem d_RM_isField_6 : decode c_RM_isField 6 = .ok (.if_icmp .ge 7, 3) := by decide +kernel
theorem d_RM_isField_9 : decode c_RM_isField 9 = .ok (.iconst 1, 1) := by decide +kernel
theorem d_RM_isField_10 : decode c_RM_isField 10 = .ok (.goto 4, 3) := by decide +kernel
theorem d_RM_isField_13 : decode c_RM_isField 13 = .ok (.iconst 0, 1) := by decide +kernel
theorem d_RM_isField_14 : decode c_RM_isField 14 = .ok (.ireturn, 1) := by decide +kernel
theorem d_RM_areTwoRecords_0 : decode c_RM_areTwoRecords 0 = .ok (.aload_n 0, 1) := by decide +kernel
theorem d_RM_areTwoRecords_1 : decode c_RM_areTwoRecords 1 = .ok (.iload_n 1, 1) := by decide +kernel
theorem d_RM_areTwoRecords_2 : decode c_RM_areTwoRecords 2 = .ok (.invokevirtual 54, 3) := by decide +kernel
theorem d_RM_areTwoRecords_5 : decode c_RM_areTwoRecords 5 = .ok (.ifCond .eq 20, 3) := by decide +kernel
theorem d_RM_areTwoRecords_8 : decode c_RM_areTwoRecords 8 = .ok (.aload_n 0, 1) := by decide +kernel
theorem d_RM_areTwoRecords_9 : decode c_RM_areTwoRecords 9 = .ok (.iload_n 2, 1) := by decide +kernel
theorem d_RM_areTwoRecords_10 : decode c_RM_areTwoRecords 10 = .ok (.invokevirtual 54, 3) := by decide +kernel
theorem d_RM_areTwoRecords_13 : decode c_RM_areTwoRecords 13 = .ok (.ifCond .eq 12, 3) := by decide +kernel
theorem d_RM_areTwoRecords_16 : decode c_RM_areTwoRecords 16 = .ok (.iload_n 1, 1) := by decide +kernel
theorem d_RM_areTwoRecords_17 : decode c_RM_areTwoRecords 17 = .ok (.iload_n 2, 1) := by decide +kernel
theorem d_RM_areTwoRecords_18 : decode c_RM_areTwoRecords 18 = .ok (.if_icmp .eq 7, 3) := by decide +kernel
theorem d_RM_areTwoRecords_21 : decode c_RM_areTwoRecords 21 = .ok (.iconst 1, 1) := by decide +kernel
theorem d_RM_areTwoRecords_22 : decode c_RM_areTwoRecords 22 = .ok (.goto 4, 3) := by decide +kernel
theorem d_RM_areTwoRecords_25 : decode c_RM_areTwoRecords 25 = .ok (.iconst 0, 1) := by decide +kernel
theorem d_RM_areTwoRecords_26 : decode c_RM_areTwoRecords 26 = .ok (.ireturn, 1) := by decide +kernel
theorem d_RM_textOf_0 : decode c_RM_textOf 0 = .ok (.aload_n 0, 1) := by decide +kernel
theorem d_RM_textOf_1 : decode c_RM_textOf 1 = .ok (.getfield 11, 3) := by decide +kernel
theorem d_RM_textOf_4 : decode c_RM_textOf 4 = .ok (.iload_n 1, 1) := by decide +kernel
theorem d_RM_textOf_5 : decode c_RM_textOf 5 = .ok (.aaload, 1) := by decide +kernel
theorem d_RM_textOf_6 : decode c_RM_textOf 6 = .ok (.iload_n 2, 1) := by decide +kernel
theorem d_RM_textOf_7 : decode c_RM_textOf 7 = .ok (.invokevirtual 167, 3) := by decide +kernel
theorem d_RM_textOf_10 : decode c_RM_textOf 10 = .ok (.areturn, 1) := by decide +kernel
theorem d_RM_fromTop_0 : decode c_RM_fromTop 0 = .ok (.iload_n 1, 1) := by decide +kernel
theorem d_RM_fromTop_1 : decode c_RM_fromTop 1 = .ok (.aload_n 0, 1) := by decide +kernel
theorem d_RM_fromTop_2 : decode c_RM_fromTop 2 = .ok (.getfield 68, 3) := by decide +kernel
theorem d_RM_fromTop_5 : decode c_RM_fromTop 5 = .ok (.if_icmp .ge 19, 3) := by decide +kernel
theorem d_RM_fromTop_8 : decode c_RM_fromTop 8 = .ok (.aload_n 0, 1) := by decide +kernel
theorem d_RM_fromTop_9 : decode c_RM_fromTop 9 = .ok (.getfield 17, 3) := by decide +kernel
theorem d_RM_fromTop_12 : decode c_RM_fromTop 12 = .ok (.aload_n 0, 1) := by decide +kernel
theorem d_RM_fromTop_13 : decode c_RM_fromTop 13 = .ok (.getfield 68, 3) := by decide +kernel
theorem d_RM_fromTop_16 : decode c_RM_fromTop 16 = .ok (.iconst 1, 1) := by decide +kernel
theorem d_RM_fromTop_17 : decode c_RM_fromTop 17 = .ok (.isub, 1) := by decide +kernel
theorem d_RM_fromTop_18 : decode c_RM_fromTop 18 = .ok (.iload_n 1, 1) := by decide +kernel
theorem d_RM_fromTop_19 : decode c_RM_fromTop 19 = .ok (.isub, 1) := by decide +kernel
theorem d_RM_fromTop_20 : decode c_RM_fromTop 20 = .ok (.aaload, 1) := by decide +kernel
theorem d_RM_fromTop_21 : decode c_RM_fromTop 21 = .ok (.goto 4, 3) := by decide +kernel
theorem d_RM_fromTop_24 : decode c_RM_fromTop 24 = .ok (.aconst_null, 1) := by decide +kernel
theorem d_RM_fromTop_25 : decode c_RM_fromTop 25 = .ok (.areturn, 1) := by decide +kernel
theorem d_RM_push_0 : decode c_RM_push 0 = .ok (.aload_n 0, 1) := by decide +kernel
theorem d_RM_push_1 : decode c_RM_push 1 = .ok (.getfield 17, 3) := by decide +kernel
theorem d_RM_push_4 : decode c_RM_push 4 = .ok (.aload_n 0, 1) := by decide +kernel
theorem d_RM_push_5 : decode c_RM_push 5 = .ok (.getfield 68, 3) := by decide +kernel
theorem d_RM_push_8 : decode c_RM_push 8 = .ok (.aload_n 1, 1) := by decide +kernel
theorem d_RM_push_9 : decode c_RM_push 9 = .ok (.aastore, 1) := by decide +kernel
theorem d_RM_push_10 : decode c_RM_push 10 = .ok (.aload_n 0, 1) := by decide +kernel
theorem d_RM_push_11 : decode c_RM_push 11 = .ok (.dup, 1) := by decide +kernel
theorem d_RM_push_12 : decode c_RM_push 12 = .ok (.getfield 68, 3) := by decide +kernel
theorem d_RM_push_15 : decode c_RM_push 15 = .ok (.iconst 1, 1) := by decide +kernel
theorem d_RM_push_16 : decode c_RM_push 16 = .ok (.iadd, 1) := by decide +kernel
theorem d_RM_push_17 : decode c_RM_push 17 = .ok (.putfield 68, 3) := by decide +kernel
theorem d_RM_push_20 : decode c_RM_push 20 = .ok (.return_, 1) := by decide +kernel
theorem d_RM_bestOfCluster_0 : decode c_RM_bestOfCluster 0 = .ok (.iload_n 1, 1) := by decide +kernel
theorem d_RM_bestOfCluster_1 : decode c_RM_bestOfCluster 1 = .ok (.istore_n 3, 1) := by decide +kernel
theorem d_RM_bestOfCluster_2 : decode c_RM_bestOfCluster 2 = .ok (.iload_n 1, 1) := by decide +kernel
theorem d_RM_bestOfCluster_3 : decode c_RM_bestOfCluster 3 = .ok (.iconst 1, 1) := by decide +kernel
theorem d_RM_bestOfCluster_4 : decode c_RM_bestOfCluster 4 = .ok (.iadd, 1) := by decide +kernel
theorem d_RM_bestOfCluster_5 : decode c_RM_bestOfCluster 5 = .ok (.istore 4, 2) := by decide +kernel
theorem d_RM_bestOfCluster_7 : decode c_RM_bestOfCluster 7 = .ok (.iload 4, 2) := by decide +kernel
theorem d_RM_bestOfCluster_9 : decode c_RM_bestOfCluster 9 = .ok (.aload_n 0, 1) := by decide +kernel
theorem d_RM_bestOfCluster_10 : decode c_RM_bestOfCluster 10 = .ok (.getfield 37, 3) := by decide +kernel
theorem d_RM_bestOfCluster_13 : decode c_RM_bestOfCluster 13 = .ok (.if_icmp .ge 37, 3) := by decide +kernel
theorem d_RM_bestOfCluster_16 : decode c_RM_bestOfCluster 16 = .ok (.aload_n 0, 1) := by decide +kernel
theorem d_RM_bestOfCluster_17 : decode c_RM_bestOfCluster 17 = .ok (.getfield 24, 3) := by decide +kernel
theorem d_RM_bestOfCluster_20 : decode c_RM_bestOfCluster 20 = .ok (.getfield 161, 3) := by decide +kernel
theorem d_RM_bestOfCluster_23 : decode c_RM_bestOfCluster 23 = .ok (.iload 4, 2) := by decide +kernel
theorem d_RM_bestOfCluster_25 : decode c_RM_bestOfCluster 25 = .ok (.iaload, 1) := by decide +kernel
theorem d_RM_bestOfCluster_26 : decode c_RM_bestOfCluster 26 = .ok (.iload_n 1, 1) := by decide +kernel
theorem d_RM_bestOfCluster_27 : decode c_RM_bestOfCluster 27 = .ok (.if_icmp .ne 17, 3) := by decide +kernel
theorem d_RM_bestOfCluster_30 : decode c_RM_bestOfCluster 30 = .ok (.aload_n 0, 1) := by decide +kernel
theorem d_RM_bestOfCluster_31 : decode c_RM_bestOfCluster 31 = .ok (.iload 4, 2) := by decide +kernel
theorem d_RM_bestOfCluster_33 : decode c_RM_bestOfCluster 33 = .ok (.iload_n 3, 1) := by decide +kernel
theorem d_RM_bestOfCluster_34 : decode c_RM_bestOfCluster 34 = .ok (.iload_n 2, 1) := by decide +kernel
theorem d_RM_bestOfCluster_35 : decode c_RM_bestOfCluster 35 = .ok (.invokevirtual 171, 3) := by decide +kernel
theorem d_RM_bestOfCluster_38 : decode c_RM_bestOfCluster 38 = .ok (.ifCond .eq 6, 3) := by decide +kernel
theorem d_RM_bestOfCluster_41 : decode c_RM_bestOfCluster 41 = .ok (.iload 4, 2) := by decide +kernel
theorem d_RM_bestOfCluster_43 : decode c_RM_bestOfCluster 43 = .ok (.istore_n 3, 1) := by decide +kernel
theorem d_RM_bestOfCluster_44 : decode c_RM_bestOfCluster 44 = .ok (.iinc 4 1, 3) := by decide +kernel
theorem d_RM_bestOfCluster_47 : decode c_RM_bestOfCluster 47 = .ok (.goto (-40), 3) := by decide +kernel
theorem d_RM_bestOfCluster_50 : decode c_RM_bestOfCluster 50 = .ok (.iload_n 3, 1) := by decide +kernel
theorem d_RM_bestOfCluster_51 : decode c_RM_bestOfCluster 51 = .ok (.ireturn, 1) := by decide +kernel
theorem d_RM_isBetter_0 : decode c_RM_isBetter 0 = .ok (.aload_n 0, 1) := by decide +kernel
theorem d_RM_isBetter_1 : decode c_RM_isBetter 1 = .ok (.iload_n 1, 1) := by decide +kernel
theorem d_RM_isBetter_2 : decode c_RM_isBetter 2 = .ok (.iload_n 3, 1) := by decide +kernel
theorem d_RM_isBetter_3 : decode c_RM_isBetter 3 = .ok (.invokevirtual 41, 3) := by decide +kernel
theorem d_RM_isBetter_6 : decode c_RM_isBetter 6 = .ok (.astore 4, 2) := by decide +kernel
theorem d_RM_isBetter_8 : decode c_RM_isBetter 8 = .ok (.aload_n 0, 1) := by decide +kernel
theorem d_RM_isBetter_9 : decode c_RM_isBetter 9 = .ok (.iload_n 2, 1) := by decide +kernel
theorem d_RM_isBetter_10 : decode c_RM_isBetter 10 = .ok (.iload_n 3, 1) := by decide +kernel
theorem d_RM_isBetter_11 : decode c_RM_isBetter 11 = .ok (.invokevirtual 41, 3) := by decide +kernel
theorem d_RM_isBetter_14 : decode c_RM_isBetter 14 = .ok (.astore 5, 2) := by decide +kernel
theorem d_RM_isBetter_16 : decode c_RM_isBetter 16 = .ok (.aload_n 0, 1) := by decide +kernel
theorem d_RM_isBetter_17 : decode c_RM_isBetter 17 = .ok (.getfield 28, 3) := by decide +kernel
theorem d_RM_isBetter_20 : decode c_RM_isBetter 20 = .ok (.iload_n 3, 1) := by decide +kernel
theorem d_RM_isBetter_21 : decode c_RM_isBetter 21 = .ok (.iaload, 1) := by decide +kernel
theorem d_RM_isBetter_22 : decode c_RM_isBetter 22 = .ok (.ifCond .eq 19, 3) := by decide +kernel
theorem d_RM_isBetter_25 : decode c_RM_isBetter 25 = .ok (.aload 4, 2) := by decide +kernel
theorem d_RM_isBetter_27 : decode c_RM_isBetter 27 = .ok (.getfield 61, 3) := by decide +kernel
theorem d_RM_isBetter_30 : decode c_RM_isBetter 30 = .ok (.ifCond .eq 11, 3) := by decide +kernel
theorem d_RM_isBetter_33 : decode c_RM_isBetter 33 = .ok (.aload 5, 2) := by decide +kernel
theorem d_RM_isBetter_35 : decode c_RM_isBetter 35 = .ok (.getfield 61, 3) := by decide +kernel
theorem d_RM_isBetter_38 : decode c_RM_isBetter 38 = .ok (.ifCond .ne 22, 3) := by decide +kernel
theorem d_RM_isBetter_41 : decode c_RM_isBetter 41 = .ok (.aload 4, 2) := by decide +kernel
theorem d_RM_isBetter_43 : decode c_RM_isBetter 43 = .ok (.getfield 61, 3) := by decide +kernel
theorem d_RM_isBetter_46 : decode c_RM_isBetter 46 = .ok (.aload 5, 2) := by decide +kernel
theorem d_RM_isBetter_48 : decode c_RM_isBetter 48 = .ok (.getfield 61, 3) := by decide +kernel
theorem d_RM_isBetter_51 : decode c_RM_isBetter 51 = .ok (.if_icmp .le 7, 3) := by decide +kernel
theorem d_RM_isBetter_54 : decode c_RM_isBetter 54 = .ok (.iconst 1, 1) := by decide +kernel
theorem d_RM_isBetter_55 : decode c_RM_isBetter 55 = .ok (.goto 4, 3) := by decide +kernel
theorem d_RM_isBetter_58 : decode c_RM_isBetter 58 = .ok (.iconst 0, 1) := by decide +kernel
theorem d_RM_isBetter_59 : decode c_RM_isBetter 59 = .ok (.ireturn, 1) := by decide +kernel
theorem d_RM_isBetter_60 : decode c_RM_isBetter 60 = .ok (.aload_n 0, 1) := by decide +kernel
theorem d_RM_isBetter_61 : decode c_RM_isBetter 61 = .ok (.getfield 28, 3) := by decide +kernel
theorem d_RM_isBetter_64 : decode c_RM_isBetter 64 = .ok (.iload_n 3, 1) := by decide +kernel
theorem d_RM_isBetter_65 : decode c_RM_isBetter 65 = .ok (.iaload, 1) := by decide +kernel
theorem d_RM_isBetter_66 : decode c_RM_isBetter 66 = .ok (.iconst 1, 1) := by decide +kernel
theorem d_RM_isBetter_67 : decode c_RM_isBetter 67 = .ok (.if_icmp .ne 24, 3) := by decide +kernel
theorem d_RM_isBetter_70 : decode c_RM_isBetter 70 = .ok (.aload_n 0, 1) := by decide +kernel
theorem d_RM_isBetter_71 : decode c_RM_isBetter 71 = .ok (.iload_n 1, 1) := by decide +kernel
theorem d_RM_isBetter_72 : decode c_RM_isBetter 72 = .ok (.iload_n 3, 1) := by decide +kernel
theorem d_RM_isBetter_73 : decode c_RM_isBetter 73 = .ok (.invokevirtual 175, 3) := by decide +kernel
theorem d_RM_isBetter_76 : decode c_RM_isBetter 76 = .ok (.aload_n 0, 1) := by decide +kernel
theorem d_RM_isBetter_77 : decode c_RM_isBetter 77 = .ok (.iload_n 2, 1) := by decide +kernel
theorem d_RM_isBetter_78 : decode c_RM_isBetter 78 = .ok (.iload_n 3, 1) := by decide +kernel
theorem d_RM_isBetter_79 : decode c_RM_isBetter 79 = .ok (.invokevirtual 175, 3) := by decide +kernel
theorem d_RM_isBetter_82 : decode c_RM_isBetter 82 = .ok (.if_icmp .le 7, 3) := by decide +kernel
theorem d_RM_isBetter_85 : decode c_RM_isBetter 85 = .ok (.iconst 1, 1) := by decide +kernel
theorem d_RM_isBetter_86 : decode c_RM_isBetter 86 = .ok (.goto 4, 3) := by decide +kernel
theorem d_RM_isBetter_89 : decode c_RM_isBetter 89 = .ok (.iconst 0, 1) := by decide +kernel
theorem d_RM_isBetter_90 : decode c_RM_isBetter 90 = .ok (.ireturn, 1) := by decide +kernel
theorem d_RM_isBetter_91 : decode c_RM_isBetter 91 = .ok (.aload 4, 2) := by decide +kernel
theorem d_RM_isBetter_93 : decode c_RM_isBetter 93 = .ok (.aload 5, 2) := by decide +kernel
theorem d_RM_isBetter_95 : decode c_RM_isBetter 95 = .ok (.invokevirtual 178, 3) := by decide +kernel
theorem d_RM_isBetter_98 : decode c_RM_isBetter 98 = .ok (.ifCond .ge 7, 3) := by decide +kernel
theorem d_RM_isBetter_101 : decode c_RM_isBetter 101 = .ok (.iconst 1, 1) := by decide +kernel
theorem d_RM_isBetter_102 : decode c_RM_isBetter 102 = .ok (.goto 4, 3) := by decide +kernel
theorem d_RM_isBetter_105 : decode c_RM_isBetter 105 = .ok (.iconst 0, 1) := by decide +kernel
theorem d_RM_isBetter_106 : decode c_RM_isBetter 106 = .ok (.ireturn, 1) := by decide +kernel
theorem d_RM_countHavingTextOf_0 : decode c_RM_countHavingTextOf 0 = .ok (.aload_n 0, 1) := by decide +kernel
theorem d_RM_countHavingTextOf_1 : decode c_RM_countHavingTextOf 1 = .ok (.iload_n 1, 1) := by decide +kernel
theorem d_RM_countHavingTextOf_2 : decode c_RM_countHavingTextOf 2 = .ok (.iload_n 2, 1) := by decide +kernel
theorem d_RM_countHavingTextOf_3 : decode c_RM_countHavingTextOf 3 = .ok (.invokevirtual 41, 3) := by decide +kernel
theorem d_RM_countHavingTextOf_6 : decode c_RM_countHavingTextOf 6 = .ok (.astore_n 3, 1) := by decide +kernel
theorem d_RM_countHavingTextOf_7 : decode c_RM_countHavingTextOf 7 = .ok (.iconst 0, 1) := by decide +kernel
theorem d_RM_countHavingTextOf_8 : decode c_RM_countHavingTextOf 8 = .ok (.istore 4, 2) := by decide +kernel
theorem d_RM_countHavingTextOf_10 : decode c_RM_countHavingTextOf 10 = .ok (.iconst 0, 1) := by decide +kernel
theorem d_RM_countHavingTextOf_11 : decode c_RM_countHavingTextOf 11 = .ok (.istore 5, 2) := by decide +kernel
theorem d_RM_countHavingTextOf_13 : decode c_RM_countHavingTextOf 13 = .ok (.iload 5, 2) := by decide +kernel
theorem d_RM_countHavingTextOf_15 : decode c_RM_countHavingTextOf 15 = .ok (.aload_n 0, 1) := by decide +kernel
theorem d_RM_countHavingTextOf_16 : decode c_RM_countHavingTextOf 16 = .ok (.getfield 37, 3) := by decide +kernel
theorem d_RM_countHavingTextOf_19 : decode c_RM_countHavingTextOf 19 = .ok (.if_icmp .ge 48, 3) := by decide +kernel
theorem d_RM_countHavingTextOf_22 : decode c_RM_countHavingTextOf 22 = .ok (.aload_n 0, 1) := by decide +kernel
theorem d_RM_countHavingTextOf_23 : decode c_RM_countHavingTextOf 23 = .ok (.getfield 24, 3) := by decide +kernel
theorem d_RM_countHavingTextOf_26 : decode c_RM_countHavingTextOf 26 = .ok (.getfield 161, 3) := by decide +kernel
theorem d_RM_countHavingTextOf_29 : decode c_RM_countHavingTextOf 29 = .ok (.iload 5, 2) := by decide +kernel
theorem d_RM_countHavingTextOf_31 : decode c_RM_countHavingTextOf 31 = .ok (.iaload, 1) := by decide +kernel
theorem d_RM_countHavingTextOf_32 : decode c_RM_countHavingTextOf 32 = .ok (.aload_n 0, 1) := by decide +kernel
theorem d_RM_countHavingTextOf_33 : decode c_RM_countHavingTextOf 33 = .ok (.getfield 24, 3) := by decide +kernel
theorem d_RM_countHavingTextOf_36 : decode c_RM_countHavingTextOf 36 = .ok (.getfield 161, 3) := by decide +kernel
theorem d_RM_countHavingTextOf_39 : decode c_RM_countHavingTextOf 39 = .ok (.iload_n 1, 1) := by decide +kernel
theorem d_RM_countHavingTextOf_40 : decode c_RM_countHavingTextOf 40 = .ok (.iaload, 1) := by decide +kernel
theorem d_RM_countHavingTextOf_41 : decode c_RM_countHavingTextOf 41 = .ok (.if_icmp .ne 20, 3) := by decide +kernel
theorem d_RM_countHavingTextOf_44 : decode c_RM_countHavingTextOf 44 = .ok (.aload_n 0, 1) := by decide +kernel
theorem d_RM_countHavingTextOf_45 : decode c_RM_countHavingTextOf 45 = .ok (.iload 5, 2) := by decide +kernel
theorem d_RM_countHavingTextOf_47 : decode c_RM_countHavingTextOf 47 = .ok (.iload_n 2, 1) := by decide +kernel
theorem d_RM_countHavingTextOf_48 : decode c_RM_countHavingTextOf 48 = .ok (.invokevirtual 41, 3) := by decide +kernel
theorem d_RM_countHavingTextOf_51 : decode c_RM_countHavingTextOf 51 = .ok (.aload_n 3, 1) := by decide +kernel
theorem d_RM_countHavingTextOf_52 : decode c_RM_countHavingTextOf 52 = .ok (.invokevirtual 178, 3) := by decide +kernel
theorem d_RM_countHavingTextOf_55 : decode c_RM_countHavingTextOf 55 = .ok (.ifCond .ne 6, 3) := by decide +kernel
theorem d_RM_countHavingTextOf_58 : decode c_RM_countHavingTextOf 58 = .ok (.iinc 4 1, 3) := by decide +kernel
theorem d_RM_countHavingTextOf_61 : decode c_RM_countHavingTextOf 61 = .ok (.iinc 5 1, 3) := by decide +kernel
theorem d_RM_countHavingTextOf_64 : decode c_RM_countHavingTextOf 64 = .ok (.goto (-51), 3) := by decide +kernel
theorem d_RM_countHavingTextOf_67 : decode c_RM_countHavingTextOf 67 = .ok (.iload 4, 2) := by decide +kernel
theorem d_RM_countHavingTextOf_69 : decode c_RM_countHavingTextOf 69 = .ok (.ireturn, 1) := by decide +kernel
theorem d_Mo_init_0 : decode c_Mo_init 0 = .ok (.aload_n 0, 1) := by decide +kernel
theorem d_Mo_init_1 : decode c_Mo_init 1 = .ok (.invokespecial 1, 3) := by decide +kernel
theorem d_Mo_init_4 : decode c_Mo_init 4 = .ok (.aload_n 0, 1) := by decide +kernel
theorem d_Mo_init_5 : decode c_Mo_init 5 = .ok (.sipush 312, 3) := by decide +kernel
theorem d_Mo_init_8 : decode c_Mo_init 8 = .ok (.newarray .int, 2) := by decide +kernel
theorem d_Mo_init_10 : decode c_Mo_init 10 = .ok (.putfield 7, 3) := by decide +kernel
theorem d_Mo_init_13 : decode c_Mo_init 13 = .ok (.aload_n 0, 1) := by decide +kernel
theorem d_Mo_init_14 : decode c_Mo_init 14 = .ok (.bipush 26, 2) := by decide +kernel
theorem d_Mo_init_16 : decode c_Mo_init 16 = .ok (.newarray .int, 2) := by decide +kernel
theorem d_Mo_init_18 : decode c_Mo_init 18 = .ok (.putfield 13, 3) := by decide +kernel
theorem d_Mo_init_21 : decode c_Mo_init 21 = .ok (.aload_n 0, 1) := by decide +kernel
theorem d_Mo_init_22 : decode c_Mo_init 22 = .ok (.bipush 24, 2) := by decide +kernel
theorem d_Mo_init_24 : decode c_Mo_init 24 = .ok (.newarray .int, 2) := by decide +kernel
theorem d_Mo_init_26 : decode c_Mo_init 26 = .ok (.putfield 16, 3) := by decide +kernel
theorem d_Mo_init_29 : decode c_Mo_init 29 = .ok (.aload_n 0, 1) := by decide +kernel
theorem d_Mo_init_30 : decode c_Mo_init 30 = .ok (.iconst 2, 1) := by decide +kernel
theorem d_Mo_init_31 : decode c_Mo_init 31 = .ok (.newarray .int, 2) := by decide +kernel
theorem d_Mo_init_33 : decode c_Mo_init 33 = .ok (.putfield 19, 3) := by decide +kernel
theorem d_Mo_init_36 : decode c_Mo_init 36 = .ok (.aload_n 0, 1) := by decide +kernel
theorem d_Mo_init_37 : decode c_Mo_init 37 = .ok (.sipush 169, 3) := by decide +kernel
theorem d_Mo_init_40 : decode c_Mo_init 40 = .ok (.newarray .int, 2) := by decide +kernel
theorem d_Mo_init_42 : decode c_Mo_init 42 = .ok (.putfield 22, 3) := by decide +kernel
theorem d_Mo_init_45 : decode c_Mo_init 45 = .ok (.aload_n 0, 1) := by decide +kernel
theorem d_Mo_init_46 : decode c_Mo_init 46 = .ok (.sipush 140, 3) := by decide +kernel
theorem d_Mo_init_49 : decode c_Mo_init 49 = .ok (.newarray .int, 2) := by decide +kernel
theorem d_Mo_init_51 : decode c_Mo_init 51 = .ok (.putfield 25, 3) := by decide +kernel
theorem d_Mo_init_54 : decode c_Mo_init 54 = .ok (.aload_n 0, 1) := by decide +kernel
theorem d_Mo_init_55 : decode c_Mo_init 55 = .ok (.sipush 140, 3) := by decide +kernel
theorem d_Mo_init_58 : decode c_Mo_init 58 = .ok (.newarray .int, 2) := by decide +kernel
theorem d_Mo_init_60 : decode c_Mo_init 60 = .ok (.putfield 28, 3) := by decide +kernel
theorem d_Mo_init_63 : decode c_Mo_init 63 = .ok (.aload_n 0, 1) := by decide +kernel
theorem d_Mo_init_64 : decode c_Mo_init 64 = .ok (.sipush 140, 3) := by decide +kernel
theorem d_Mo_init_67 : decode c_Mo_init 67 = .ok (.newarray .int, 2) := by decide +kernel
theorem d_Mo_init_69 : decode c_Mo_init 69 = .ok (.putfield 31, 3) := by decide +kernel
theorem d_Mo_init_72 : decode c_Mo_init 72 = .ok (.aload_n 0, 1) := by decide +kernel
theorem d_Mo_init_73 : decode c_Mo_init 73 = .ok (.sipush 140, 3) := by decide +kernel
theorem d_Mo_init_76 : decode c_Mo_init 76 = .ok (.newarray .int, 2) := by decide +kernel
theorem d_Mo_init_78 : decode c_Mo_init 78 = .ok (.putfield 34, 3) := by decide +kernel
theorem d_Mo_init_81 : decode c_Mo_init 81 = .ok (.aload_n 0, 1) := by decide +kernel
theorem d_Mo_init_82 : decode c_Mo_init 82 = .ok (.bipush 7, 2) := by decide +kernel
theorem d_Mo_init_84 : decode c_Mo_init 84 = .ok (.newarray .int, 2) := by decide +kernel
theorem d_Mo_init_86 : decode c_Mo_init 86 = .ok (.putfield 37, 3) := by decide +kernel
theorem d_Mo_init_89 : decode c_Mo_init 89 = .ok (.aload_n 0, 1) := by decide +kernel
theorem d_Mo_init_90 : decode c_Mo_init 90 = .ok (.bipush 24, 2) := by decide +kernel
theorem d_Mo_init_92 : decode c_Mo_init 92 = .ok (.newarray .int, 2) := by decide +kernel
theorem d_Mo_init_94 : decode c_Mo_init 94 = .ok (.putfield 40, 3) := by decide +kernel
theorem d_Mo_init_97 : decode c_Mo_init 97 = .ok (.aload_n 0, 1) := by decide +kernel
theorem d_Mo_init_98 : decode c_Mo_init 98 = .ok (.bipush 24, 2) := by decide +kernel
theorem d_Mo_init_100 : decode c_Mo_init 100 = .ok (.newarray .int, 2) := by decide +kernel
theorem d_Mo_init_102 : decode c_Mo_init 102 = .ok (.putfield 43, 3) := by decide +kernel
theorem d_Mo_init_105 : decode c_Mo_init 105 = .ok (.aload_n 0, 1) := by decide +kernel
theorem d_Mo_init_106 : decode c_Mo_init 106 = .ok (.bipush 24, 2) := by decide +kernel
theorem d_Mo_init_108 : decode c_Mo_init 108 = .ok (.newarray .int, 2) := by decide +kernel
theorem d_Mo_init_110 : decode c_Mo_init 110 = .ok (.putfield 46, 3) := by decide +kernel
theorem d_Mo_init_113 : decode c_Mo_init 113 = .ok (.aload_n 0, 1) := by decide +kernel
theorem d_Mo_init_114 : decode c_Mo_init 114 = .ok (.bipush 24, 2) := by decide +kernel
theorem d_Mo_init_116 : decode c_Mo_init 116 = .ok (.newarray .int, 2) := by decide +kernel
theorem d_Mo_init_118 : decode c_Mo_init 118 = .ok (.putfield 49, 3) := by decide +kernel
theorem d_Mo_init_121 : decode c_Mo_init 121 = .ok (.aload_n 0, 1) := by decide +kernel
theorem d_Mo_init_122 : decode c_Mo_init 122 = .ok (.bipush 24, 2) := by decide +kernel
theorem d_Mo_init_124 : decode c_Mo_init 124 = .ok (.newarray .boolean, 2) := by decide +kernel
theorem d_Mo_init_126 : decode c_Mo_init 126 = .ok (.putfield 52, 3) := by decide +kernel
theorem d_Mo_init_129 : decode c_Mo_init 129 = .ok (.aload_n 0, 1) := by decide +kernel
theorem d_Mo_init_130 : decode c_Mo_init 130 = .ok (.iconst 4, 1) := by decide +kernel
theorem d_Mo_init_131 : decode c_Mo_init 131 = .ok (.newarray .int, 2) := by decide +kernel
theorem d_Mo_init_133 : decode c_Mo_init 133 = .ok (.putfield 56, 3) := by decide +kernel
theorem d_Mo_init_136 : decode c_Mo_init 136 = .ok (.aload_n 0, 1) := by decide +kernel
theorem d_Mo_init_137 : decode c_Mo_init 137 = .ok (.iconst 2, 1) := by decide +kernel
theorem d_Mo_init_138 : decode c_Mo_init 138 = .ok (.newarray .int, 2) := by decide +kernel
theorem d_Mo_init_140 : decode c_Mo_init 140 = .ok (.putfield 59, 3) := by decide +kernel
theorem d_Mo_init_143 : decode c_Mo_init 143 = .ok (.aload_n 0, 1) := by decide +kernel
theorem d_Mo_init_144 : decode c_Mo_init 144 = .ok (.bipush 12, 2) := by decide +kernel
theorem d_Mo_init_146 : decode c_Mo_init 146 = .ok (.newarray .int, 2) := by decide +kernel
theorem d_Mo_init_148 : decode c_Mo_init 148 = .ok (.putfield 62, 3) := by decide +kernel
theorem d_Mo_init_151 : decode c_Mo_init 151 = .ok (.return_, 1) := by decide +kernel
theorem d_Mo_isRecord_0 : decode c_Mo_isRecord 0 = .ok (.iload_n 1, 1) := by decide +kernel
theorem d_Mo_isRecord_1 : decode c_Mo_isRecord 1 = .ok (.ifCond .lt 15, 3) := by decide +kernel
theorem d_Mo_isRecord_4 : decode c_Mo_isRecord 4 = .ok (.iload_n 1, 1) := by decide +kernel
theorem d_Mo_isRecord_5 : decode c_Mo_isRecord 5 = .ok (.aload_n 0, 1) := by decide +kernel
theorem d_Mo_isRecord_6 : decode c_Mo_isRecord 6 = .ok (.getfield 65, 3) := by decide +kernel
theorem d_Mo_isRecord_9 : decode c_Mo_isRecord 9 = .ok (.if_icmp .ge 7, 3) := by decide +kernel
theorem d_Mo_isRecord_12 : decode c_Mo_isRecord 12 = .ok (.iconst 1, 1) := by decide +kernel
theorem d_Mo_isRecord_13 : decode c_Mo_isRecord 13 = .ok (.goto 4, 3) := by decide +kernel
theorem d_Mo_isRecord_16 : decode c_Mo_isRecord 16 = .ok (.iconst 0, 1) := by decide +kernel
theorem d_Mo_isRecord_17 : decode c_Mo_isRecord 17 = .ok (.ireturn, 1) := by decide +kernel
theorem d_Mo_isField_0 : decode c_Mo_isField 0 = .ok (.iload_n 0, 1) := by decide +kernel
theorem d_Mo_isField_1 : decode c_Mo_isField 1 = .ok (.ifCond .eq 8, 3) := by decide +kernel
theorem d_Mo_isField_4 : decode c_Mo_isField 4 = .ok (.iload_n 0, 1) := by decide +kernel
theorem d_Mo_isField_5 : decode c_Mo_isField 5 = .ok (.iconst 1, 1) := by decide +kernel
theorem d_Mo_isField_6 : decode c_Mo_isField 6 = .ok (.if_icmp .ne 7, 3) := by decide +kernel
theorem d_Mo_isField_9 : decode c_Mo_isField 9 = .ok (.iconst 1, 1) := by decide +kernel
theorem d_Mo_isField_10 : decode c_Mo_isField 10 = .ok (.goto 4, 3) := by decide +kernel
theorem d_Mo_isField_13 : decode c_Mo_isField 13 = .ok (.iconst 0, 1) := by decide +kernel
theorem d_Mo_isField_14 : decode c_Mo_isField 14 = .ok (.ireturn, 1) := by decide +kernel
theorem d_Mo_type_0 : decode c_Mo_type 0 = .ok (.iload_n 1, 1) := by decide +kernel
theorem d_Mo_type_1 : decode c_Mo_type 1 = .ok (.invokestatic 69, 3) := by decide +kernel
theorem d_Mo_type_4 : decode c_Mo_type 4 = .ok (.ifCond .eq 24, 3) := by decide +kernel
theorem d_Mo_type_7 : decode c_Mo_type 7 = .ok (.iload_n 2, 1) := by decide +kernel
theorem d_Mo_type_8 : decode c_Mo_type 8 = .ok (.sipush 255, 3) := by decide +kernel
theorem d_Mo_type_11 : decode c_Mo_type 11 = .ok (.if_icmp .gt 17, 3) := by decide +kernel
theorem d_Mo_type_14 : decode c_Mo_type 14 = .ok (.aload_n 0, 1) := by decide +kernel
theorem d_Mo_type_15 : decode c_Mo_type 15 = .ok (.getfield 13, 3) := by decide +kernel
theorem d_Mo_type_18 : decode c_Mo_type 18 = .ok (.bipush 24, 2) := by decide +kernel
theorem d_Mo_type_20 : decode c_Mo_type 20 = .ok (.iload_n 1, 1) := by decide +kernel
theorem d_Mo_type_21 : decode c_Mo_type 21 = .ok (.iadd, 1) := by decide +kernel
theorem d_Mo_type_22 : decode c_Mo_type 22 = .ok (.iaload, 1) := by decide +kernel
theorem d_Mo_type_23 : decode c_Mo_type 23 = .ok (.bipush 12, 2) := by decide +kernel
theorem d_Mo_type_25 : decode c_Mo_type 25 = .ok (.if_icmp .ne 5, 3) := by decide +kernel
theorem d_Mo_type_28 : decode c_Mo_type 28 = .ok (.iconst 0, 1) := by decide +kernel
theorem d_Mo_type_29 : decode c_Mo_type 29 = .ok (.ireturn, 1) := by decide +kernel
theorem d_Mo_type_30 : decode c_Mo_type 30 = .ok (.aload_n 0, 1) := by decide +kernel
theorem d_Mo_type_31 : decode c_Mo_type 31 = .ok (.getfield 7, 3) := by decide +kernel
theorem d_Mo_type_34 : decode c_Mo_type 34 = .ok (.bipush 12, 2) := by decide +kernel
theorem d_Mo_type_36 : decode c_Mo_type 36 = .ok (.bipush 24, 2) := by decide +kernel
theorem d_Mo_type_38 : decode c_Mo_type 38 = .ok (.iload_n 1, 1) := by decide +kernel
theorem d_Mo_type_39 : decode c_Mo_type 39 = .ok (.iadd, 1) := by decide +kernel
theorem d_Mo_type_40 : decode c_Mo_type 40 = .ok (.imul, 1) := by decide +kernel
theorem d_Mo_type_41 : decode c_Mo_type 41 = .ok (.aload_n 0, 1) := by decide +kernel
theorem d_Mo_type_42 : decode c_Mo_type 42 = .ok (.getfield 13, 3) := by decide +kernel
theorem d_Mo_type_45 : decode c_Mo_type 45 = .ok (.bipush 24, 2) := by decide +kernel
theorem d_Mo_type_47 : decode c_Mo_type 47 = .ok (.iload_n 1, 1) := by decide +kernel
theorem d_Mo_type_48 : decode c_Mo_type 48 = .ok (.iadd, 1) := by decide +kernel
theorem d_Mo_type_49 : decode c_Mo_type 49 = .ok (.iaload, 1) := by decide +kernel
theorem d_Mo_type_50 : decode c_Mo_type 50 = .ok (.iadd, 1) := by decide +kernel
theorem d_Mo_type_51 : decode c_Mo_type 51 = .ok (.iload_n 2, 1) := by decide +kernel
theorem d_Mo_type_52 : decode c_Mo_type 52 = .ok (.iastore, 1) := by decide +kernel
theorem d_Mo_type_53 : decode c_Mo_type 53 = .ok (.aload_n 0, 1) := by decide +kernel
theorem d_Mo_type_54 : decode c_Mo_type 54 = .ok (.getfield 13, 3) := by decide +kernel
theorem d_Mo_type_57 : decode c_Mo_type 57 = .ok (.bipush 24, 2) := by decide +kernel
theorem d_Mo_type_59 : decode c_Mo_type 59 = .ok (.iload_n 1, 1) := by decide +kernel
theorem d_Mo_type_60 : decode c_Mo_type 60 = .ok (.iadd, 1) := by decide +kernel
theorem d_Mo_type_61 : decode c_Mo_type 61 = .ok (.dup2, 1) := by decide +kernel
theorem d_Mo_type_62 : decode c_Mo_type 62 = .ok (.iaload, 1) := by decide +kernel
theorem d_Mo_type_63 : decode c_Mo_type 63 = .ok (.iconst 1, 1) := by decide +kernel
theorem d_Mo_type_64 : decode c_Mo_type 64 = .ok (.iadd, 1) := by decide +kernel
theorem d_Mo_type_65 : decode c_Mo_type 65 = .ok (.iastore, 1) := by decide +kernel
theorem d_Mo_type_66 : decode c_Mo_type 66 = .ok (.iconst 1, 1) := by decide +kernel
theorem d_Mo_type_67 : decode c_Mo_type 67 = .ok (.ireturn, 1) := by decide +kernel
theorem d_Mo_add_0 : decode c_Mo_add 0 = .ok (.aload_n 0, 1) := by decide +kernel
theorem d_Mo_add_1 : decode c_Mo_add 1 = .ok (.getfield 65, 3) := by decide +kernel
theorem d_Mo_add_4 : decode c_Mo_add 4 = .ok (.bipush 12, 2) := by decide +kernel
theorem d_Mo_add_6 : decode c_Mo_add 6 = .ok (.if_icmp .ne 6, 3) := by decide +kernel
theorem d_Mo_add_9 : decode c_Mo_add 9 = .ok (.bipush (-2), 2) := by decide +kernel
theorem d_Mo_add_11 : decode c_Mo_add 11 = .ok (.ireturn, 1) := by decide +kernel
theorem d_Mo_add_12 : decode c_Mo_add 12 = .ok (.iconst 0, 1) := by decide +kernel
theorem d_Mo_add_13 : decode c_Mo_add 13 = .ok (.istore_n 1, 1) := by decide +kernel
theorem d_Mo_add_14 : decode c_Mo_add 14 = .ok (.iload_n 1, 1) := by decide +kernel
theorem d_Mo_add_15 : decode c_Mo_add 15 = .ok (.iconst 2, 1) := by decide +kernel
theorem d_Mo_add_16 : decode c_Mo_add 16 = .ok (.if_icmp .ge 86, 3) := by decide +kernel
theorem d_Mo_add_19 : decode c_Mo_add 19 = .ok (.iconst 2, 1) := by decide +kernel
theorem d_Mo_add_20 : decode c_Mo_add 20 = .ok (.aload_n 0, 1) := by decide +kernel
theorem d_Mo_add_21 : decode c_Mo_add 21 = .ok (.getfield 65, 3) := by decide +kernel
theorem d_Mo_add_24 : decode c_Mo_add 24 = .ok (.imul, 1) := by decide +kernel
theorem d_Mo_add_25 : decode c_Mo_add 25 = .ok (.iload_n 1, 1) := by decide +kernel
theorem d_Mo_add_26 : decode c_Mo_add 26 = .ok (.iadd, 1) := by decide +kernel
theorem d_Mo_add_27 : decode c_Mo_add 27 = .ok (.istore_n 2, 1) := by decide +kernel
theorem d_Mo_add_28 : decode c_Mo_add 28 = .ok (.aload_n 0, 1) := by decide +kernel
theorem d_Mo_add_29 : decode c_Mo_add 29 = .ok (.getfield 13, 3) := by decide +kernel
theorem d_Mo_add_32 : decode c_Mo_add 32 = .ok (.iload_n 2, 1) := by decide +kernel
theorem d_Mo_add_33 : decode c_Mo_add 33 = .ok (.aload_n 0, 1) := by decide +kernel
theorem d_Mo_add_34 : decode c_Mo_add 34 = .ok (.getfield 13, 3) := by decide +kernel
theorem d_Mo_add_37 : decode c_Mo_add 37 = .ok (.bipush 24, 2) := by decide +kernel
theorem d_Mo_add_39 : decode c_Mo_add 39 = .ok (.iload_n 1, 1) := by decide +kernel
theorem d_Mo_add_40 : decode c_Mo_add 40 = .ok (.iadd, 1) := by decide +kernel
theorem d_Mo_add_41 : decode c_Mo_add 41 = .ok (.iaload, 1) := by decide +kernel
theorem d_Mo_add_42 : decode c_Mo_add 42 = .ok (.iastore, 1) := by decide +kernel
theorem d_Mo_add_43 : decode c_Mo_add 43 = .ok (.iconst 0, 1) := by decide +kernel
theorem d_Mo_add_44 : decode c_Mo_add 44 = .ok (.istore_n 3, 1) := by decide +kernel
theorem d_Mo_add_45 : decode c_Mo_add 45 = .ok (.iload_n 3, 1) := by decide +kernel
theorem d_Mo_add_46 : decode c_Mo_add 46 = .ok (.aload_n 0, 1) := by decide +kernel
theorem d_Mo_add_47 : decode c_Mo_add 47 = .ok (.getfield 13, 3) := by decide +kernel
theorem d_Mo_add_50 : decode c_Mo_add 50 = .ok (.iload_n 2, 1) := by decide +kernel
theorem d_Mo_add_51 : decode c_Mo_add 51 = .ok (.iaload, 1) := by decide +kernel
theorem d_Mo_add_52 : decode c_Mo_add 52 = .ok (.if_icmp .ge 34, 3) := by decide +kernel
theorem d_Mo_add_55 : decode c_Mo_add 55 = .ok (.aload_n 0, 1) := by decide +kernel
theorem d_Mo_add_56 : decode c_Mo_add 56 = .ok (.getfield 7, 3) := by decide +kernel
theorem d_Mo_add_59 : decode c_Mo_add 59 = .ok (.bipush 12, 2) := by decide +kernel
theorem d_Mo_add_61 : decode c_Mo_add 61 = .ok (.iload_n 2, 1) := by decide +kernel
theorem d_Mo_add_62 : decode c_Mo_add 62 = .ok (.imul, 1) := by decide +kernel
theorem d_Mo_add_63 : decode c_Mo_add 63 = .ok (.iload_n 3, 1) := by decide +kernel
theorem d_Mo_add_64 : decode c_Mo_add 64 = .ok (.iadd, 1) := by decide +kernel
theorem d_Mo_add_65 : decode c_Mo_add 65 = .ok (.aload_n 0, 1) := by decide +kernel
theorem d_Mo_add_66 : decode c_Mo_add 66 = .ok (.getfield 7, 3) := by decide +kernel
theorem d_Mo_add_69 : decode c_Mo_add 69 = .ok (.bipush 12, 2) := by decide +kernel
theorem d_Mo_add_71 : decode c_Mo_add 71 = .ok (.bipush 24, 2) := by decide +kernel
theorem d_Mo_add_73 : decode c_Mo_add 73 = .ok (.iload_n 1, 1) := by decide +kernel
theorem d_Mo_add_74 : decode c_Mo_add 74 = .ok (.iadd, 1) := by decide +kernel
theorem d_Mo_add_75 : decode c_Mo_add 75 = .ok (.imul, 1) := by decide +kernel
theorem d_Mo_add_76 : decode c_Mo_add 76 = .ok (.iload_n 3, 1) := by decide +kernel
theorem d_Mo_add_77 : decode c_Mo_add 77 = .ok (.iadd, 1) := by decide +kernel
theorem d_Mo_add_78 : decode c_Mo_add 78 = .ok (.iaload, 1) := by decide +kernel
theorem d_Mo_add_79 : decode c_Mo_add 79 = .ok (.iastore, 1) := by decide +kernel
theorem d_Mo_add_80 : decode c_Mo_add 80 = .ok (.iinc 3 1, 3) := by decide +kernel
theorem d_Mo_add_83 : decode c_Mo_add 83 = .ok (.goto (-38), 3) := by decide +kernel
theorem d_Mo_add_86 : decode c_Mo_add 86 = .ok (.aload_n 0, 1) := by decide +kernel
theorem d_Mo_add_87 : decode c_Mo_add 87 = .ok (.getfield 13, 3) := by decide +kernel
theorem d_Mo_add_90 : decode c_Mo_add 90 = .ok (.bipush 24, 2) := by decide +kernel
theorem d_Mo_add_92 : decode c_Mo_add 92 = .ok (.iload_n 1, 1) := by decide +kernel
theorem d_Mo_add_93 : decode c_Mo_add 93 = .ok (.iadd, 1) := by decide +kernel
theorem d_Mo_add_94 : decode c_Mo_add 94 = .ok (.iconst 0, 1) := by decide +kernel
theorem d_Mo_add_95 : decode c_Mo_add 95 = .ok (.iastore, 1) := by decide +kernel
theorem d_Mo_add_96 : decode c_Mo_add 96 = .ok (.iinc 1 1, 3) := by decide +kernel
theorem d_Mo_add_99 : decode c_Mo_add 99 = .ok (.goto (-85), 3) := by decide +kernel
theorem d_Mo_add_102 : decode c_Mo_add 102 = .ok (.aload_n 0, 1) := by decide +kernel
theorem d_Mo_add_103 : decode c_Mo_add 103 = .ok (.dup, 1) := by decide +kernel
theorem d_Mo_add_104 : decode c_Mo_add 104 = .ok (.getfield 65, 3) := by decide +kernel
theorem d_Mo_add_107 : decode c_Mo_add 107 = .ok (.iconst 1, 1) := by decide +kernel
theorem d_Mo_add_108 : decode c_Mo_add 108 = .ok (.iadd, 1) := by decide +kernel
theorem d_Mo_add_109 : decode c_Mo_add 109 = .ok (.putfield 65, 3) := by decide +kernel
theorem d_Mo_add_112 : decode c_Mo_add 112 = .ok (.aload_n 0, 1) := by decide +kernel
theorem d_Mo_add_113 : decode c_Mo_add 113 = .ok (.iconst 0, 1) := by decide +kernel
theorem d_Mo_add_114 : decode c_Mo_add 114 = .ok (.putfield 73, 3) := by decide +kernel
theorem d_Mo_add_117 : decode c_Mo_add 117 = .ok (.aload_n 0, 1) := by decide +kernel
theorem d_Mo_add_118 : decode c_Mo_add 118 = .ok (.getfield 65, 3) := by decide +kernel
theorem d_Mo_add_121 : decode c_Mo_add 121 = .ok (.iconst 1, 1) := by decide +kernel
theorem d_Mo_add_122 : decode c_Mo_add 122 = .ok (.isub, 1) := by decide +kernel
theorem d_Mo_add_123 : decode c_Mo_add 123 = .ok (.ireturn, 1) := by decide +kernel
theorem d_Mo_records_0 : decode c_Mo_records 0 = .ok (.aload_n 0, 1) := by decide +kernel
theorem d_Mo_records_1 : decode c_Mo_records 1 = .ok (.getfield 65, 3) := by decide +kernel
theorem d_Mo_records_4 : decode c_Mo_records 4 = .ok (.ireturn, 1) := by decide +kernel
theorem d_Mo_letter_0 : decode c_Mo_letter 0 = .ok (.iload_n 0, 1) := by decide +kernel
theorem d_Mo_letter_1 : decode c_Mo_letter 1 = .ok (.bipush 48, 2) := by decide +kernel
theorem d_Mo_letter_3 : decode c_Mo_letter 3 = .ok (.if_icmp .lt 9, 3) := by decide +kernel
theorem d_Mo_letter_6 : decode c_Mo_letter 6 = .ok (.iload_n 0, 1) := by decide +kernel
theorem d_Mo_letter_7 : decode c_Mo_letter 7 = .ok (.bipush 57, 2) := by decide +kernel
theorem d_Mo_letter_9 : decode c_Mo_letter 9 = .ok (.if_icmp .le 15, 3) := by decide +kernel
theorem d_Mo_letter_12 : decode c_Mo_letter 12 = .ok (.iload_n 0, 1) := by decide +kernel
theorem d_Mo_letter_13 : decode c_Mo_letter 13 = .ok (.bipush 97, 2) := by decide +kernel
theorem d_Mo_letter_15 : decode c_Mo_letter 15 = .ok (.if_icmp .lt 13, 3) := by decide +kernel
theorem d_Mo_letter_18 : decode c_Mo_letter 18 = .ok (.iload_n 0, 1) := by decide +kernel
theorem d_Mo_letter_19 : decode c_Mo_letter 19 = .ok (.bipush 122, 2) := by decide +kernel
theorem d_Mo_letter_21 : decode c_Mo_letter 21 = .ok (.if_icmp .gt 7, 3) := by decide +kernel
theorem d_Mo_letter_24 : decode c_Mo_letter 24 = .ok (.iload_n 0, 1) := by decide +kernel
theorem d_Mo_letter_25 : decode c_Mo_letter 25 = .ok (.goto 23, 3) := by decide +kernel
theorem d_Mo_letter_28 : decode c_Mo_letter 28 = .ok (.iload_n 0, 1) := by decide +kernel
theorem d_Mo_letter_29 : decode c_Mo_letter 29 = .ok (.bipush 65, 2) := by decide +kernel
theorem d_Mo_letter_31 : decode c_Mo_letter 31 = .ok (.if_icmp .lt 16, 3) := by decide +kernel
theorem d_Mo_letter_34 : decode c_Mo_letter 34 = .ok (.iload_n 0, 1) := by decide +kernel
theorem d_Mo_letter_35 : decode c_Mo_letter 35 = .ok (.bipush 90, 2) := by decide +kernel
theorem d_Mo_letter_37 : decode c_Mo_letter 37 = .ok (.if_icmp .gt 10, 3) := by decide +kernel
end
section
theorem d_Mo_letter_40 : decode c_Mo_letter 40 = .ok (.iload_n 0, 1) := by decide +kernel
theorem d_Mo_letter_41 : decode c_Mo_letter 41 = .ok (.bipush 32, 2) := by decide +kernel
theorem d_Mo_letter_43 : decode c_Mo_letter 43 = .ok (.iadd, 1) := by decide +kernel
theorem d_Mo_letter_44 : decode c_Mo_letter 44 = .ok (.goto 4, 3) := by decide +kernel
theorem d_Mo_letter_47 : decode c_Mo_letter 47 = .ok (.iconst 0, 1) := by decide +kernel
theorem d_Mo_letter_48 : decode c_Mo_letter 48 = .ok (.ireturn, 1) := by decide +kernel
theorem d_Mo_look_0 : decode c_Mo_look 0 = .ok (.iconst 2, 1) := by decide +kernel
theorem d_Mo_look_1 : decode c_Mo_look 1 = .ok (.iload_n 2, 1) := by decide +kernel
theorem d_Mo_look_2 : decode c_Mo_look 2 = .ok (.imul, 1) := by decide +kernel
theorem d_Mo_look_3 : decode c_Mo_look 3 = .ok (.iload_n 3, 1) := by decide +kernel
theorem d_Mo_look_4 : decode c_Mo_look 4 = .ok (.iadd, 1) := by decide +kernel
theorem d_Mo_look_5 : decode c_Mo_look 5 = .ok (.istore 4, 2) := by decide +kernel
theorem d_Mo_look_7 : decode c_Mo_look 7 = .ok (.iconst 0, 1) := by decide +kernel
theorem d_Mo_look_8 : decode c_Mo_look 8 = .ok (.istore 5, 2) := by decide +kernel
theorem d_Mo_look_10 : decode c_Mo_look 10 = .ok (.iconst 0, 1) := by decide +kernel
theorem d_Mo_look_11 : decode c_Mo_look 11 = .ok (.istore 6, 2) := by decide +kernel
theorem d_Mo_look_13 : decode c_Mo_look 13 = .ok (.iconst 0, 1) := by decide +kernel
theorem d_Mo_look_14 : decode c_Mo_look 14 = .ok (.istore 7, 2) := by decide +kernel
theorem d_Mo_look_16 : decode c_Mo_look 16 = .ok (.iload 7, 2) := by decide +kernel
theorem d_Mo_look_18 : decode c_Mo_look 18 = .ok (.aload_n 0, 1) := by decide +kernel
theorem d_Mo_look_19 : decode c_Mo_look 19 = .ok (.getfield 13, 3) := by decide +kernel
theorem d_Mo_look_22 : decode c_Mo_look 22 = .ok (.iload 4, 2) := by decide +kernel
theorem d_Mo_look_24 : decode c_Mo_look 24 = .ok (.iaload, 1) := by decide +kernel
theorem d_Mo_look_25 : decode c_Mo_look 25 = .ok (.if_icmp .ge 85, 3) := by decide +kernel
theorem d_Mo_look_28 : decode c_Mo_look 28 = .ok (.aload_n 0, 1) := by decide +kernel
theorem d_Mo_look_29 : decode c_Mo_look 29 = .ok (.getfield 7, 3) := by decide +kernel
theorem d_Mo_look_32 : decode c_Mo_look 32 = .ok (.bipush 12, 2) := by decide +kernel
theorem d_Mo_look_34 : decode c_Mo_look 34 = .ok (.iload 4, 2) := by decide +kernel
theorem d_Mo_look_36 : decode c_Mo_look 36 = .ok (.imul, 1) := by decide +kernel
theorem d_Mo_look_37 : decode c_Mo_look 37 = .ok (.iload 7, 2) := by decide +kernel
theorem d_Mo_look_39 : decode c_Mo_look 39 = .ok (.iadd, 1) := by decide +kernel
theorem d_Mo_look_40 : decode c_Mo_look 40 = .ok (.iaload, 1) := by decide +kernel
theorem d_Mo_look_41 : decode c_Mo_look 41 = .ok (.invokestatic 76, 3) := by decide +kernel
theorem d_Mo_look_44 : decode c_Mo_look 44 = .ok (.istore 8, 2) := by decide +kernel
theorem d_Mo_look_46 : decode c_Mo_look 46 = .ok (.iload 8, 2) := by decide +kernel
theorem d_Mo_look_48 : decode c_Mo_look 48 = .ok (.ifCond .ne 9, 3) := by decide +kernel
theorem d_Mo_look_51 : decode c_Mo_look 51 = .ok (.iconst 1, 1) := by decide +kernel
theorem d_Mo_look_52 : decode c_Mo_look 52 = .ok (.istore 6, 2) := by decide +kernel
theorem d_Mo_look_54 : decode c_Mo_look 54 = .ok (.goto 50, 3) := by decide +kernel
theorem d_Mo_look_57 : decode c_Mo_look 57 = .ok (.iload 6, 2) := by decide +kernel
theorem d_Mo_look_59 : decode c_Mo_look 59 = .ok (.ifCond .eq 25, 3) := by decide +kernel
theorem d_Mo_look_62 : decode c_Mo_look 62 = .ok (.iload 5, 2) := by decide +kernel
theorem d_Mo_look_64 : decode c_Mo_look 64 = .ok (.ifCond .le 20, 3) := by decide +kernel
theorem d_Mo_look_67 : decode c_Mo_look 67 = .ok (.aload_n 0, 1) := by decide +kernel
theorem d_Mo_look_68 : decode c_Mo_look 68 = .ok (.getfield 16, 3) := by decide +kernel
theorem d_Mo_look_71 : decode c_Mo_look 71 = .ok (.bipush 12, 2) := by decide +kernel
theorem d_Mo_look_73 : decode c_Mo_look 73 = .ok (.iload_n 1, 1) := by decide +kernel
theorem d_Mo_look_74 : decode c_Mo_look 74 = .ok (.imul, 1) := by decide +kernel
theorem d_Mo_look_75 : decode c_Mo_look 75 = .ok (.iload 5, 2) := by decide +kernel
theorem d_Mo_look_77 : decode c_Mo_look 77 = .ok (.iadd, 1) := by decide +kernel
theorem d_Mo_look_78 : decode c_Mo_look 78 = .ok (.bipush 32, 2) := by decide +kernel
theorem d_Mo_look_80 : decode c_Mo_look 80 = .ok (.iastore, 1) := by decide +kernel
theorem d_Mo_look_81 : decode c_Mo_look 81 = .ok (.iinc 5 1, 3) := by decide +kernel
theorem d_Mo_look_84 : decode c_Mo_look 84 = .ok (.aload_n 0, 1) := by decide +kernel
theorem d_Mo_look_85 : decode c_Mo_look 85 = .ok (.getfield 16, 3) := by decide +kernel
theorem d_Mo_look_88 : decode c_Mo_look 88 = .ok (.bipush 12, 2) := by decide +kernel
theorem d_Mo_look_90 : decode c_Mo_look 90 = .ok (.iload_n 1, 1) := by decide +kernel
theorem d_Mo_look_91 : decode c_Mo_look 91 = .ok (.imul, 1) := by decide +kernel
theorem d_Mo_look_92 : decode c_Mo_look 92 = .ok (.iload 5, 2) := by decide +kernel
theorem d_Mo_look_94 : decode c_Mo_look 94 = .ok (.iadd, 1) := by decide +kernel
theorem d_Mo_look_95 : decode c_Mo_look 95 = .ok (.iload 8, 2) := by decide +kernel
theorem d_Mo_look_97 : decode c_Mo_look 97 = .ok (.iastore, 1) := by decide +kernel
theorem d_Mo_look_98 : decode c_Mo_look 98 = .ok (.iinc 5 1, 3) := by decide +kernel
theorem d_Mo_look_101 : decode c_Mo_look 101 = .ok (.iconst 0, 1) := by decide +kernel
theorem d_Mo_look_102 : decode c_Mo_look 102 = .ok (.istore 6, 2) := by decide +kernel
theorem d_Mo_look_104 : decode c_Mo_look 104 = .ok (.iinc 7 1, 3) := by decide +kernel
theorem d_Mo_look_107 : decode c_Mo_look 107 = .ok (.goto (-91), 3) := by decide +kernel
theorem d_Mo_look_110 : decode c_Mo_look 110 = .ok (.aload_n 0, 1) := by decide +kernel
theorem d_Mo_look_111 : decode c_Mo_look 111 = .ok (.getfield 19, 3) := by decide +kernel
theorem d_Mo_look_114 : decode c_Mo_look 114 = .ok (.iload_n 1, 1) := by decide +kernel
theorem d_Mo_look_115 : decode c_Mo_look 115 = .ok (.iload 5, 2) := by decide +kernel
theorem d_Mo_look_117 : decode c_Mo_look 117 = .ok (.iastore, 1) := by decide +kernel
theorem d_Mo_look_118 : decode c_Mo_look 118 = .ok (.return_, 1) := by decide +kernel
theorem d_Mo_at_0 : decode c_Mo_at 0 = .ok (.iload_n 2, 1) := by decide +kernel
theorem d_Mo_at_1 : decode c_Mo_at 1 = .ok (.ifCond .lt 27, 3) := by decide +kernel
theorem d_Mo_at_4 : decode c_Mo_at 4 = .ok (.iload_n 2, 1) := by decide +kernel
theorem d_Mo_at_5 : decode c_Mo_at 5 = .ok (.aload_n 0, 1) := by decide +kernel
theorem d_Mo_at_6 : decode c_Mo_at 6 = .ok (.getfield 19, 3) := by decide +kernel
theorem d_Mo_at_9 : decode c_Mo_at 9 = .ok (.iload_n 1, 1) := by decide +kernel
theorem d_Mo_at_10 : decode c_Mo_at 10 = .ok (.iaload, 1) := by decide +kernel
theorem d_Mo_at_11 : decode c_Mo_at 11 = .ok (.if_icmp .ge 17, 3) := by decide +kernel
theorem d_Mo_at_14 : decode c_Mo_at 14 = .ok (.aload_n 0, 1) := by decide +kernel
theorem d_Mo_at_15 : decode c_Mo_at 15 = .ok (.getfield 16, 3) := by decide +kernel
theorem d_Mo_at_18 : decode c_Mo_at 18 = .ok (.bipush 12, 2) := by decide +kernel
theorem d_Mo_at_20 : decode c_Mo_at 20 = .ok (.iload_n 1, 1) := by decide +kernel
theorem d_Mo_at_21 : decode c_Mo_at 21 = .ok (.imul, 1) := by decide +kernel
theorem d_Mo_at_22 : decode c_Mo_at 22 = .ok (.iload_n 2, 1) := by decide +kernel
theorem d_Mo_at_23 : decode c_Mo_at 23 = .ok (.iadd, 1) := by decide +kernel
theorem d_Mo_at_24 : decode c_Mo_at 24 = .ok (.iaload, 1) := by decide +kernel
theorem d_Mo_at_25 : decode c_Mo_at 25 = .ok (.goto 5, 3) := by decide +kernel
theorem d_Mo_at_28 : decode c_Mo_at 28 = .ok (.bipush 32, 2) := by decide +kernel
theorem d_Mo_at_30 : decode c_Mo_at 30 = .ok (.ireturn, 1) := by decide +kernel
theorem d_Mo_begins_0 : decode c_Mo_begins 0 = .ok (.aload_n 0, 1) := by decide +kernel
theorem d_Mo_begins_1 : decode c_Mo_begins 1 = .ok (.iload_n 1, 1) := by decide +kernel
theorem d_Mo_begins_2 : decode c_Mo_begins 2 = .ok (.iload_n 2, 1) := by decide +kernel
theorem d_Mo_begins_3 : decode c_Mo_begins 3 = .ok (.invokevirtual 80, 3) := by decide +kernel
theorem d_Mo_begins_6 : decode c_Mo_begins 6 = .ok (.bipush 32, 2) := by decide +kernel
theorem d_Mo_begins_8 : decode c_Mo_begins 8 = .ok (.if_icmp .eq 20, 3) := by decide +kernel
theorem d_Mo_begins_11 : decode c_Mo_begins 11 = .ok (.aload_n 0, 1) := by decide +kernel
theorem d_Mo_begins_12 : decode c_Mo_begins 12 = .ok (.iload_n 1, 1) := by decide +kernel
theorem d_Mo_begins_13 : decode c_Mo_begins 13 = .ok (.iload_n 2, 1) := by decide +kernel
theorem d_Mo_begins_14 : decode c_Mo_begins 14 = .ok (.iconst 1, 1) := by decide +kernel
theorem d_Mo_begins_15 : decode c_Mo_begins 15 = .ok (.isub, 1) := by decide +kernel
theorem d_Mo_begins_16 : decode c_Mo_begins 16 = .ok (.invokevirtual 80, 3) := by decide +kernel
theorem d_Mo_begins_19 : decode c_Mo_begins 19 = .ok (.bipush 32, 2) := by decide +kernel
theorem d_Mo_begins_21 : decode c_Mo_begins 21 = .ok (.if_icmp .ne 7, 3) := by decide +kernel
theorem d_Mo_begins_24 : decode c_Mo_begins 24 = .ok (.iconst 1, 1) := by decide +kernel
theorem d_Mo_begins_25 : decode c_Mo_begins 25 = .ok (.goto 4, 3) := by decide +kernel
theorem d_Mo_begins_28 : decode c_Mo_begins 28 = .ok (.iconst 0, 1) := by decide +kernel
theorem d_Mo_begins_29 : decode c_Mo_begins 29 = .ok (.ireturn, 1) := by decide +kernel
theorem d_Mo_sameWord_0 : decode c_Mo_sameWord 0 = .ok (.iconst 0, 1) := by decide +kernel
theorem d_Mo_sameWord_1 : decode c_Mo_sameWord 1 = .ok (.istore 5, 2) := by decide +kernel
theorem d_Mo_sameWord_3 : decode c_Mo_sameWord 3 = .ok (.aload_n 0, 1) := by decide +kernel
theorem d_Mo_sameWord_4 : decode c_Mo_sameWord 4 = .ok (.iload_n 1, 1) := by decide +kernel
theorem d_Mo_sameWord_5 : decode c_Mo_sameWord 5 = .ok (.iload_n 2, 1) := by decide +kernel
theorem d_Mo_sameWord_6 : decode c_Mo_sameWord 6 = .ok (.iload 5, 2) := by decide +kernel
theorem d_Mo_sameWord_8 : decode c_Mo_sameWord 8 = .ok (.iadd, 1) := by decide +kernel
theorem d_Mo_sameWord_9 : decode c_Mo_sameWord 9 = .ok (.invokevirtual 80, 3) := by decide +kernel
theorem d_Mo_sameWord_12 : decode c_Mo_sameWord 12 = .ok (.aload_n 0, 1) := by decide +kernel
theorem d_Mo_sameWord_13 : decode c_Mo_sameWord 13 = .ok (.iload_n 3, 1) := by decide +kernel
theorem d_Mo_sameWord_14 : decode c_Mo_sameWord 14 = .ok (.iload 4, 2) := by decide +kernel
theorem d_Mo_sameWord_16 : decode c_Mo_sameWord 16 = .ok (.iload 5, 2) := by decide +kernel
theorem d_Mo_sameWord_18 : decode c_Mo_sameWord 18 = .ok (.iadd, 1) := by decide +kernel
theorem d_Mo_sameWord_19 : decode c_Mo_sameWord 19 = .ok (.invokevirtual 80, 3) := by decide +kernel
theorem d_Mo_sameWord_22 : decode c_Mo_sameWord 22 = .ok (.if_icmp .ne 23, 3) := by decide +kernel
theorem d_Mo_sameWord_25 : decode c_Mo_sameWord 25 = .ok (.aload_n 0, 1) := by decide +kernel
theorem d_Mo_sameWord_26 : decode c_Mo_sameWord 26 = .ok (.iload_n 1, 1) := by decide +kernel
theorem d_Mo_sameWord_27 : decode c_Mo_sameWord 27 = .ok (.iload_n 2, 1) := by decide +kernel
theorem d_Mo_sameWord_28 : decode c_Mo_sameWord 28 = .ok (.iload 5, 2) := by decide +kernel
theorem d_Mo_sameWord_30 : decode c_Mo_sameWord 30 = .ok (.iadd, 1) := by decide +kernel
theorem d_Mo_sameWord_31 : decode c_Mo_sameWord 31 = .ok (.invokevirtual 80, 3) := by decide +kernel
theorem d_Mo_sameWord_34 : decode c_Mo_sameWord 34 = .ok (.bipush 32, 2) := by decide +kernel
theorem d_Mo_sameWord_36 : decode c_Mo_sameWord 36 = .ok (.if_icmp .eq 9, 3) := by decide +kernel
theorem d_Mo_sameWord_39 : decode c_Mo_sameWord 39 = .ok (.iinc 5 1, 3) := by decide +kernel
theorem d_Mo_sameWord_42 : decode c_Mo_sameWord 42 = .ok (.goto (-39), 3) := by decide +kernel
theorem d_Mo_sameWord_45 : decode c_Mo_sameWord 45 = .ok (.aload_n 0, 1) := by decide +kernel
theorem d_Mo_sameWord_46 : decode c_Mo_sameWord 46 = .ok (.iload_n 1, 1) := by decide +kernel
theorem d_Mo_sameWord_47 : decode c_Mo_sameWord 47 = .ok (.iload_n 2, 1) := by decide +kernel
theorem d_Mo_sameWord_48 : decode c_Mo_sameWord 48 = .ok (.iload 5, 2) := by decide +kernel
theorem d_Mo_sameWord_50 : decode c_Mo_sameWord 50 = .ok (.iadd, 1) := by decide +kernel
theorem d_Mo_sameWord_51 : decode c_Mo_sameWord 51 = .ok (.invokevirtual 80, 3) := by decide +kernel
theorem d_Mo_sameWord_54 : decode c_Mo_sameWord 54 = .ok (.aload_n 0, 1) := by decide +kernel
theorem d_Mo_sameWord_55 : decode c_Mo_sameWord 55 = .ok (.iload_n 3, 1) := by decide +kernel
theorem d_Mo_sameWord_56 : decode c_Mo_sameWord 56 = .ok (.iload 4, 2) := by decide +kernel
theorem d_Mo_sameWord_58 : decode c_Mo_sameWord 58 = .ok (.iload 5, 2) := by decide +kernel
theorem d_Mo_sameWord_60 : decode c_Mo_sameWord 60 = .ok (.iadd, 1) := by decide +kernel
theorem d_Mo_sameWord_61 : decode c_Mo_sameWord 61 = .ok (.invokevirtual 80, 3) := by decide +kernel
theorem d_Mo_sameWord_64 : decode c_Mo_sameWord 64 = .ok (.if_icmp .ne 7, 3) := by decide +kernel
theorem d_Mo_sameWord_67 : decode c_Mo_sameWord 67 = .ok (.iconst 1, 1) := by decide +kernel
theorem d_Mo_sameWord_68 : decode c_Mo_sameWord 68 = .ok (.goto 4, 3) := by decide +kernel
theorem d_Mo_sameWord_71 : decode c_Mo_sameWord 71 = .ok (.iconst 0, 1) := by decide +kernel
theorem d_Mo_sameWord_72 : decode c_Mo_sameWord 72 = .ok (.ireturn, 1) := by decide +kernel
theorem d_Mo_stands_0 : decode c_Mo_stands 0 = .ok (.iconst 0, 1) := by decide +kernel
theorem d_Mo_stands_1 : decode c_Mo_stands 1 = .ok (.istore 5, 2) := by decide +kernel
theorem d_Mo_stands_3 : decode c_Mo_stands 3 = .ok (.iconst 0, 1) := by decide +kernel
theorem d_Mo_stands_4 : decode c_Mo_stands 4 = .ok (.istore 6, 2) := by decide +kernel
theorem d_Mo_stands_6 : decode c_Mo_stands 6 = .ok (.iload 6, 2) := by decide +kernel
theorem d_Mo_stands_8 : decode c_Mo_stands 8 = .ok (.iload 4, 2) := by decide +kernel
theorem d_Mo_stands_10 : decode c_Mo_stands 10 = .ok (.if_icmp .ge 43, 3) := by decide +kernel
theorem d_Mo_stands_13 : decode c_Mo_stands 13 = .ok (.iload 5, 2) := by decide +kernel
theorem d_Mo_stands_15 : decode c_Mo_stands 15 = .ok (.ifCond .ne 25, 3) := by decide +kernel
theorem d_Mo_stands_18 : decode c_Mo_stands 18 = .ok (.aload_n 0, 1) := by decide +kernel
theorem d_Mo_stands_19 : decode c_Mo_stands 19 = .ok (.iload_n 3, 1) := by decide +kernel
theorem d_Mo_stands_20 : decode c_Mo_stands 20 = .ok (.iload 6, 2) := by decide +kernel
theorem d_Mo_stands_22 : decode c_Mo_stands 22 = .ok (.invokevirtual 84, 3) := by decide +kernel
theorem d_Mo_stands_25 : decode c_Mo_stands 25 = .ok (.ifCond .eq 19, 3) := by decide +kernel
theorem d_Mo_stands_28 : decode c_Mo_stands 28 = .ok (.aload_n 0, 1) := by decide +kernel
theorem d_Mo_stands_29 : decode c_Mo_stands 29 = .ok (.iload_n 1, 1) := by decide +kernel
theorem d_Mo_stands_30 : decode c_Mo_stands 30 = .ok (.iload_n 2, 1) := by decide +kernel
theorem d_Mo_stands_31 : decode c_Mo_stands 31 = .ok (.iload_n 3, 1) := by decide +kernel
theorem d_Mo_stands_32 : decode c_Mo_stands 32 = .ok (.iload 6, 2) := by decide +kernel
theorem d_Mo_stands_34 : decode c_Mo_stands 34 = .ok (.invokevirtual 88, 3) := by decide +kernel
theorem d_Mo_stands_37 : decode c_Mo_stands 37 = .ok (.ifCond .eq 7, 3) := by decide +kernel
theorem d_Mo_stands_40 : decode c_Mo_stands 40 = .ok (.iconst 1, 1) := by decide +kernel
theorem d_Mo_stands_41 : decode c_Mo_stands 41 = .ok (.goto 4, 3) := by decide +kernel
theorem d_Mo_stands_44 : decode c_Mo_stands 44 = .ok (.iconst 0, 1) := by decide +kernel
theorem d_Mo_stands_45 : decode c_Mo_stands 45 = .ok (.istore 5, 2) := by decide +kernel
theorem d_Mo_stands_47 : decode c_Mo_stands 47 = .ok (.iinc 6 1, 3) := by decide +kernel
theorem d_Mo_stands_50 : decode c_Mo_stands 50 = .ok (.goto (-44), 3) := by decide +kernel
theorem d_Mo_stands_53 : decode c_Mo_stands 53 = .ok (.iload 5, 2) := by decide +kernel
theorem d_Mo_stands_55 : decode c_Mo_stands 55 = .ok (.ireturn, 1) := by decide +kernel
theorem d_Mo_inSet_0 : decode c_Mo_inSet 0 = .ok (.iconst 0, 1) := by decide +kernel
theorem d_Mo_inSet_1 : decode c_Mo_inSet 1 = .ok (.istore 4, 2) := by decide +kernel
theorem d_Mo_inSet_3 : decode c_Mo_inSet 3 = .ok (.iconst 0, 1) := by decide +kernel
theorem d_Mo_inSet_4 : decode c_Mo_inSet 4 = .ok (.istore 5, 2) := by decide +kernel
theorem d_Mo_inSet_6 : decode c_Mo_inSet 6 = .ok (.iload 5, 2) := by decide +kernel
theorem d_Mo_inSet_8 : decode c_Mo_inSet 8 = .ok (.aload_n 0, 1) := by decide +kernel
theorem d_Mo_inSet_9 : decode c_Mo_inSet 9 = .ok (.getfield 19, 3) := by decide +kernel
theorem d_Mo_inSet_12 : decode c_Mo_inSet 12 = .ok (.iload_n 1, 1) := by decide +kernel
theorem d_Mo_inSet_13 : decode c_Mo_inSet 13 = .ok (.iaload, 1) := by decide +kernel
theorem d_Mo_inSet_14 : decode c_Mo_inSet 14 = .ok (.if_icmp .ge 75, 3) := by decide +kernel
theorem d_Mo_inSet_17 : decode c_Mo_inSet 17 = .ok (.aload_n 0, 1) := by decide +kernel
theorem d_Mo_inSet_18 : decode c_Mo_inSet 18 = .ok (.iload_n 1, 1) := by decide +kernel
theorem d_Mo_inSet_19 : decode c_Mo_inSet 19 = .ok (.iload 5, 2) := by decide +kernel
theorem d_Mo_inSet_21 : decode c_Mo_inSet 21 = .ok (.invokevirtual 84, 3) := by decide +kernel
theorem d_Mo_inSet_24 : decode c_Mo_inSet 24 = .ok (.ifCond .eq 41, 3) := by decide +kernel
theorem d_Mo_inSet_27 : decode c_Mo_inSet 27 = .ok (.aload_n 0, 1) := by decide +kernel
theorem d_Mo_inSet_28 : decode c_Mo_inSet 28 = .ok (.iload_n 1, 1) := by decide +kernel
theorem d_Mo_inSet_29 : decode c_Mo_inSet 29 = .ok (.iload 5, 2) := by decide +kernel
theorem d_Mo_inSet_31 : decode c_Mo_inSet 31 = .ok (.iload_n 1, 1) := by decide +kernel
theorem d_Mo_inSet_32 : decode c_Mo_inSet 32 = .ok (.iload 5, 2) := by decide +kernel
theorem d_Mo_inSet_34 : decode c_Mo_inSet 34 = .ok (.invokevirtual 92, 3) := by decide +kernel
theorem d_Mo_inSet_37 : decode c_Mo_inSet 37 = .ok (.ifCond .ne 28, 3) := by decide +kernel
theorem d_Mo_inSet_40 : decode c_Mo_inSet 40 = .ok (.iload_n 3, 1) := by decide +kernel
theorem d_Mo_inSet_41 : decode c_Mo_inSet 41 = .ok (.ifCond .eq 20, 3) := by decide +kernel
theorem d_Mo_inSet_44 : decode c_Mo_inSet 44 = .ok (.aload_n 0, 1) := by decide +kernel
theorem d_Mo_inSet_45 : decode c_Mo_inSet 45 = .ok (.iload_n 1, 1) := by decide +kernel
theorem d_Mo_inSet_46 : decode c_Mo_inSet 46 = .ok (.iload 5, 2) := by decide +kernel
theorem d_Mo_inSet_48 : decode c_Mo_inSet 48 = .ok (.iload_n 2, 1) := by decide +kernel
theorem d_Mo_inSet_49 : decode c_Mo_inSet 49 = .ok (.aload_n 0, 1) := by decide +kernel
theorem d_Mo_inSet_50 : decode c_Mo_inSet 50 = .ok (.getfield 19, 3) := by decide +kernel
theorem d_Mo_inSet_53 : decode c_Mo_inSet 53 = .ok (.iload_n 2, 1) := by decide +kernel
theorem d_Mo_inSet_54 : decode c_Mo_inSet 54 = .ok (.iaload, 1) := by decide +kernel
theorem d_Mo_inSet_55 : decode c_Mo_inSet 55 = .ok (.invokevirtual 92, 3) := by decide +kernel
theorem d_Mo_inSet_58 : decode c_Mo_inSet 58 = .ok (.ifCond .eq 7, 3) := by decide +kernel
theorem d_Mo_inSet_61 : decode c_Mo_inSet 61 = .ok (.iconst 1, 1) := by decide +kernel
theorem d_Mo_inSet_62 : decode c_Mo_inSet 62 = .ok (.goto 4, 3) := by decide +kernel
theorem d_Mo_inSet_65 : decode c_Mo_inSet 65 = .ok (.iconst 0, 1) := by decide +kernel
theorem d_Mo_inSet_66 : decode c_Mo_inSet 66 = .ok (.istore 6, 2) := by decide +kernel
theorem d_Mo_inSet_68 : decode c_Mo_inSet 68 = .ok (.iload 4, 2) := by decide +kernel
theorem d_Mo_inSet_70 : decode c_Mo_inSet 70 = .ok (.iload 6, 2) := by decide +kernel
theorem d_Mo_inSet_72 : decode c_Mo_inSet 72 = .ok (.ifCond .eq 7, 3) := by decide +kernel
theorem d_Mo_inSet_75 : decode c_Mo_inSet 75 = .ok (.iconst 1, 1) := by decide +kernel
theorem d_Mo_inSet_76 : decode c_Mo_inSet 76 = .ok (.goto 4, 3) := by decide +kernel
theorem d_Mo_inSet_79 : decode c_Mo_inSet 79 = .ok (.iconst 0, 1) := by decide +kernel
theorem d_Mo_inSet_80 : decode c_Mo_inSet 80 = .ok (.iadd, 1) := by decide +kernel
theorem d_Mo_inSet_81 : decode c_Mo_inSet 81 = .ok (.istore 4, 2) := by decide +kernel
theorem d_Mo_inSet_83 : decode c_Mo_inSet 83 = .ok (.iinc 5 1, 3) := by decide +kernel
theorem d_Mo_inSet_86 : decode c_Mo_inSet 86 = .ok (.goto (-80), 3) := by decide +kernel
theorem d_Mo_inSet_89 : decode c_Mo_inSet 89 = .ok (.iload 4, 2) := by decide +kernel
theorem d_Mo_inSet_91 : decode c_Mo_inSet 91 = .ok (.ireturn, 1) := by decide +kernel
theorem d_Mo_words_0 : decode c_Mo_words 0 = .ok (.aload_n 0, 1) := by decide +kernel
theorem d_Mo_words_1 : decode c_Mo_words 1 = .ok (.iload_n 1, 1) := by decide +kernel
theorem d_Mo_words_2 : decode c_Mo_words 2 = .ok (.invokevirtual 95, 3) := by decide +kernel
theorem d_Mo_words_5 : decode c_Mo_words 5 = .ok (.ifCond .eq 10, 3) := by decide +kernel
theorem d_Mo_words_8 : decode c_Mo_words 8 = .ok (.iload_n 2, 1) := by decide +kernel
theorem d_Mo_words_9 : decode c_Mo_words 9 = .ok (.invokestatic 69, 3) := by decide +kernel
theorem d_Mo_words_12 : decode c_Mo_words 12 = .ok (.ifCond .ne 5, 3) := by decide +kernel
theorem d_Mo_words_15 : decode c_Mo_words 15 = .ok (.iconst (-1), 1) := by decide +kernel
theorem d_Mo_words_16 : decode c_Mo_words 16 = .ok (.ireturn, 1) := by decide +kernel
theorem d_Mo_words_17 : decode c_Mo_words 17 = .ok (.aload_n 0, 1) := by decide +kernel
theorem d_Mo_words_18 : decode c_Mo_words 18 = .ok (.iconst 0, 1) := by decide +kernel
theorem d_Mo_words_19 : decode c_Mo_words 19 = .ok (.iload_n 1, 1) := by decide +kernel
theorem d_Mo_words_20 : decode c_Mo_words 20 = .ok (.iload_n 2, 1) := by decide +kernel
theorem d_Mo_words_21 : decode c_Mo_words 21 = .ok (.invokevirtual 98, 3) := by decide +kernel
theorem d_Mo_words_24 : decode c_Mo_words 24 = .ok (.aload_n 0, 1) := by decide +kernel
theorem d_Mo_words_25 : decode c_Mo_words 25 = .ok (.iconst 0, 1) := by decide +kernel
theorem d_Mo_words_26 : decode c_Mo_words 26 = .ok (.iconst 0, 1) := by decide +kernel
theorem d_Mo_words_27 : decode c_Mo_words 27 = .ok (.iconst 0, 1) := by decide +kernel
theorem d_Mo_words_28 : decode c_Mo_words 28 = .ok (.invokevirtual 102, 3) := by decide +kernel
theorem d_Mo_words_31 : decode c_Mo_words 31 = .ok (.ireturn, 1) := by decide +kernel
theorem d_Mo_length_0 : decode c_Mo_length 0 = .ok (.aload_n 0, 1) := by decide +kernel
theorem d_Mo_length_1 : decode c_Mo_length 1 = .ok (.iload_n 1, 1) := by decide +kernel
theorem d_Mo_length_2 : decode c_Mo_length 2 = .ok (.invokevirtual 95, 3) := by decide +kernel
theorem d_Mo_length_5 : decode c_Mo_length 5 = .ok (.ifCond .eq 10, 3) := by decide +kernel
theorem d_Mo_length_8 : decode c_Mo_length 8 = .ok (.iload_n 2, 1) := by decide +kernel
theorem d_Mo_length_9 : decode c_Mo_length 9 = .ok (.invokestatic 69, 3) := by decide +kernel
theorem d_Mo_length_12 : decode c_Mo_length 12 = .ok (.ifCond .ne 5, 3) := by decide +kernel
theorem d_Mo_length_15 : decode c_Mo_length 15 = .ok (.iconst (-1), 1) := by decide +kernel
theorem d_Mo_length_16 : decode c_Mo_length 16 = .ok (.ireturn, 1) := by decide +kernel
theorem d_Mo_length_17 : decode c_Mo_length 17 = .ok (.aload_n 0, 1) := by decide +kernel
theorem d_Mo_length_18 : decode c_Mo_length 18 = .ok (.iconst 0, 1) := by decide +kernel
theorem d_Mo_length_19 : decode c_Mo_length 19 = .ok (.iload_n 1, 1) := by decide +kernel
theorem d_Mo_length_20 : decode c_Mo_length 20 = .ok (.iload_n 2, 1) := by decide +kernel
theorem d_Mo_length_21 : decode c_Mo_length 21 = .ok (.invokevirtual 98, 3) := by decide +kernel
theorem d_Mo_length_24 : decode c_Mo_length 24 = .ok (.aload_n 0, 1) := by decide +kernel
theorem d_Mo_length_25 : decode c_Mo_length 25 = .ok (.getfield 19, 3) := by decide +kernel
theorem d_Mo_length_28 : decode c_Mo_length 28 = .ok (.iconst 0, 1) := by decide +kernel
theorem d_Mo_length_29 : decode c_Mo_length 29 = .ok (.iaload, 1) := by decide +kernel
theorem d_Mo_length_30 : decode c_Mo_length 30 = .ok (.ireturn, 1) := by decide +kernel
theorem d_Mo_unit_0 : decode c_Mo_unit 0 = .ok (.aload_n 0, 1) := by decide +kernel
theorem d_Mo_unit_1 : decode c_Mo_unit 1 = .ok (.iload_n 1, 1) := by decide +kernel
theorem d_Mo_unit_2 : decode c_Mo_unit 2 = .ok (.iload_n 2, 1) := by decide +kernel
theorem d_Mo_unit_3 : decode c_Mo_unit 3 = .ok (.invokevirtual 106, 3) := by decide +kernel
theorem d_Mo_unit_6 : decode c_Mo_unit 6 = .ok (.istore 4, 2) := by decide +kernel
theorem d_Mo_unit_8 : decode c_Mo_unit 8 = .ok (.iload_n 3, 1) := by decide +kernel
theorem d_Mo_unit_9 : decode c_Mo_unit 9 = .ok (.ifCond .lt 18, 3) := by decide +kernel
theorem d_Mo_unit_12 : decode c_Mo_unit 12 = .ok (.iload_n 3, 1) := by decide +kernel
theorem d_Mo_unit_13 : decode c_Mo_unit 13 = .ok (.iload 4, 2) := by decide +kernel
theorem d_Mo_unit_15 : decode c_Mo_unit 15 = .ok (.if_icmp .ge 12, 3) := by decide +kernel
theorem d_Mo_unit_18 : decode c_Mo_unit 18 = .ok (.aload_n 0, 1) := by decide +kernel
theorem d_Mo_unit_19 : decode c_Mo_unit 19 = .ok (.getfield 16, 3) := by decide +kernel
theorem d_Mo_unit_22 : decode c_Mo_unit 22 = .ok (.iload_n 3, 1) := by decide +kernel
theorem d_Mo_unit_23 : decode c_Mo_unit 23 = .ok (.iaload, 1) := by decide +kernel
theorem d_Mo_unit_24 : decode c_Mo_unit 24 = .ok (.goto 4, 3) := by decide +kernel
theorem d_Mo_unit_27 : decode c_Mo_unit 27 = .ok (.iconst (-1), 1) := by decide +kernel
theorem d_Mo_unit_28 : decode c_Mo_unit 28 = .ok (.ireturn, 1) := by decide +kernel
theorem d_Mo_distance_0 : decode c_Mo_distance 0 = .ok (.iconst 0, 1) := by decide +kernel
theorem d_Mo_distance_1 : decode c_Mo_distance 1 = .ok (.istore_n 1, 1) := by decide +kernel
theorem d_Mo_distance_2 : decode c_Mo_distance 2 = .ok (.iload_n 1, 1) := by decide +kernel
theorem d_Mo_distance_3 : decode c_Mo_distance 3 = .ok (.aload_n 0, 1) := by decide +kernel
theorem d_Mo_distance_4 : decode c_Mo_distance 4 = .ok (.getfield 19, 3) := by decide +kernel
theorem d_Mo_distance_7 : decode c_Mo_distance 7 = .ok (.iconst 0, 1) := by decide +kernel
theorem d_Mo_distance_8 : decode c_Mo_distance 8 = .ok (.iaload, 1) := by decide +kernel
theorem d_Mo_distance_9 : decode c_Mo_distance 9 = .ok (.if_icmp .gt 164, 3) := by decide +kernel
theorem d_Mo_distance_12 : decode c_Mo_distance 12 = .ok (.iconst 0, 1) := by decide +kernel
theorem d_Mo_distance_13 : decode c_Mo_distance 13 = .ok (.istore_n 2, 1) := by decide +kernel
theorem d_Mo_distance_14 : decode c_Mo_distance 14 = .ok (.iload_n 2, 1) := by decide +kernel
theorem d_Mo_distance_15 : decode c_Mo_distance 15 = .ok (.aload_n 0, 1) := by decide +kernel
theorem d_Mo_distance_16 : decode c_Mo_distance 16 = .ok (.getfield 19, 3) := by decide +kernel
theorem d_Mo_distance_19 : decode c_Mo_distance 19 = .ok (.iconst 1, 1) := by decide +kernel
theorem d_Mo_distance_20 : decode c_Mo_distance 20 = .ok (.iaload, 1) := by decide +kernel
theorem d_Mo_distance_21 : decode c_Mo_distance 21 = .ok (.if_icmp .gt 146, 3) := by decide +kernel
theorem d_Mo_distance_24 : decode c_Mo_distance 24 = .ok (.iload_n 1, 1) := by decide +kernel
theorem d_Mo_distance_25 : decode c_Mo_distance 25 = .ok (.ifCond .ne 7, 3) := by decide +kernel
theorem d_Mo_distance_28 : decode c_Mo_distance 28 = .ok (.iload_n 2, 1) := by decide +kernel
theorem d_Mo_distance_29 : decode c_Mo_distance 29 = .ok (.goto 51, 3) := by decide +kernel
theorem d_Mo_distance_32 : decode c_Mo_distance 32 = .ok (.iload_n 2, 1) := by decide +kernel
theorem d_Mo_distance_33 : decode c_Mo_distance 33 = .ok (.ifCond .ne 7, 3) := by decide +kernel
theorem d_Mo_distance_36 : decode c_Mo_distance 36 = .ok (.iload_n 1, 1) := by decide +kernel
theorem d_Mo_distance_37 : decode c_Mo_distance 37 = .ok (.goto 43, 3) := by decide +kernel
theorem d_Mo_distance_40 : decode c_Mo_distance 40 = .ok (.aload_n 0, 1) := by decide +kernel
theorem d_Mo_distance_41 : decode c_Mo_distance 41 = .ok (.getfield 22, 3) := by decide +kernel
theorem d_Mo_distance_44 : decode c_Mo_distance 44 = .ok (.bipush 13, 2) := by decide +kernel
theorem d_Mo_distance_46 : decode c_Mo_distance 46 = .ok (.iload_n 1, 1) := by decide +kernel
theorem d_Mo_distance_47 : decode c_Mo_distance 47 = .ok (.iconst 1, 1) := by decide +kernel
theorem d_Mo_distance_48 : decode c_Mo_distance 48 = .ok (.isub, 1) := by decide +kernel
theorem d_Mo_distance_49 : decode c_Mo_distance 49 = .ok (.imul, 1) := by decide +kernel
theorem d_Mo_distance_50 : decode c_Mo_distance 50 = .ok (.iload_n 2, 1) := by decide +kernel
theorem d_Mo_distance_51 : decode c_Mo_distance 51 = .ok (.iadd, 1) := by decide +kernel
theorem d_Mo_distance_52 : decode c_Mo_distance 52 = .ok (.iconst 1, 1) := by decide +kernel
theorem d_Mo_distance_53 : decode c_Mo_distance 53 = .ok (.isub, 1) := by decide +kernel
theorem d_Mo_distance_54 : decode c_Mo_distance 54 = .ok (.iaload, 1) := by decide +kernel
theorem d_Mo_distance_55 : decode c_Mo_distance 55 = .ok (.aload_n 0, 1) := by decide +kernel
theorem d_Mo_distance_56 : decode c_Mo_distance 56 = .ok (.iconst 0, 1) := by decide +kernel
theorem d_Mo_distance_57 : decode c_Mo_distance 57 = .ok (.iload_n 1, 1) := by decide +kernel
theorem d_Mo_distance_58 : decode c_Mo_distance 58 = .ok (.iconst 1, 1) := by decide +kernel
theorem d_Mo_distance_59 : decode c_Mo_distance 59 = .ok (.isub, 1) := by decide +kernel
theorem d_Mo_distance_60 : decode c_Mo_distance 60 = .ok (.invokevirtual 80, 3) := by decide +kernel
theorem d_Mo_distance_63 : decode c_Mo_distance 63 = .ok (.aload_n 0, 1) := by decide +kernel
theorem d_Mo_distance_64 : decode c_Mo_distance 64 = .ok (.iconst 1, 1) := by decide +kernel
theorem d_Mo_distance_65 : decode c_Mo_distance 65 = .ok (.iload_n 2, 1) := by decide +kernel
theorem d_Mo_distance_66 : decode c_Mo_distance 66 = .ok (.iconst 1, 1) := by decide +kernel
theorem d_Mo_distance_67 : decode c_Mo_distance 67 = .ok (.isub, 1) := by decide +kernel
theorem d_Mo_distance_68 : decode c_Mo_distance 68 = .ok (.invokevirtual 80, 3) := by decide +kernel
theorem d_Mo_distance_71 : decode c_Mo_distance 71 = .ok (.if_icmp .ne 7, 3) := by decide +kernel
theorem d_Mo_distance_74 : decode c_Mo_distance 74 = .ok (.iconst 0, 1) := by decide +kernel
theorem d_Mo_distance_75 : decode c_Mo_distance 75 = .ok (.goto 4, 3) := by decide +kernel
theorem d_Mo_distance_78 : decode c_Mo_distance 78 = .ok (.iconst 1, 1) := by decide +kernel
theorem d_Mo_distance_79 : decode c_Mo_distance 79 = .ok (.iadd, 1) := by decide +kernel
theorem d_Mo_distance_80 : decode c_Mo_distance 80 = .ok (.istore_n 3, 1) := by decide +kernel
theorem d_Mo_distance_81 : decode c_Mo_distance 81 = .ok (.iload_n 1, 1) := by decide +kernel
theorem d_Mo_distance_82 : decode c_Mo_distance 82 = .ok (.ifCond .le 67, 3) := by decide +kernel
theorem d_Mo_distance_85 : decode c_Mo_distance 85 = .ok (.iload_n 2, 1) := by decide +kernel
theorem d_Mo_distance_86 : decode c_Mo_distance 86 = .ok (.ifCond .le 63, 3) := by decide +kernel
theorem d_Mo_distance_89 : decode c_Mo_distance 89 = .ok (.aload_n 0, 1) := by decide +kernel
theorem d_Mo_distance_90 : decode c_Mo_distance 90 = .ok (.getfield 22, 3) := by decide +kernel
theorem d_Mo_distance_93 : decode c_Mo_distance 93 = .ok (.bipush 13, 2) := by decide +kernel
theorem d_Mo_distance_95 : decode c_Mo_distance 95 = .ok (.iload_n 1, 1) := by decide +kernel
theorem d_Mo_distance_96 : decode c_Mo_distance 96 = .ok (.iconst 1, 1) := by decide +kernel
theorem d_Mo_distance_97 : decode c_Mo_distance 97 = .ok (.isub, 1) := by decide +kernel
theorem d_Mo_distance_98 : decode c_Mo_distance 98 = .ok (.imul, 1) := by decide +kernel
theorem d_Mo_distance_99 : decode c_Mo_distance 99 = .ok (.iload_n 2, 1) := by decide +kernel
theorem d_Mo_distance_100 : decode c_Mo_distance 100 = .ok (.iadd, 1) := by decide +kernel
theorem d_Mo_distance_101 : decode c_Mo_distance 101 = .ok (.iaload, 1) := by decide +kernel
theorem d_Mo_distance_102 : decode c_Mo_distance 102 = .ok (.iconst 1, 1) := by decide +kernel
theorem d_Mo_distance_103 : decode c_Mo_distance 103 = .ok (.iadd, 1) := by decide +kernel
theorem d_Mo_distance_104 : decode c_Mo_distance 104 = .ok (.istore 4, 2) := by decide +kernel
theorem d_Mo_distance_106 : decode c_Mo_distance 106 = .ok (.aload_n 0, 1) := by decide +kernel
theorem d_Mo_distance_107 : decode c_Mo_distance 107 = .ok (.getfield 22, 3) := by decide +kernel
theorem d_Mo_distance_110 : decode c_Mo_distance 110 = .ok (.bipush 13, 2) := by decide +kernel
theorem d_Mo_distance_112 : decode c_Mo_distance 112 = .ok (.iload_n 1, 1) := by decide +kernel
theorem d_Mo_distance_113 : decode c_Mo_distance 113 = .ok (.imul, 1) := by decide +kernel
theorem d_Mo_distance_114 : decode c_Mo_distance 114 = .ok (.iload_n 2, 1) := by decide +kernel
theorem d_Mo_distance_115 : decode c_Mo_distance 115 = .ok (.iadd, 1) := by decide +kernel
theorem d_Mo_distance_116 : decode c_Mo_distance 116 = .ok (.iconst 1, 1) := by decide +kernel
theorem d_Mo_distance_117 : decode c_Mo_distance 117 = .ok (.isub, 1) := by decide +kernel
theorem d_Mo_distance_118 : decode c_Mo_distance 118 = .ok (.iaload, 1) := by decide +kernel
theorem d_Mo_distance_119 : decode c_Mo_distance 119 = .ok (.iconst 1, 1) := by decide +kernel
theorem d_Mo_distance_120 : decode c_Mo_distance 120 = .ok (.iadd, 1) := by decide +kernel
theorem d_Mo_distance_121 : decode c_Mo_distance 121 = .ok (.istore 5, 2) := by decide +kernel
theorem d_Mo_distance_123 : decode c_Mo_distance 123 = .ok (.iload 4, 2) := by decide +kernel
theorem d_Mo_distance_125 : decode c_Mo_distance 125 = .ok (.iload_n 3, 1) := by decide +kernel
theorem d_Mo_distance_126 : decode c_Mo_distance 126 = .ok (.if_icmp .ge 8, 3) := by decide +kernel
theorem d_Mo_distance_129 : decode c_Mo_distance 129 = .ok (.iload 4, 2) := by decide +kernel
theorem d_Mo_distance_131 : decode c_Mo_distance 131 = .ok (.goto 4, 3) := by decide +kernel
theorem d_Mo_distance_134 : decode c_Mo_distance 134 = .ok (.iload_n 3, 1) := by decide +kernel
theorem d_Mo_distance_135 : decode c_Mo_distance 135 = .ok (.istore_n 3, 1) := by decide +kernel
theorem d_Mo_distance_136 : decode c_Mo_distance 136 = .ok (.iload 5, 2) := by decide +kernel
theorem d_Mo_distance_138 : decode c_Mo_distance 138 = .ok (.iload_n 3, 1) := by decide +kernel
theorem d_Mo_distance_139 : decode c_Mo_distance 139 = .ok (.if_icmp .ge 8, 3) := by decide +kernel
theorem d_Mo_distance_142 : decode c_Mo_distance 142 = .ok (.iload 5, 2) := by decide +kernel
theorem d_Mo_distance_144 : decode c_Mo_distance 144 = .ok (.goto 4, 3) := by decide +kernel
theorem d_Mo_distance_147 : decode c_Mo_distance 147 = .ok (.iload_n 3, 1) := by decide +kernel
theorem d_Mo_distance_148 : decode c_Mo_distance 148 = .ok (.istore_n 3, 1) := by decide +kernel
theorem d_Mo_distance_149 : decode c_Mo_distance 149 = .ok (.aload_n 0, 1) := by decide +kernel
theorem d_Mo_distance_150 : decode c_Mo_distance 150 = .ok (.getfield 22, 3) := by decide +kernel
theorem d_Mo_distance_153 : decode c_Mo_distance 153 = .ok (.bipush 13, 2) := by decide +kernel
theorem d_Mo_distance_155 : decode c_Mo_distance 155 = .ok (.iload_n 1, 1) := by decide +kernel
theorem d_Mo_distance_156 : decode c_Mo_distance 156 = .ok (.imul, 1) := by decide +kernel
theorem d_Mo_distance_157 : decode c_Mo_distance 157 = .ok (.iload_n 2, 1) := by decide +kernel
theorem d_Mo_distance_158 : decode c_Mo_distance 158 = .ok (.iadd, 1) := by decide +kernel
theorem d_Mo_distance_159 : decode c_Mo_distance 159 = .ok (.iload_n 3, 1) := by decide +kernel
theorem d_Mo_distance_160 : decode c_Mo_distance 160 = .ok (.iastore, 1) := by decide +kernel
theorem d_Mo_distance_161 : decode c_Mo_distance 161 = .ok (.iinc 2 1, 3) := by decide +kernel
theorem d_Mo_distance_164 : decode c_Mo_distance 164 = .ok (.goto (-150), 3) := by decide +kernel
theorem d_Mo_distance_167 : decode c_Mo_distance 167 = .ok (.iinc 1 1, 3) := by decide +kernel
theorem d_Mo_distance_170 : decode c_Mo_distance 170 = .ok (.goto (-168), 3) := by decide +kernel
theorem d_Mo_distance_173 : decode c_Mo_distance 173 = .ok (.aload_n 0, 1) := by decide +kernel
theorem d_Mo_distance_174 : decode c_Mo_distance 174 = .ok (.getfield 22, 3) := by decide +kernel
theorem d_Mo_distance_177 : decode c_Mo_distance 177 = .ok (.bipush 13, 2) := by decide +kernel
theorem d_Mo_distance_179 : decode c_Mo_distance 179 = .ok (.aload_n 0, 1) := by decide +kernel
theorem d_Mo_distance_180 : decode c_Mo_distance 180 = .ok (.getfield 19, 3) := by decide +kernel
theorem d_Mo_distance_183 : decode c_Mo_distance 183 = .ok (.iconst 0, 1) := by decide +kernel
theorem d_Mo_distance_184 : decode c_Mo_distance 184 = .ok (.iaload, 1) := by decide +kernel
theorem d_Mo_distance_185 : decode c_Mo_distance 185 = .ok (.imul, 1) := by decide +kernel
theorem d_Mo_distance_186 : decode c_Mo_distance 186 = .ok (.aload_n 0, 1) := by decide +kernel
theorem d_Mo_distance_187 : decode c_Mo_distance 187 = .ok (.getfield 19, 3) := by decide +kernel
theorem d_Mo_distance_190 : decode c_Mo_distance 190 = .ok (.iconst 1, 1) := by decide +kernel
theorem d_Mo_distance_191 : decode c_Mo_distance 191 = .ok (.iaload, 1) := by decide +kernel
theorem d_Mo_distance_192 : decode c_Mo_distance 192 = .ok (.iadd, 1) := by decide +kernel
theorem d_Mo_distance_193 : decode c_Mo_distance 193 = .ok (.iaload, 1) := by decide +kernel
theorem d_Mo_distance_194 : decode c_Mo_distance 194 = .ok (.ireturn, 1) := by decide +kernel
theorem d_Mo_marks_0 : decode c_Mo_marks 0 = .ok (.aload_n 0, 1) := by decide +kernel
theorem d_Mo_marks_1 : decode c_Mo_marks 1 = .ok (.getfield 37, 3) := by decide +kernel
theorem d_Mo_marks_4 : decode c_Mo_marks 4 = .ok (.aload_n 0, 1) := by decide +kernel
theorem d_Mo_marks_5 : decode c_Mo_marks 5 = .ok (.getfield 109, 3) := by decide +kernel
theorem d_Mo_marks_8 : decode c_Mo_marks 8 = .ok (.iaload, 1) := by decide +kernel
theorem d_Mo_marks_9 : decode c_Mo_marks 9 = .ok (.ireturn, 1) := by decide +kernel
theorem d_Mo_mark_0 : decode c_Mo_mark 0 = .ok (.aload_n 0, 1) := by decide +kernel
theorem d_Mo_mark_1 : decode c_Mo_mark 1 = .ok (.invokevirtual 112, 3) := by decide +kernel
theorem d_Mo_mark_4 : decode c_Mo_mark 4 = .ok (.istore 5, 2) := by decide +kernel
theorem d_Mo_mark_6 : decode c_Mo_mark 6 = .ok (.aload_n 0, 1) := by decide +kernel
theorem d_Mo_mark_7 : decode c_Mo_mark 7 = .ok (.getfield 25, 3) := by decide +kernel
theorem d_Mo_mark_10 : decode c_Mo_mark 10 = .ok (.iload 5, 2) := by decide +kernel
theorem d_Mo_mark_12 : decode c_Mo_mark 12 = .ok (.iload_n 1, 1) := by decide +kernel
theorem d_Mo_mark_13 : decode c_Mo_mark 13 = .ok (.iastore, 1) := by decide +kernel
theorem d_Mo_mark_14 : decode c_Mo_mark 14 = .ok (.aload_n 0, 1) := by decide +kernel
theorem d_Mo_mark_15 : decode c_Mo_mark 15 = .ok (.getfield 28, 3) := by decide +kernel
theorem d_Mo_mark_18 : decode c_Mo_mark 18 = .ok (.iload 5, 2) := by decide +kernel
theorem d_Mo_mark_20 : decode c_Mo_mark 20 = .ok (.iload_n 2, 1) := by decide +kernel
theorem d_Mo_mark_21 : decode c_Mo_mark 21 = .ok (.iastore, 1) := by decide +kernel
theorem d_Mo_mark_22 : decode c_Mo_mark 22 = .ok (.aload_n 0, 1) := by decide +kernel
theorem d_Mo_mark_23 : decode c_Mo_mark 23 = .ok (.getfield 31, 3) := by decide +kernel
theorem d_Mo_mark_26 : decode c_Mo_mark 26 = .ok (.iload 5, 2) := by decide +kernel
theorem d_Mo_mark_28 : decode c_Mo_mark 28 = .ok (.iload_n 3, 1) := by decide +kernel
theorem d_Mo_mark_29 : decode c_Mo_mark 29 = .ok (.iastore, 1) := by decide +kernel
theorem d_Mo_mark_30 : decode c_Mo_mark 30 = .ok (.aload_n 0, 1) := by decide +kernel
theorem d_Mo_mark_31 : decode c_Mo_mark 31 = .ok (.getfield 34, 3) := by decide +kernel
theorem d_Mo_mark_34 : decode c_Mo_mark 34 = .ok (.iload 5, 2) := by decide +kernel
theorem d_Mo_mark_36 : decode c_Mo_mark 36 = .ok (.iload 4, 2) := by decide +kernel
theorem d_Mo_mark_38 : decode c_Mo_mark 38 = .ok (.iastore, 1) := by decide +kernel
theorem d_Mo_mark_39 : decode c_Mo_mark 39 = .ok (.return_, 1) := by decide +kernel
theorem d_Mo_push_0 : decode c_Mo_push 0 = .ok (.aload_n 0, 1) := by decide +kernel
theorem d_Mo_push_1 : decode c_Mo_push 1 = .ok (.invokevirtual 112, 3) := by decide +kernel
theorem d_Mo_push_4 : decode c_Mo_push 4 = .ok (.iconst 1, 1) := by decide +kernel
theorem d_Mo_push_5 : decode c_Mo_push 5 = .ok (.iadd, 1) := by decide +kernel
theorem d_Mo_push_6 : decode c_Mo_push 6 = .ok (.istore_n 1, 1) := by decide +kernel
theorem d_Mo_push_7 : decode c_Mo_push 7 = .ok (.aload_n 0, 1) := by decide +kernel
theorem d_Mo_push_8 : decode c_Mo_push 8 = .ok (.dup, 1) := by decide +kernel
theorem d_Mo_push_9 : decode c_Mo_push 9 = .ok (.getfield 109, 3) := by decide +kernel
theorem d_Mo_push_12 : decode c_Mo_push 12 = .ok (.iconst 1, 1) := by decide +kernel
theorem d_Mo_push_13 : decode c_Mo_push 13 = .ok (.iadd, 1) := by decide +kernel
theorem d_Mo_push_14 : decode c_Mo_push 14 = .ok (.putfield 109, 3) := by decide +kernel
theorem d_Mo_push_17 : decode c_Mo_push 17 = .ok (.aload_n 0, 1) := by decide +kernel
theorem d_Mo_push_18 : decode c_Mo_push 18 = .ok (.getfield 37, 3) := by decide +kernel
theorem d_Mo_push_21 : decode c_Mo_push 21 = .ok (.aload_n 0, 1) := by decide +kernel
theorem d_Mo_push_22 : decode c_Mo_push 22 = .ok (.getfield 109, 3) := by decide +kernel
theorem d_Mo_push_25 : decode c_Mo_push 25 = .ok (.iload_n 1, 1) := by decide +kernel
theorem d_Mo_push_26 : decode c_Mo_push 26 = .ok (.iastore, 1) := by decide +kernel
theorem d_Mo_push_27 : decode c_Mo_push 27 = .ok (.return_, 1) := by decide +kernel
theorem d_Mo_jaccard_0 : decode c_Mo_jaccard 0 = .ok (.iload_n 1, 1) := by decide +kernel
theorem d_Mo_jaccard_1 : decode c_Mo_jaccard 1 = .ok (.invokestatic 69, 3) := by decide +kernel
theorem d_Mo_jaccard_4 : decode c_Mo_jaccard 4 = .ok (.ifCond .eq 28, 3) := by decide +kernel
theorem d_Mo_jaccard_7 : decode c_Mo_jaccard 7 = .ok (.iload_n 2, 1) := by decide +kernel
theorem d_Mo_jaccard_8 : decode c_Mo_jaccard 8 = .ok (.iconst 1, 1) := by decide +kernel
theorem d_Mo_jaccard_9 : decode c_Mo_jaccard 9 = .ok (.if_icmp .lt 23, 3) := by decide +kernel
theorem d_Mo_jaccard_12 : decode c_Mo_jaccard 12 = .ok (.iload_n 2, 1) := by decide +kernel
theorem d_Mo_jaccard_13 : decode c_Mo_jaccard 13 = .ok (.iload_n 3, 1) := by decide +kernel
theorem d_Mo_jaccard_14 : decode c_Mo_jaccard 14 = .ok (.if_icmp .gt 18, 3) := by decide +kernel
theorem d_Mo_jaccard_17 : decode c_Mo_jaccard 17 = .ok (.iload_n 3, 1) := by decide +kernel
theorem d_Mo_jaccard_18 : decode c_Mo_jaccard 18 = .ok (.bipush 100, 2) := by decide +kernel
theorem d_Mo_jaccard_20 : decode c_Mo_jaccard 20 = .ok (.if_icmp .gt 12, 3) := by decide +kernel
theorem d_Mo_jaccard_23 : decode c_Mo_jaccard 23 = .ok (.aload_n 0, 1) := by decide +kernel
theorem d_Mo_jaccard_24 : decode c_Mo_jaccard 24 = .ok (.getfield 109, 3) := by decide +kernel
theorem d_Mo_jaccard_27 : decode c_Mo_jaccard 27 = .ok (.bipush 6, 2) := by decide +kernel
theorem d_Mo_jaccard_29 : decode c_Mo_jaccard 29 = .ok (.if_icmp .ne 5, 3) := by decide +kernel
theorem d_Mo_jaccard_32 : decode c_Mo_jaccard 32 = .ok (.iconst 0, 1) := by decide +kernel
theorem d_Mo_jaccard_33 : decode c_Mo_jaccard 33 = .ok (.ireturn, 1) := by decide +kernel
theorem d_Mo_jaccard_34 : decode c_Mo_jaccard 34 = .ok (.aload_n 0, 1) := by decide +kernel
theorem d_Mo_jaccard_35 : decode c_Mo_jaccard 35 = .ok (.iconst 0, 1) := by decide +kernel
theorem d_Mo_jaccard_36 : decode c_Mo_jaccard 36 = .ok (.iload_n 1, 1) := by decide +kernel
theorem d_Mo_jaccard_37 : decode c_Mo_jaccard 37 = .ok (.iload_n 2, 1) := by decide +kernel
theorem d_Mo_jaccard_38 : decode c_Mo_jaccard 38 = .ok (.iload_n 3, 1) := by decide +kernel
theorem d_Mo_jaccard_39 : decode c_Mo_jaccard 39 = .ok (.invokevirtual 116, 3) := by decide +kernel
theorem d_Mo_jaccard_42 : decode c_Mo_jaccard 42 = .ok (.aload_n 0, 1) := by decide +kernel
theorem d_Mo_jaccard_43 : decode c_Mo_jaccard 43 = .ok (.invokevirtual 120, 3) := by decide +kernel
theorem d_Mo_jaccard_46 : decode c_Mo_jaccard 46 = .ok (.iconst 1, 1) := by decide +kernel
theorem d_Mo_jaccard_47 : decode c_Mo_jaccard 47 = .ok (.ireturn, 1) := by decide +kernel
theorem d_Mo_edit_0 : decode c_Mo_edit 0 = .ok (.iload_n 1, 1) := by decide +kernel
theorem d_Mo_edit_1 : decode c_Mo_edit 1 = .ok (.invokestatic 69, 3) := by decide +kernel
theorem d_Mo_edit_4 : decode c_Mo_edit 4 = .ok (.ifCond .eq 22, 3) := by decide +kernel
theorem d_Mo_edit_7 : decode c_Mo_edit 7 = .ok (.iload_n 2, 1) := by decide +kernel
theorem d_Mo_edit_8 : decode c_Mo_edit 8 = .ok (.ifCond .lt 18, 3) := by decide +kernel
theorem d_Mo_edit_11 : decode c_Mo_edit 11 = .ok (.iload_n 2, 1) := by decide +kernel
theorem d_Mo_edit_12 : decode c_Mo_edit 12 = .ok (.bipush 8, 2) := by decide +kernel
theorem d_Mo_edit_14 : decode c_Mo_edit 14 = .ok (.if_icmp .gt 12, 3) := by decide +kernel
theorem d_Mo_edit_17 : decode c_Mo_edit 17 = .ok (.aload_n 0, 1) := by decide +kernel
theorem d_Mo_edit_18 : decode c_Mo_edit 18 = .ok (.getfield 109, 3) := by decide +kernel
theorem d_Mo_edit_21 : decode c_Mo_edit 21 = .ok (.bipush 6, 2) := by decide +kernel
theorem d_Mo_edit_23 : decode c_Mo_edit 23 = .ok (.if_icmp .ne 5, 3) := by decide +kernel
theorem d_Mo_edit_26 : decode c_Mo_edit 26 = .ok (.iconst 0, 1) := by decide +kernel
theorem d_Mo_edit_27 : decode c_Mo_edit 27 = .ok (.ireturn, 1) := by decide +kernel
theorem d_Mo_edit_28 : decode c_Mo_edit 28 = .ok (.aload_n 0, 1) := by decide +kernel
theorem d_Mo_edit_29 : decode c_Mo_edit 29 = .ok (.iconst 1, 1) := by decide +kernel
theorem d_Mo_edit_30 : decode c_Mo_edit 30 = .ok (.iload_n 1, 1) := by decide +kernel
theorem d_Mo_edit_31 : decode c_Mo_edit 31 = .ok (.iconst 0, 1) := by decide +kernel
theorem d_Mo_edit_32 : decode c_Mo_edit 32 = .ok (.iload_n 2, 1) := by decide +kernel
theorem d_Mo_edit_33 : decode c_Mo_edit 33 = .ok (.invokevirtual 116, 3) := by decide +kernel
theorem d_Mo_edit_36 : decode c_Mo_edit 36 = .ok (.aload_n 0, 1) := by decide +kernel
theorem d_Mo_edit_37 : decode c_Mo_edit 37 = .ok (.invokevirtual 120, 3) := by decide +kernel
theorem d_Mo_edit_40 : decode c_Mo_edit 40 = .ok (.iconst 1, 1) := by decide +kernel
theorem d_Mo_edit_41 : decode c_Mo_edit 41 = .ok (.ireturn, 1) := by decide +kernel
theorem d_Mo_leaves_0 : decode c_Mo_leaves 0 = .ok (.iconst 0, 1) := by decide +kernel
theorem d_Mo_leaves_1 : decode c_Mo_leaves 1 = .ok (.istore_n 3, 1) := by decide +kernel
theorem d_Mo_leaves_2 : decode c_Mo_leaves 2 = .ok (.iload_n 1, 1) := by decide +kernel
theorem d_Mo_leaves_3 : decode c_Mo_leaves 3 = .ok (.istore 4, 2) := by decide +kernel
theorem d_Mo_leaves_5 : decode c_Mo_leaves 5 = .ok (.iload 4, 2) := by decide +kernel
theorem d_Mo_leaves_7 : decode c_Mo_leaves 7 = .ok (.iload_n 2, 1) := by decide +kernel
theorem d_Mo_leaves_8 : decode c_Mo_leaves 8 = .ok (.if_icmp .ge 28, 3) := by decide +kernel
theorem d_Mo_leaves_11 : decode c_Mo_leaves 11 = .ok (.iload_n 3, 1) := by decide +kernel
theorem d_Mo_leaves_12 : decode c_Mo_leaves 12 = .ok (.aload_n 0, 1) := by decide +kernel
theorem d_Mo_leaves_13 : decode c_Mo_leaves 13 = .ok (.getfield 25, 3) := by decide +kernel
theorem d_Mo_leaves_16 : decode c_Mo_leaves 16 = .ok (.iload 4, 2) := by decide +kernel
theorem d_Mo_leaves_18 : decode c_Mo_leaves 18 = .ok (.iaload, 1) := by decide +kernel
theorem d_Mo_leaves_19 : decode c_Mo_leaves 19 = .ok (.iconst 2, 1) := by decide +kernel
theorem d_Mo_leaves_20 : decode c_Mo_leaves 20 = .ok (.if_icmp .ge 7, 3) := by decide +kernel
theorem d_Mo_leaves_23 : decode c_Mo_leaves 23 = .ok (.iconst 1, 1) := by decide +kernel
theorem d_Mo_leaves_24 : decode c_Mo_leaves 24 = .ok (.goto 4, 3) := by decide +kernel
theorem d_Mo_leaves_27 : decode c_Mo_leaves 27 = .ok (.iconst 0, 1) := by decide +kernel
theorem d_Mo_leaves_28 : decode c_Mo_leaves 28 = .ok (.iadd, 1) := by decide +kernel
theorem d_Mo_leaves_29 : decode c_Mo_leaves 29 = .ok (.istore_n 3, 1) := by decide +kernel
theorem d_Mo_leaves_30 : decode c_Mo_leaves 30 = .ok (.iinc 4 1, 3) := by decide +kernel
theorem d_Mo_leaves_33 : decode c_Mo_leaves 33 = .ok (.goto (-28), 3) := by decide +kernel
theorem d_Mo_leaves_36 : decode c_Mo_leaves 36 = .ok (.iload_n 3, 1) := by decide +kernel
theorem d_Mo_leaves_37 : decode c_Mo_leaves 37 = .ok (.ireturn, 1) := by decide +kernel
theorem d_Mo_join_0 : decode c_Mo_join 0 = .ok (.aload_n 0, 1) := by decide +kernel
theorem d_Mo_join_1 : decode c_Mo_join 1 = .ok (.getfield 109, 3) := by decide +kernel
theorem d_Mo_join_4 : decode c_Mo_join 4 = .ok (.iconst 2, 1) := by decide +kernel
theorem d_Mo_join_5 : decode c_Mo_join 5 = .ok (.if_icmp .lt 27, 3) := by decide +kernel
theorem d_Mo_join_8 : decode c_Mo_join 8 = .ok (.aload_n 0, 1) := by decide +kernel
theorem d_Mo_join_9 : decode c_Mo_join 9 = .ok (.aload_n 0, 1) := by decide +kernel
theorem d_Mo_join_10 : decode c_Mo_join 10 = .ok (.getfield 37, 3) := by decide +kernel
theorem d_Mo_join_13 : decode c_Mo_join 13 = .ok (.aload_n 0, 1) := by decide +kernel
theorem d_Mo_join_14 : decode c_Mo_join 14 = .ok (.getfield 109, 3) := by decide +kernel
theorem d_Mo_join_17 : decode c_Mo_join 17 = .ok (.iconst 2, 1) := by decide +kernel
theorem d_Mo_join_18 : decode c_Mo_join 18 = .ok (.isub, 1) := by decide +kernel
theorem d_Mo_join_19 : decode c_Mo_join 19 = .ok (.iaload, 1) := by decide +kernel
theorem d_Mo_join_20 : decode c_Mo_join 20 = .ok (.aload_n 0, 1) := by decide +kernel
theorem d_Mo_join_21 : decode c_Mo_join 21 = .ok (.invokevirtual 112, 3) := by decide +kernel
theorem d_Mo_join_24 : decode c_Mo_join 24 = .ok (.invokevirtual 123, 3) := by decide +kernel
theorem d_Mo_join_27 : decode c_Mo_join 27 = .ok (.bipush 12, 2) := by decide +kernel
theorem d_Mo_join_29 : decode c_Mo_join 29 = .ok (.if_icmp .le 5, 3) := by decide +kernel
theorem d_Mo_join_32 : decode c_Mo_join 32 = .ok (.iconst 0, 1) := by decide +kernel
theorem d_Mo_join_33 : decode c_Mo_join 33 = .ok (.ireturn, 1) := by decide +kernel
theorem d_Mo_join_34 : decode c_Mo_join 34 = .ok (.aload_n 0, 1) := by decide +kernel
theorem d_Mo_join_35 : decode c_Mo_join 35 = .ok (.iload_n 1, 1) := by decide +kernel
theorem d_Mo_join_36 : decode c_Mo_join 36 = .ok (.ifCond .eq 7, 3) := by decide +kernel
theorem d_Mo_join_39 : decode c_Mo_join 39 = .ok (.iconst 2, 1) := by decide +kernel
theorem d_Mo_join_40 : decode c_Mo_join 40 = .ok (.goto 4, 3) := by decide +kernel
theorem d_Mo_join_43 : decode c_Mo_join 43 = .ok (.iconst 3, 1) := by decide +kernel
theorem d_Mo_join_44 : decode c_Mo_join 44 = .ok (.iconst 0, 1) := by decide +kernel
theorem d_Mo_join_45 : decode c_Mo_join 45 = .ok (.iconst 0, 1) := by decide +kernel
theorem d_Mo_join_46 : decode c_Mo_join 46 = .ok (.iconst 0, 1) := by decide +kernel
theorem d_Mo_join_47 : decode c_Mo_join 47 = .ok (.invokevirtual 116, 3) := by decide +kernel
theorem d_Mo_join_50 : decode c_Mo_join 50 = .ok (.aload_n 0, 1) := by decide +kernel
theorem d_Mo_join_51 : decode c_Mo_join 51 = .ok (.invokevirtual 112, 3) := by decide +kernel
theorem d_Mo_join_54 : decode c_Mo_join 54 = .ok (.iconst 1, 1) := by decide +kernel
theorem d_Mo_join_55 : decode c_Mo_join 55 = .ok (.iadd, 1) := by decide +kernel
theorem d_Mo_join_56 : decode c_Mo_join 56 = .ok (.istore_n 2, 1) := by decide +kernel
theorem d_Mo_join_57 : decode c_Mo_join 57 = .ok (.aload_n 0, 1) := by decide +kernel
theorem d_Mo_join_58 : decode c_Mo_join 58 = .ok (.dup, 1) := by decide +kernel
theorem d_Mo_join_59 : decode c_Mo_join 59 = .ok (.getfield 109, 3) := by decide +kernel
theorem d_Mo_join_62 : decode c_Mo_join 62 = .ok (.iconst 1, 1) := by decide +kernel
theorem d_Mo_join_63 : decode c_Mo_join 63 = .ok (.isub, 1) := by decide +kernel
theorem d_Mo_join_64 : decode c_Mo_join 64 = .ok (.putfield 109, 3) := by decide +kernel
theorem d_Mo_join_67 : decode c_Mo_join 67 = .ok (.aload_n 0, 1) := by decide +kernel
theorem d_Mo_join_68 : decode c_Mo_join 68 = .ok (.getfield 37, 3) := by decide +kernel
theorem d_Mo_join_71 : decode c_Mo_join 71 = .ok (.aload_n 0, 1) := by decide +kernel
theorem d_Mo_join_72 : decode c_Mo_join 72 = .ok (.getfield 109, 3) := by decide +kernel
theorem d_Mo_join_75 : decode c_Mo_join 75 = .ok (.iload_n 2, 1) := by decide +kernel
theorem d_Mo_join_76 : decode c_Mo_join 76 = .ok (.iastore, 1) := by decide +kernel
theorem d_Mo_join_77 : decode c_Mo_join 77 = .ok (.iconst 1, 1) := by decide +kernel
theorem d_Mo_join_78 : decode c_Mo_join 78 = .ok (.ireturn, 1) := by decide +kernel
theorem d_Mo_driven_0 : decode c_Mo_driven 0 = .ok (.iconst 0, 1) := by decide +kernel
theorem d_Mo_driven_1 : decode c_Mo_driven 1 = .ok (.istore_n 1, 1) := by decide +kernel
theorem d_Mo_driven_2 : decode c_Mo_driven 2 = .ok (.iconst 0, 1) := by decide +kernel
theorem d_Mo_driven_3 : decode c_Mo_driven 3 = .ok (.istore_n 2, 1) := by decide +kernel
theorem d_Mo_driven_4 : decode c_Mo_driven 4 = .ok (.iload_n 2, 1) := by decide +kernel
theorem d_Mo_driven_5 : decode c_Mo_driven 5 = .ok (.aload_n 0, 1) := by decide +kernel
theorem d_Mo_driven_6 : decode c_Mo_driven 6 = .ok (.invokevirtual 112, 3) := by decide +kernel
theorem d_Mo_driven_9 : decode c_Mo_driven 9 = .ok (.if_icmp .ge 119, 3) := by decide +kernel
theorem d_Mo_driven_12 : decode c_Mo_driven 12 = .ok (.aload_n 0, 1) := by decide +kernel
theorem d_Mo_driven_13 : decode c_Mo_driven 13 = .ok (.getfield 25, 3) := by decide +kernel
theorem d_Mo_driven_16 : decode c_Mo_driven 16 = .ok (.iload_n 2, 1) := by decide +kernel
theorem d_Mo_driven_17 : decode c_Mo_driven 17 = .ok (.iaload, 1) := by decide +kernel
theorem d_Mo_driven_18 : decode c_Mo_driven 18 = .ok (.iconst 2, 1) := by decide +kernel
theorem d_Mo_driven_19 : decode c_Mo_driven 19 = .ok (.if_icmp .ge 29, 3) := by decide +kernel
theorem d_Mo_driven_22 : decode c_Mo_driven 22 = .ok (.aload_n 0, 1) := by decide +kernel
theorem d_Mo_driven_23 : decode c_Mo_driven 23 = .ok (.getfield 52, 3) := by decide +kernel
theorem d_Mo_driven_26 : decode c_Mo_driven 26 = .ok (.iload_n 1, 1) := by decide +kernel
theorem d_Mo_driven_27 : decode c_Mo_driven 27 = .ok (.aload_n 0, 1) := by decide +kernel
theorem d_Mo_driven_28 : decode c_Mo_driven 28 = .ok (.getfield 25, 3) := by decide +kernel
theorem d_Mo_driven_31 : decode c_Mo_driven 31 = .ok (.iload_n 2, 1) := by decide +kernel
theorem d_Mo_driven_32 : decode c_Mo_driven 32 = .ok (.iaload, 1) := by decide +kernel
theorem d_Mo_driven_33 : decode c_Mo_driven 33 = .ok (.ifCond .ne 7, 3) := by decide +kernel
theorem d_Mo_driven_36 : decode c_Mo_driven 36 = .ok (.iconst 1, 1) := by decide +kernel
theorem d_Mo_driven_37 : decode c_Mo_driven 37 = .ok (.goto 4, 3) := by decide +kernel
theorem d_Mo_driven_40 : decode c_Mo_driven 40 = .ok (.iconst 0, 1) := by decide +kernel
theorem d_Mo_driven_41 : decode c_Mo_driven 41 = .ok (.bastore, 1) := by decide +kernel
theorem d_Mo_driven_42 : decode c_Mo_driven 42 = .ok (.iinc 1 1, 3) := by decide +kernel
theorem d_Mo_driven_45 : decode c_Mo_driven 45 = .ok (.goto 77, 3) := by decide +kernel
theorem d_Mo_driven_48 : decode c_Mo_driven 48 = .ok (.iinc 1 (-1), 3) := by decide +kernel
theorem d_Mo_driven_51 : decode c_Mo_driven 51 = .ok (.aload_n 0, 1) := by decide +kernel
theorem d_Mo_driven_52 : decode c_Mo_driven 52 = .ok (.getfield 52, 3) := by decide +kernel
theorem d_Mo_driven_55 : decode c_Mo_driven 55 = .ok (.iload_n 1, 1) := by decide +kernel
theorem d_Mo_driven_56 : decode c_Mo_driven 56 = .ok (.iconst 1, 1) := by decide +kernel
theorem d_Mo_driven_57 : decode c_Mo_driven 57 = .ok (.isub, 1) := by decide +kernel
theorem d_Mo_driven_58 : decode c_Mo_driven 58 = .ok (.aload_n 0, 1) := by decide +kernel
theorem d_Mo_driven_59 : decode c_Mo_driven 59 = .ok (.getfield 25, 3) := by decide +kernel
theorem d_Mo_driven_62 : decode c_Mo_driven 62 = .ok (.iload_n 2, 1) := by decide +kernel
theorem d_Mo_driven_63 : decode c_Mo_driven 63 = .ok (.iaload, 1) := by decide +kernel
theorem d_Mo_driven_64 : decode c_Mo_driven 64 = .ok (.iconst 2, 1) := by decide +kernel
theorem d_Mo_driven_65 : decode c_Mo_driven 65 = .ok (.if_icmp .ne 31, 3) := by decide +kernel
theorem d_Mo_driven_68 : decode c_Mo_driven 68 = .ok (.aload_n 0, 1) := by decide +kernel
theorem d_Mo_driven_69 : decode c_Mo_driven 69 = .ok (.getfield 52, 3) := by decide +kernel
theorem d_Mo_driven_72 : decode c_Mo_driven 72 = .ok (.iload_n 1, 1) := by decide +kernel
theorem d_Mo_driven_73 : decode c_Mo_driven 73 = .ok (.iconst 1, 1) := by decide +kernel
theorem d_Mo_driven_74 : decode c_Mo_driven 74 = .ok (.isub, 1) := by decide +kernel
theorem d_Mo_driven_75 : decode c_Mo_driven 75 = .ok (.baload, 1) := by decide +kernel
theorem d_Mo_driven_76 : decode c_Mo_driven 76 = .ok (.ifCond .ne 12, 3) := by decide +kernel
theorem d_Mo_driven_79 : decode c_Mo_driven 79 = .ok (.aload_n 0, 1) := by decide +kernel
theorem d_Mo_driven_80 : decode c_Mo_driven 80 = .ok (.getfield 52, 3) := by decide +kernel
theorem d_Mo_driven_83 : decode c_Mo_driven 83 = .ok (.iload_n 1, 1) := by decide +kernel
theorem d_Mo_driven_84 : decode c_Mo_driven 84 = .ok (.baload, 1) := by decide +kernel
theorem d_Mo_driven_85 : decode c_Mo_driven 85 = .ok (.ifCond .eq 7, 3) := by decide +kernel
theorem d_Mo_driven_88 : decode c_Mo_driven 88 = .ok (.iconst 1, 1) := by decide +kernel
theorem d_Mo_driven_89 : decode c_Mo_driven 89 = .ok (.goto 32, 3) := by decide +kernel
theorem d_Mo_driven_92 : decode c_Mo_driven 92 = .ok (.iconst 0, 1) := by decide +kernel
theorem d_Mo_driven_93 : decode c_Mo_driven 93 = .ok (.goto 28, 3) := by decide +kernel
theorem d_Mo_driven_96 : decode c_Mo_driven 96 = .ok (.aload_n 0, 1) := by decide +kernel
theorem d_Mo_driven_97 : decode c_Mo_driven 97 = .ok (.getfield 52, 3) := by decide +kernel
theorem d_Mo_driven_100 : decode c_Mo_driven 100 = .ok (.iload_n 1, 1) := by decide +kernel
theorem d_Mo_driven_101 : decode c_Mo_driven 101 = .ok (.iconst 1, 1) := by decide +kernel
theorem d_Mo_driven_102 : decode c_Mo_driven 102 = .ok (.isub, 1) := by decide +kernel
theorem d_Mo_driven_103 : decode c_Mo_driven 103 = .ok (.baload, 1) := by decide +kernel
theorem d_Mo_driven_104 : decode c_Mo_driven 104 = .ok (.ifCond .eq 16, 3) := by decide +kernel
theorem d_Mo_driven_107 : decode c_Mo_driven 107 = .ok (.aload_n 0, 1) := by decide +kernel
theorem d_Mo_driven_108 : decode c_Mo_driven 108 = .ok (.getfield 52, 3) := by decide +kernel
theorem d_Mo_driven_111 : decode c_Mo_driven 111 = .ok (.iload_n 1, 1) := by decide +kernel
theorem d_Mo_driven_112 : decode c_Mo_driven 112 = .ok (.baload, 1) := by decide +kernel
theorem d_Mo_driven_113 : decode c_Mo_driven 113 = .ok (.ifCond .eq 7, 3) := by decide +kernel
theorem d_Mo_driven_116 : decode c_Mo_driven 116 = .ok (.iconst 1, 1) := by decide +kernel
theorem d_Mo_driven_117 : decode c_Mo_driven 117 = .ok (.goto 4, 3) := by decide +kernel
theorem d_Mo_driven_120 : decode c_Mo_driven 120 = .ok (.iconst 0, 1) := by decide +kernel
theorem d_Mo_driven_121 : decode c_Mo_driven 121 = .ok (.bastore, 1) := by decide +kernel
theorem d_Mo_driven_122 : decode c_Mo_driven 122 = .ok (.iinc 2 1, 3) := by decide +kernel
theorem d_Mo_driven_125 : decode c_Mo_driven 125 = .ok (.goto (-121), 3) := by decide +kernel
theorem d_Mo_driven_128 : decode c_Mo_driven 128 = .ok (.aload_n 0, 1) := by decide +kernel
theorem d_Mo_driven_129 : decode c_Mo_driven 129 = .ok (.getfield 52, 3) := by decide +kernel
theorem d_Mo_driven_132 : decode c_Mo_driven 132 = .ok (.iconst 0, 1) := by decide +kernel
theorem d_Mo_driven_133 : decode c_Mo_driven 133 = .ok (.baload, 1) := by decide +kernel
theorem d_Mo_driven_134 : decode c_Mo_driven 134 = .ok (.ireturn, 1) := by decide +kernel
theorem d_Mo_accept_0 : decode c_Mo_accept 0 = .ok (.aload_n 0, 1) := by decide +kernel
theorem d_Mo_accept_1 : decode c_Mo_accept 1 = .ok (.getfield 109, 3) := by decide +kernel
theorem d_Mo_accept_4 : decode c_Mo_accept 4 = .ok (.iconst 1, 1) := by decide +kernel
theorem d_Mo_accept_5 : decode c_Mo_accept 5 = .ok (.if_icmp .eq 5, 3) := by decide +kernel
theorem d_Mo_accept_8 : decode c_Mo_accept 8 = .ok (.iconst (-1), 1) := by decide +kernel
theorem d_Mo_accept_9 : decode c_Mo_accept 9 = .ok (.ireturn, 1) := by decide +kernel
theorem d_Mo_accept_10 : decode c_Mo_accept 10 = .ok (.aload_n 0, 1) := by decide +kernel
theorem d_Mo_accept_11 : decode c_Mo_accept 11 = .ok (.invokevirtual 126, 3) := by decide +kernel
theorem d_Mo_accept_14 : decode c_Mo_accept 14 = .ok (.ifCond .ne 6, 3) := by decide +kernel
theorem d_Mo_accept_17 : decode c_Mo_accept 17 = .ok (.bipush (-3), 2) := by decide +kernel
theorem d_Mo_accept_19 : decode c_Mo_accept 19 = .ok (.ireturn, 1) := by decide +kernel
theorem d_Mo_accept_20 : decode c_Mo_accept 20 = .ok (.aload_n 0, 1) := by decide +kernel
theorem d_Mo_accept_21 : decode c_Mo_accept 21 = .ok (.iconst 0, 1) := by decide +kernel
theorem d_Mo_accept_22 : decode c_Mo_accept 22 = .ok (.aload_n 0, 1) := by decide +kernel
theorem d_Mo_accept_23 : decode c_Mo_accept 23 = .ok (.invokevirtual 112, 3) := by decide +kernel
theorem d_Mo_accept_26 : decode c_Mo_accept 26 = .ok (.invokevirtual 123, 3) := by decide +kernel
theorem d_Mo_accept_29 : decode c_Mo_accept 29 = .ok (.istore_n 1, 1) := by decide +kernel
theorem d_Mo_accept_30 : decode c_Mo_accept 30 = .ok (.aload_n 0, 1) := by decide +kernel
theorem d_Mo_accept_31 : decode c_Mo_accept 31 = .ok (.aload_n 0, 1) := by decide +kernel
theorem d_Mo_accept_32 : decode c_Mo_accept 32 = .ok (.invokevirtual 112, 3) := by decide +kernel
theorem d_Mo_accept_35 : decode c_Mo_accept 35 = .ok (.putfield 130, 3) := by decide +kernel
theorem d_Mo_accept_38 : decode c_Mo_accept 38 = .ok (.iconst 0, 1) := by decide +kernel
theorem d_Mo_accept_39 : decode c_Mo_accept 39 = .ok (.istore_n 2, 1) := by decide +kernel
theorem d_Mo_accept_40 : decode c_Mo_accept 40 = .ok (.iload_n 2, 1) := by decide +kernel
theorem d_Mo_accept_41 : decode c_Mo_accept 41 = .ok (.aload_n 0, 1) := by decide +kernel
theorem d_Mo_accept_42 : decode c_Mo_accept 42 = .ok (.getfield 130, 3) := by decide +kernel
theorem d_Mo_accept_45 : decode c_Mo_accept 45 = .ok (.if_icmp .ge 57, 3) := by decide +kernel
theorem d_Mo_accept_48 : decode c_Mo_accept 48 = .ok (.aload_n 0, 1) := by decide +kernel
theorem d_Mo_accept_49 : decode c_Mo_accept 49 = .ok (.getfield 40, 3) := by decide +kernel
theorem d_Mo_accept_52 : decode c_Mo_accept 52 = .ok (.iload_n 2, 1) := by decide +kernel
theorem d_Mo_accept_53 : decode c_Mo_accept 53 = .ok (.aload_n 0, 1) := by decide +kernel
theorem d_Mo_accept_54 : decode c_Mo_accept 54 = .ok (.getfield 25, 3) := by decide +kernel
theorem d_Mo_accept_57 : decode c_Mo_accept 57 = .ok (.iload_n 2, 1) := by decide +kernel
theorem d_Mo_accept_58 : decode c_Mo_accept 58 = .ok (.iaload, 1) := by decide +kernel
theorem d_Mo_accept_59 : decode c_Mo_accept 59 = .ok (.iastore, 1) := by decide +kernel
theorem d_Mo_accept_60 : decode c_Mo_accept 60 = .ok (.aload_n 0, 1) := by decide +kernel
theorem d_Mo_accept_61 : decode c_Mo_accept 61 = .ok (.getfield 43, 3) := by decide +kernel
theorem d_Mo_accept_64 : decode c_Mo_accept 64 = .ok (.iload_n 2, 1) := by decide +kernel
theorem d_Mo_accept_65 : decode c_Mo_accept 65 = .ok (.aload_n 0, 1) := by decide +kernel
theorem d_Mo_accept_66 : decode c_Mo_accept 66 = .ok (.getfield 28, 3) := by decide +kernel
theorem d_Mo_accept_69 : decode c_Mo_accept 69 = .ok (.iload_n 2, 1) := by decide +kernel
theorem d_Mo_accept_70 : decode c_Mo_accept 70 = .ok (.iaload, 1) := by decide +kernel
theorem d_Mo_accept_71 : decode c_Mo_accept 71 = .ok (.iastore, 1) := by decide +kernel
theorem d_Mo_accept_72 : decode c_Mo_accept 72 = .ok (.aload_n 0, 1) := by decide +kernel
theorem d_Mo_accept_73 : decode c_Mo_accept 73 = .ok (.getfield 46, 3) := by decide +kernel
theorem d_Mo_accept_76 : decode c_Mo_accept 76 = .ok (.iload_n 2, 1) := by decide +kernel
theorem d_Mo_accept_77 : decode c_Mo_accept 77 = .ok (.aload_n 0, 1) := by decide +kernel
theorem d_Mo_accept_78 : decode c_Mo_accept 78 = .ok (.getfield 31, 3) := by decide +kernel
theorem d_Mo_accept_81 : decode c_Mo_accept 81 = .ok (.iload_n 2, 1) := by decide +kernel
theorem d_Mo_accept_82 : decode c_Mo_accept 82 = .ok (.iaload, 1) := by decide +kernel
theorem d_Mo_accept_83 : decode c_Mo_accept 83 = .ok (.iastore, 1) := by decide +kernel
theorem d_Mo_accept_84 : decode c_Mo_accept 84 = .ok (.aload_n 0, 1) := by decide +kernel
theorem d_Mo_accept_85 : decode c_Mo_accept 85 = .ok (.getfield 49, 3) := by decide +kernel
theorem d_Mo_accept_88 : decode c_Mo_accept 88 = .ok (.iload_n 2, 1) := by decide +kernel
theorem d_Mo_accept_89 : decode c_Mo_accept 89 = .ok (.aload_n 0, 1) := by decide +kernel
theorem d_Mo_accept_90 : decode c_Mo_accept 90 = .ok (.getfield 34, 3) := by decide +kernel
theorem d_Mo_accept_93 : decode c_Mo_accept 93 = .ok (.iload_n 2, 1) := by decide +kernel
theorem d_Mo_accept_94 : decode c_Mo_accept 94 = .ok (.iaload, 1) := by decide +kernel
theorem d_Mo_accept_95 : decode c_Mo_accept 95 = .ok (.iastore, 1) := by decide +kernel
theorem d_Mo_accept_96 : decode c_Mo_accept 96 = .ok (.iinc 2 1, 3) := by decide +kernel
theorem d_Mo_accept_99 : decode c_Mo_accept 99 = .ok (.goto (-59), 3) := by decide +kernel
theorem d_Mo_accept_102 : decode c_Mo_accept 102 = .ok (.aload_n 0, 1) := by decide +kernel
theorem d_Mo_accept_103 : decode c_Mo_accept 103 = .ok (.iconst 0, 1) := by decide +kernel
theorem d_Mo_accept_104 : decode c_Mo_accept 104 = .ok (.putfield 109, 3) := by decide +kernel
theorem d_Mo_accept_107 : decode c_Mo_accept 107 = .ok (.aload_n 0, 1) := by decide +kernel
theorem d_Mo_accept_108 : decode c_Mo_accept 108 = .ok (.iconst 0, 1) := by decide +kernel
theorem d_Mo_accept_109 : decode c_Mo_accept 109 = .ok (.putfield 73, 3) := by decide +kernel
theorem d_Mo_accept_112 : decode c_Mo_accept 112 = .ok (.iload_n 1, 1) := by decide +kernel
theorem d_Mo_accept_113 : decode c_Mo_accept 113 = .ok (.ireturn, 1) := by decide +kernel
theorem d_Mo_discard_0 : decode c_Mo_discard 0 = .ok (.aload_n 0, 1) := by decide +kernel
theorem d_Mo_discard_1 : decode c_Mo_discard 1 = .ok (.getfield 109, 3) := by decide +kernel
theorem d_Mo_discard_4 : decode c_Mo_discard 4 = .ok (.ifCond .ne 5, 3) := by decide +kernel
theorem d_Mo_discard_7 : decode c_Mo_discard 7 = .ok (.iconst 0, 1) := by decide +kernel
theorem d_Mo_discard_8 : decode c_Mo_discard 8 = .ok (.ireturn, 1) := by decide +kernel
theorem d_Mo_discard_9 : decode c_Mo_discard 9 = .ok (.aload_n 0, 1) := by decide +kernel
theorem d_Mo_discard_10 : decode c_Mo_discard 10 = .ok (.dup, 1) := by decide +kernel
theorem d_Mo_discard_11 : decode c_Mo_discard 11 = .ok (.getfield 109, 3) := by decide +kernel
theorem d_Mo_discard_14 : decode c_Mo_discard 14 = .ok (.iconst 1, 1) := by decide +kernel
theorem d_Mo_discard_15 : decode c_Mo_discard 15 = .ok (.isub, 1) := by decide +kernel
theorem d_Mo_discard_16 : decode c_Mo_discard 16 = .ok (.putfield 109, 3) := by decide +kernel
theorem d_Mo_discard_19 : decode c_Mo_discard 19 = .ok (.iconst 1, 1) := by decide +kernel
theorem d_Mo_discard_20 : decode c_Mo_discard 20 = .ok (.ireturn, 1) := by decide +kernel
theorem d_Mo_leafHolds_0 : decode c_Mo_leafHolds 0 = .ok (.aload_n 0, 1) := by decide +kernel
theorem d_Mo_leafHolds_1 : decode c_Mo_leafHolds 1 = .ok (.iconst 0, 1) := by decide +kernel
theorem d_Mo_leafHolds_2 : decode c_Mo_leafHolds 2 = .ok (.iload_n 2, 1) := by decide +kernel
theorem d_Mo_leafHolds_3 : decode c_Mo_leafHolds 3 = .ok (.aload_n 0, 1) := by decide +kernel
theorem d_Mo_leafHolds_4 : decode c_Mo_leafHolds 4 = .ok (.getfield 43, 3) := by decide +kernel
theorem d_Mo_leafHolds_7 : decode c_Mo_leafHolds 7 = .ok (.iload_n 1, 1) := by decide +kernel
theorem d_Mo_leafHolds_8 : decode c_Mo_leafHolds 8 = .ok (.iaload, 1) := by decide +kernel
theorem d_Mo_leafHolds_9 : decode c_Mo_leafHolds 9 = .ok (.invokevirtual 98, 3) := by decide +kernel
theorem d_Mo_leafHolds_12 : decode c_Mo_leafHolds 12 = .ok (.aload_n 0, 1) := by decide +kernel
theorem d_Mo_leafHolds_13 : decode c_Mo_leafHolds 13 = .ok (.iconst 1, 1) := by decide +kernel
theorem d_Mo_leafHolds_14 : decode c_Mo_leafHolds 14 = .ok (.iload_n 3, 1) := by decide +kernel
theorem d_Mo_leafHolds_15 : decode c_Mo_leafHolds 15 = .ok (.aload_n 0, 1) := by decide +kernel
theorem d_Mo_leafHolds_16 : decode c_Mo_leafHolds 16 = .ok (.getfield 43, 3) := by decide +kernel
theorem d_Mo_leafHolds_19 : decode c_Mo_leafHolds 19 = .ok (.iload_n 1, 1) := by decide +kernel
theorem d_Mo_leafHolds_20 : decode c_Mo_leafHolds 20 = .ok (.iaload, 1) := by decide +kernel
theorem d_Mo_leafHolds_21 : decode c_Mo_leafHolds 21 = .ok (.invokevirtual 98, 3) := by decide +kernel
theorem d_Mo_leafHolds_24 : decode c_Mo_leafHolds 24 = .ok (.aload_n 0, 1) := by decide +kernel
theorem d_Mo_leafHolds_25 : decode c_Mo_leafHolds 25 = .ok (.getfield 40, 3) := by decide +kernel
theorem d_Mo_leafHolds_28 : decode c_Mo_leafHolds 28 = .ok (.iload_n 1, 1) := by decide +kernel
theorem d_Mo_leafHolds_29 : decode c_Mo_leafHolds 29 = .ok (.iaload, 1) := by decide +kernel
theorem d_Mo_leafHolds_30 : decode c_Mo_leafHolds 30 = .ok (.iconst 1, 1) := by decide +kernel
theorem d_Mo_leafHolds_31 : decode c_Mo_leafHolds 31 = .ok (.if_icmp .ne 22, 3) := by decide +kernel
theorem d_Mo_leafHolds_34 : decode c_Mo_leafHolds 34 = .ok (.aload_n 0, 1) := by decide +kernel
theorem d_Mo_leafHolds_35 : decode c_Mo_leafHolds 35 = .ok (.invokevirtual 133, 3) := by decide +kernel
theorem d_Mo_leafHolds_38 : decode c_Mo_leafHolds 38 = .ok (.aload_n 0, 1) := by decide +kernel
theorem d_Mo_leafHolds_39 : decode c_Mo_leafHolds 39 = .ok (.getfield 49, 3) := by decide +kernel
theorem d_Mo_leafHolds_42 : decode c_Mo_leafHolds 42 = .ok (.iload_n 1, 1) := by decide +kernel
theorem d_Mo_leafHolds_43 : decode c_Mo_leafHolds 43 = .ok (.iaload, 1) := by decide +kernel
theorem d_Mo_leafHolds_44 : decode c_Mo_leafHolds 44 = .ok (.if_icmp .gt 7, 3) := by decide +kernel
theorem d_Mo_leafHolds_47 : decode c_Mo_leafHolds 47 = .ok (.iconst 1, 1) := by decide +kernel
theorem d_Mo_leafHolds_48 : decode c_Mo_leafHolds 48 = .ok (.goto 4, 3) := by decide +kernel
theorem d_Mo_leafHolds_51 : decode c_Mo_leafHolds 51 = .ok (.iconst 0, 1) := by decide +kernel
theorem d_Mo_leafHolds_52 : decode c_Mo_leafHolds 52 = .ok (.ireturn, 1) := by decide +kernel
theorem d_Mo_leafHolds_53 : decode c_Mo_leafHolds 53 = .ok (.aload_n 0, 1) := by decide +kernel
theorem d_Mo_leafHolds_54 : decode c_Mo_leafHolds 54 = .ok (.iconst 0, 1) := by decide +kernel
theorem d_Mo_leafHolds_55 : decode c_Mo_leafHolds 55 = .ok (.iconst 1, 1) := by decide +kernel
theorem d_Mo_leafHolds_56 : decode c_Mo_leafHolds 56 = .ok (.iconst 1, 1) := by decide +kernel
theorem d_Mo_leafHolds_57 : decode c_Mo_leafHolds 57 = .ok (.invokevirtual 102, 3) := by decide +kernel
theorem d_Mo_leafHolds_60 : decode c_Mo_leafHolds 60 = .ok (.istore 4, 2) := by decide +kernel
theorem d_Mo_leafHolds_62 : decode c_Mo_leafHolds 62 = .ok (.aload_n 0, 1) := by decide +kernel
theorem d_Mo_leafHolds_63 : decode c_Mo_leafHolds 63 = .ok (.iconst 0, 1) := by decide +kernel
theorem d_Mo_leafHolds_64 : decode c_Mo_leafHolds 64 = .ok (.iconst 0, 1) := by decide +kernel
theorem d_Mo_leafHolds_65 : decode c_Mo_leafHolds 65 = .ok (.iconst 0, 1) := by decide +kernel
theorem d_Mo_leafHolds_66 : decode c_Mo_leafHolds 66 = .ok (.invokevirtual 102, 3) := by decide +kernel
theorem d_Mo_leafHolds_69 : decode c_Mo_leafHolds 69 = .ok (.aload_n 0, 1) := by decide +kernel
theorem d_Mo_leafHolds_70 : decode c_Mo_leafHolds 70 = .ok (.iconst 1, 1) := by decide +kernel
theorem d_Mo_leafHolds_71 : decode c_Mo_leafHolds 71 = .ok (.iconst 1, 1) := by decide +kernel
theorem d_Mo_leafHolds_72 : decode c_Mo_leafHolds 72 = .ok (.iconst 0, 1) := by decide +kernel
theorem d_Mo_leafHolds_73 : decode c_Mo_leafHolds 73 = .ok (.invokevirtual 102, 3) := by decide +kernel
theorem d_Mo_leafHolds_76 : decode c_Mo_leafHolds 76 = .ok (.iadd, 1) := by decide +kernel
theorem d_Mo_leafHolds_77 : decode c_Mo_leafHolds 77 = .ok (.iload 4, 2) := by decide +kernel
theorem d_Mo_leafHolds_79 : decode c_Mo_leafHolds 79 = .ok (.isub, 1) := by decide +kernel
theorem d_Mo_leafHolds_80 : decode c_Mo_leafHolds 80 = .ok (.istore 5, 2) := by decide +kernel
theorem d_Mo_leafHolds_82 : decode c_Mo_leafHolds 82 = .ok (.iload 5, 2) := by decide +kernel
theorem d_Mo_leafHolds_84 : decode c_Mo_leafHolds 84 = .ok (.ifCond .le 28, 3) := by decide +kernel
theorem d_Mo_leafHolds_87 : decode c_Mo_leafHolds 87 = .ok (.iload 4, 2) := by decide +kernel
theorem d_Mo_leafHolds_89 : decode c_Mo_leafHolds 89 = .ok (.aload_n 0, 1) := by decide +kernel
theorem d_Mo_leafHolds_90 : decode c_Mo_leafHolds 90 = .ok (.getfield 49, 3) := by decide +kernel
theorem d_Mo_leafHolds_93 : decode c_Mo_leafHolds 93 = .ok (.iload_n 1, 1) := by decide +kernel
theorem d_Mo_leafHolds_94 : decode c_Mo_leafHolds 94 = .ok (.iaload, 1) := by decide +kernel
theorem d_Mo_leafHolds_95 : decode c_Mo_leafHolds 95 = .ok (.imul, 1) := by decide +kernel
theorem d_Mo_leafHolds_96 : decode c_Mo_leafHolds 96 = .ok (.aload_n 0, 1) := by decide +kernel
theorem d_Mo_leafHolds_97 : decode c_Mo_leafHolds 97 = .ok (.getfield 46, 3) := by decide +kernel
theorem d_Mo_leafHolds_100 : decode c_Mo_leafHolds 100 = .ok (.iload_n 1, 1) := by decide +kernel
theorem d_Mo_leafHolds_101 : decode c_Mo_leafHolds 101 = .ok (.iaload, 1) := by decide +kernel
theorem d_Mo_leafHolds_102 : decode c_Mo_leafHolds 102 = .ok (.iload 5, 2) := by decide +kernel
theorem d_Mo_leafHolds_104 : decode c_Mo_leafHolds 104 = .ok (.imul, 1) := by decide +kernel
theorem d_Mo_leafHolds_105 : decode c_Mo_leafHolds 105 = .ok (.if_icmp .lt 7, 3) := by decide +kernel
theorem d_Mo_leafHolds_108 : decode c_Mo_leafHolds 108 = .ok (.iconst 1, 1) := by decide +kernel
theorem d_Mo_leafHolds_109 : decode c_Mo_leafHolds 109 = .ok (.goto 4, 3) := by decide +kernel
theorem d_Mo_leafHolds_112 : decode c_Mo_leafHolds 112 = .ok (.iconst 0, 1) := by decide +kernel
theorem d_Mo_leafHolds_113 : decode c_Mo_leafHolds 113 = .ok (.ireturn, 1) := by decide +kernel
theorem d_Mo_holds_0 : decode c_Mo_holds 0 = .ok (.iconst 0, 1) := by decide +kernel
theorem d_Mo_holds_1 : decode c_Mo_holds 1 = .ok (.istore_n 3, 1) := by decide +kernel
theorem d_Mo_holds_2 : decode c_Mo_holds 2 = .ok (.iconst 0, 1) := by decide +kernel
theorem d_Mo_holds_3 : decode c_Mo_holds 3 = .ok (.istore 4, 2) := by decide +kernel
theorem d_Mo_holds_5 : decode c_Mo_holds 5 = .ok (.iload 4, 2) := by decide +kernel
theorem d_Mo_holds_7 : decode c_Mo_holds 7 = .ok (.aload_n 0, 1) := by decide +kernel
theorem d_Mo_holds_8 : decode c_Mo_holds 8 = .ok (.getfield 130, 3) := by decide +kernel
theorem d_Mo_holds_11 : decode c_Mo_holds 11 = .ok (.if_icmp .ge 115, 3) := by decide +kernel
theorem d_Mo_holds_14 : decode c_Mo_holds 14 = .ok (.aload_n 0, 1) := by decide +kernel
theorem d_Mo_holds_15 : decode c_Mo_holds 15 = .ok (.getfield 40, 3) := by decide +kernel
theorem d_Mo_holds_18 : decode c_Mo_holds 18 = .ok (.iload 4, 2) := by decide +kernel
theorem d_Mo_holds_20 : decode c_Mo_holds 20 = .ok (.iaload, 1) := by decide +kernel
theorem d_Mo_holds_21 : decode c_Mo_holds 21 = .ok (.iconst 2, 1) := by decide +kernel
theorem d_Mo_holds_22 : decode c_Mo_holds 22 = .ok (.if_icmp .ge 23, 3) := by decide +kernel
theorem d_Mo_holds_25 : decode c_Mo_holds 25 = .ok (.aload_n 0, 1) := by decide +kernel
theorem d_Mo_holds_26 : decode c_Mo_holds 26 = .ok (.getfield 52, 3) := by decide +kernel
theorem d_Mo_holds_29 : decode c_Mo_holds 29 = .ok (.iload_n 3, 1) := by decide +kernel
theorem d_Mo_holds_30 : decode c_Mo_holds 30 = .ok (.aload_n 0, 1) := by decide +kernel
theorem d_Mo_holds_31 : decode c_Mo_holds 31 = .ok (.iload 4, 2) := by decide +kernel
theorem d_Mo_holds_33 : decode c_Mo_holds 33 = .ok (.iload_n 1, 1) := by decide +kernel
theorem d_Mo_holds_34 : decode c_Mo_holds 34 = .ok (.iload_n 2, 1) := by decide +kernel
theorem d_Mo_holds_35 : decode c_Mo_holds 35 = .ok (.invokevirtual 136, 3) := by decide +kernel
theorem d_Mo_holds_38 : decode c_Mo_holds 38 = .ok (.bastore, 1) := by decide +kernel
theorem d_Mo_holds_39 : decode c_Mo_holds 39 = .ok (.iinc 3 1, 3) := by decide +kernel
theorem d_Mo_holds_42 : decode c_Mo_holds 42 = .ok (.goto 78, 3) := by decide +kernel
theorem d_Mo_holds_45 : decode c_Mo_holds 45 = .ok (.iinc 3 (-1), 3) := by decide +kernel
theorem d_Mo_holds_48 : decode c_Mo_holds 48 = .ok (.aload_n 0, 1) := by decide +kernel
theorem d_Mo_holds_49 : decode c_Mo_holds 49 = .ok (.getfield 52, 3) := by decide +kernel
theorem d_Mo_holds_52 : decode c_Mo_holds 52 = .ok (.iload_n 3, 1) := by decide +kernel
theorem d_Mo_holds_53 : decode c_Mo_holds 53 = .ok (.iconst 1, 1) := by decide +kernel
theorem d_Mo_holds_54 : decode c_Mo_holds 54 = .ok (.isub, 1) := by decide +kernel
theorem d_Mo_holds_55 : decode c_Mo_holds 55 = .ok (.aload_n 0, 1) := by decide +kernel
theorem d_Mo_holds_56 : decode c_Mo_holds 56 = .ok (.getfield 40, 3) := by decide +kernel
theorem d_Mo_holds_59 : decode c_Mo_holds 59 = .ok (.iload 4, 2) := by decide +kernel
theorem d_Mo_holds_61 : decode c_Mo_holds 61 = .ok (.iaload, 1) := by decide +kernel
theorem d_Mo_holds_62 : decode c_Mo_holds 62 = .ok (.iconst 2, 1) := by decide +kernel
theorem d_Mo_holds_63 : decode c_Mo_holds 63 = .ok (.if_icmp .ne 31, 3) := by decide +kernel
theorem d_Mo_holds_66 : decode c_Mo_holds 66 = .ok (.aload_n 0, 1) := by decide +kernel
theorem d_Mo_holds_67 : decode c_Mo_holds 67 = .ok (.getfield 52, 3) := by decide +kernel
theorem d_Mo_holds_70 : decode c_Mo_holds 70 = .ok (.iload_n 3, 1) := by decide +kernel
theorem d_Mo_holds_71 : decode c_Mo_holds 71 = .ok (.iconst 1, 1) := by decide +kernel
theorem d_Mo_holds_72 : decode c_Mo_holds 72 = .ok (.isub, 1) := by decide +kernel
theorem d_Mo_holds_73 : decode c_Mo_holds 73 = .ok (.baload, 1) := by decide +kernel
theorem d_Mo_holds_74 : decode c_Mo_holds 74 = .ok (.ifCond .eq 16, 3) := by decide +kernel
theorem d_Mo_holds_77 : decode c_Mo_holds 77 = .ok (.aload_n 0, 1) := by decide +kernel
theorem d_Mo_holds_78 : decode c_Mo_holds 78 = .ok (.getfield 52, 3) := by decide +kernel
theorem d_Mo_holds_81 : decode c_Mo_holds 81 = .ok (.iload_n 3, 1) := by decide +kernel
theorem d_Mo_holds_82 : decode c_Mo_holds 82 = .ok (.baload, 1) := by decide +kernel
theorem d_Mo_holds_83 : decode c_Mo_holds 83 = .ok (.ifCond .eq 7, 3) := by decide +kernel
theorem d_Mo_holds_86 : decode c_Mo_holds 86 = .ok (.iconst 1, 1) := by decide +kernel
theorem d_Mo_holds_87 : decode c_Mo_holds 87 = .ok (.goto 32, 3) := by decide +kernel
theorem d_Mo_holds_90 : decode c_Mo_holds 90 = .ok (.iconst 0, 1) := by decide +kernel
theorem d_Mo_holds_91 : decode c_Mo_holds 91 = .ok (.goto 28, 3) := by decide +kernel
theorem d_Mo_holds_94 : decode c_Mo_holds 94 = .ok (.aload_n 0, 1) := by decide +kernel
theorem d_Mo_holds_95 : decode c_Mo_holds 95 = .ok (.getfield 52, 3) := by decide +kernel
theorem d_Mo_holds_98 : decode c_Mo_holds 98 = .ok (.iload_n 3, 1) := by decide +kernel
theorem d_Mo_holds_99 : decode c_Mo_holds 99 = .ok (.iconst 1, 1) := by decide +kernel
theorem d_Mo_holds_100 : decode c_Mo_holds 100 = .ok (.isub, 1) := by decide +kernel
theorem d_Mo_holds_101 : decode c_Mo_holds 101 = .ok (.baload, 1) := by decide +kernel
theorem d_Mo_holds_102 : decode c_Mo_holds 102 = .ok (.ifCond .ne 12, 3) := by decide +kernel
theorem d_Mo_holds_105 : decode c_Mo_holds 105 = .ok (.aload_n 0, 1) := by decide +kernel
theorem d_Mo_holds_106 : decode c_Mo_holds 106 = .ok (.getfield 52, 3) := by decide +kernel
theorem d_Mo_holds_109 : decode c_Mo_holds 109 = .ok (.iload_n 3, 1) := by decide +kernel
theorem d_Mo_holds_110 : decode c_Mo_holds 110 = .ok (.baload, 1) := by decide +kernel
theorem d_Mo_holds_111 : decode c_Mo_holds 111 = .ok (.ifCond .eq 7, 3) := by decide +kernel
theorem d_Mo_holds_114 : decode c_Mo_holds 114 = .ok (.iconst 1, 1) := by decide +kernel
theorem d_Mo_holds_115 : decode c_Mo_holds 115 = .ok (.goto 4, 3) := by decide +kernel
theorem d_Mo_holds_118 : decode c_Mo_holds 118 = .ok (.iconst 0, 1) := by decide +kernel
theorem d_Mo_holds_119 : decode c_Mo_holds 119 = .ok (.bastore, 1) := by decide +kernel
theorem d_Mo_holds_120 : decode c_Mo_holds 120 = .ok (.iinc 4 1, 3) := by decide +kernel
theorem d_Mo_holds_123 : decode c_Mo_holds 123 = .ok (.goto (-118), 3) := by decide +kernel
theorem d_Mo_holds_126 : decode c_Mo_holds 126 = .ok (.aload_n 0, 1) := by decide +kernel
theorem d_Mo_holds_127 : decode c_Mo_holds 127 = .ok (.getfield 52, 3) := by decide +kernel
theorem d_Mo_holds_130 : decode c_Mo_holds 130 = .ok (.iconst 0, 1) := by decide +kernel
theorem d_Mo_holds_131 : decode c_Mo_holds 131 = .ok (.baload, 1) := by decide +kernel
theorem d_Mo_holds_132 : decode c_Mo_holds 132 = .ok (.ireturn, 1) := by decide +kernel
theorem d_Mo_similar_0 : decode c_Mo_similar 0 = .ok (.aload_n 0, 1) := by decide +kernel
theorem d_Mo_similar_1 : decode c_Mo_similar 1 = .ok (.getfield 130, 3) := by decide +kernel
theorem d_Mo_similar_4 : decode c_Mo_similar 4 = .ok (.ifCond .ne 6, 3) := by decide +kernel
theorem d_Mo_similar_7 : decode c_Mo_similar 7 = .ok (.bipush (-4), 2) := by decide +kernel
theorem d_Mo_similar_9 : decode c_Mo_similar 9 = .ok (.ireturn, 1) := by decide +kernel
theorem d_Mo_similar_10 : decode c_Mo_similar 10 = .ok (.aload_n 0, 1) := by decide +kernel
theorem d_Mo_similar_11 : decode c_Mo_similar 11 = .ok (.iload_n 1, 1) := by decide +kernel
theorem d_Mo_similar_12 : decode c_Mo_similar 12 = .ok (.invokevirtual 95, 3) := by decide +kernel
theorem d_Mo_similar_15 : decode c_Mo_similar 15 = .ok (.ifCond .eq 16, 3) := by decide +kernel
theorem d_Mo_similar_18 : decode c_Mo_similar 18 = .ok (.aload_n 0, 1) := by decide +kernel
theorem d_Mo_similar_19 : decode c_Mo_similar 19 = .ok (.iload_n 2, 1) := by decide +kernel
theorem d_Mo_similar_20 : decode c_Mo_similar 20 = .ok (.invokevirtual 95, 3) := by decide +kernel
theorem d_Mo_similar_23 : decode c_Mo_similar 23 = .ok (.ifCond .eq 8, 3) := by decide +kernel
theorem d_Mo_similar_26 : decode c_Mo_similar 26 = .ok (.iload_n 1, 1) := by decide +kernel
theorem d_Mo_similar_27 : decode c_Mo_similar 27 = .ok (.iload_n 2, 1) := by decide +kernel
theorem d_Mo_similar_28 : decode c_Mo_similar 28 = .ok (.if_icmp .ne 5, 3) := by decide +kernel
theorem d_Mo_similar_31 : decode c_Mo_similar 31 = .ok (.iconst (-1), 1) := by decide +kernel
theorem d_Mo_similar_32 : decode c_Mo_similar 32 = .ok (.ireturn, 1) := by decide +kernel
theorem d_Mo_similar_33 : decode c_Mo_similar 33 = .ok (.aload_n 0, 1) := by decide +kernel
theorem d_Mo_similar_34 : decode c_Mo_similar 34 = .ok (.iload_n 1, 1) := by decide +kernel
theorem d_Mo_similar_35 : decode c_Mo_similar 35 = .ok (.iload_n 2, 1) := by decide +kernel
theorem d_Mo_similar_36 : decode c_Mo_similar 36 = .ok (.invokevirtual 140, 3) := by decide +kernel
theorem d_Mo_similar_39 : decode c_Mo_similar 39 = .ok (.ifCond .eq 7, 3) := by decide +kernel
theorem d_Mo_similar_42 : decode c_Mo_similar 42 = .ok (.iconst 1, 1) := by decide +kernel
theorem d_Mo_similar_43 : decode c_Mo_similar 43 = .ok (.goto 4, 3) := by decide +kernel
theorem d_Mo_similar_46 : decode c_Mo_similar 46 = .ok (.iconst 0, 1) := by decide +kernel
theorem d_Mo_similar_47 : decode c_Mo_similar 47 = .ok (.ireturn, 1) := by decide +kernel
theorem d_Mo_tasksOf_0 : decode c_Mo_tasksOf 0 = .ok (.iconst 0, 1) := by decide +kernel
theorem d_Mo_tasksOf_1 : decode c_Mo_tasksOf 1 = .ok (.istore_n 2, 1) := by decide +kernel
theorem d_Mo_tasksOf_2 : decode c_Mo_tasksOf 2 = .ok (.iconst 0, 1) := by decide +kernel
theorem d_Mo_tasksOf_3 : decode c_Mo_tasksOf 3 = .ok (.istore_n 3, 1) := by decide +kernel
theorem d_Mo_tasksOf_4 : decode c_Mo_tasksOf 4 = .ok (.iload_n 3, 1) := by decide +kernel
theorem d_Mo_tasksOf_5 : decode c_Mo_tasksOf 5 = .ok (.aload_n 0, 1) := by decide +kernel
theorem d_Mo_tasksOf_6 : decode c_Mo_tasksOf 6 = .ok (.getfield 65, 3) := by decide +kernel
theorem d_Mo_tasksOf_9 : decode c_Mo_tasksOf 9 = .ok (.if_icmp .ge 27, 3) := by decide +kernel
theorem d_Mo_tasksOf_12 : decode c_Mo_tasksOf 12 = .ok (.iload_n 2, 1) := by decide +kernel
theorem d_Mo_tasksOf_13 : decode c_Mo_tasksOf 13 = .ok (.iload_n 3, 1) := by decide +kernel
theorem d_Mo_tasksOf_14 : decode c_Mo_tasksOf 14 = .ok (.aload_n 0, 1) := by decide +kernel
theorem d_Mo_tasksOf_15 : decode c_Mo_tasksOf 15 = .ok (.getfield 73, 3) := by decide +kernel
theorem d_Mo_tasksOf_18 : decode c_Mo_tasksOf 18 = .ok (.irem, 1) := by decide +kernel
theorem d_Mo_tasksOf_19 : decode c_Mo_tasksOf 19 = .ok (.iload_n 1, 1) := by decide +kernel
theorem d_Mo_tasksOf_20 : decode c_Mo_tasksOf 20 = .ok (.if_icmp .ne 7, 3) := by decide +kernel
theorem d_Mo_tasksOf_23 : decode c_Mo_tasksOf 23 = .ok (.iconst 1, 1) := by decide +kernel
theorem d_Mo_tasksOf_24 : decode c_Mo_tasksOf 24 = .ok (.goto 4, 3) := by decide +kernel
theorem d_Mo_tasksOf_27 : decode c_Mo_tasksOf 27 = .ok (.iconst 0, 1) := by decide +kernel
theorem d_Mo_tasksOf_28 : decode c_Mo_tasksOf 28 = .ok (.iadd, 1) := by decide +kernel
theorem d_Mo_tasksOf_29 : decode c_Mo_tasksOf 29 = .ok (.istore_n 2, 1) := by decide +kernel
theorem d_Mo_tasksOf_30 : decode c_Mo_tasksOf 30 = .ok (.iinc 3 1, 3) := by decide +kernel
theorem d_Mo_tasksOf_33 : decode c_Mo_tasksOf 33 = .ok (.goto (-29), 3) := by decide +kernel
theorem d_Mo_tasksOf_36 : decode c_Mo_tasksOf 36 = .ok (.iload_n 2, 1) := by decide +kernel
theorem d_Mo_tasksOf_37 : decode c_Mo_tasksOf 37 = .ok (.ireturn, 1) := by decide +kernel
theorem d_Mo_isDone_0 : decode c_Mo_isDone 0 = .ok (.iconst 1, 1) := by decide +kernel
end
section
theorem d_Mo_isDone_1 : decode c_Mo_isDone 1 = .ok (.istore_n 1, 1) := by decide +kernel
theorem d_Mo_isDone_2 : decode c_Mo_isDone 2 = .ok (.iconst 0, 1) := by decide +kernel
theorem d_Mo_isDone_3 : decode c_Mo_isDone 3 = .ok (.istore_n 2, 1) := by decide +kernel
theorem d_Mo_isDone_4 : decode c_Mo_isDone 4 = .ok (.iload_n 2, 1) := by decide +kernel
theorem d_Mo_isDone_5 : decode c_Mo_isDone 5 = .ok (.aload_n 0, 1) := by decide +kernel
theorem d_Mo_isDone_6 : decode c_Mo_isDone 6 = .ok (.getfield 73, 3) := by decide +kernel
theorem d_Mo_isDone_9 : decode c_Mo_isDone 9 = .ok (.if_icmp .ge 33, 3) := by decide +kernel
theorem d_Mo_isDone_12 : decode c_Mo_isDone 12 = .ok (.iload_n 1, 1) := by decide +kernel
theorem d_Mo_isDone_13 : decode c_Mo_isDone 13 = .ok (.ifCond .eq 21, 3) := by decide +kernel
theorem d_Mo_isDone_16 : decode c_Mo_isDone 16 = .ok (.aload_n 0, 1) := by decide +kernel
theorem d_Mo_isDone_17 : decode c_Mo_isDone 17 = .ok (.getfield 56, 3) := by decide +kernel
theorem d_Mo_isDone_20 : decode c_Mo_isDone 20 = .ok (.iload_n 2, 1) := by decide +kernel
theorem d_Mo_isDone_21 : decode c_Mo_isDone 21 = .ok (.iaload, 1) := by decide +kernel
theorem d_Mo_isDone_22 : decode c_Mo_isDone 22 = .ok (.aload_n 0, 1) := by decide +kernel
theorem d_Mo_isDone_23 : decode c_Mo_isDone 23 = .ok (.iload_n 2, 1) := by decide +kernel
theorem d_Mo_isDone_24 : decode c_Mo_isDone 24 = .ok (.invokevirtual 143, 3) := by decide +kernel
theorem d_Mo_isDone_27 : decode c_Mo_isDone 27 = .ok (.if_icmp .ne 7, 3) := by decide +kernel
theorem d_Mo_isDone_30 : decode c_Mo_isDone 30 = .ok (.iconst 1, 1) := by decide +kernel
theorem d_Mo_isDone_31 : decode c_Mo_isDone 31 = .ok (.goto 4, 3) := by decide +kernel
theorem d_Mo_isDone_34 : decode c_Mo_isDone 34 = .ok (.iconst 0, 1) := by decide +kernel
theorem d_Mo_isDone_35 : decode c_Mo_isDone 35 = .ok (.istore_n 1, 1) := by decide +kernel
theorem d_Mo_isDone_36 : decode c_Mo_isDone 36 = .ok (.iinc 2 1, 3) := by decide +kernel
theorem d_Mo_isDone_39 : decode c_Mo_isDone 39 = .ok (.goto (-35), 3) := by decide +kernel
theorem d_Mo_isDone_42 : decode c_Mo_isDone 42 = .ok (.iload_n 1, 1) := by decide +kernel
theorem d_Mo_isDone_43 : decode c_Mo_isDone 43 = .ok (.ireturn, 1) := by decide +kernel
theorem d_Mo_isWorker_0 : decode c_Mo_isWorker 0 = .ok (.iload_n 1, 1) := by decide +kernel
theorem d_Mo_isWorker_1 : decode c_Mo_isWorker 1 = .ok (.ifCond .lt 15, 3) := by decide +kernel
theorem d_Mo_isWorker_4 : decode c_Mo_isWorker 4 = .ok (.iload_n 1, 1) := by decide +kernel
theorem d_Mo_isWorker_5 : decode c_Mo_isWorker 5 = .ok (.aload_n 0, 1) := by decide +kernel
theorem d_Mo_isWorker_6 : decode c_Mo_isWorker 6 = .ok (.getfield 73, 3) := by decide +kernel
theorem d_Mo_isWorker_9 : decode c_Mo_isWorker 9 = .ok (.if_icmp .ge 7, 3) := by decide +kernel
theorem d_Mo_isWorker_12 : decode c_Mo_isWorker 12 = .ok (.iconst 1, 1) := by decide +kernel
theorem d_Mo_isWorker_13 : decode c_Mo_isWorker 13 = .ok (.goto 4, 3) := by decide +kernel
theorem d_Mo_isWorker_16 : decode c_Mo_isWorker 16 = .ok (.iconst 0, 1) := by decide +kernel
theorem d_Mo_isWorker_17 : decode c_Mo_isWorker 17 = .ok (.ireturn, 1) := by decide +kernel
theorem d_Mo_start_0 : decode c_Mo_start 0 = .ok (.aload_n 0, 1) := by decide +kernel
theorem d_Mo_start_1 : decode c_Mo_start 1 = .ok (.getfield 130, 3) := by decide +kernel
theorem d_Mo_start_4 : decode c_Mo_start 4 = .ok (.ifCond .ne 6, 3) := by decide +kernel
theorem d_Mo_start_7 : decode c_Mo_start 7 = .ok (.bipush (-4), 2) := by decide +kernel
theorem d_Mo_start_9 : decode c_Mo_start 9 = .ok (.ireturn, 1) := by decide +kernel
theorem d_Mo_start_10 : decode c_Mo_start 10 = .ok (.iload_n 1, 1) := by decide +kernel
theorem d_Mo_start_11 : decode c_Mo_start 11 = .ok (.iconst 1, 1) := by decide +kernel
theorem d_Mo_start_12 : decode c_Mo_start 12 = .ok (.if_icmp .lt 8, 3) := by decide +kernel
theorem d_Mo_start_15 : decode c_Mo_start 15 = .ok (.iload_n 1, 1) := by decide +kernel
theorem d_Mo_start_16 : decode c_Mo_start 16 = .ok (.iconst 4, 1) := by decide +kernel
theorem d_Mo_start_17 : decode c_Mo_start 17 = .ok (.if_icmp .le 5, 3) := by decide +kernel
theorem d_Mo_start_20 : decode c_Mo_start 20 = .ok (.iconst (-1), 1) := by decide +kernel
theorem d_Mo_start_21 : decode c_Mo_start 21 = .ok (.ireturn, 1) := by decide +kernel
theorem d_Mo_start_22 : decode c_Mo_start 22 = .ok (.aload_n 0, 1) := by decide +kernel
theorem d_Mo_start_23 : decode c_Mo_start 23 = .ok (.iload_n 1, 1) := by decide +kernel
theorem d_Mo_start_24 : decode c_Mo_start 24 = .ok (.putfield 73, 3) := by decide +kernel
theorem d_Mo_start_27 : decode c_Mo_start 27 = .ok (.iconst 0, 1) := by decide +kernel
theorem d_Mo_start_28 : decode c_Mo_start 28 = .ok (.istore_n 2, 1) := by decide +kernel
theorem d_Mo_start_29 : decode c_Mo_start 29 = .ok (.iload_n 2, 1) := by decide +kernel
theorem d_Mo_start_30 : decode c_Mo_start 30 = .ok (.iconst 4, 1) := by decide +kernel
theorem d_Mo_start_31 : decode c_Mo_start 31 = .ok (.if_icmp .ge 16, 3) := by decide +kernel
theorem d_Mo_start_34 : decode c_Mo_start 34 = .ok (.aload_n 0, 1) := by decide +kernel
theorem d_Mo_start_35 : decode c_Mo_start 35 = .ok (.getfield 56, 3) := by decide +kernel
theorem d_Mo_start_38 : decode c_Mo_start 38 = .ok (.iload_n 2, 1) := by decide +kernel
theorem d_Mo_start_39 : decode c_Mo_start 39 = .ok (.iconst 0, 1) := by decide +kernel
theorem d_Mo_start_40 : decode c_Mo_start 40 = .ok (.iastore, 1) := by decide +kernel
theorem d_Mo_start_41 : decode c_Mo_start 41 = .ok (.iinc 2 1, 3) := by decide +kernel
theorem d_Mo_start_44 : decode c_Mo_start 44 = .ok (.goto (-15), 3) := by decide +kernel
theorem d_Mo_start_47 : decode c_Mo_start 47 = .ok (.aload_n 0, 1) := by decide +kernel
theorem d_Mo_start_48 : decode c_Mo_start 48 = .ok (.getfield 65, 3) := by decide +kernel
theorem d_Mo_start_51 : decode c_Mo_start 51 = .ok (.ireturn, 1) := by decide +kernel
theorem d_Mo_work_0 : decode c_Mo_work 0 = .ok (.aload_n 0, 1) := by decide +kernel
theorem d_Mo_work_1 : decode c_Mo_work 1 = .ok (.getfield 73, 3) := by decide +kernel
theorem d_Mo_work_4 : decode c_Mo_work 4 = .ok (.ifCond .ne 6, 3) := by decide +kernel
theorem d_Mo_work_7 : decode c_Mo_work 7 = .ok (.bipush (-4), 2) := by decide +kernel
theorem d_Mo_work_9 : decode c_Mo_work 9 = .ok (.ireturn, 1) := by decide +kernel
theorem d_Mo_work_10 : decode c_Mo_work 10 = .ok (.aload_n 0, 1) := by decide +kernel
theorem d_Mo_work_11 : decode c_Mo_work 11 = .ok (.iload_n 1, 1) := by decide +kernel
theorem d_Mo_work_12 : decode c_Mo_work 12 = .ok (.invokevirtual 146, 3) := by decide +kernel
theorem d_Mo_work_15 : decode c_Mo_work 15 = .ok (.ifCond .ne 5, 3) := by decide +kernel
theorem d_Mo_work_18 : decode c_Mo_work 18 = .ok (.iconst (-1), 1) := by decide +kernel
theorem d_Mo_work_19 : decode c_Mo_work 19 = .ok (.ireturn, 1) := by decide +kernel
theorem d_Mo_work_20 : decode c_Mo_work 20 = .ok (.aload_n 0, 1) := by decide +kernel
theorem d_Mo_work_21 : decode c_Mo_work 21 = .ok (.getfield 56, 3) := by decide +kernel
theorem d_Mo_work_24 : decode c_Mo_work 24 = .ok (.iload_n 1, 1) := by decide +kernel
theorem d_Mo_work_25 : decode c_Mo_work 25 = .ok (.iaload, 1) := by decide +kernel
theorem d_Mo_work_26 : decode c_Mo_work 26 = .ok (.aload_n 0, 1) := by decide +kernel
theorem d_Mo_work_27 : decode c_Mo_work 27 = .ok (.iload_n 1, 1) := by decide +kernel
theorem d_Mo_work_28 : decode c_Mo_work 28 = .ok (.invokevirtual 143, 3) := by decide +kernel
theorem d_Mo_work_31 : decode c_Mo_work 31 = .ok (.if_icmp .ne 6, 3) := by decide +kernel
theorem d_Mo_work_34 : decode c_Mo_work 34 = .ok (.bipush (-5), 2) := by decide +kernel
theorem d_Mo_work_36 : decode c_Mo_work 36 = .ok (.ireturn, 1) := by decide +kernel
theorem d_Mo_work_37 : decode c_Mo_work 37 = .ok (.iload_n 1, 1) := by decide +kernel
theorem d_Mo_work_38 : decode c_Mo_work 38 = .ok (.aload_n 0, 1) := by decide +kernel
theorem d_Mo_work_39 : decode c_Mo_work 39 = .ok (.getfield 56, 3) := by decide +kernel
theorem d_Mo_work_42 : decode c_Mo_work 42 = .ok (.iload_n 1, 1) := by decide +kernel
theorem d_Mo_work_43 : decode c_Mo_work 43 = .ok (.iaload, 1) := by decide +kernel
theorem d_Mo_work_44 : decode c_Mo_work 44 = .ok (.aload_n 0, 1) := by decide +kernel
theorem d_Mo_work_45 : decode c_Mo_work 45 = .ok (.getfield 73, 3) := by decide +kernel
theorem d_Mo_work_48 : decode c_Mo_work 48 = .ok (.imul, 1) := by decide +kernel
theorem d_Mo_work_49 : decode c_Mo_work 49 = .ok (.iadd, 1) := by decide +kernel
theorem d_Mo_work_50 : decode c_Mo_work 50 = .ok (.istore_n 2, 1) := by decide +kernel
theorem d_Mo_work_51 : decode c_Mo_work 51 = .ok (.aload_n 0, 1) := by decide +kernel
theorem d_Mo_work_52 : decode c_Mo_work 52 = .ok (.getfield 56, 3) := by decide +kernel
theorem d_Mo_work_55 : decode c_Mo_work 55 = .ok (.iload_n 1, 1) := by decide +kernel
theorem d_Mo_work_56 : decode c_Mo_work 56 = .ok (.dup2, 1) := by decide +kernel
theorem d_Mo_work_57 : decode c_Mo_work 57 = .ok (.iaload, 1) := by decide +kernel
theorem d_Mo_work_58 : decode c_Mo_work 58 = .ok (.iconst 1, 1) := by decide +kernel
theorem d_Mo_work_59 : decode c_Mo_work 59 = .ok (.iadd, 1) := by decide +kernel
theorem d_Mo_work_60 : decode c_Mo_work 60 = .ok (.iastore, 1) := by decide +kernel
theorem d_Mo_work_61 : decode c_Mo_work 61 = .ok (.iconst 0, 1) := by decide +kernel
theorem d_Mo_work_62 : decode c_Mo_work 62 = .ok (.istore_n 3, 1) := by decide +kernel
theorem d_Mo_work_63 : decode c_Mo_work 63 = .ok (.iconst 0, 1) := by decide +kernel
theorem d_Mo_work_64 : decode c_Mo_work 64 = .ok (.istore 4, 2) := by decide +kernel
theorem d_Mo_work_66 : decode c_Mo_work 66 = .ok (.iload 4, 2) := by decide +kernel
theorem d_Mo_work_68 : decode c_Mo_work 68 = .ok (.iload_n 2, 1) := by decide +kernel
theorem d_Mo_work_69 : decode c_Mo_work 69 = .ok (.if_icmp .ge 31, 3) := by decide +kernel
theorem d_Mo_work_72 : decode c_Mo_work 72 = .ok (.aload_n 0, 1) := by decide +kernel
theorem d_Mo_work_73 : decode c_Mo_work 73 = .ok (.iload 4, 2) := by decide +kernel
theorem d_Mo_work_75 : decode c_Mo_work 75 = .ok (.iload_n 2, 1) := by decide +kernel
theorem d_Mo_work_76 : decode c_Mo_work 76 = .ok (.invokevirtual 140, 3) := by decide +kernel
theorem d_Mo_work_79 : decode c_Mo_work 79 = .ok (.istore 5, 2) := by decide +kernel
theorem d_Mo_work_81 : decode c_Mo_work 81 = .ok (.iload_n 3, 1) := by decide +kernel
theorem d_Mo_work_82 : decode c_Mo_work 82 = .ok (.iload 5, 2) := by decide +kernel
theorem d_Mo_work_84 : decode c_Mo_work 84 = .ok (.ifCond .eq 7, 3) := by decide +kernel
theorem d_Mo_work_87 : decode c_Mo_work 87 = .ok (.iconst 1, 1) := by decide +kernel
theorem d_Mo_work_88 : decode c_Mo_work 88 = .ok (.goto 4, 3) := by decide +kernel
theorem d_Mo_work_91 : decode c_Mo_work 91 = .ok (.iconst 0, 1) := by decide +kernel
theorem d_Mo_work_92 : decode c_Mo_work 92 = .ok (.iadd, 1) := by decide +kernel
theorem d_Mo_work_93 : decode c_Mo_work 93 = .ok (.istore_n 3, 1) := by decide +kernel
theorem d_Mo_work_94 : decode c_Mo_work 94 = .ok (.iinc 4 1, 3) := by decide +kernel
theorem d_Mo_work_97 : decode c_Mo_work 97 = .ok (.goto (-31), 3) := by decide +kernel
theorem d_Mo_work_100 : decode c_Mo_work 100 = .ok (.iload_n 3, 1) := by decide +kernel
theorem d_Mo_work_101 : decode c_Mo_work 101 = .ok (.ireturn, 1) := by decide +kernel
theorem d_Mo_crash_0 : decode c_Mo_crash 0 = .ok (.aload_n 0, 1) := by decide +kernel
theorem d_Mo_crash_1 : decode c_Mo_crash 1 = .ok (.getfield 73, 3) := by decide +kernel
theorem d_Mo_crash_4 : decode c_Mo_crash 4 = .ok (.ifCond .ne 6, 3) := by decide +kernel
theorem d_Mo_crash_7 : decode c_Mo_crash 7 = .ok (.bipush (-4), 2) := by decide +kernel
theorem d_Mo_crash_9 : decode c_Mo_crash 9 = .ok (.ireturn, 1) := by decide +kernel
theorem d_Mo_crash_10 : decode c_Mo_crash 10 = .ok (.aload_n 0, 1) := by decide +kernel
theorem d_Mo_crash_11 : decode c_Mo_crash 11 = .ok (.iload_n 1, 1) := by decide +kernel
theorem d_Mo_crash_12 : decode c_Mo_crash 12 = .ok (.invokevirtual 146, 3) := by decide +kernel
theorem d_Mo_crash_15 : decode c_Mo_crash 15 = .ok (.ifCond .ne 5, 3) := by decide +kernel
theorem d_Mo_crash_18 : decode c_Mo_crash 18 = .ok (.iconst (-1), 1) := by decide +kernel
theorem d_Mo_crash_19 : decode c_Mo_crash 19 = .ok (.ireturn, 1) := by decide +kernel
theorem d_Mo_crash_20 : decode c_Mo_crash 20 = .ok (.aload_n 0, 1) := by decide +kernel
theorem d_Mo_crash_21 : decode c_Mo_crash 21 = .ok (.invokevirtual 149, 3) := by decide +kernel
theorem d_Mo_crash_24 : decode c_Mo_crash 24 = .ok (.ifCond .eq 6, 3) := by decide +kernel
theorem d_Mo_crash_27 : decode c_Mo_crash 27 = .ok (.bipush (-5), 2) := by decide +kernel
theorem d_Mo_crash_29 : decode c_Mo_crash 29 = .ok (.ireturn, 1) := by decide +kernel
theorem d_Mo_crash_30 : decode c_Mo_crash 30 = .ok (.aload_n 0, 1) := by decide +kernel
theorem d_Mo_crash_31 : decode c_Mo_crash 31 = .ok (.getfield 56, 3) := by decide +kernel
theorem d_Mo_crash_34 : decode c_Mo_crash 34 = .ok (.iload_n 1, 1) := by decide +kernel
theorem d_Mo_crash_35 : decode c_Mo_crash 35 = .ok (.iaload, 1) := by decide +kernel
theorem d_Mo_crash_36 : decode c_Mo_crash 36 = .ok (.istore_n 2, 1) := by decide +kernel
theorem d_Mo_crash_37 : decode c_Mo_crash 37 = .ok (.aload_n 0, 1) := by decide +kernel
theorem d_Mo_crash_38 : decode c_Mo_crash 38 = .ok (.getfield 56, 3) := by decide +kernel
theorem d_Mo_crash_41 : decode c_Mo_crash 41 = .ok (.iload_n 1, 1) := by decide +kernel
theorem d_Mo_crash_42 : decode c_Mo_crash 42 = .ok (.iconst 0, 1) := by decide +kernel
theorem d_Mo_crash_43 : decode c_Mo_crash 43 = .ok (.iastore, 1) := by decide +kernel
theorem d_Mo_crash_44 : decode c_Mo_crash 44 = .ok (.iload_n 2, 1) := by decide +kernel
theorem d_Mo_crash_45 : decode c_Mo_crash 45 = .ok (.ireturn, 1) := by decide +kernel
theorem d_Mo_isFound_0 : decode c_Mo_isFound 0 = .ok (.iload_n 1, 1) := by decide +kernel
theorem d_Mo_isFound_1 : decode c_Mo_isFound 1 = .ok (.iload_n 2, 1) := by decide +kernel
theorem d_Mo_isFound_2 : decode c_Mo_isFound 2 = .ok (.if_icmp .ge 7, 3) := by decide +kernel
theorem d_Mo_isFound_5 : decode c_Mo_isFound 5 = .ok (.iload_n 1, 1) := by decide +kernel
theorem d_Mo_isFound_6 : decode c_Mo_isFound 6 = .ok (.goto 4, 3) := by decide +kernel
theorem d_Mo_isFound_9 : decode c_Mo_isFound 9 = .ok (.iload_n 2, 1) := by decide +kernel
theorem d_Mo_isFound_10 : decode c_Mo_isFound 10 = .ok (.istore_n 3, 1) := by decide +kernel
theorem d_Mo_isFound_11 : decode c_Mo_isFound 11 = .ok (.iload_n 1, 1) := by decide +kernel
theorem d_Mo_isFound_12 : decode c_Mo_isFound 12 = .ok (.iload_n 2, 1) := by decide +kernel
theorem d_Mo_isFound_13 : decode c_Mo_isFound 13 = .ok (.if_icmp .ge 7, 3) := by decide +kernel
theorem d_Mo_isFound_16 : decode c_Mo_isFound 16 = .ok (.iload_n 2, 1) := by decide +kernel
theorem d_Mo_isFound_17 : decode c_Mo_isFound 17 = .ok (.goto 4, 3) := by decide +kernel
theorem d_Mo_isFound_20 : decode c_Mo_isFound 20 = .ok (.iload_n 1, 1) := by decide +kernel
theorem d_Mo_isFound_21 : decode c_Mo_isFound 21 = .ok (.istore 4, 2) := by decide +kernel
theorem d_Mo_isFound_23 : decode c_Mo_isFound 23 = .ok (.iload 4, 2) := by decide +kernel
theorem d_Mo_isFound_25 : decode c_Mo_isFound 25 = .ok (.aload_n 0, 1) := by decide +kernel
theorem d_Mo_isFound_26 : decode c_Mo_isFound 26 = .ok (.getfield 73, 3) := by decide +kernel
theorem d_Mo_isFound_29 : decode c_Mo_isFound 29 = .ok (.idiv, 1) := by decide +kernel
theorem d_Mo_isFound_30 : decode c_Mo_isFound 30 = .ok (.aload_n 0, 1) := by decide +kernel
theorem d_Mo_isFound_31 : decode c_Mo_isFound 31 = .ok (.getfield 56, 3) := by decide +kernel
theorem d_Mo_isFound_34 : decode c_Mo_isFound 34 = .ok (.iload 4, 2) := by decide +kernel
theorem d_Mo_isFound_36 : decode c_Mo_isFound 36 = .ok (.aload_n 0, 1) := by decide +kernel
theorem d_Mo_isFound_37 : decode c_Mo_isFound 37 = .ok (.getfield 73, 3) := by decide +kernel
theorem d_Mo_isFound_40 : decode c_Mo_isFound 40 = .ok (.irem, 1) := by decide +kernel
theorem d_Mo_isFound_41 : decode c_Mo_isFound 41 = .ok (.iaload, 1) := by decide +kernel
theorem d_Mo_isFound_42 : decode c_Mo_isFound 42 = .ok (.if_icmp .ge 17, 3) := by decide +kernel
theorem d_Mo_isFound_45 : decode c_Mo_isFound 45 = .ok (.aload_n 0, 1) := by decide +kernel
theorem d_Mo_isFound_46 : decode c_Mo_isFound 46 = .ok (.iload_n 3, 1) := by decide +kernel
theorem d_Mo_isFound_47 : decode c_Mo_isFound 47 = .ok (.iload 4, 2) := by decide +kernel
theorem d_Mo_isFound_49 : decode c_Mo_isFound 49 = .ok (.invokevirtual 140, 3) := by decide +kernel
theorem d_Mo_isFound_52 : decode c_Mo_isFound 52 = .ok (.ifCond .eq 7, 3) := by decide +kernel
theorem d_Mo_isFound_55 : decode c_Mo_isFound 55 = .ok (.iconst 1, 1) := by decide +kernel
theorem d_Mo_isFound_56 : decode c_Mo_isFound 56 = .ok (.goto 4, 3) := by decide +kernel
theorem d_Mo_isFound_59 : decode c_Mo_isFound 59 = .ok (.iconst 0, 1) := by decide +kernel
theorem d_Mo_isFound_60 : decode c_Mo_isFound 60 = .ok (.ireturn, 1) := by decide +kernel
theorem d_Mo_pairs_0 : decode c_Mo_pairs 0 = .ok (.aload_n 0, 1) := by decide +kernel
theorem d_Mo_pairs_1 : decode c_Mo_pairs 1 = .ok (.getfield 73, 3) := by decide +kernel
theorem d_Mo_pairs_4 : decode c_Mo_pairs 4 = .ok (.ifCond .ne 6, 3) := by decide +kernel
theorem d_Mo_pairs_7 : decode c_Mo_pairs 7 = .ok (.bipush (-4), 2) := by decide +kernel
theorem d_Mo_pairs_9 : decode c_Mo_pairs 9 = .ok (.ireturn, 1) := by decide +kernel
theorem d_Mo_pairs_10 : decode c_Mo_pairs 10 = .ok (.iconst 0, 1) := by decide +kernel
theorem d_Mo_pairs_11 : decode c_Mo_pairs 11 = .ok (.istore_n 1, 1) := by decide +kernel
theorem d_Mo_pairs_12 : decode c_Mo_pairs 12 = .ok (.iconst 0, 1) := by decide +kernel
theorem d_Mo_pairs_13 : decode c_Mo_pairs 13 = .ok (.istore_n 2, 1) := by decide +kernel
theorem d_Mo_pairs_14 : decode c_Mo_pairs 14 = .ok (.iload_n 2, 1) := by decide +kernel
theorem d_Mo_pairs_15 : decode c_Mo_pairs 15 = .ok (.aload_n 0, 1) := by decide +kernel
theorem d_Mo_pairs_16 : decode c_Mo_pairs 16 = .ok (.getfield 65, 3) := by decide +kernel
theorem d_Mo_pairs_19 : decode c_Mo_pairs 19 = .ok (.if_icmp .ge 43, 3) := by decide +kernel
theorem d_Mo_pairs_22 : decode c_Mo_pairs 22 = .ok (.iconst 0, 1) := by decide +kernel
theorem d_Mo_pairs_23 : decode c_Mo_pairs 23 = .ok (.istore_n 3, 1) := by decide +kernel
theorem d_Mo_pairs_24 : decode c_Mo_pairs 24 = .ok (.iload_n 3, 1) := by decide +kernel
theorem d_Mo_pairs_25 : decode c_Mo_pairs 25 = .ok (.iload_n 2, 1) := by decide +kernel
theorem d_Mo_pairs_26 : decode c_Mo_pairs 26 = .ok (.if_icmp .ge 30, 3) := by decide +kernel
theorem d_Mo_pairs_29 : decode c_Mo_pairs 29 = .ok (.aload_n 0, 1) := by decide +kernel
theorem d_Mo_pairs_30 : decode c_Mo_pairs 30 = .ok (.iload_n 3, 1) := by decide +kernel
theorem d_Mo_pairs_31 : decode c_Mo_pairs 31 = .ok (.iload_n 2, 1) := by decide +kernel
theorem d_Mo_pairs_32 : decode c_Mo_pairs 32 = .ok (.invokevirtual 152, 3) := by decide +kernel
theorem d_Mo_pairs_35 : decode c_Mo_pairs 35 = .ok (.istore 4, 2) := by decide +kernel
theorem d_Mo_pairs_37 : decode c_Mo_pairs 37 = .ok (.iload_n 1, 1) := by decide +kernel
theorem d_Mo_pairs_38 : decode c_Mo_pairs 38 = .ok (.iload 4, 2) := by decide +kernel
theorem d_Mo_pairs_40 : decode c_Mo_pairs 40 = .ok (.ifCond .eq 7, 3) := by decide +kernel
theorem d_Mo_pairs_43 : decode c_Mo_pairs 43 = .ok (.iconst 1, 1) := by decide +kernel
theorem d_Mo_pairs_44 : decode c_Mo_pairs 44 = .ok (.goto 4, 3) := by decide +kernel
theorem d_Mo_pairs_47 : decode c_Mo_pairs 47 = .ok (.iconst 0, 1) := by decide +kernel
theorem d_Mo_pairs_48 : decode c_Mo_pairs 48 = .ok (.iadd, 1) := by decide +kernel
theorem d_Mo_pairs_49 : decode c_Mo_pairs 49 = .ok (.istore_n 1, 1) := by decide +kernel
theorem d_Mo_pairs_50 : decode c_Mo_pairs 50 = .ok (.iinc 3 1, 3) := by decide +kernel
theorem d_Mo_pairs_53 : decode c_Mo_pairs 53 = .ok (.goto (-29), 3) := by decide +kernel
theorem d_Mo_pairs_56 : decode c_Mo_pairs 56 = .ok (.iinc 2 1, 3) := by decide +kernel
theorem d_Mo_pairs_59 : decode c_Mo_pairs 59 = .ok (.goto (-45), 3) := by decide +kernel
theorem d_Mo_pairs_62 : decode c_Mo_pairs 62 = .ok (.iload_n 1, 1) := by decide +kernel
theorem d_Mo_pairs_63 : decode c_Mo_pairs 63 = .ok (.ireturn, 1) := by decide +kernel
theorem d_Mo_found_0 : decode c_Mo_found 0 = .ok (.aload_n 0, 1) := by decide +kernel
theorem d_Mo_found_1 : decode c_Mo_found 1 = .ok (.getfield 73, 3) := by decide +kernel
theorem d_Mo_found_4 : decode c_Mo_found 4 = .ok (.ifCond .ne 6, 3) := by decide +kernel
theorem d_Mo_found_7 : decode c_Mo_found 7 = .ok (.bipush (-4), 2) := by decide +kernel
theorem d_Mo_found_9 : decode c_Mo_found 9 = .ok (.ireturn, 1) := by decide +kernel
theorem d_Mo_found_10 : decode c_Mo_found 10 = .ok (.aload_n 0, 1) := by decide +kernel
theorem d_Mo_found_11 : decode c_Mo_found 11 = .ok (.iload_n 1, 1) := by decide +kernel
theorem d_Mo_found_12 : decode c_Mo_found 12 = .ok (.invokevirtual 95, 3) := by decide +kernel
theorem d_Mo_found_15 : decode c_Mo_found 15 = .ok (.ifCond .eq 16, 3) := by decide +kernel
theorem d_Mo_found_18 : decode c_Mo_found 18 = .ok (.aload_n 0, 1) := by decide +kernel
theorem d_Mo_found_19 : decode c_Mo_found 19 = .ok (.iload_n 2, 1) := by decide +kernel
theorem d_Mo_found_20 : decode c_Mo_found 20 = .ok (.invokevirtual 95, 3) := by decide +kernel
theorem d_Mo_found_23 : decode c_Mo_found 23 = .ok (.ifCond .eq 8, 3) := by decide +kernel
theorem d_Mo_found_26 : decode c_Mo_found 26 = .ok (.iload_n 1, 1) := by decide +kernel
theorem d_Mo_found_27 : decode c_Mo_found 27 = .ok (.iload_n 2, 1) := by decide +kernel
theorem d_Mo_found_28 : decode c_Mo_found 28 = .ok (.if_icmp .ne 5, 3) := by decide +kernel
theorem d_Mo_found_31 : decode c_Mo_found 31 = .ok (.iconst (-1), 1) := by decide +kernel
theorem d_Mo_found_32 : decode c_Mo_found 32 = .ok (.ireturn, 1) := by decide +kernel
theorem d_Mo_found_33 : decode c_Mo_found 33 = .ok (.aload_n 0, 1) := by decide +kernel
theorem d_Mo_found_34 : decode c_Mo_found 34 = .ok (.iload_n 1, 1) := by decide +kernel
theorem d_Mo_found_35 : decode c_Mo_found 35 = .ok (.iload_n 2, 1) := by decide +kernel
theorem d_Mo_found_36 : decode c_Mo_found 36 = .ok (.invokevirtual 152, 3) := by decide +kernel
theorem d_Mo_found_39 : decode c_Mo_found 39 = .ok (.ifCond .eq 7, 3) := by decide +kernel
theorem d_Mo_found_42 : decode c_Mo_found 42 = .ok (.iconst 1, 1) := by decide +kernel
theorem d_Mo_found_43 : decode c_Mo_found 43 = .ok (.goto 4, 3) := by decide +kernel
theorem d_Mo_found_46 : decode c_Mo_found 46 = .ok (.iconst 0, 1) := by decide +kernel
theorem d_Mo_found_47 : decode c_Mo_found 47 = .ok (.ireturn, 1) := by decide +kernel
theorem d_Mo_spread_0 : decode c_Mo_spread 0 = .ok (.iconst 0, 1) := by decide +kernel
theorem d_Mo_spread_1 : decode c_Mo_spread 1 = .ok (.istore_n 1, 1) := by decide +kernel
theorem d_Mo_spread_2 : decode c_Mo_spread 2 = .ok (.iload_n 1, 1) := by decide +kernel
theorem d_Mo_spread_3 : decode c_Mo_spread 3 = .ok (.aload_n 0, 1) := by decide +kernel
theorem d_Mo_spread_4 : decode c_Mo_spread 4 = .ok (.getfield 65, 3) := by decide +kernel
theorem d_Mo_spread_7 : decode c_Mo_spread 7 = .ok (.if_icmp .ge 16, 3) := by decide +kernel
theorem d_Mo_spread_10 : decode c_Mo_spread 10 = .ok (.aload_n 0, 1) := by decide +kernel
theorem d_Mo_spread_11 : decode c_Mo_spread 11 = .ok (.getfield 62, 3) := by decide +kernel
theorem d_Mo_spread_14 : decode c_Mo_spread 14 = .ok (.iload_n 1, 1) := by decide +kernel
theorem d_Mo_spread_15 : decode c_Mo_spread 15 = .ok (.iload_n 1, 1) := by decide +kernel
theorem d_Mo_spread_16 : decode c_Mo_spread 16 = .ok (.iastore, 1) := by decide +kernel
theorem d_Mo_spread_17 : decode c_Mo_spread 17 = .ok (.iinc 1 1, 3) := by decide +kernel
theorem d_Mo_spread_20 : decode c_Mo_spread 20 = .ok (.goto (-18), 3) := by decide +kernel
theorem d_Mo_spread_23 : decode c_Mo_spread 23 = .ok (.iconst 1, 1) := by decide +kernel
theorem d_Mo_spread_24 : decode c_Mo_spread 24 = .ok (.istore_n 1, 1) := by decide +kernel
theorem d_Mo_spread_25 : decode c_Mo_spread 25 = .ok (.iload_n 1, 1) := by decide +kernel
theorem d_Mo_spread_26 : decode c_Mo_spread 26 = .ok (.ifCond .eq 90, 3) := by decide +kernel
theorem d_Mo_spread_29 : decode c_Mo_spread 29 = .ok (.iconst 0, 1) := by decide +kernel
theorem d_Mo_spread_30 : decode c_Mo_spread 30 = .ok (.istore_n 1, 1) := by decide +kernel
theorem d_Mo_spread_31 : decode c_Mo_spread 31 = .ok (.iconst 0, 1) := by decide +kernel
theorem d_Mo_spread_32 : decode c_Mo_spread 32 = .ok (.istore_n 2, 1) := by decide +kernel
theorem d_Mo_spread_33 : decode c_Mo_spread 33 = .ok (.iload_n 2, 1) := by decide +kernel
theorem d_Mo_spread_34 : decode c_Mo_spread 34 = .ok (.aload_n 0, 1) := by decide +kernel
theorem d_Mo_spread_35 : decode c_Mo_spread 35 = .ok (.getfield 65, 3) := by decide +kernel
theorem d_Mo_spread_38 : decode c_Mo_spread 38 = .ok (.if_icmp .ge 75, 3) := by decide +kernel
theorem d_Mo_spread_41 : decode c_Mo_spread 41 = .ok (.iconst 0, 1) := by decide +kernel
theorem d_Mo_spread_42 : decode c_Mo_spread 42 = .ok (.istore_n 3, 1) := by decide +kernel
theorem d_Mo_spread_43 : decode c_Mo_spread 43 = .ok (.iload_n 3, 1) := by decide +kernel
theorem d_Mo_spread_44 : decode c_Mo_spread 44 = .ok (.aload_n 0, 1) := by decide +kernel
theorem d_Mo_spread_45 : decode c_Mo_spread 45 = .ok (.getfield 65, 3) := by decide +kernel
theorem d_Mo_spread_48 : decode c_Mo_spread 48 = .ok (.if_icmp .ge 59, 3) := by decide +kernel
theorem d_Mo_spread_51 : decode c_Mo_spread 51 = .ok (.aload_n 0, 1) := by decide +kernel
theorem d_Mo_spread_52 : decode c_Mo_spread 52 = .ok (.getfield 62, 3) := by decide +kernel
theorem d_Mo_spread_55 : decode c_Mo_spread 55 = .ok (.iload_n 3, 1) := by decide +kernel
theorem d_Mo_spread_56 : decode c_Mo_spread 56 = .ok (.iaload, 1) := by decide +kernel
theorem d_Mo_spread_57 : decode c_Mo_spread 57 = .ok (.aload_n 0, 1) := by decide +kernel
theorem d_Mo_spread_58 : decode c_Mo_spread 58 = .ok (.getfield 62, 3) := by decide +kernel
theorem d_Mo_spread_61 : decode c_Mo_spread 61 = .ok (.iload_n 2, 1) := by decide +kernel
theorem d_Mo_spread_62 : decode c_Mo_spread 62 = .ok (.iaload, 1) := by decide +kernel
theorem d_Mo_spread_63 : decode c_Mo_spread 63 = .ok (.if_icmp .ge 7, 3) := by decide +kernel
theorem d_Mo_spread_66 : decode c_Mo_spread 66 = .ok (.iconst 1, 1) := by decide +kernel
theorem d_Mo_spread_67 : decode c_Mo_spread 67 = .ok (.goto 4, 3) := by decide +kernel
theorem d_Mo_spread_70 : decode c_Mo_spread 70 = .ok (.iconst 0, 1) := by decide +kernel
theorem d_Mo_spread_71 : decode c_Mo_spread 71 = .ok (.istore 4, 2) := by decide +kernel
theorem d_Mo_spread_73 : decode c_Mo_spread 73 = .ok (.iload 4, 2) := by decide +kernel
theorem d_Mo_spread_75 : decode c_Mo_spread 75 = .ok (.ifCond .eq 26, 3) := by decide +kernel
theorem d_Mo_spread_78 : decode c_Mo_spread 78 = .ok (.aload_n 0, 1) := by decide +kernel
theorem d_Mo_spread_79 : decode c_Mo_spread 79 = .ok (.iload_n 2, 1) := by decide +kernel
theorem d_Mo_spread_80 : decode c_Mo_spread 80 = .ok (.iload_n 3, 1) := by decide +kernel
theorem d_Mo_spread_81 : decode c_Mo_spread 81 = .ok (.invokevirtual 152, 3) := by decide +kernel
theorem d_Mo_spread_84 : decode c_Mo_spread 84 = .ok (.ifCond .eq 17, 3) := by decide +kernel
theorem d_Mo_spread_87 : decode c_Mo_spread 87 = .ok (.aload_n 0, 1) := by decide +kernel
theorem d_Mo_spread_88 : decode c_Mo_spread 88 = .ok (.getfield 62, 3) := by decide +kernel
theorem d_Mo_spread_91 : decode c_Mo_spread 91 = .ok (.iload_n 2, 1) := by decide +kernel
theorem d_Mo_spread_92 : decode c_Mo_spread 92 = .ok (.aload_n 0, 1) := by decide +kernel
theorem d_Mo_spread_93 : decode c_Mo_spread 93 = .ok (.getfield 62, 3) := by decide +kernel
theorem d_Mo_spread_96 : decode c_Mo_spread 96 = .ok (.iload_n 3, 1) := by decide +kernel
theorem d_Mo_spread_97 : decode c_Mo_spread 97 = .ok (.iaload, 1) := by decide +kernel
theorem d_Mo_spread_98 : decode c_Mo_spread 98 = .ok (.iastore, 1) := by decide +kernel
theorem d_Mo_spread_99 : decode c_Mo_spread 99 = .ok (.iconst 1, 1) := by decide +kernel
theorem d_Mo_spread_100 : decode c_Mo_spread 100 = .ok (.istore_n 1, 1) := by decide +kernel
theorem d_Mo_spread_101 : decode c_Mo_spread 101 = .ok (.iinc 3 1, 3) := by decide +kernel
theorem d_Mo_spread_104 : decode c_Mo_spread 104 = .ok (.goto (-61), 3) := by decide +kernel
theorem d_Mo_spread_107 : decode c_Mo_spread 107 = .ok (.iinc 2 1, 3) := by decide +kernel
theorem d_Mo_spread_110 : decode c_Mo_spread 110 = .ok (.goto (-77), 3) := by decide +kernel
theorem d_Mo_spread_113 : decode c_Mo_spread 113 = .ok (.goto (-88), 3) := by decide +kernel
theorem d_Mo_spread_116 : decode c_Mo_spread 116 = .ok (.return_, 1) := by decide +kernel
theorem d_Mo_cluster_0 : decode c_Mo_cluster 0 = .ok (.aload_n 0, 1) := by decide +kernel
theorem d_Mo_cluster_1 : decode c_Mo_cluster 1 = .ok (.getfield 73, 3) := by decide +kernel
theorem d_Mo_cluster_4 : decode c_Mo_cluster 4 = .ok (.ifCond .ne 6, 3) := by decide +kernel
theorem d_Mo_cluster_7 : decode c_Mo_cluster 7 = .ok (.bipush (-4), 2) := by decide +kernel
theorem d_Mo_cluster_9 : decode c_Mo_cluster 9 = .ok (.ireturn, 1) := by decide +kernel
theorem d_Mo_cluster_10 : decode c_Mo_cluster 10 = .ok (.aload_n 0, 1) := by decide +kernel
theorem d_Mo_cluster_11 : decode c_Mo_cluster 11 = .ok (.iload_n 1, 1) := by decide +kernel
theorem d_Mo_cluster_12 : decode c_Mo_cluster 12 = .ok (.invokevirtual 95, 3) := by decide +kernel
theorem d_Mo_cluster_15 : decode c_Mo_cluster 15 = .ok (.ifCond .ne 5, 3) := by decide +kernel
theorem d_Mo_cluster_18 : decode c_Mo_cluster 18 = .ok (.iconst (-1), 1) := by decide +kernel
theorem d_Mo_cluster_19 : decode c_Mo_cluster 19 = .ok (.ireturn, 1) := by decide +kernel
theorem d_Mo_cluster_20 : decode c_Mo_cluster 20 = .ok (.aload_n 0, 1) := by decide +kernel
theorem d_Mo_cluster_21 : decode c_Mo_cluster 21 = .ok (.invokevirtual 149, 3) := by decide +kernel
theorem d_Mo_cluster_24 : decode c_Mo_cluster 24 = .ok (.ifCond .ne 6, 3) := by decide +kernel
theorem d_Mo_cluster_27 : decode c_Mo_cluster 27 = .ok (.bipush (-6), 2) := by decide +kernel
theorem d_Mo_cluster_29 : decode c_Mo_cluster 29 = .ok (.ireturn, 1) := by decide +kernel
theorem d_Mo_cluster_30 : decode c_Mo_cluster 30 = .ok (.aload_n 0, 1) := by decide +kernel
theorem d_Mo_cluster_31 : decode c_Mo_cluster 31 = .ok (.invokevirtual 155, 3) := by decide +kernel
theorem d_Mo_cluster_34 : decode c_Mo_cluster 34 = .ok (.aload_n 0, 1) := by decide +kernel
theorem d_Mo_cluster_35 : decode c_Mo_cluster 35 = .ok (.getfield 62, 3) := by decide +kernel
theorem d_Mo_cluster_38 : decode c_Mo_cluster 38 = .ok (.iload_n 1, 1) := by decide +kernel
theorem d_Mo_cluster_39 : decode c_Mo_cluster 39 = .ok (.iaload, 1) := by decide +kernel
theorem d_Mo_cluster_40 : decode c_Mo_cluster 40 = .ok (.ireturn, 1) := by decide +kernel
theorem d_Mo_keep_0 : decode c_Mo_keep 0 = .ok (.iload_n 1, 1) := by decide +kernel
theorem d_Mo_keep_1 : decode c_Mo_keep 1 = .ok (.invokestatic 69, 3) := by decide +kernel
theorem d_Mo_keep_4 : decode c_Mo_keep 4 = .ok (.ifCond .eq 12, 3) := by decide +kernel
theorem d_Mo_keep_7 : decode c_Mo_keep 7 = .ok (.iload_n 2, 1) := by decide +kernel
theorem d_Mo_keep_8 : decode c_Mo_keep 8 = .ok (.ifCond .lt 8, 3) := by decide +kernel
theorem d_Mo_keep_11 : decode c_Mo_keep 11 = .ok (.iload_n 2, 1) := by decide +kernel
theorem d_Mo_keep_12 : decode c_Mo_keep 12 = .ok (.iconst 2, 1) := by decide +kernel
theorem d_Mo_keep_13 : decode c_Mo_keep 13 = .ok (.if_icmp .le 5, 3) := by decide +kernel
theorem d_Mo_keep_16 : decode c_Mo_keep 16 = .ok (.iconst 0, 1) := by decide +kernel
theorem d_Mo_keep_17 : decode c_Mo_keep 17 = .ok (.ireturn, 1) := by decide +kernel
theorem d_Mo_keep_18 : decode c_Mo_keep 18 = .ok (.aload_n 0, 1) := by decide +kernel
theorem d_Mo_keep_19 : decode c_Mo_keep 19 = .ok (.getfield 59, 3) := by decide +kernel
theorem d_Mo_keep_22 : decode c_Mo_keep 22 = .ok (.iload_n 1, 1) := by decide +kernel
theorem d_Mo_keep_23 : decode c_Mo_keep 23 = .ok (.iload_n 2, 1) := by decide +kernel
theorem d_Mo_keep_24 : decode c_Mo_keep 24 = .ok (.iastore, 1) := by decide +kernel
theorem d_Mo_keep_25 : decode c_Mo_keep 25 = .ok (.iconst 1, 1) := by decide +kernel
theorem d_Mo_keep_26 : decode c_Mo_keep 26 = .ok (.ireturn, 1) := by decide +kernel
theorem d_Mo_sizeOf_0 : decode c_Mo_sizeOf 0 = .ok (.aload_n 0, 1) := by decide +kernel
theorem d_Mo_sizeOf_1 : decode c_Mo_sizeOf 1 = .ok (.iconst 0, 1) := by decide +kernel
theorem d_Mo_sizeOf_2 : decode c_Mo_sizeOf 2 = .ok (.iload_n 1, 1) := by decide +kernel
theorem d_Mo_sizeOf_3 : decode c_Mo_sizeOf 3 = .ok (.iload_n 2, 1) := by decide +kernel
theorem d_Mo_sizeOf_4 : decode c_Mo_sizeOf 4 = .ok (.invokevirtual 98, 3) := by decide +kernel
theorem d_Mo_sizeOf_7 : decode c_Mo_sizeOf 7 = .ok (.aload_n 0, 1) := by decide +kernel
theorem d_Mo_sizeOf_8 : decode c_Mo_sizeOf 8 = .ok (.getfield 19, 3) := by decide +kernel
theorem d_Mo_sizeOf_11 : decode c_Mo_sizeOf 11 = .ok (.iconst 0, 1) := by decide +kernel
theorem d_Mo_sizeOf_12 : decode c_Mo_sizeOf 12 = .ok (.iaload, 1) := by decide +kernel
theorem d_Mo_sizeOf_13 : decode c_Mo_sizeOf 13 = .ok (.ireturn, 1) := by decide +kernel
theorem d_Mo_compare_0 : decode c_Mo_compare 0 = .ok (.aload_n 0, 1) := by decide +kernel
theorem d_Mo_compare_1 : decode c_Mo_compare 1 = .ok (.iconst 0, 1) := by decide +kernel
theorem d_Mo_compare_2 : decode c_Mo_compare 2 = .ok (.iload_n 1, 1) := by decide +kernel
theorem d_Mo_compare_3 : decode c_Mo_compare 3 = .ok (.iload_n 3, 1) := by decide +kernel
theorem d_Mo_compare_4 : decode c_Mo_compare 4 = .ok (.invokevirtual 98, 3) := by decide +kernel
theorem d_Mo_compare_7 : decode c_Mo_compare 7 = .ok (.aload_n 0, 1) := by decide +kernel
theorem d_Mo_compare_8 : decode c_Mo_compare 8 = .ok (.iconst 1, 1) := by decide +kernel
theorem d_Mo_compare_9 : decode c_Mo_compare 9 = .ok (.iload_n 2, 1) := by decide +kernel
theorem d_Mo_compare_10 : decode c_Mo_compare 10 = .ok (.iload_n 3, 1) := by decide +kernel
theorem d_Mo_compare_11 : decode c_Mo_compare 11 = .ok (.invokevirtual 98, 3) := by decide +kernel
theorem d_Mo_compare_14 : decode c_Mo_compare 14 = .ok (.iconst 0, 1) := by decide +kernel
theorem d_Mo_compare_15 : decode c_Mo_compare 15 = .ok (.istore 4, 2) := by decide +kernel
theorem d_Mo_compare_17 : decode c_Mo_compare 17 = .ok (.iload 4, 2) := by decide +kernel
theorem d_Mo_compare_19 : decode c_Mo_compare 19 = .ok (.bipush 12, 2) := by decide +kernel
theorem d_Mo_compare_21 : decode c_Mo_compare 21 = .ok (.if_icmp .ge 80, 3) := by decide +kernel
theorem d_Mo_compare_24 : decode c_Mo_compare 24 = .ok (.iload 4, 2) := by decide +kernel
theorem d_Mo_compare_26 : decode c_Mo_compare 26 = .ok (.aload_n 0, 1) := by decide +kernel
theorem d_Mo_compare_27 : decode c_Mo_compare 27 = .ok (.getfield 19, 3) := by decide +kernel
theorem d_Mo_compare_30 : decode c_Mo_compare 30 = .ok (.iconst 0, 1) := by decide +kernel
theorem d_Mo_compare_31 : decode c_Mo_compare 31 = .ok (.iaload, 1) := by decide +kernel
theorem d_Mo_compare_32 : decode c_Mo_compare 32 = .ok (.if_icmp .ge 13, 3) := by decide +kernel
theorem d_Mo_compare_35 : decode c_Mo_compare 35 = .ok (.aload_n 0, 1) := by decide +kernel
theorem d_Mo_compare_36 : decode c_Mo_compare 36 = .ok (.getfield 16, 3) := by decide +kernel
theorem d_Mo_compare_39 : decode c_Mo_compare 39 = .ok (.iload 4, 2) := by decide +kernel
theorem d_Mo_compare_41 : decode c_Mo_compare 41 = .ok (.iaload, 1) := by decide +kernel
theorem d_Mo_compare_42 : decode c_Mo_compare 42 = .ok (.goto 4, 3) := by decide +kernel
theorem d_Mo_compare_45 : decode c_Mo_compare 45 = .ok (.iconst (-1), 1) := by decide +kernel
theorem d_Mo_compare_46 : decode c_Mo_compare 46 = .ok (.istore 5, 2) := by decide +kernel
theorem d_Mo_compare_48 : decode c_Mo_compare 48 = .ok (.iload 4, 2) := by decide +kernel
theorem d_Mo_compare_50 : decode c_Mo_compare 50 = .ok (.aload_n 0, 1) := by decide +kernel
theorem d_Mo_compare_51 : decode c_Mo_compare 51 = .ok (.getfield 19, 3) := by decide +kernel
theorem d_Mo_compare_54 : decode c_Mo_compare 54 = .ok (.iconst 1, 1) := by decide +kernel
theorem d_Mo_compare_55 : decode c_Mo_compare 55 = .ok (.iaload, 1) := by decide +kernel
theorem d_Mo_compare_56 : decode c_Mo_compare 56 = .ok (.if_icmp .ge 16, 3) := by decide +kernel
theorem d_Mo_compare_59 : decode c_Mo_compare 59 = .ok (.aload_n 0, 1) := by decide +kernel
theorem d_Mo_compare_60 : decode c_Mo_compare 60 = .ok (.getfield 16, 3) := by decide +kernel
theorem d_Mo_compare_63 : decode c_Mo_compare 63 = .ok (.bipush 12, 2) := by decide +kernel
theorem d_Mo_compare_65 : decode c_Mo_compare 65 = .ok (.iload 4, 2) := by decide +kernel
theorem d_Mo_compare_67 : decode c_Mo_compare 67 = .ok (.iadd, 1) := by decide +kernel
theorem d_Mo_compare_68 : decode c_Mo_compare 68 = .ok (.iaload, 1) := by decide +kernel
theorem d_Mo_compare_69 : decode c_Mo_compare 69 = .ok (.goto 4, 3) := by decide +kernel
theorem d_Mo_compare_72 : decode c_Mo_compare 72 = .ok (.iconst (-1), 1) := by decide +kernel
theorem d_Mo_compare_73 : decode c_Mo_compare 73 = .ok (.istore 6, 2) := by decide +kernel
theorem d_Mo_compare_75 : decode c_Mo_compare 75 = .ok (.iload 5, 2) := by decide +kernel
theorem d_Mo_compare_77 : decode c_Mo_compare 77 = .ok (.iload 6, 2) := by decide +kernel
theorem d_Mo_compare_79 : decode c_Mo_compare 79 = .ok (.if_icmp .eq 16, 3) := by decide +kernel
theorem d_Mo_compare_82 : decode c_Mo_compare 82 = .ok (.iload 5, 2) := by decide +kernel
theorem d_Mo_compare_84 : decode c_Mo_compare 84 = .ok (.iload 6, 2) := by decide +kernel
theorem d_Mo_compare_86 : decode c_Mo_compare 86 = .ok (.if_icmp .ge 7, 3) := by decide +kernel
theorem d_Mo_compare_89 : decode c_Mo_compare 89 = .ok (.iconst (-1), 1) := by decide +kernel
theorem d_Mo_compare_90 : decode c_Mo_compare 90 = .ok (.goto 4, 3) := by decide +kernel
theorem d_Mo_compare_93 : decode c_Mo_compare 93 = .ok (.iconst 1, 1) := by decide +kernel
theorem d_Mo_compare_94 : decode c_Mo_compare 94 = .ok (.ireturn, 1) := by decide +kernel
theorem d_Mo_compare_95 : decode c_Mo_compare 95 = .ok (.iinc 4 1, 3) := by decide +kernel
theorem d_Mo_compare_98 : decode c_Mo_compare 98 = .ok (.goto (-81), 3) := by decide +kernel
theorem d_Mo_compare_101 : decode c_Mo_compare 101 = .ok (.iconst 0, 1) := by decide +kernel
theorem d_Mo_compare_102 : decode c_Mo_compare 102 = .ok (.ireturn, 1) := by decide +kernel
theorem d_Mo_same_0 : decode c_Mo_same 0 = .ok (.iconst 0, 1) := by decide +kernel
theorem d_Mo_same_1 : decode c_Mo_same 1 = .ok (.istore 4, 2) := by decide +kernel
theorem d_Mo_same_3 : decode c_Mo_same 3 = .ok (.iconst 0, 1) := by decide +kernel
theorem d_Mo_same_4 : decode c_Mo_same 4 = .ok (.istore 5, 2) := by decide +kernel
theorem d_Mo_same_6 : decode c_Mo_same 6 = .ok (.iload 5, 2) := by decide +kernel
theorem d_Mo_same_8 : decode c_Mo_same 8 = .ok (.aload_n 0, 1) := by decide +kernel
theorem d_Mo_same_9 : decode c_Mo_same 9 = .ok (.getfield 65, 3) := by decide +kernel
theorem d_Mo_same_12 : decode c_Mo_same 12 = .ok (.if_icmp .ge 53, 3) := by decide +kernel
theorem d_Mo_same_15 : decode c_Mo_same 15 = .ok (.aload_n 0, 1) := by decide +kernel
theorem d_Mo_same_16 : decode c_Mo_same 16 = .ok (.getfield 62, 3) := by decide +kernel
theorem d_Mo_same_19 : decode c_Mo_same 19 = .ok (.iload 5, 2) := by decide +kernel
theorem d_Mo_same_21 : decode c_Mo_same 21 = .ok (.iaload, 1) := by decide +kernel
theorem d_Mo_same_22 : decode c_Mo_same 22 = .ok (.iload_n 1, 1) := by decide +kernel
theorem d_Mo_same_23 : decode c_Mo_same 23 = .ok (.if_icmp .ne 18, 3) := by decide +kernel
theorem d_Mo_same_26 : decode c_Mo_same 26 = .ok (.aload_n 0, 1) := by decide +kernel
theorem d_Mo_same_27 : decode c_Mo_same 27 = .ok (.iload 5, 2) := by decide +kernel
theorem d_Mo_same_29 : decode c_Mo_same 29 = .ok (.iload_n 2, 1) := by decide +kernel
theorem d_Mo_same_30 : decode c_Mo_same 30 = .ok (.iload_n 3, 1) := by decide +kernel
theorem d_Mo_same_31 : decode c_Mo_same 31 = .ok (.invokevirtual 158, 3) := by decide +kernel
theorem d_Mo_same_34 : decode c_Mo_same 34 = .ok (.ifCond .ne 7, 3) := by decide +kernel
theorem d_Mo_same_37 : decode c_Mo_same 37 = .ok (.iconst 1, 1) := by decide +kernel
theorem d_Mo_same_38 : decode c_Mo_same 38 = .ok (.goto 4, 3) := by decide +kernel
theorem d_Mo_same_41 : decode c_Mo_same 41 = .ok (.iconst 0, 1) := by decide +kernel
theorem d_Mo_same_42 : decode c_Mo_same 42 = .ok (.istore 6, 2) := by decide +kernel
theorem d_Mo_same_44 : decode c_Mo_same 44 = .ok (.iload 4, 2) := by decide +kernel
theorem d_Mo_same_46 : decode c_Mo_same 46 = .ok (.iload 6, 2) := by decide +kernel
theorem d_Mo_same_48 : decode c_Mo_same 48 = .ok (.ifCond .eq 7, 3) := by decide +kernel
theorem d_Mo_same_51 : decode c_Mo_same 51 = .ok (.iconst 1, 1) := by decide +kernel
theorem d_Mo_same_52 : decode c_Mo_same 52 = .ok (.goto 4, 3) := by decide +kernel
theorem d_Mo_same_55 : decode c_Mo_same 55 = .ok (.iconst 0, 1) := by decide +kernel
theorem d_Mo_same_56 : decode c_Mo_same 56 = .ok (.iadd, 1) := by decide +kernel
theorem d_Mo_same_57 : decode c_Mo_same 57 = .ok (.istore 4, 2) := by decide +kernel
theorem d_Mo_same_59 : decode c_Mo_same 59 = .ok (.iinc 5 1, 3) := by decide +kernel
theorem d_Mo_same_62 : decode c_Mo_same 62 = .ok (.goto (-56), 3) := by decide +kernel
theorem d_Mo_same_65 : decode c_Mo_same 65 = .ok (.iload 4, 2) := by decide +kernel
theorem d_Mo_same_67 : decode c_Mo_same 67 = .ok (.ireturn, 1) := by decide +kernel
theorem d_Mo_better_0 : decode c_Mo_better 0 = .ok (.aload_n 0, 1) := by decide +kernel
theorem d_Mo_better_1 : decode c_Mo_better 1 = .ok (.iload_n 2, 1) := by decide +kernel
theorem d_Mo_better_2 : decode c_Mo_better 2 = .ok (.iload 4, 2) := by decide +kernel
theorem d_Mo_better_4 : decode c_Mo_better 4 = .ok (.invokevirtual 162, 3) := by decide +kernel
theorem d_Mo_better_7 : decode c_Mo_better 7 = .ok (.istore 5, 2) := by decide +kernel
theorem d_Mo_better_9 : decode c_Mo_better 9 = .ok (.aload_n 0, 1) := by decide +kernel
theorem d_Mo_better_10 : decode c_Mo_better 10 = .ok (.iload_n 3, 1) := by decide +kernel
theorem d_Mo_better_11 : decode c_Mo_better 11 = .ok (.iload 4, 2) := by decide +kernel
theorem d_Mo_better_13 : decode c_Mo_better 13 = .ok (.invokevirtual 162, 3) := by decide +kernel
theorem d_Mo_better_16 : decode c_Mo_better 16 = .ok (.istore 6, 2) := by decide +kernel
theorem d_Mo_better_18 : decode c_Mo_better 18 = .ok (.aload_n 0, 1) := by decide +kernel
theorem d_Mo_better_19 : decode c_Mo_better 19 = .ok (.getfield 59, 3) := by decide +kernel
theorem d_Mo_better_22 : decode c_Mo_better 22 = .ok (.iload 4, 2) := by decide +kernel
theorem d_Mo_better_24 : decode c_Mo_better 24 = .ok (.iaload, 1) := by decide +kernel
theorem d_Mo_better_25 : decode c_Mo_better 25 = .ok (.ifCond .ne 16, 3) := by decide +kernel
theorem d_Mo_better_28 : decode c_Mo_better 28 = .ok (.iload 5, 2) := by decide +kernel
theorem d_Mo_better_30 : decode c_Mo_better 30 = .ok (.iload 6, 2) := by decide +kernel
theorem d_Mo_better_32 : decode c_Mo_better 32 = .ok (.if_icmp .le 7, 3) := by decide +kernel
theorem d_Mo_better_35 : decode c_Mo_better 35 = .ok (.iconst 1, 1) := by decide +kernel
theorem d_Mo_better_36 : decode c_Mo_better 36 = .ok (.goto 4, 3) := by decide +kernel
theorem d_Mo_better_39 : decode c_Mo_better 39 = .ok (.iconst 0, 1) := by decide +kernel
theorem d_Mo_better_40 : decode c_Mo_better 40 = .ok (.ireturn, 1) := by decide +kernel
theorem d_Mo_better_41 : decode c_Mo_better 41 = .ok (.iload 5, 2) := by decide +kernel
theorem d_Mo_better_43 : decode c_Mo_better 43 = .ok (.ifCond .eq 8, 3) := by decide +kernel
theorem d_Mo_better_46 : decode c_Mo_better 46 = .ok (.iload 6, 2) := by decide +kernel
theorem d_Mo_better_48 : decode c_Mo_better 48 = .ok (.ifCond .ne 19, 3) := by decide +kernel
theorem d_Mo_better_51 : decode c_Mo_better 51 = .ok (.iload 6, 2) := by decide +kernel
theorem d_Mo_better_53 : decode c_Mo_better 53 = .ok (.ifCond .ne 12, 3) := by decide +kernel
theorem d_Mo_better_56 : decode c_Mo_better 56 = .ok (.iload 5, 2) := by decide +kernel
theorem d_Mo_better_58 : decode c_Mo_better 58 = .ok (.ifCond .le 7, 3) := by decide +kernel
theorem d_Mo_better_61 : decode c_Mo_better 61 = .ok (.iconst 1, 1) := by decide +kernel
theorem d_Mo_better_62 : decode c_Mo_better 62 = .ok (.goto 4, 3) := by decide +kernel
theorem d_Mo_better_65 : decode c_Mo_better 65 = .ok (.iconst 0, 1) := by decide +kernel
theorem d_Mo_better_66 : decode c_Mo_better 66 = .ok (.ireturn, 1) := by decide +kernel
theorem d_Mo_better_67 : decode c_Mo_better 67 = .ok (.aload_n 0, 1) := by decide +kernel
theorem d_Mo_better_68 : decode c_Mo_better 68 = .ok (.getfield 59, 3) := by decide +kernel
theorem d_Mo_better_71 : decode c_Mo_better 71 = .ok (.iload 4, 2) := by decide +kernel
theorem d_Mo_better_73 : decode c_Mo_better 73 = .ok (.iaload, 1) := by decide +kernel
theorem d_Mo_better_74 : decode c_Mo_better 74 = .ok (.iconst 2, 1) := by decide +kernel
theorem d_Mo_better_75 : decode c_Mo_better 75 = .ok (.if_icmp .ne 20, 3) := by decide +kernel
theorem d_Mo_better_78 : decode c_Mo_better 78 = .ok (.aload_n 0, 1) := by decide +kernel
theorem d_Mo_better_79 : decode c_Mo_better 79 = .ok (.iload_n 2, 1) := by decide +kernel
theorem d_Mo_better_80 : decode c_Mo_better 80 = .ok (.iload_n 3, 1) := by decide +kernel
theorem d_Mo_better_81 : decode c_Mo_better 81 = .ok (.iload 4, 2) := by decide +kernel
theorem d_Mo_better_83 : decode c_Mo_better 83 = .ok (.invokevirtual 158, 3) := by decide +kernel
theorem d_Mo_better_86 : decode c_Mo_better 86 = .ok (.ifCond .ge 7, 3) := by decide +kernel
theorem d_Mo_better_89 : decode c_Mo_better 89 = .ok (.iconst 1, 1) := by decide +kernel
theorem d_Mo_better_90 : decode c_Mo_better 90 = .ok (.goto 4, 3) := by decide +kernel
theorem d_Mo_better_93 : decode c_Mo_better 93 = .ok (.iconst 0, 1) := by decide +kernel
theorem d_Mo_better_94 : decode c_Mo_better 94 = .ok (.ireturn, 1) := by decide +kernel
theorem d_Mo_better_95 : decode c_Mo_better 95 = .ok (.aload_n 0, 1) := by decide +kernel
theorem d_Mo_better_96 : decode c_Mo_better 96 = .ok (.iload_n 1, 1) := by decide +kernel
theorem d_Mo_better_97 : decode c_Mo_better 97 = .ok (.iload_n 2, 1) := by decide +kernel
theorem d_Mo_better_98 : decode c_Mo_better 98 = .ok (.iload 4, 2) := by decide +kernel
theorem d_Mo_better_100 : decode c_Mo_better 100 = .ok (.invokevirtual 165, 3) := by decide +kernel
theorem d_Mo_better_103 : decode c_Mo_better 103 = .ok (.istore 7, 2) := by decide +kernel
theorem d_Mo_better_105 : decode c_Mo_better 105 = .ok (.iload 7, 2) := by decide +kernel
theorem d_Mo_better_107 : decode c_Mo_better 107 = .ok (.aload_n 0, 1) := by decide +kernel
theorem d_Mo_better_108 : decode c_Mo_better 108 = .ok (.iload_n 1, 1) := by decide +kernel
theorem d_Mo_better_109 : decode c_Mo_better 109 = .ok (.iload_n 3, 1) := by decide +kernel
theorem d_Mo_better_110 : decode c_Mo_better 110 = .ok (.iload 4, 2) := by decide +kernel
theorem d_Mo_better_112 : decode c_Mo_better 112 = .ok (.invokevirtual 165, 3) := by decide +kernel
theorem d_Mo_better_115 : decode c_Mo_better 115 = .ok (.if_icmp .le 7, 3) := by decide +kernel
theorem d_Mo_better_118 : decode c_Mo_better 118 = .ok (.iconst 1, 1) := by decide +kernel
theorem d_Mo_better_119 : decode c_Mo_better 119 = .ok (.goto 4, 3) := by decide +kernel
theorem d_Mo_better_122 : decode c_Mo_better 122 = .ok (.iconst 0, 1) := by decide +kernel
theorem d_Mo_better_123 : decode c_Mo_better 123 = .ok (.ireturn, 1) := by decide +kernel
theorem d_Mo_kept_0 : decode c_Mo_kept 0 = .ok (.aload_n 0, 1) := by decide +kernel
theorem d_Mo_kept_1 : decode c_Mo_kept 1 = .ok (.getfield 73, 3) := by decide +kernel
theorem d_Mo_kept_4 : decode c_Mo_kept 4 = .ok (.ifCond .ne 6, 3) := by decide +kernel
theorem d_Mo_kept_7 : decode c_Mo_kept 7 = .ok (.bipush (-4), 2) := by decide +kernel
theorem d_Mo_kept_9 : decode c_Mo_kept 9 = .ok (.ireturn, 1) := by decide +kernel
theorem d_Mo_kept_10 : decode c_Mo_kept 10 = .ok (.aload_n 0, 1) := by decide +kernel
theorem d_Mo_kept_11 : decode c_Mo_kept 11 = .ok (.iload_n 1, 1) := by decide +kernel
theorem d_Mo_kept_12 : decode c_Mo_kept 12 = .ok (.invokevirtual 95, 3) := by decide +kernel
theorem d_Mo_kept_15 : decode c_Mo_kept 15 = .ok (.ifCond .eq 10, 3) := by decide +kernel
theorem d_Mo_kept_18 : decode c_Mo_kept 18 = .ok (.iload_n 2, 1) := by decide +kernel
theorem d_Mo_kept_19 : decode c_Mo_kept 19 = .ok (.invokestatic 69, 3) := by decide +kernel
theorem d_Mo_kept_22 : decode c_Mo_kept 22 = .ok (.ifCond .ne 5, 3) := by decide +kernel
theorem d_Mo_kept_25 : decode c_Mo_kept 25 = .ok (.iconst (-1), 1) := by decide +kernel
theorem d_Mo_kept_26 : decode c_Mo_kept 26 = .ok (.ireturn, 1) := by decide +kernel
theorem d_Mo_kept_27 : decode c_Mo_kept 27 = .ok (.aload_n 0, 1) := by decide +kernel
theorem d_Mo_kept_28 : decode c_Mo_kept 28 = .ok (.invokevirtual 149, 3) := by decide +kernel
theorem d_Mo_kept_31 : decode c_Mo_kept 31 = .ok (.ifCond .ne 6, 3) := by decide +kernel
theorem d_Mo_kept_34 : decode c_Mo_kept 34 = .ok (.bipush (-6), 2) := by decide +kernel
theorem d_Mo_kept_36 : decode c_Mo_kept 36 = .ok (.ireturn, 1) := by decide +kernel
theorem d_Mo_kept_37 : decode c_Mo_kept 37 = .ok (.aload_n 0, 1) := by decide +kernel
theorem d_Mo_kept_38 : decode c_Mo_kept 38 = .ok (.invokevirtual 155, 3) := by decide +kernel
theorem d_Mo_kept_41 : decode c_Mo_kept 41 = .ok (.aload_n 0, 1) := by decide +kernel
theorem d_Mo_kept_42 : decode c_Mo_kept 42 = .ok (.getfield 62, 3) := by decide +kernel
theorem d_Mo_kept_45 : decode c_Mo_kept 45 = .ok (.iload_n 1, 1) := by decide +kernel
theorem d_Mo_kept_46 : decode c_Mo_kept 46 = .ok (.iaload, 1) := by decide +kernel
theorem d_Mo_kept_47 : decode c_Mo_kept 47 = .ok (.istore_n 3, 1) := by decide +kernel
theorem d_Mo_kept_48 : decode c_Mo_kept 48 = .ok (.iload_n 3, 1) := by decide +kernel
theorem d_Mo_kept_49 : decode c_Mo_kept 49 = .ok (.istore 4, 2) := by decide +kernel
theorem d_Mo_kept_51 : decode c_Mo_kept 51 = .ok (.iload_n 3, 1) := by decide +kernel
theorem d_Mo_kept_52 : decode c_Mo_kept 52 = .ok (.iconst 1, 1) := by decide +kernel
theorem d_Mo_kept_53 : decode c_Mo_kept 53 = .ok (.iadd, 1) := by decide +kernel
theorem d_Mo_kept_54 : decode c_Mo_kept 54 = .ok (.istore 5, 2) := by decide +kernel
theorem d_Mo_kept_56 : decode c_Mo_kept 56 = .ok (.iload 5, 2) := by decide +kernel
theorem d_Mo_kept_58 : decode c_Mo_kept 58 = .ok (.aload_n 0, 1) := by decide +kernel
theorem d_Mo_kept_59 : decode c_Mo_kept 59 = .ok (.getfield 65, 3) := by decide +kernel
theorem d_Mo_kept_62 : decode c_Mo_kept 62 = .ok (.if_icmp .ge 54, 3) := by decide +kernel
theorem d_Mo_kept_65 : decode c_Mo_kept 65 = .ok (.aload_n 0, 1) := by decide +kernel
theorem d_Mo_kept_66 : decode c_Mo_kept 66 = .ok (.getfield 62, 3) := by decide +kernel
theorem d_Mo_kept_69 : decode c_Mo_kept 69 = .ok (.iload 5, 2) := by decide +kernel
theorem d_Mo_kept_71 : decode c_Mo_kept 71 = .ok (.iaload, 1) := by decide +kernel
theorem d_Mo_kept_72 : decode c_Mo_kept 72 = .ok (.iload_n 3, 1) := by decide +kernel
theorem d_Mo_kept_73 : decode c_Mo_kept 73 = .ok (.if_icmp .ne 20, 3) := by decide +kernel
theorem d_Mo_kept_76 : decode c_Mo_kept 76 = .ok (.aload_n 0, 1) := by decide +kernel
theorem d_Mo_kept_77 : decode c_Mo_kept 77 = .ok (.iload_n 3, 1) := by decide +kernel
theorem d_Mo_kept_78 : decode c_Mo_kept 78 = .ok (.iload 5, 2) := by decide +kernel
theorem d_Mo_kept_80 : decode c_Mo_kept 80 = .ok (.iload 4, 2) := by decide +kernel
theorem d_Mo_kept_82 : decode c_Mo_kept 82 = .ok (.iload_n 2, 1) := by decide +kernel
theorem d_Mo_kept_83 : decode c_Mo_kept 83 = .ok (.invokevirtual 168, 3) := by decide +kernel
theorem d_Mo_kept_86 : decode c_Mo_kept 86 = .ok (.ifCond .eq 7, 3) := by decide +kernel
theorem d_Mo_kept_89 : decode c_Mo_kept 89 = .ok (.iconst 1, 1) := by decide +kernel
theorem d_Mo_kept_90 : decode c_Mo_kept 90 = .ok (.goto 4, 3) := by decide +kernel
theorem d_Mo_kept_93 : decode c_Mo_kept 93 = .ok (.iconst 0, 1) := by decide +kernel
theorem d_Mo_kept_94 : decode c_Mo_kept 94 = .ok (.istore 6, 2) := by decide +kernel
theorem d_Mo_kept_96 : decode c_Mo_kept 96 = .ok (.iload 6, 2) := by decide +kernel
theorem d_Mo_kept_98 : decode c_Mo_kept 98 = .ok (.ifCond .eq 8, 3) := by decide +kernel
theorem d_Mo_kept_101 : decode c_Mo_kept 101 = .ok (.iload 5, 2) := by decide +kernel
theorem d_Mo_kept_103 : decode c_Mo_kept 103 = .ok (.goto 5, 3) := by decide +kernel
theorem d_Mo_kept_106 : decode c_Mo_kept 106 = .ok (.iload 4, 2) := by decide +kernel
theorem d_Mo_kept_108 : decode c_Mo_kept 108 = .ok (.istore 4, 2) := by decide +kernel
theorem d_Mo_kept_110 : decode c_Mo_kept 110 = .ok (.iinc 5 1, 3) := by decide +kernel
theorem d_Mo_kept_113 : decode c_Mo_kept 113 = .ok (.goto (-57), 3) := by decide +kernel
theorem d_Mo_kept_116 : decode c_Mo_kept 116 = .ok (.iload 4, 2) := by decide +kernel
theorem d_Mo_kept_118 : decode c_Mo_kept 118 = .ok (.ireturn, 1) := by decide +kernel
theorem d_Ed_init_0 : decode c_Ed_init 0 = .ok (.aload_n 0, 1) := by decide +kernel
theorem d_Ed_init_1 : decode c_Ed_init 1 = .ok (.iconst 1, 1) := by decide +kernel
theorem d_Ed_init_2 : decode c_Ed_init 2 = .ok (.iconst 0, 1) := by decide +kernel
theorem d_Ed_init_3 : decode c_Ed_init 3 = .ok (.invokespecial 3, 3) := by decide +kernel
theorem d_Ed_init_6 : decode c_Ed_init 6 = .ok (.aload_n 0, 1) := by decide +kernel
theorem d_Ed_init_7 : decode c_Ed_init 7 = .ok (.bipush 13, 2) := by decide +kernel
theorem d_Ed_init_9 : decode c_Ed_init 9 = .ok (.newarray .int, 2) := by decide +kernel
theorem d_Ed_init_11 : decode c_Ed_init 11 = .ok (.putfield 9, 3) := by decide +kernel
theorem d_Ed_init_14 : decode c_Ed_init 14 = .ok (.aload_n 0, 1) := by decide +kernel
theorem d_Ed_init_15 : decode c_Ed_init 15 = .ok (.iload_n 1, 1) := by decide +kernel
theorem d_Ed_init_16 : decode c_Ed_init 16 = .ok (.putfield 15, 3) := by decide +kernel
theorem d_Ed_init_19 : decode c_Ed_init 19 = .ok (.aload_n 0, 1) := by decide +kernel
theorem d_Ed_init_20 : decode c_Ed_init 20 = .ok (.iload_n 2, 1) := by decide +kernel
theorem d_Ed_init_21 : decode c_Ed_init 21 = .ok (.putfield 19, 3) := by decide +kernel
theorem d_Ed_init_24 : decode c_Ed_init 24 = .ok (.return_, 1) := by decide +kernel
theorem d_Ed_holdsOf_0 : decode c_Ed_holdsOf 0 = .ok (.aload_n 0, 1) := by decide +kernel
theorem d_Ed_holdsOf_1 : decode c_Ed_holdsOf 1 = .ok (.aload_n 1, 1) := by decide +kernel
theorem d_Ed_holdsOf_2 : decode c_Ed_holdsOf 2 = .ok (.aload_n 0, 1) := by decide +kernel
theorem d_Ed_holdsOf_3 : decode c_Ed_holdsOf 3 = .ok (.getfield 15, 3) := by decide +kernel
theorem d_Ed_holdsOf_6 : decode c_Ed_holdsOf 6 = .ok (.invokevirtual 22, 3) := by decide +kernel
theorem d_Ed_holdsOf_9 : decode c_Ed_holdsOf 9 = .ok (.aload_n 2, 1) := by decide +kernel
theorem d_Ed_holdsOf_10 : decode c_Ed_holdsOf 10 = .ok (.aload_n 0, 1) := by decide +kernel
theorem d_Ed_holdsOf_11 : decode c_Ed_holdsOf 11 = .ok (.getfield 15, 3) := by decide +kernel
theorem d_Ed_holdsOf_14 : decode c_Ed_holdsOf 14 = .ok (.invokevirtual 22, 3) := by decide +kernel
theorem d_Ed_holdsOf_17 : decode c_Ed_holdsOf 17 = .ok (.invokevirtual 28, 3) := by decide +kernel
theorem d_Ed_holdsOf_20 : decode c_Ed_holdsOf 20 = .ok (.aload_n 0, 1) := by decide +kernel
theorem d_Ed_holdsOf_21 : decode c_Ed_holdsOf 21 = .ok (.getfield 19, 3) := by decide +kernel
theorem d_Ed_holdsOf_24 : decode c_Ed_holdsOf 24 = .ok (.if_icmp .gt 7, 3) := by decide +kernel
theorem d_Ed_holdsOf_27 : decode c_Ed_holdsOf 27 = .ok (.iconst 1, 1) := by decide +kernel
theorem d_Ed_holdsOf_28 : decode c_Ed_holdsOf 28 = .ok (.goto 4, 3) := by decide +kernel
theorem d_Ed_holdsOf_31 : decode c_Ed_holdsOf 31 = .ok (.iconst 0, 1) := by decide +kernel
theorem d_Ed_holdsOf_32 : decode c_Ed_holdsOf 32 = .ok (.ireturn, 1) := by decide +kernel
theorem d_Ed_countSteps_0 : decode c_Ed_countSteps 0 = .ok (.iconst 0, 1) := by decide +kernel
theorem d_Ed_countSteps_1 : decode c_Ed_countSteps 1 = .ok (.istore_n 3, 1) := by decide +kernel
theorem d_Ed_countSteps_2 : decode c_Ed_countSteps 2 = .ok (.iload_n 3, 1) := by decide +kernel
theorem d_Ed_countSteps_3 : decode c_Ed_countSteps 3 = .ok (.aload_n 2, 1) := by decide +kernel
theorem d_Ed_countSteps_4 : decode c_Ed_countSteps 4 = .ok (.getfield 32, 3) := by decide +kernel
theorem d_Ed_countSteps_7 : decode c_Ed_countSteps 7 = .ok (.if_icmp .gt 16, 3) := by decide +kernel
theorem d_Ed_countSteps_10 : decode c_Ed_countSteps 10 = .ok (.aload_n 0, 1) := by decide +kernel
theorem d_Ed_countSteps_11 : decode c_Ed_countSteps 11 = .ok (.getfield 9, 3) := by decide +kernel
theorem d_Ed_countSteps_14 : decode c_Ed_countSteps 14 = .ok (.iload_n 3, 1) := by decide +kernel
theorem d_Ed_countSteps_15 : decode c_Ed_countSteps 15 = .ok (.iload_n 3, 1) := by decide +kernel
theorem d_Ed_countSteps_16 : decode c_Ed_countSteps 16 = .ok (.iastore, 1) := by decide +kernel
theorem d_Ed_countSteps_17 : decode c_Ed_countSteps 17 = .ok (.iinc 3 1, 3) := by decide +kernel
theorem d_Ed_countSteps_20 : decode c_Ed_countSteps 20 = .ok (.goto (-18), 3) := by decide +kernel
theorem d_Ed_countSteps_23 : decode c_Ed_countSteps 23 = .ok (.iconst 0, 1) := by decide +kernel
theorem d_Ed_countSteps_24 : decode c_Ed_countSteps 24 = .ok (.istore_n 3, 1) := by decide +kernel
theorem d_Ed_countSteps_25 : decode c_Ed_countSteps 25 = .ok (.iload_n 3, 1) := by decide +kernel
theorem d_Ed_countSteps_26 : decode c_Ed_countSteps 26 = .ok (.aload_n 1, 1) := by decide +kernel
theorem d_Ed_countSteps_27 : decode c_Ed_countSteps 27 = .ok (.getfield 32, 3) := by decide +kernel
theorem d_Ed_countSteps_30 : decode c_Ed_countSteps 30 = .ok (.if_icmp .ge 20, 3) := by decide +kernel
theorem d_Ed_countSteps_33 : decode c_Ed_countSteps 33 = .ok (.aload_n 0, 1) := by decide +kernel
theorem d_Ed_countSteps_34 : decode c_Ed_countSteps 34 = .ok (.aload_n 1, 1) := by decide +kernel
theorem d_Ed_countSteps_35 : decode c_Ed_countSteps 35 = .ok (.getfield 37, 3) := by decide +kernel
theorem d_Ed_countSteps_38 : decode c_Ed_countSteps 38 = .ok (.iload_n 3, 1) := by decide +kernel
theorem d_Ed_countSteps_39 : decode c_Ed_countSteps 39 = .ok (.caload, 1) := by decide +kernel
theorem d_Ed_countSteps_40 : decode c_Ed_countSteps 40 = .ok (.aload_n 2, 1) := by decide +kernel
theorem d_Ed_countSteps_41 : decode c_Ed_countSteps 41 = .ok (.invokevirtual 41, 3) := by decide +kernel
theorem d_Ed_countSteps_44 : decode c_Ed_countSteps 44 = .ok (.iinc 3 1, 3) := by decide +kernel
theorem d_Ed_countSteps_47 : decode c_Ed_countSteps 47 = .ok (.goto (-22), 3) := by decide +kernel
theorem d_Ed_countSteps_50 : decode c_Ed_countSteps 50 = .ok (.aload_n 0, 1) := by decide +kernel
theorem d_Ed_countSteps_51 : decode c_Ed_countSteps 51 = .ok (.getfield 9, 3) := by decide +kernel
theorem d_Ed_countSteps_54 : decode c_Ed_countSteps 54 = .ok (.aload_n 2, 1) := by decide +kernel
theorem d_Ed_countSteps_55 : decode c_Ed_countSteps 55 = .ok (.getfield 32, 3) := by decide +kernel
theorem d_Ed_countSteps_58 : decode c_Ed_countSteps 58 = .ok (.iaload, 1) := by decide +kernel
theorem d_Ed_countSteps_59 : decode c_Ed_countSteps 59 = .ok (.ireturn, 1) := by decide +kernel
theorem d_Ed_goThrough_0 : decode c_Ed_goThrough 0 = .ok (.aload_n 0, 1) := by decide +kernel
theorem d_Ed_goThrough_1 : decode c_Ed_goThrough 1 = .ok (.getfield 9, 3) := by decide +kernel
theorem d_Ed_goThrough_4 : decode c_Ed_goThrough 4 = .ok (.iconst 0, 1) := by decide +kernel
theorem d_Ed_goThrough_5 : decode c_Ed_goThrough 5 = .ok (.iaload, 1) := by decide +kernel
theorem d_Ed_goThrough_6 : decode c_Ed_goThrough 6 = .ok (.istore_n 3, 1) := by decide +kernel
theorem d_Ed_goThrough_7 : decode c_Ed_goThrough 7 = .ok (.aload_n 0, 1) := by decide +kernel
theorem d_Ed_goThrough_8 : decode c_Ed_goThrough 8 = .ok (.getfield 9, 3) := by decide +kernel
theorem d_Ed_goThrough_11 : decode c_Ed_goThrough 11 = .ok (.iconst 0, 1) := by decide +kernel
theorem d_Ed_goThrough_12 : decode c_Ed_goThrough 12 = .ok (.dup2, 1) := by decide +kernel
theorem d_Ed_goThrough_13 : decode c_Ed_goThrough 13 = .ok (.iaload, 1) := by decide +kernel
theorem d_Ed_goThrough_14 : decode c_Ed_goThrough 14 = .ok (.iconst 1, 1) := by decide +kernel
theorem d_Ed_goThrough_15 : decode c_Ed_goThrough 15 = .ok (.iadd, 1) := by decide +kernel
theorem d_Ed_goThrough_16 : decode c_Ed_goThrough 16 = .ok (.iastore, 1) := by decide +kernel
theorem d_Ed_goThrough_17 : decode c_Ed_goThrough 17 = .ok (.iconst 1, 1) := by decide +kernel
theorem d_Ed_goThrough_18 : decode c_Ed_goThrough 18 = .ok (.istore 4, 2) := by decide +kernel
theorem d_Ed_goThrough_20 : decode c_Ed_goThrough 20 = .ok (.iload 4, 2) := by decide +kernel
theorem d_Ed_goThrough_22 : decode c_Ed_goThrough 22 = .ok (.aload_n 2, 1) := by decide +kernel
theorem d_Ed_goThrough_23 : decode c_Ed_goThrough 23 = .ok (.getfield 32, 3) := by decide +kernel
theorem d_Ed_goThrough_26 : decode c_Ed_goThrough 26 = .ok (.if_icmp .gt 72, 3) := by decide +kernel
theorem d_Ed_goThrough_29 : decode c_Ed_goThrough 29 = .ok (.aload_n 2, 1) := by decide +kernel
theorem d_Ed_goThrough_30 : decode c_Ed_goThrough 30 = .ok (.getfield 37, 3) := by decide +kernel
theorem d_Ed_goThrough_33 : decode c_Ed_goThrough 33 = .ok (.iload 4, 2) := by decide +kernel
theorem d_Ed_goThrough_35 : decode c_Ed_goThrough 35 = .ok (.iconst 1, 1) := by decide +kernel
theorem d_Ed_goThrough_36 : decode c_Ed_goThrough 36 = .ok (.isub, 1) := by decide +kernel
theorem d_Ed_goThrough_37 : decode c_Ed_goThrough 37 = .ok (.caload, 1) := by decide +kernel
theorem d_Ed_goThrough_38 : decode c_Ed_goThrough 38 = .ok (.iload_n 1, 1) := by decide +kernel
theorem d_Ed_goThrough_39 : decode c_Ed_goThrough 39 = .ok (.if_icmp .ne 7, 3) := by decide +kernel
theorem d_Ed_goThrough_42 : decode c_Ed_goThrough 42 = .ok (.iload_n 3, 1) := by decide +kernel
theorem d_Ed_goThrough_43 : decode c_Ed_goThrough 43 = .ok (.goto 6, 3) := by decide +kernel
theorem d_Ed_goThrough_46 : decode c_Ed_goThrough 46 = .ok (.iload_n 3, 1) := by decide +kernel
theorem d_Ed_goThrough_47 : decode c_Ed_goThrough 47 = .ok (.iconst 1, 1) := by decide +kernel
theorem d_Ed_goThrough_48 : decode c_Ed_goThrough 48 = .ok (.iadd, 1) := by decide +kernel
theorem d_Ed_goThrough_49 : decode c_Ed_goThrough 49 = .ok (.istore 5, 2) := by decide +kernel
theorem d_Ed_goThrough_51 : decode c_Ed_goThrough 51 = .ok (.aload_n 0, 1) := by decide +kernel
theorem d_Ed_goThrough_52 : decode c_Ed_goThrough 52 = .ok (.getfield 9, 3) := by decide +kernel
theorem d_Ed_goThrough_55 : decode c_Ed_goThrough 55 = .ok (.iload 4, 2) := by decide +kernel
theorem d_Ed_goThrough_57 : decode c_Ed_goThrough 57 = .ok (.iaload, 1) := by decide +kernel
theorem d_Ed_goThrough_58 : decode c_Ed_goThrough 58 = .ok (.istore_n 3, 1) := by decide +kernel
theorem d_Ed_goThrough_59 : decode c_Ed_goThrough 59 = .ok (.aload_n 0, 1) := by decide +kernel
theorem d_Ed_goThrough_60 : decode c_Ed_goThrough 60 = .ok (.getfield 9, 3) := by decide +kernel
theorem d_Ed_goThrough_63 : decode c_Ed_goThrough 63 = .ok (.iload 4, 2) := by decide +kernel
theorem d_Ed_goThrough_65 : decode c_Ed_goThrough 65 = .ok (.iload 5, 2) := by decide +kernel
theorem d_Ed_goThrough_67 : decode c_Ed_goThrough 67 = .ok (.aload_n 0, 1) := by decide +kernel
theorem d_Ed_goThrough_68 : decode c_Ed_goThrough 68 = .ok (.getfield 9, 3) := by decide +kernel
theorem d_Ed_goThrough_71 : decode c_Ed_goThrough 71 = .ok (.iload 4, 2) := by decide +kernel
theorem d_Ed_goThrough_73 : decode c_Ed_goThrough 73 = .ok (.iaload, 1) := by decide +kernel
theorem d_Ed_goThrough_74 : decode c_Ed_goThrough 74 = .ok (.aload_n 0, 1) := by decide +kernel
theorem d_Ed_goThrough_75 : decode c_Ed_goThrough 75 = .ok (.getfield 9, 3) := by decide +kernel
theorem d_Ed_goThrough_78 : decode c_Ed_goThrough 78 = .ok (.iload 4, 2) := by decide +kernel
theorem d_Ed_goThrough_80 : decode c_Ed_goThrough 80 = .ok (.iconst 1, 1) := by decide +kernel
theorem d_Ed_goThrough_81 : decode c_Ed_goThrough 81 = .ok (.isub, 1) := by decide +kernel
theorem d_Ed_goThrough_82 : decode c_Ed_goThrough 82 = .ok (.iaload, 1) := by decide +kernel
theorem d_Ed_goThrough_83 : decode c_Ed_goThrough 83 = .ok (.invokestatic 45, 3) := by decide +kernel
theorem d_Ed_goThrough_86 : decode c_Ed_goThrough 86 = .ok (.iconst 1, 1) := by decide +kernel
theorem d_Ed_goThrough_87 : decode c_Ed_goThrough 87 = .ok (.iadd, 1) := by decide +kernel
theorem d_Ed_goThrough_88 : decode c_Ed_goThrough 88 = .ok (.invokestatic 45, 3) := by decide +kernel
theorem d_Ed_goThrough_91 : decode c_Ed_goThrough 91 = .ok (.iastore, 1) := by decide +kernel
theorem d_Ed_goThrough_92 : decode c_Ed_goThrough 92 = .ok (.iinc 4 1, 3) := by decide +kernel
theorem d_Ed_goThrough_95 : decode c_Ed_goThrough 95 = .ok (.goto (-75), 3) := by decide +kernel
theorem d_Ed_goThrough_98 : decode c_Ed_goThrough 98 = .ok (.return_, 1) := by decide +kernel
theorem d_En_init_0 : decode c_En_init 0 = .ok (.aload_n 0, 1) := by decide +kernel
theorem d_En_init_1 : decode c_En_init 1 = .ok (.invokespecial 1, 3) := by decide +kernel
theorem d_En_init_4 : decode c_En_init 4 = .ok (.aload_n 0, 1) := by decide +kernel
theorem d_En_init_5 : decode c_En_init 5 = .ok (.new 7, 3) := by decide +kernel
theorem d_En_init_8 : decode c_En_init 8 = .ok (.dup, 1) := by decide +kernel
theorem d_En_init_9 : decode c_En_init 9 = .ok (.invokespecial 9, 3) := by decide +kernel
theorem d_En_init_12 : decode c_En_init 12 = .ok (.putfield 10, 3) := by decide +kernel
theorem d_En_init_15 : decode c_En_init 15 = .ok (.aload_n 0, 1) := by decide +kernel
theorem d_En_init_16 : decode c_En_init 16 = .ok (.new 7, 3) := by decide +kernel
theorem d_En_init_19 : decode c_En_init 19 = .ok (.dup, 1) := by decide +kernel
theorem d_En_init_20 : decode c_En_init 20 = .ok (.invokespecial 9, 3) := by decide +kernel
theorem d_En_init_23 : decode c_En_init 23 = .ok (.putfield 16, 3) := by decide +kernel
theorem d_En_init_26 : decode c_En_init 26 = .ok (.return_, 1) := by decide +kernel
theorem d_En_text_0 : decode c_En_text 0 = .ok (.iload_n 1, 1) := by decide +kernel
theorem d_En_text_1 : decode c_En_text 1 = .ok (.ifCond .ne 10, 3) := by decide +kernel
theorem d_En_text_4 : decode c_En_text 4 = .ok (.aload_n 0, 1) := by decide +kernel
theorem d_En_text_5 : decode c_En_text 5 = .ok (.getfield 10, 3) := by decide +kernel
theorem d_En_text_8 : decode c_En_text 8 = .ok (.goto 7, 3) := by decide +kernel
theorem d_En_text_11 : decode c_En_text 11 = .ok (.aload_n 0, 1) := by decide +kernel
theorem d_En_text_12 : decode c_En_text 12 = .ok (.getfield 16, 3) := by decide +kernel
theorem d_En_text_15 : decode c_En_text 15 = .ok (.areturn, 1) := by decide +kernel
theorem d_Ex_init_0 : decode c_Ex_init 0 = .ok (.aload_n 0, 1) := by decide +kernel
theorem d_Ex_init_1 : decode c_Ex_init 1 = .ok (.invokespecial 1, 3) := by decide +kernel
theorem d_Ex_init_4 : decode c_Ex_init 4 = .ok (.aload_n 0, 1) := by decide +kernel
theorem d_Ex_init_5 : decode c_Ex_init 5 = .ok (.iload_n 1, 1) := by decide +kernel
theorem d_Ex_init_6 : decode c_Ex_init 6 = .ok (.putfield 7, 3) := by decide +kernel
theorem d_Ex_init_9 : decode c_Ex_init 9 = .ok (.aload_n 0, 1) := by decide +kernel
theorem d_Ex_init_10 : decode c_Ex_init 10 = .ok (.iload_n 2, 1) := by decide +kernel
theorem d_Ex_init_11 : decode c_Ex_init 11 = .ok (.putfield 13, 3) := by decide +kernel
theorem d_Ex_init_14 : decode c_Ex_init 14 = .ok (.return_, 1) := by decide +kernel
theorem d_Ja_init_0 : decode c_Ja_init 0 = .ok (.aload_n 0, 1) := by decide +kernel
theorem d_Ja_init_1 : decode c_Ja_init 1 = .ok (.iconst 1, 1) := by decide +kernel
theorem d_Ja_init_2 : decode c_Ja_init 2 = .ok (.iconst 1, 1) := by decide +kernel
theorem d_Ja_init_3 : decode c_Ja_init 3 = .ok (.invokespecial 1, 3) := by decide +kernel
theorem d_Ja_init_6 : decode c_Ja_init 6 = .ok (.aload_n 0, 1) := by decide +kernel
theorem d_Ja_init_7 : decode c_Ja_init 7 = .ok (.iload_n 1, 1) := by decide +kernel
theorem d_Ja_init_8 : decode c_Ja_init 8 = .ok (.putfield 7, 3) := by decide +kernel
theorem d_Ja_init_11 : decode c_Ja_init 11 = .ok (.aload_n 0, 1) := by decide +kernel
theorem d_Ja_init_12 : decode c_Ja_init 12 = .ok (.iload_n 2, 1) := by decide +kernel
theorem d_Ja_init_13 : decode c_Ja_init 13 = .ok (.putfield 13, 3) := by decide +kernel
theorem d_Ja_init_16 : decode c_Ja_init 16 = .ok (.aload_n 0, 1) := by decide +kernel
theorem d_Ja_init_17 : decode c_Ja_init 17 = .ok (.iload_n 3, 1) := by decide +kernel
theorem d_Ja_init_18 : decode c_Ja_init 18 = .ok (.putfield 16, 3) := by decide +kernel
theorem d_Ja_init_21 : decode c_Ja_init 21 = .ok (.return_, 1) := by decide +kernel
theorem d_Ja_holdsOf_0 : decode c_Ja_holdsOf 0 = .ok (.aload_n 1, 1) := by decide +kernel
theorem d_Ja_holdsOf_1 : decode c_Ja_holdsOf 1 = .ok (.aload_n 0, 1) := by decide +kernel
theorem d_Ja_holdsOf_2 : decode c_Ja_holdsOf 2 = .ok (.getfield 7, 3) := by decide +kernel
theorem d_Ja_holdsOf_5 : decode c_Ja_holdsOf 5 = .ok (.invokevirtual 19, 3) := by decide +kernel
theorem d_Ja_holdsOf_8 : decode c_Ja_holdsOf 8 = .ok (.astore_n 3, 1) := by decide +kernel
theorem d_Ja_holdsOf_9 : decode c_Ja_holdsOf 9 = .ok (.aload_n 2, 1) := by decide +kernel
theorem d_Ja_holdsOf_10 : decode c_Ja_holdsOf 10 = .ok (.aload_n 0, 1) := by decide +kernel
theorem d_Ja_holdsOf_11 : decode c_Ja_holdsOf 11 = .ok (.getfield 7, 3) := by decide +kernel
theorem d_Ja_holdsOf_14 : decode c_Ja_holdsOf 14 = .ok (.invokevirtual 19, 3) := by decide +kernel
theorem d_Ja_holdsOf_17 : decode c_Ja_holdsOf 17 = .ok (.astore 4, 2) := by decide +kernel
theorem d_Ja_holdsOf_19 : decode c_Ja_holdsOf 19 = .ok (.aload_n 3, 1) := by decide +kernel
theorem d_Ja_holdsOf_20 : decode c_Ja_holdsOf 20 = .ok (.aload 4, 2) := by decide +kernel
theorem d_Ja_holdsOf_22 : decode c_Ja_holdsOf 22 = .ok (.invokevirtual 25, 3) := by decide +kernel
theorem d_Ja_holdsOf_25 : decode c_Ja_holdsOf 25 = .ok (.istore 5, 2) := by decide +kernel
theorem d_Ja_holdsOf_27 : decode c_Ja_holdsOf 27 = .ok (.aload_n 3, 1) := by decide +kernel
theorem d_Ja_holdsOf_28 : decode c_Ja_holdsOf 28 = .ok (.invokevirtual 31, 3) := by decide +kernel
theorem d_Ja_holdsOf_31 : decode c_Ja_holdsOf 31 = .ok (.aload 4, 2) := by decide +kernel
theorem d_Ja_holdsOf_33 : decode c_Ja_holdsOf 33 = .ok (.invokevirtual 31, 3) := by decide +kernel
theorem d_Ja_holdsOf_36 : decode c_Ja_holdsOf 36 = .ok (.iadd, 1) := by decide +kernel
theorem d_Ja_holdsOf_37 : decode c_Ja_holdsOf 37 = .ok (.iload 5, 2) := by decide +kernel
theorem d_Ja_holdsOf_39 : decode c_Ja_holdsOf 39 = .ok (.isub, 1) := by decide +kernel
theorem d_Ja_holdsOf_40 : decode c_Ja_holdsOf 40 = .ok (.istore 6, 2) := by decide +kernel
theorem d_Ja_holdsOf_42 : decode c_Ja_holdsOf 42 = .ok (.iload 6, 2) := by decide +kernel
theorem d_Ja_holdsOf_44 : decode c_Ja_holdsOf 44 = .ok (.ifCond .le 24, 3) := by decide +kernel
theorem d_Ja_holdsOf_47 : decode c_Ja_holdsOf 47 = .ok (.iload 5, 2) := by decide +kernel
theorem d_Ja_holdsOf_49 : decode c_Ja_holdsOf 49 = .ok (.aload_n 0, 1) := by decide +kernel
theorem d_Ja_holdsOf_50 : decode c_Ja_holdsOf 50 = .ok (.getfield 16, 3) := by decide +kernel
theorem d_Ja_holdsOf_53 : decode c_Ja_holdsOf 53 = .ok (.imul, 1) := by decide +kernel
theorem d_Ja_holdsOf_54 : decode c_Ja_holdsOf 54 = .ok (.aload_n 0, 1) := by decide +kernel
theorem d_Ja_holdsOf_55 : decode c_Ja_holdsOf 55 = .ok (.getfield 13, 3) := by decide +kernel
theorem d_Ja_holdsOf_58 : decode c_Ja_holdsOf 58 = .ok (.iload 6, 2) := by decide +kernel
theorem d_Ja_holdsOf_60 : decode c_Ja_holdsOf 60 = .ok (.imul, 1) := by decide +kernel
theorem d_Ja_holdsOf_61 : decode c_Ja_holdsOf 61 = .ok (.if_icmp .lt 7, 3) := by decide +kernel
theorem d_Ja_holdsOf_64 : decode c_Ja_holdsOf 64 = .ok (.iconst 1, 1) := by decide +kernel
theorem d_Ja_holdsOf_65 : decode c_Ja_holdsOf 65 = .ok (.goto 4, 3) := by decide +kernel
theorem d_Ja_holdsOf_68 : decode c_Ja_holdsOf 68 = .ok (.iconst 0, 1) := by decide +kernel
theorem d_Ja_holdsOf_69 : decode c_Ja_holdsOf 69 = .ok (.ireturn, 1) := by decide +kernel
theorem d_Jo_init_0 : decode c_Jo_init 0 = .ok (.aload_n 0, 1) := by decide +kernel
theorem d_Jo_init_1 : decode c_Jo_init 1 = .ok (.aload_n 2, 1) := by decide +kernel
theorem d_Jo_init_2 : decode c_Jo_init 2 = .ok (.getfield 1, 3) := by decide +kernel
theorem d_Jo_init_5 : decode c_Jo_init 5 = .ok (.aload_n 3, 1) := by decide +kernel
theorem d_Jo_init_6 : decode c_Jo_init 6 = .ok (.getfield 1, 3) := by decide +kernel
theorem d_Jo_init_9 : decode c_Jo_init 9 = .ok (.iadd, 1) := by decide +kernel
theorem d_Jo_init_10 : decode c_Jo_init 10 = .ok (.iload_n 1, 1) := by decide +kernel
theorem d_Jo_init_11 : decode c_Jo_init 11 = .ok (.ifCond .eq 25, 3) := by decide +kernel
theorem d_Jo_init_14 : decode c_Jo_init 14 = .ok (.aload_n 2, 1) := by decide +kernel
theorem d_Jo_init_15 : decode c_Jo_init 15 = .ok (.getfield 7, 3) := by decide +kernel
theorem d_Jo_init_18 : decode c_Jo_init 18 = .ok (.ifCond .ne 10, 3) := by decide +kernel
theorem d_Jo_init_21 : decode c_Jo_init 21 = .ok (.aload_n 3, 1) := by decide +kernel
theorem d_Jo_init_22 : decode c_Jo_init 22 = .ok (.getfield 7, 3) := by decide +kernel
theorem d_Jo_init_25 : decode c_Jo_init 25 = .ok (.ifCond .eq 7, 3) := by decide +kernel
theorem d_Jo_init_28 : decode c_Jo_init 28 = .ok (.iconst 1, 1) := by decide +kernel
theorem d_Jo_init_29 : decode c_Jo_init 29 = .ok (.goto 26, 3) := by decide +kernel
theorem d_Jo_init_32 : decode c_Jo_init 32 = .ok (.iconst 0, 1) := by decide +kernel
theorem d_Jo_init_33 : decode c_Jo_init 33 = .ok (.goto 22, 3) := by decide +kernel
theorem d_Jo_init_36 : decode c_Jo_init 36 = .ok (.aload_n 2, 1) := by decide +kernel
theorem d_Jo_init_37 : decode c_Jo_init 37 = .ok (.getfield 7, 3) := by decide +kernel
theorem d_Jo_init_40 : decode c_Jo_init 40 = .ok (.ifCond .eq 14, 3) := by decide +kernel
theorem d_Jo_init_43 : decode c_Jo_init 43 = .ok (.aload_n 3, 1) := by decide +kernel
theorem d_Jo_init_44 : decode c_Jo_init 44 = .ok (.getfield 7, 3) := by decide +kernel
theorem d_Jo_init_47 : decode c_Jo_init 47 = .ok (.ifCond .eq 7, 3) := by decide +kernel
theorem d_Jo_init_50 : decode c_Jo_init 50 = .ok (.iconst 1, 1) := by decide +kernel
theorem d_Jo_init_51 : decode c_Jo_init 51 = .ok (.goto 4, 3) := by decide +kernel
theorem d_Jo_init_54 : decode c_Jo_init 54 = .ok (.iconst 0, 1) := by decide +kernel
theorem d_Jo_init_55 : decode c_Jo_init 55 = .ok (.invokespecial 11, 3) := by decide +kernel
theorem d_Jo_init_58 : decode c_Jo_init 58 = .ok (.aload_n 0, 1) := by decide +kernel
theorem d_Jo_init_59 : decode c_Jo_init 59 = .ok (.iload_n 1, 1) := by decide +kernel
theorem d_Jo_init_60 : decode c_Jo_init 60 = .ok (.putfield 15, 3) := by decide +kernel
theorem d_Jo_init_63 : decode c_Jo_init 63 = .ok (.aload_n 0, 1) := by decide +kernel
theorem d_Jo_init_64 : decode c_Jo_init 64 = .ok (.aload_n 2, 1) := by decide +kernel
theorem d_Jo_init_65 : decode c_Jo_init 65 = .ok (.putfield 20, 3) := by decide +kernel
theorem d_Jo_init_68 : decode c_Jo_init 68 = .ok (.aload_n 0, 1) := by decide +kernel
theorem d_Jo_init_69 : decode c_Jo_init 69 = .ok (.aload_n 3, 1) := by decide +kernel
theorem d_Jo_init_70 : decode c_Jo_init 70 = .ok (.putfield 24, 3) := by decide +kernel
theorem d_Jo_init_73 : decode c_Jo_init 73 = .ok (.return_, 1) := by decide +kernel
theorem d_Jo_holdsOf_0 : decode c_Jo_holdsOf 0 = .ok (.aload_n 0, 1) := by decide +kernel
theorem d_Jo_holdsOf_1 : decode c_Jo_holdsOf 1 = .ok (.getfield 15, 3) := by decide +kernel
theorem d_Jo_holdsOf_4 : decode c_Jo_holdsOf 4 = .ok (.ifCond .eq 35, 3) := by decide +kernel
theorem d_Jo_holdsOf_7 : decode c_Jo_holdsOf 7 = .ok (.aload_n 0, 1) := by decide +kernel
theorem d_Jo_holdsOf_8 : decode c_Jo_holdsOf 8 = .ok (.getfield 20, 3) := by decide +kernel
theorem d_Jo_holdsOf_11 : decode c_Jo_holdsOf 11 = .ok (.aload_n 1, 1) := by decide +kernel
theorem d_Jo_holdsOf_12 : decode c_Jo_holdsOf 12 = .ok (.aload_n 2, 1) := by decide +kernel
theorem d_Jo_holdsOf_13 : decode c_Jo_holdsOf 13 = .ok (.invokevirtual 27, 3) := by decide +kernel
theorem d_Jo_holdsOf_16 : decode c_Jo_holdsOf 16 = .ok (.ifCond .eq 19, 3) := by decide +kernel
theorem d_Jo_holdsOf_19 : decode c_Jo_holdsOf 19 = .ok (.aload_n 0, 1) := by decide +kernel
theorem d_Jo_holdsOf_20 : decode c_Jo_holdsOf 20 = .ok (.getfield 24, 3) := by decide +kernel
theorem d_Jo_holdsOf_23 : decode c_Jo_holdsOf 23 = .ok (.aload_n 1, 1) := by decide +kernel
theorem d_Jo_holdsOf_24 : decode c_Jo_holdsOf 24 = .ok (.aload_n 2, 1) := by decide +kernel
theorem d_Jo_holdsOf_25 : decode c_Jo_holdsOf 25 = .ok (.invokevirtual 27, 3) := by decide +kernel
theorem d_Jo_holdsOf_28 : decode c_Jo_holdsOf 28 = .ok (.ifCond .eq 7, 3) := by decide +kernel
theorem d_Jo_holdsOf_31 : decode c_Jo_holdsOf 31 = .ok (.iconst 1, 1) := by decide +kernel
theorem d_Jo_holdsOf_32 : decode c_Jo_holdsOf 32 = .ok (.goto 36, 3) := by decide +kernel
theorem d_Jo_holdsOf_35 : decode c_Jo_holdsOf 35 = .ok (.iconst 0, 1) := by decide +kernel
theorem d_Jo_holdsOf_36 : decode c_Jo_holdsOf 36 = .ok (.goto 32, 3) := by decide +kernel
theorem d_Jo_holdsOf_39 : decode c_Jo_holdsOf 39 = .ok (.aload_n 0, 1) := by decide +kernel
theorem d_Jo_holdsOf_40 : decode c_Jo_holdsOf 40 = .ok (.getfield 20, 3) := by decide +kernel
theorem d_Jo_holdsOf_43 : decode c_Jo_holdsOf 43 = .ok (.aload_n 1, 1) := by decide +kernel
theorem d_Jo_holdsOf_44 : decode c_Jo_holdsOf 44 = .ok (.aload_n 2, 1) := by decide +kernel
theorem d_Jo_holdsOf_45 : decode c_Jo_holdsOf 45 = .ok (.invokevirtual 27, 3) := by decide +kernel
theorem d_Jo_holdsOf_48 : decode c_Jo_holdsOf 48 = .ok (.ifCond .ne 15, 3) := by decide +kernel
theorem d_Jo_holdsOf_51 : decode c_Jo_holdsOf 51 = .ok (.aload_n 0, 1) := by decide +kernel
theorem d_Jo_holdsOf_52 : decode c_Jo_holdsOf 52 = .ok (.getfield 24, 3) := by decide +kernel
theorem d_Jo_holdsOf_55 : decode c_Jo_holdsOf 55 = .ok (.aload_n 1, 1) := by decide +kernel
theorem d_Jo_holdsOf_56 : decode c_Jo_holdsOf 56 = .ok (.aload_n 2, 1) := by decide +kernel
theorem d_Jo_holdsOf_57 : decode c_Jo_holdsOf 57 = .ok (.invokevirtual 27, 3) := by decide +kernel
theorem d_Jo_holdsOf_60 : decode c_Jo_holdsOf 60 = .ok (.ifCond .eq 7, 3) := by decide +kernel
theorem d_Jo_holdsOf_63 : decode c_Jo_holdsOf 63 = .ok (.iconst 1, 1) := by decide +kernel
theorem d_Jo_holdsOf_64 : decode c_Jo_holdsOf 64 = .ok (.goto 4, 3) := by decide +kernel
theorem d_Jo_holdsOf_67 : decode c_Jo_holdsOf 67 = .ok (.iconst 0, 1) := by decide +kernel
theorem d_Jo_holdsOf_68 : decode c_Jo_holdsOf 68 = .ok (.ireturn, 1) := by decide +kernel
theorem d_Ru_init_0 : decode c_Ru_init 0 = .ok (.aload_n 0, 1) := by decide +kernel
theorem d_Ru_init_1 : decode c_Ru_init 1 = .ok (.invokespecial 3, 3) := by decide +kernel
theorem d_Ru_init_4 : decode c_Ru_init 4 = .ok (.aload_n 0, 1) := by decide +kernel
theorem d_Ru_init_5 : decode c_Ru_init 5 = .ok (.iconst 4, 1) := by decide +kernel
theorem d_Ru_init_6 : decode c_Ru_init 6 = .ok (.newarray .int, 2) := by decide +kernel
theorem d_Ru_init_8 : decode c_Ru_init 8 = .ok (.putfield 9, 3) := by decide +kernel
theorem d_Ru_init_11 : decode c_Ru_init 11 = .ok (.aload_n 0, 1) := by decide +kernel
theorem d_Ru_init_12 : decode c_Ru_init 12 = .ok (.sipush 144, 3) := by decide +kernel
theorem d_Ru_init_15 : decode c_Ru_init 15 = .ok (.newarray .boolean, 2) := by decide +kernel
theorem d_Ru_init_17 : decode c_Ru_init 17 = .ok (.putfield 15, 3) := by decide +kernel
theorem d_Ru_init_20 : decode c_Ru_init 20 = .ok (.aload_n 0, 1) := by decide +kernel
theorem d_Ru_init_21 : decode c_Ru_init 21 = .ok (.bipush 12, 2) := by decide +kernel
theorem d_Ru_init_23 : decode c_Ru_init 23 = .ok (.newarray .int, 2) := by decide +kernel
theorem d_Ru_init_25 : decode c_Ru_init 25 = .ok (.putfield 19, 3) := by decide +kernel
theorem d_Ru_init_28 : decode c_Ru_init 28 = .ok (.return_, 1) := by decide +kernel
theorem d_Ru_begin_0 : decode c_Ru_begin 0 = .ok (.aload_n 0, 1) := by decide +kernel
theorem d_Ru_begin_1 : decode c_Ru_begin 1 = .ok (.iload_n 1, 1) := by decide +kernel
theorem d_Ru_begin_2 : decode c_Ru_begin 2 = .ok (.putfield 22, 3) := by decide +kernel
theorem d_Ru_begin_5 : decode c_Ru_begin 5 = .ok (.aload_n 0, 1) := by decide +kernel
theorem d_Ru_begin_6 : decode c_Ru_begin 6 = .ok (.iload_n 2, 1) := by decide +kernel
theorem d_Ru_begin_7 : decode c_Ru_begin 7 = .ok (.putfield 26, 3) := by decide +kernel
theorem d_Ru_begin_10 : decode c_Ru_begin 10 = .ok (.iconst 0, 1) := by decide +kernel
theorem d_Ru_begin_11 : decode c_Ru_begin 11 = .ok (.istore_n 3, 1) := by decide +kernel
theorem d_Ru_begin_12 : decode c_Ru_begin 12 = .ok (.iload_n 3, 1) := by decide +kernel
theorem d_Ru_begin_13 : decode c_Ru_begin 13 = .ok (.aload_n 0, 1) := by decide +kernel
theorem d_Ru_begin_14 : decode c_Ru_begin 14 = .ok (.getfield 9, 3) := by decide +kernel
theorem d_Ru_begin_17 : decode c_Ru_begin 17 = .ok (.arraylength, 1) := by decide +kernel
theorem d_Ru_begin_18 : decode c_Ru_begin 18 = .ok (.if_icmp .ge 16, 3) := by decide +kernel
theorem d_Ru_begin_21 : decode c_Ru_begin 21 = .ok (.aload_n 0, 1) := by decide +kernel
theorem d_Ru_begin_22 : decode c_Ru_begin 22 = .ok (.getfield 9, 3) := by decide +kernel
theorem d_Ru_begin_25 : decode c_Ru_begin 25 = .ok (.iload_n 3, 1) := by decide +kernel
theorem d_Ru_begin_26 : decode c_Ru_begin 26 = .ok (.iconst 0, 1) := by decide +kernel
theorem d_Ru_begin_27 : decode c_Ru_begin 27 = .ok (.iastore, 1) := by decide +kernel
theorem d_Ru_begin_28 : decode c_Ru_begin 28 = .ok (.iinc 3 1, 3) := by decide +kernel
theorem d_Ru_begin_31 : decode c_Ru_begin 31 = .ok (.goto (-19), 3) := by decide +kernel
theorem d_Ru_begin_34 : decode c_Ru_begin 34 = .ok (.iconst 0, 1) := by decide +kernel
theorem d_Ru_begin_35 : decode c_Ru_begin 35 = .ok (.istore_n 3, 1) := by decide +kernel
theorem d_Ru_begin_36 : decode c_Ru_begin 36 = .ok (.iload_n 3, 1) := by decide +kernel
theorem d_Ru_begin_37 : decode c_Ru_begin 37 = .ok (.aload_n 0, 1) := by decide +kernel
theorem d_Ru_begin_38 : decode c_Ru_begin 38 = .ok (.getfield 15, 3) := by decide +kernel
theorem d_Ru_begin_41 : decode c_Ru_begin 41 = .ok (.arraylength, 1) := by decide +kernel
theorem d_Ru_begin_42 : decode c_Ru_begin 42 = .ok (.if_icmp .ge 16, 3) := by decide +kernel
theorem d_Ru_begin_45 : decode c_Ru_begin 45 = .ok (.aload_n 0, 1) := by decide +kernel
theorem d_Ru_begin_46 : decode c_Ru_begin 46 = .ok (.getfield 15, 3) := by decide +kernel
theorem d_Ru_begin_49 : decode c_Ru_begin 49 = .ok (.iload_n 3, 1) := by decide +kernel
theorem d_Ru_begin_50 : decode c_Ru_begin 50 = .ok (.iconst 0, 1) := by decide +kernel
theorem d_Ru_begin_51 : decode c_Ru_begin 51 = .ok (.bastore, 1) := by decide +kernel
theorem d_Ru_begin_52 : decode c_Ru_begin 52 = .ok (.iinc 3 1, 3) := by decide +kernel
theorem d_Ru_begin_55 : decode c_Ru_begin 55 = .ok (.goto (-19), 3) := by decide +kernel
theorem d_Ru_begin_58 : decode c_Ru_begin 58 = .ok (.return_, 1) := by decide +kernel
theorem d_Ru_end_0 : decode c_Ru_end 0 = .ok (.aload_n 0, 1) := by decide +kernel
theorem d_Ru_end_1 : decode c_Ru_end 1 = .ok (.iconst 0, 1) := by decide +kernel
theorem d_Ru_end_2 : decode c_Ru_end 2 = .ok (.putfield 22, 3) := by decide +kernel
theorem d_Ru_end_5 : decode c_Ru_end 5 = .ok (.return_, 1) := by decide +kernel
theorem d_Ru_isOpen_0 : decode c_Ru_isOpen 0 = .ok (.aload_n 0, 1) := by decide +kernel
theorem d_Ru_isOpen_1 : decode c_Ru_isOpen 1 = .ok (.getfield 22, 3) := by decide +kernel
theorem d_Ru_isOpen_4 : decode c_Ru_isOpen 4 = .ok (.ifCond .le 7, 3) := by decide +kernel
theorem d_Ru_isOpen_7 : decode c_Ru_isOpen 7 = .ok (.iconst 1, 1) := by decide +kernel
theorem d_Ru_isOpen_8 : decode c_Ru_isOpen 8 = .ok (.goto 4, 3) := by decide +kernel
theorem d_Ru_isOpen_11 : decode c_Ru_isOpen 11 = .ok (.iconst 0, 1) := by decide +kernel
theorem d_Ru_isOpen_12 : decode c_Ru_isOpen 12 = .ok (.ireturn, 1) := by decide +kernel
theorem d_Ru_hasWorker_0 : decode c_Ru_hasWorker 0 = .ok (.iload_n 1, 1) := by decide +kernel
theorem d_Ru_hasWorker_1 : decode c_Ru_hasWorker 1 = .ok (.ifCond .lt 15, 3) := by decide +kernel
theorem d_Ru_hasWorker_4 : decode c_Ru_hasWorker 4 = .ok (.iload_n 1, 1) := by decide +kernel
theorem d_Ru_hasWorker_5 : decode c_Ru_hasWorker 5 = .ok (.aload_n 0, 1) := by decide +kernel
theorem d_Ru_hasWorker_6 : decode c_Ru_hasWorker 6 = .ok (.getfield 22, 3) := by decide +kernel
theorem d_Ru_hasWorker_9 : decode c_Ru_hasWorker 9 = .ok (.if_icmp .ge 7, 3) := by decide +kernel
theorem d_Ru_hasWorker_12 : decode c_Ru_hasWorker 12 = .ok (.iconst 1, 1) := by decide +kernel
theorem d_Ru_hasWorker_13 : decode c_Ru_hasWorker 13 = .ok (.goto 4, 3) := by decide +kernel
end
section
theorem d_Ru_hasWorker_16 : decode c_Ru_hasWorker 16 = .ok (.iconst 0, 1) := by decide +kernel
theorem d_Ru_hasWorker_17 : decode c_Ru_hasWorker 17 = .ok (.ireturn, 1) := by decide +kernel
theorem d_Ru_isDone_0 : decode c_Ru_isDone 0 = .ok (.iconst 0, 1) := by decide +kernel
theorem d_Ru_isDone_1 : decode c_Ru_isDone 1 = .ok (.istore_n 1, 1) := by decide +kernel
theorem d_Ru_isDone_2 : decode c_Ru_isDone 2 = .ok (.iconst 0, 1) := by decide +kernel
theorem d_Ru_isDone_3 : decode c_Ru_isDone 3 = .ok (.istore_n 2, 1) := by decide +kernel
theorem d_Ru_isDone_4 : decode c_Ru_isDone 4 = .ok (.iload_n 2, 1) := by decide +kernel
theorem d_Ru_isDone_5 : decode c_Ru_isDone 5 = .ok (.aload_n 0, 1) := by decide +kernel
theorem d_Ru_isDone_6 : decode c_Ru_isDone 6 = .ok (.getfield 22, 3) := by decide +kernel
theorem d_Ru_isDone_9 : decode c_Ru_isDone 9 = .ok (.if_icmp .ge 18, 3) := by decide +kernel
theorem d_Ru_isDone_12 : decode c_Ru_isDone 12 = .ok (.iload_n 1, 1) := by decide +kernel
theorem d_Ru_isDone_13 : decode c_Ru_isDone 13 = .ok (.aload_n 0, 1) := by decide +kernel
theorem d_Ru_isDone_14 : decode c_Ru_isDone 14 = .ok (.getfield 9, 3) := by decide +kernel
theorem d_Ru_isDone_17 : decode c_Ru_isDone 17 = .ok (.iload_n 2, 1) := by decide +kernel
theorem d_Ru_isDone_18 : decode c_Ru_isDone 18 = .ok (.iaload, 1) := by decide +kernel
theorem d_Ru_isDone_19 : decode c_Ru_isDone 19 = .ok (.iadd, 1) := by decide +kernel
theorem d_Ru_isDone_20 : decode c_Ru_isDone 20 = .ok (.istore_n 1, 1) := by decide +kernel
theorem d_Ru_isDone_21 : decode c_Ru_isDone 21 = .ok (.iinc 2 1, 3) := by decide +kernel
theorem d_Ru_isDone_24 : decode c_Ru_isDone 24 = .ok (.goto (-20), 3) := by decide +kernel
theorem d_Ru_isDone_27 : decode c_Ru_isDone 27 = .ok (.iload_n 1, 1) := by decide +kernel
theorem d_Ru_isDone_28 : decode c_Ru_isDone 28 = .ok (.aload_n 0, 1) := by decide +kernel
theorem d_Ru_isDone_29 : decode c_Ru_isDone 29 = .ok (.getfield 26, 3) := by decide +kernel
theorem d_Ru_isDone_32 : decode c_Ru_isDone 32 = .ok (.if_icmp .ne 7, 3) := by decide +kernel
theorem d_Ru_isDone_35 : decode c_Ru_isDone 35 = .ok (.iconst 1, 1) := by decide +kernel
theorem d_Ru_isDone_36 : decode c_Ru_isDone 36 = .ok (.goto 4, 3) := by decide +kernel
theorem d_Ru_isDone_39 : decode c_Ru_isDone 39 = .ok (.iconst 0, 1) := by decide +kernel
theorem d_Ru_isDone_40 : decode c_Ru_isDone 40 = .ok (.ireturn, 1) := by decide +kernel
theorem d_Ru_nextTask_0 : decode c_Ru_nextTask 0 = .ok (.aload_n 0, 1) := by decide +kernel
theorem d_Ru_nextTask_1 : decode c_Ru_nextTask 1 = .ok (.iload_n 1, 1) := by decide +kernel
theorem d_Ru_nextTask_2 : decode c_Ru_nextTask 2 = .ok (.aload_n 0, 1) := by decide +kernel
theorem d_Ru_nextTask_3 : decode c_Ru_nextTask 3 = .ok (.getfield 9, 3) := by decide +kernel
theorem d_Ru_nextTask_6 : decode c_Ru_nextTask 6 = .ok (.iload_n 1, 1) := by decide +kernel
theorem d_Ru_nextTask_7 : decode c_Ru_nextTask 7 = .ok (.iaload, 1) := by decide +kernel
theorem d_Ru_nextTask_8 : decode c_Ru_nextTask 8 = .ok (.invokevirtual 29, 3) := by decide +kernel
theorem d_Ru_nextTask_11 : decode c_Ru_nextTask 11 = .ok (.ireturn, 1) := by decide +kernel
theorem d_Ru_taskOf_0 : decode c_Ru_taskOf 0 = .ok (.iload_n 1, 1) := by decide +kernel
theorem d_Ru_taskOf_1 : decode c_Ru_taskOf 1 = .ok (.iload_n 2, 1) := by decide +kernel
theorem d_Ru_taskOf_2 : decode c_Ru_taskOf 2 = .ok (.aload_n 0, 1) := by decide +kernel
theorem d_Ru_taskOf_3 : decode c_Ru_taskOf 3 = .ok (.getfield 22, 3) := by decide +kernel
theorem d_Ru_taskOf_6 : decode c_Ru_taskOf 6 = .ok (.imul, 1) := by decide +kernel
theorem d_Ru_taskOf_7 : decode c_Ru_taskOf 7 = .ok (.iadd, 1) := by decide +kernel
theorem d_Ru_taskOf_8 : decode c_Ru_taskOf 8 = .ok (.ireturn, 1) := by decide +kernel
theorem d_Ru_finishTask_0 : decode c_Ru_finishTask 0 = .ok (.aload_n 0, 1) := by decide +kernel
theorem d_Ru_finishTask_1 : decode c_Ru_finishTask 1 = .ok (.getfield 9, 3) := by decide +kernel
theorem d_Ru_finishTask_4 : decode c_Ru_finishTask 4 = .ok (.iload_n 1, 1) := by decide +kernel
theorem d_Ru_finishTask_5 : decode c_Ru_finishTask 5 = .ok (.dup2, 1) := by decide +kernel
theorem d_Ru_finishTask_6 : decode c_Ru_finishTask 6 = .ok (.iaload, 1) := by decide +kernel
theorem d_Ru_finishTask_7 : decode c_Ru_finishTask 7 = .ok (.iconst 1, 1) := by decide +kernel
theorem d_Ru_finishTask_8 : decode c_Ru_finishTask 8 = .ok (.iadd, 1) := by decide +kernel
theorem d_Ru_finishTask_9 : decode c_Ru_finishTask 9 = .ok (.iastore, 1) := by decide +kernel
theorem d_Ru_finishTask_10 : decode c_Ru_finishTask 10 = .ok (.return_, 1) := by decide +kernel
theorem d_Ru_undoTasks_0 : decode c_Ru_undoTasks 0 = .ok (.aload_n 0, 1) := by decide +kernel
theorem d_Ru_undoTasks_1 : decode c_Ru_undoTasks 1 = .ok (.getfield 9, 3) := by decide +kernel
theorem d_Ru_undoTasks_4 : decode c_Ru_undoTasks 4 = .ok (.iload_n 1, 1) := by decide +kernel
theorem d_Ru_undoTasks_5 : decode c_Ru_undoTasks 5 = .ok (.iaload, 1) := by decide +kernel
theorem d_Ru_undoTasks_6 : decode c_Ru_undoTasks 6 = .ok (.istore_n 2, 1) := by decide +kernel
theorem d_Ru_undoTasks_7 : decode c_Ru_undoTasks 7 = .ok (.iconst 0, 1) := by decide +kernel
theorem d_Ru_undoTasks_8 : decode c_Ru_undoTasks 8 = .ok (.istore_n 3, 1) := by decide +kernel
theorem d_Ru_undoTasks_9 : decode c_Ru_undoTasks 9 = .ok (.iload_n 3, 1) := by decide +kernel
theorem d_Ru_undoTasks_10 : decode c_Ru_undoTasks 10 = .ok (.iload_n 2, 1) := by decide +kernel
theorem d_Ru_undoTasks_11 : decode c_Ru_undoTasks 11 = .ok (.if_icmp .ge 19, 3) := by decide +kernel
theorem d_Ru_undoTasks_14 : decode c_Ru_undoTasks 14 = .ok (.aload_n 0, 1) := by decide +kernel
theorem d_Ru_undoTasks_15 : decode c_Ru_undoTasks 15 = .ok (.aload_n 0, 1) := by decide +kernel
theorem d_Ru_undoTasks_16 : decode c_Ru_undoTasks 16 = .ok (.iload_n 1, 1) := by decide +kernel
theorem d_Ru_undoTasks_17 : decode c_Ru_undoTasks 17 = .ok (.iload_n 3, 1) := by decide +kernel
theorem d_Ru_undoTasks_18 : decode c_Ru_undoTasks 18 = .ok (.invokevirtual 29, 3) := by decide +kernel
theorem d_Ru_undoTasks_21 : decode c_Ru_undoTasks 21 = .ok (.invokevirtual 33, 3) := by decide +kernel
theorem d_Ru_undoTasks_24 : decode c_Ru_undoTasks 24 = .ok (.iinc 3 1, 3) := by decide +kernel
theorem d_Ru_undoTasks_27 : decode c_Ru_undoTasks 27 = .ok (.goto (-18), 3) := by decide +kernel
theorem d_Ru_undoTasks_30 : decode c_Ru_undoTasks 30 = .ok (.aload_n 0, 1) := by decide +kernel
theorem d_Ru_undoTasks_31 : decode c_Ru_undoTasks 31 = .ok (.getfield 9, 3) := by decide +kernel
theorem d_Ru_undoTasks_34 : decode c_Ru_undoTasks 34 = .ok (.iload_n 1, 1) := by decide +kernel
theorem d_Ru_undoTasks_35 : decode c_Ru_undoTasks 35 = .ok (.iconst 0, 1) := by decide +kernel
theorem d_Ru_undoTasks_36 : decode c_Ru_undoTasks 36 = .ok (.iastore, 1) := by decide +kernel
theorem d_Ru_undoTasks_37 : decode c_Ru_undoTasks 37 = .ok (.iload_n 2, 1) := by decide +kernel
theorem d_Ru_undoTasks_38 : decode c_Ru_undoTasks 38 = .ok (.ireturn, 1) := by decide +kernel
theorem d_Ru_forgetPairsOf_0 : decode c_Ru_forgetPairsOf 0 = .ok (.iconst 0, 1) := by decide +kernel
theorem d_Ru_forgetPairsOf_1 : decode c_Ru_forgetPairsOf 1 = .ok (.istore_n 2, 1) := by decide +kernel
theorem d_Ru_forgetPairsOf_2 : decode c_Ru_forgetPairsOf 2 = .ok (.iload_n 2, 1) := by decide +kernel
theorem d_Ru_forgetPairsOf_3 : decode c_Ru_forgetPairsOf 3 = .ok (.iload_n 1, 1) := by decide +kernel
theorem d_Ru_forgetPairsOf_4 : decode c_Ru_forgetPairsOf 4 = .ok (.if_icmp .ge 20, 3) := by decide +kernel
theorem d_Ru_forgetPairsOf_7 : decode c_Ru_forgetPairsOf 7 = .ok (.aload_n 0, 1) := by decide +kernel
theorem d_Ru_forgetPairsOf_8 : decode c_Ru_forgetPairsOf 8 = .ok (.getfield 15, 3) := by decide +kernel
theorem d_Ru_forgetPairsOf_11 : decode c_Ru_forgetPairsOf 11 = .ok (.iload_n 2, 1) := by decide +kernel
theorem d_Ru_forgetPairsOf_12 : decode c_Ru_forgetPairsOf 12 = .ok (.iload_n 1, 1) := by decide +kernel
theorem d_Ru_forgetPairsOf_13 : decode c_Ru_forgetPairsOf 13 = .ok (.invokestatic 37, 3) := by decide +kernel
theorem d_Ru_forgetPairsOf_16 : decode c_Ru_forgetPairsOf 16 = .ok (.iconst 0, 1) := by decide +kernel
theorem d_Ru_forgetPairsOf_17 : decode c_Ru_forgetPairsOf 17 = .ok (.bastore, 1) := by decide +kernel
theorem d_Ru_forgetPairsOf_18 : decode c_Ru_forgetPairsOf 18 = .ok (.iinc 2 1, 3) := by decide +kernel
theorem d_Ru_forgetPairsOf_21 : decode c_Ru_forgetPairsOf 21 = .ok (.goto (-19), 3) := by decide +kernel
theorem d_Ru_forgetPairsOf_24 : decode c_Ru_forgetPairsOf 24 = .ok (.return_, 1) := by decide +kernel
theorem d_Ru_note_0 : decode c_Ru_note 0 = .ok (.aload_n 0, 1) := by decide +kernel
theorem d_Ru_note_1 : decode c_Ru_note 1 = .ok (.getfield 15, 3) := by decide +kernel
theorem d_Ru_note_4 : decode c_Ru_note 4 = .ok (.iload_n 1, 1) := by decide +kernel
theorem d_Ru_note_5 : decode c_Ru_note 5 = .ok (.iload_n 2, 1) := by decide +kernel
theorem d_Ru_note_6 : decode c_Ru_note 6 = .ok (.invokestatic 37, 3) := by decide +kernel
theorem d_Ru_note_9 : decode c_Ru_note 9 = .ok (.iconst 1, 1) := by decide +kernel
theorem d_Ru_note_10 : decode c_Ru_note 10 = .ok (.bastore, 1) := by decide +kernel
theorem d_Ru_note_11 : decode c_Ru_note 11 = .ok (.return_, 1) := by decide +kernel
theorem d_Ru_isNoted_0 : decode c_Ru_isNoted 0 = .ok (.aload_n 0, 1) := by decide +kernel
theorem d_Ru_isNoted_1 : decode c_Ru_isNoted 1 = .ok (.getfield 15, 3) := by decide +kernel
theorem d_Ru_isNoted_4 : decode c_Ru_isNoted 4 = .ok (.iload_n 1, 1) := by decide +kernel
theorem d_Ru_isNoted_5 : decode c_Ru_isNoted 5 = .ok (.iload_n 2, 1) := by decide +kernel
theorem d_Ru_isNoted_6 : decode c_Ru_isNoted 6 = .ok (.invokestatic 37, 3) := by decide +kernel
theorem d_Ru_isNoted_9 : decode c_Ru_isNoted 9 = .ok (.baload, 1) := by decide +kernel
theorem d_Ru_isNoted_10 : decode c_Ru_isNoted 10 = .ok (.ireturn, 1) := by decide +kernel
theorem d_Ru_placeOf_0 : decode c_Ru_placeOf 0 = .ok (.iload_n 1, 1) := by decide +kernel
theorem d_Ru_placeOf_1 : decode c_Ru_placeOf 1 = .ok (.bipush 12, 2) := by decide +kernel
theorem d_Ru_placeOf_3 : decode c_Ru_placeOf 3 = .ok (.imul, 1) := by decide +kernel
theorem d_Ru_placeOf_4 : decode c_Ru_placeOf 4 = .ok (.iload_n 0, 1) := by decide +kernel
theorem d_Ru_placeOf_5 : decode c_Ru_placeOf 5 = .ok (.iadd, 1) := by decide +kernel
theorem d_Ru_placeOf_6 : decode c_Ru_placeOf 6 = .ok (.ireturn, 1) := by decide +kernel
theorem d_Ru_countPairs_0 : decode c_Ru_countPairs 0 = .ok (.iconst 0, 1) := by decide +kernel
theorem d_Ru_countPairs_1 : decode c_Ru_countPairs 1 = .ok (.istore_n 1, 1) := by decide +kernel
theorem d_Ru_countPairs_2 : decode c_Ru_countPairs 2 = .ok (.iconst 0, 1) := by decide +kernel
theorem d_Ru_countPairs_3 : decode c_Ru_countPairs 3 = .ok (.istore_n 2, 1) := by decide +kernel
theorem d_Ru_countPairs_4 : decode c_Ru_countPairs 4 = .ok (.iload_n 2, 1) := by decide +kernel
theorem d_Ru_countPairs_5 : decode c_Ru_countPairs 5 = .ok (.aload_n 0, 1) := by decide +kernel
theorem d_Ru_countPairs_6 : decode c_Ru_countPairs 6 = .ok (.getfield 26, 3) := by decide +kernel
theorem d_Ru_countPairs_9 : decode c_Ru_countPairs 9 = .ok (.if_icmp .ge 34, 3) := by decide +kernel
theorem d_Ru_countPairs_12 : decode c_Ru_countPairs 12 = .ok (.iconst 0, 1) := by decide +kernel
theorem d_Ru_countPairs_13 : decode c_Ru_countPairs 13 = .ok (.istore_n 3, 1) := by decide +kernel
theorem d_Ru_countPairs_14 : decode c_Ru_countPairs 14 = .ok (.iload_n 3, 1) := by decide +kernel
theorem d_Ru_countPairs_15 : decode c_Ru_countPairs 15 = .ok (.iload_n 2, 1) := by decide +kernel
theorem d_Ru_countPairs_16 : decode c_Ru_countPairs 16 = .ok (.if_icmp .ge 21, 3) := by decide +kernel
theorem d_Ru_countPairs_19 : decode c_Ru_countPairs 19 = .ok (.aload_n 0, 1) := by decide +kernel
theorem d_Ru_countPairs_20 : decode c_Ru_countPairs 20 = .ok (.iload_n 3, 1) := by decide +kernel
theorem d_Ru_countPairs_21 : decode c_Ru_countPairs 21 = .ok (.iload_n 2, 1) := by decide +kernel
theorem d_Ru_countPairs_22 : decode c_Ru_countPairs 22 = .ok (.invokevirtual 40, 3) := by decide +kernel
theorem d_Ru_countPairs_25 : decode c_Ru_countPairs 25 = .ok (.ifCond .eq 6, 3) := by decide +kernel
theorem d_Ru_countPairs_28 : decode c_Ru_countPairs 28 = .ok (.iinc 1 1, 3) := by decide +kernel
theorem d_Ru_countPairs_31 : decode c_Ru_countPairs 31 = .ok (.iinc 3 1, 3) := by decide +kernel
theorem d_Ru_countPairs_34 : decode c_Ru_countPairs 34 = .ok (.goto (-20), 3) := by decide +kernel
theorem d_Ru_countPairs_37 : decode c_Ru_countPairs 37 = .ok (.iinc 2 1, 3) := by decide +kernel
theorem d_Ru_countPairs_40 : decode c_Ru_countPairs 40 = .ok (.goto (-36), 3) := by decide +kernel
theorem d_Ru_countPairs_43 : decode c_Ru_countPairs 43 = .ok (.iload_n 1, 1) := by decide +kernel
theorem d_Ru_countPairs_44 : decode c_Ru_countPairs 44 = .ok (.ireturn, 1) := by decide +kernel
theorem d_Ru_gather_0 : decode c_Ru_gather 0 = .ok (.iconst 0, 1) := by decide +kernel
theorem d_Ru_gather_1 : decode c_Ru_gather 1 = .ok (.istore_n 1, 1) := by decide +kernel
theorem d_Ru_gather_2 : decode c_Ru_gather 2 = .ok (.iload_n 1, 1) := by decide +kernel
theorem d_Ru_gather_3 : decode c_Ru_gather 3 = .ok (.aload_n 0, 1) := by decide +kernel
theorem d_Ru_gather_4 : decode c_Ru_gather 4 = .ok (.getfield 26, 3) := by decide +kernel
theorem d_Ru_gather_7 : decode c_Ru_gather 7 = .ok (.if_icmp .ge 16, 3) := by decide +kernel
theorem d_Ru_gather_10 : decode c_Ru_gather 10 = .ok (.aload_n 0, 1) := by decide +kernel
theorem d_Ru_gather_11 : decode c_Ru_gather 11 = .ok (.getfield 19, 3) := by decide +kernel
theorem d_Ru_gather_14 : decode c_Ru_gather 14 = .ok (.iload_n 1, 1) := by decide +kernel
theorem d_Ru_gather_15 : decode c_Ru_gather 15 = .ok (.iload_n 1, 1) := by decide +kernel
theorem d_Ru_gather_16 : decode c_Ru_gather 16 = .ok (.iastore, 1) := by decide +kernel
theorem d_Ru_gather_17 : decode c_Ru_gather 17 = .ok (.iinc 1 1, 3) := by decide +kernel
theorem d_Ru_gather_20 : decode c_Ru_gather 20 = .ok (.goto (-18), 3) := by decide +kernel
theorem d_Ru_gather_23 : decode c_Ru_gather 23 = .ok (.iconst 0, 1) := by decide +kernel
theorem d_Ru_gather_24 : decode c_Ru_gather 24 = .ok (.istore_n 1, 1) := by decide +kernel
theorem d_Ru_gather_25 : decode c_Ru_gather 25 = .ok (.iload_n 1, 1) := by decide +kernel
theorem d_Ru_gather_26 : decode c_Ru_gather 26 = .ok (.aload_n 0, 1) := by decide +kernel
theorem d_Ru_gather_27 : decode c_Ru_gather 27 = .ok (.getfield 26, 3) := by decide +kernel
theorem d_Ru_gather_30 : decode c_Ru_gather 30 = .ok (.if_icmp .ge 47, 3) := by decide +kernel
theorem d_Ru_gather_33 : decode c_Ru_gather 33 = .ok (.iconst 0, 1) := by decide +kernel
theorem d_Ru_gather_34 : decode c_Ru_gather 34 = .ok (.istore_n 2, 1) := by decide +kernel
theorem d_Ru_gather_35 : decode c_Ru_gather 35 = .ok (.iload_n 2, 1) := by decide +kernel
theorem d_Ru_gather_36 : decode c_Ru_gather 36 = .ok (.iload_n 1, 1) := by decide +kernel
theorem d_Ru_gather_37 : decode c_Ru_gather 37 = .ok (.if_icmp .ge 34, 3) := by decide +kernel
theorem d_Ru_gather_40 : decode c_Ru_gather 40 = .ok (.aload_n 0, 1) := by decide +kernel
theorem d_Ru_gather_41 : decode c_Ru_gather 41 = .ok (.iload_n 2, 1) := by decide +kernel
theorem d_Ru_gather_42 : decode c_Ru_gather 42 = .ok (.iload_n 1, 1) := by decide +kernel
theorem d_Ru_gather_43 : decode c_Ru_gather 43 = .ok (.invokevirtual 40, 3) := by decide +kernel
theorem d_Ru_gather_46 : decode c_Ru_gather 46 = .ok (.ifCond .eq 19, 3) := by decide +kernel
theorem d_Ru_gather_49 : decode c_Ru_gather 49 = .ok (.aload_n 0, 1) := by decide +kernel
theorem d_Ru_gather_50 : decode c_Ru_gather 50 = .ok (.aload_n 0, 1) := by decide +kernel
theorem d_Ru_gather_51 : decode c_Ru_gather 51 = .ok (.getfield 19, 3) := by decide +kernel
theorem d_Ru_gather_54 : decode c_Ru_gather 54 = .ok (.iload_n 2, 1) := by decide +kernel
theorem d_Ru_gather_55 : decode c_Ru_gather 55 = .ok (.iaload, 1) := by decide +kernel
theorem d_Ru_gather_56 : decode c_Ru_gather 56 = .ok (.aload_n 0, 1) := by decide +kernel
theorem d_Ru_gather_57 : decode c_Ru_gather 57 = .ok (.getfield 19, 3) := by decide +kernel
theorem d_Ru_gather_60 : decode c_Ru_gather 60 = .ok (.iload_n 1, 1) := by decide +kernel
theorem d_Ru_gather_61 : decode c_Ru_gather 61 = .ok (.iaload, 1) := by decide +kernel
theorem d_Ru_gather_62 : decode c_Ru_gather 62 = .ok (.invokevirtual 44, 3) := by decide +kernel
theorem d_Ru_gather_65 : decode c_Ru_gather 65 = .ok (.iinc 2 1, 3) := by decide +kernel
theorem d_Ru_gather_68 : decode c_Ru_gather 68 = .ok (.goto (-33), 3) := by decide +kernel
theorem d_Ru_gather_71 : decode c_Ru_gather 71 = .ok (.iinc 1 1, 3) := by decide +kernel
theorem d_Ru_gather_74 : decode c_Ru_gather 74 = .ok (.goto (-49), 3) := by decide +kernel
theorem d_Ru_gather_77 : decode c_Ru_gather 77 = .ok (.return_, 1) := by decide +kernel
theorem d_Ru_unite_0 : decode c_Ru_unite 0 = .ok (.iload_n 1, 1) := by decide +kernel
theorem d_Ru_unite_1 : decode c_Ru_unite 1 = .ok (.iload_n 2, 1) := by decide +kernel
theorem d_Ru_unite_2 : decode c_Ru_unite 2 = .ok (.invokestatic 48, 3) := by decide +kernel
theorem d_Ru_unite_5 : decode c_Ru_unite 5 = .ok (.istore_n 3, 1) := by decide +kernel
theorem d_Ru_unite_6 : decode c_Ru_unite 6 = .ok (.iload_n 1, 1) := by decide +kernel
theorem d_Ru_unite_7 : decode c_Ru_unite 7 = .ok (.iload_n 2, 1) := by decide +kernel
theorem d_Ru_unite_8 : decode c_Ru_unite 8 = .ok (.invokestatic 53, 3) := by decide +kernel
theorem d_Ru_unite_11 : decode c_Ru_unite 11 = .ok (.istore 4, 2) := by decide +kernel
theorem d_Ru_unite_13 : decode c_Ru_unite 13 = .ok (.iconst 0, 1) := by decide +kernel
theorem d_Ru_unite_14 : decode c_Ru_unite 14 = .ok (.istore 5, 2) := by decide +kernel
theorem d_Ru_unite_16 : decode c_Ru_unite 16 = .ok (.iload 5, 2) := by decide +kernel
theorem d_Ru_unite_18 : decode c_Ru_unite 18 = .ok (.aload_n 0, 1) := by decide +kernel
theorem d_Ru_unite_19 : decode c_Ru_unite 19 = .ok (.getfield 26, 3) := by decide +kernel
theorem d_Ru_unite_22 : decode c_Ru_unite 22 = .ok (.if_icmp .ge 29, 3) := by decide +kernel
theorem d_Ru_unite_25 : decode c_Ru_unite 25 = .ok (.aload_n 0, 1) := by decide +kernel
theorem d_Ru_unite_26 : decode c_Ru_unite 26 = .ok (.getfield 19, 3) := by decide +kernel
theorem d_Ru_unite_29 : decode c_Ru_unite 29 = .ok (.iload 5, 2) := by decide +kernel
theorem d_Ru_unite_31 : decode c_Ru_unite 31 = .ok (.iaload, 1) := by decide +kernel
theorem d_Ru_unite_32 : decode c_Ru_unite 32 = .ok (.iload 4, 2) := by decide +kernel
theorem d_Ru_unite_34 : decode c_Ru_unite 34 = .ok (.if_icmp .ne 11, 3) := by decide +kernel
theorem d_Ru_unite_37 : decode c_Ru_unite 37 = .ok (.aload_n 0, 1) := by decide +kernel
theorem d_Ru_unite_38 : decode c_Ru_unite 38 = .ok (.getfield 19, 3) := by decide +kernel
theorem d_Ru_unite_41 : decode c_Ru_unite 41 = .ok (.iload 5, 2) := by decide +kernel
theorem d_Ru_unite_43 : decode c_Ru_unite 43 = .ok (.iload_n 3, 1) := by decide +kernel
theorem d_Ru_unite_44 : decode c_Ru_unite 44 = .ok (.iastore, 1) := by decide +kernel
theorem d_Ru_unite_45 : decode c_Ru_unite 45 = .ok (.iinc 5 1, 3) := by decide +kernel
theorem d_Ru_unite_48 : decode c_Ru_unite 48 = .ok (.goto (-32), 3) := by decide +kernel
theorem d_Ru_unite_51 : decode c_Ru_unite 51 = .ok (.return_, 1) := by decide +kernel
theorem d_Te_init_0 : decode c_Te_init 0 = .ok (.aload_n 0, 1) := by decide +kernel
theorem d_Te_init_1 : decode c_Te_init 1 = .ok (.invokespecial 3, 3) := by decide +kernel
theorem d_Te_init_4 : decode c_Te_init 4 = .ok (.aload_n 0, 1) := by decide +kernel
theorem d_Te_init_5 : decode c_Te_init 5 = .ok (.bipush 12, 2) := by decide +kernel
theorem d_Te_init_7 : decode c_Te_init 7 = .ok (.newarray .char, 2) := by decide +kernel
theorem d_Te_init_9 : decode c_Te_init 9 = .ok (.putfield 9, 3) := by decide +kernel
theorem d_Te_init_12 : decode c_Te_init 12 = .ok (.return_, 1) := by decide +kernel
theorem d_Te_take_0 : decode c_Te_take 0 = .ok (.aload_n 0, 1) := by decide +kernel
theorem d_Te_take_1 : decode c_Te_take 1 = .ok (.getfield 15, 3) := by decide +kernel
theorem d_Te_take_4 : decode c_Te_take 4 = .ok (.bipush 12, 2) := by decide +kernel
theorem d_Te_take_6 : decode c_Te_take 6 = .ok (.if_icmp .lt 5, 3) := by decide +kernel
theorem d_Te_take_9 : decode c_Te_take 9 = .ok (.iconst 0, 1) := by decide +kernel
theorem d_Te_take_10 : decode c_Te_take 10 = .ok (.ireturn, 1) := by decide +kernel
theorem d_Te_take_11 : decode c_Te_take 11 = .ok (.aload_n 0, 1) := by decide +kernel
theorem d_Te_take_12 : decode c_Te_take 12 = .ok (.dup, 1) := by decide +kernel
theorem d_Te_take_13 : decode c_Te_take 13 = .ok (.getfield 15, 3) := by decide +kernel
theorem d_Te_take_16 : decode c_Te_take 16 = .ok (.iconst 1, 1) := by decide +kernel
theorem d_Te_take_17 : decode c_Te_take 17 = .ok (.iadd, 1) := by decide +kernel
theorem d_Te_take_18 : decode c_Te_take 18 = .ok (.putfield 15, 3) := by decide +kernel
theorem d_Te_take_21 : decode c_Te_take 21 = .ok (.aload_n 0, 1) := by decide +kernel
theorem d_Te_take_22 : decode c_Te_take 22 = .ok (.getfield 19, 3) := by decide +kernel
theorem d_Te_take_25 : decode c_Te_take 25 = .ok (.istore_n 2, 1) := by decide +kernel
theorem d_Te_take_26 : decode c_Te_take 26 = .ok (.aload_n 0, 1) := by decide +kernel
theorem d_Te_take_27 : decode c_Te_take 27 = .ok (.iload_n 1, 1) := by decide +kernel
theorem d_Te_take_28 : decode c_Te_take 28 = .ok (.invokestatic 23, 3) := by decide +kernel
theorem d_Te_take_31 : decode c_Te_take 31 = .ok (.putfield 19, 3) := by decide +kernel
theorem d_Te_take_34 : decode c_Te_take 34 = .ok (.aload_n 0, 1) := by decide +kernel
theorem d_Te_take_35 : decode c_Te_take 35 = .ok (.getfield 19, 3) := by decide +kernel
theorem d_Te_take_38 : decode c_Te_take 38 = .ok (.ifCond .ne 5, 3) := by decide +kernel
theorem d_Te_take_41 : decode c_Te_take 41 = .ok (.iconst 1, 1) := by decide +kernel
theorem d_Te_take_42 : decode c_Te_take 42 = .ok (.ireturn, 1) := by decide +kernel
theorem d_Te_take_43 : decode c_Te_take 43 = .ok (.iload_n 2, 1) := by decide +kernel
theorem d_Te_take_44 : decode c_Te_take 44 = .ok (.ifCond .ne 16, 3) := by decide +kernel
theorem d_Te_take_47 : decode c_Te_take 47 = .ok (.aload_n 0, 1) := by decide +kernel
theorem d_Te_take_48 : decode c_Te_take 48 = .ok (.getfield 27, 3) := by decide +kernel
theorem d_Te_take_51 : decode c_Te_take 51 = .ok (.ifCond .le 9, 3) := by decide +kernel
theorem d_Te_take_54 : decode c_Te_take 54 = .ok (.aload_n 0, 1) := by decide +kernel
theorem d_Te_take_55 : decode c_Te_take 55 = .ok (.bipush 32, 2) := by decide +kernel
theorem d_Te_take_57 : decode c_Te_take 57 = .ok (.invokevirtual 30, 3) := by decide +kernel
theorem d_Te_take_60 : decode c_Te_take 60 = .ok (.aload_n 0, 1) := by decide +kernel
theorem d_Te_take_61 : decode c_Te_take 61 = .ok (.iload_n 1, 1) := by decide +kernel
theorem d_Te_take_62 : decode c_Te_take 62 = .ok (.invokestatic 34, 3) := by decide +kernel
theorem d_Te_take_65 : decode c_Te_take 65 = .ok (.invokevirtual 30, 3) := by decide +kernel
theorem d_Te_take_68 : decode c_Te_take 68 = .ok (.iconst 1, 1) := by decide +kernel
theorem d_Te_take_69 : decode c_Te_take 69 = .ok (.ireturn, 1) := by decide +kernel
theorem d_Te_put_0 : decode c_Te_put 0 = .ok (.aload_n 0, 1) := by decide +kernel
theorem d_Te_put_1 : decode c_Te_put 1 = .ok (.getfield 9, 3) := by decide +kernel
theorem d_Te_put_4 : decode c_Te_put 4 = .ok (.aload_n 0, 1) := by decide +kernel
theorem d_Te_put_5 : decode c_Te_put 5 = .ok (.getfield 27, 3) := by decide +kernel
theorem d_Te_put_8 : decode c_Te_put 8 = .ok (.iload_n 1, 1) := by decide +kernel
theorem d_Te_put_9 : decode c_Te_put 9 = .ok (.castore, 1) := by decide +kernel
theorem d_Te_put_10 : decode c_Te_put 10 = .ok (.aload_n 0, 1) := by decide +kernel
theorem d_Te_put_11 : decode c_Te_put 11 = .ok (.dup, 1) := by decide +kernel
theorem d_Te_put_12 : decode c_Te_put 12 = .ok (.getfield 27, 3) := by decide +kernel
theorem d_Te_put_15 : decode c_Te_put 15 = .ok (.iconst 1, 1) := by decide +kernel
theorem d_Te_put_16 : decode c_Te_put 16 = .ok (.iadd, 1) := by decide +kernel
theorem d_Te_put_17 : decode c_Te_put 17 = .ok (.putfield 27, 3) := by decide +kernel
theorem d_Te_put_20 : decode c_Te_put 20 = .ok (.return_, 1) := by decide +kernel
theorem d_Te_isOfWord_0 : decode c_Te_isOfWord 0 = .ok (.iload_n 0, 1) := by decide +kernel
theorem d_Te_isOfWord_1 : decode c_Te_isOfWord 1 = .ok (.bipush 97, 2) := by decide +kernel
theorem d_Te_isOfWord_3 : decode c_Te_isOfWord 3 = .ok (.if_icmp .lt 9, 3) := by decide +kernel
theorem d_Te_isOfWord_6 : decode c_Te_isOfWord 6 = .ok (.iload_n 0, 1) := by decide +kernel
theorem d_Te_isOfWord_7 : decode c_Te_isOfWord 7 = .ok (.bipush 122, 2) := by decide +kernel
theorem d_Te_isOfWord_9 : decode c_Te_isOfWord 9 = .ok (.if_icmp .le 27, 3) := by decide +kernel
theorem d_Te_isOfWord_12 : decode c_Te_isOfWord 12 = .ok (.iload_n 0, 1) := by decide +kernel
theorem d_Te_isOfWord_13 : decode c_Te_isOfWord 13 = .ok (.bipush 65, 2) := by decide +kernel
theorem d_Te_isOfWord_15 : decode c_Te_isOfWord 15 = .ok (.if_icmp .lt 9, 3) := by decide +kernel
theorem d_Te_isOfWord_18 : decode c_Te_isOfWord 18 = .ok (.iload_n 0, 1) := by decide +kernel
theorem d_Te_isOfWord_19 : decode c_Te_isOfWord 19 = .ok (.bipush 90, 2) := by decide +kernel
theorem d_Te_isOfWord_21 : decode c_Te_isOfWord 21 = .ok (.if_icmp .le 15, 3) := by decide +kernel
theorem d_Te_isOfWord_24 : decode c_Te_isOfWord 24 = .ok (.iload_n 0, 1) := by decide +kernel
theorem d_Te_isOfWord_25 : decode c_Te_isOfWord 25 = .ok (.bipush 48, 2) := by decide +kernel
theorem d_Te_isOfWord_27 : decode c_Te_isOfWord 27 = .ok (.if_icmp .lt 13, 3) := by decide +kernel
theorem d_Te_isOfWord_30 : decode c_Te_isOfWord 30 = .ok (.iload_n 0, 1) := by decide +kernel
theorem d_Te_isOfWord_31 : decode c_Te_isOfWord 31 = .ok (.bipush 57, 2) := by decide +kernel
theorem d_Te_isOfWord_33 : decode c_Te_isOfWord 33 = .ok (.if_icmp .gt 7, 3) := by decide +kernel
theorem d_Te_isOfWord_36 : decode c_Te_isOfWord 36 = .ok (.iconst 1, 1) := by decide +kernel
theorem d_Te_isOfWord_37 : decode c_Te_isOfWord 37 = .ok (.goto 4, 3) := by decide +kernel
theorem d_Te_isOfWord_40 : decode c_Te_isOfWord 40 = .ok (.iconst 0, 1) := by decide +kernel
theorem d_Te_isOfWord_41 : decode c_Te_isOfWord 41 = .ok (.ireturn, 1) := by decide +kernel
theorem d_Te_small_0 : decode c_Te_small 0 = .ok (.iload_n 0, 1) := by decide +kernel
theorem d_Te_small_1 : decode c_Te_small 1 = .ok (.bipush 65, 2) := by decide +kernel
theorem d_Te_small_3 : decode c_Te_small 3 = .ok (.if_icmp .lt 20, 3) := by decide +kernel
theorem d_Te_small_6 : decode c_Te_small 6 = .ok (.iload_n 0, 1) := by decide +kernel
theorem d_Te_small_7 : decode c_Te_small 7 = .ok (.bipush 90, 2) := by decide +kernel
theorem d_Te_small_9 : decode c_Te_small 9 = .ok (.if_icmp .gt 14, 3) := by decide +kernel
theorem d_Te_small_12 : decode c_Te_small 12 = .ok (.iload_n 0, 1) := by decide +kernel
theorem d_Te_small_13 : decode c_Te_small 13 = .ok (.bipush 65, 2) := by decide +kernel
theorem d_Te_small_15 : decode c_Te_small 15 = .ok (.isub, 1) := by decide +kernel
theorem d_Te_small_16 : decode c_Te_small 16 = .ok (.bipush 97, 2) := by decide +kernel
theorem d_Te_small_18 : decode c_Te_small 18 = .ok (.iadd, 1) := by decide +kernel
theorem d_Te_small_19 : decode c_Te_small 19 = .ok (.i2c, 1) := by decide +kernel
theorem d_Te_small_20 : decode c_Te_small 20 = .ok (.goto 4, 3) := by decide +kernel
theorem d_Te_small_23 : decode c_Te_small 23 = .ok (.iload_n 0, 1) := by decide +kernel
theorem d_Te_small_24 : decode c_Te_small 24 = .ok (.ireturn, 1) := by decide +kernel
theorem d_Te_wordSetSize_0 : decode c_Te_wordSetSize 0 = .ok (.iconst 0, 1) := by decide +kernel
theorem d_Te_wordSetSize_1 : decode c_Te_wordSetSize 1 = .ok (.istore_n 1, 1) := by decide +kernel
theorem d_Te_wordSetSize_2 : decode c_Te_wordSetSize 2 = .ok (.iconst 0, 1) := by decide +kernel
theorem d_Te_wordSetSize_3 : decode c_Te_wordSetSize 3 = .ok (.istore_n 2, 1) := by decide +kernel
theorem d_Te_wordSetSize_4 : decode c_Te_wordSetSize 4 = .ok (.iload_n 2, 1) := by decide +kernel
theorem d_Te_wordSetSize_5 : decode c_Te_wordSetSize 5 = .ok (.aload_n 0, 1) := by decide +kernel
theorem d_Te_wordSetSize_6 : decode c_Te_wordSetSize 6 = .ok (.getfield 27, 3) := by decide +kernel
theorem d_Te_wordSetSize_9 : decode c_Te_wordSetSize 9 = .ok (.if_icmp .ge 30, 3) := by decide +kernel
theorem d_Te_wordSetSize_12 : decode c_Te_wordSetSize 12 = .ok (.aload_n 0, 1) := by decide +kernel
theorem d_Te_wordSetSize_13 : decode c_Te_wordSetSize 13 = .ok (.iload_n 2, 1) := by decide +kernel
theorem d_Te_wordSetSize_14 : decode c_Te_wordSetSize 14 = .ok (.invokevirtual 38, 3) := by decide +kernel
theorem d_Te_wordSetSize_17 : decode c_Te_wordSetSize 17 = .ok (.ifCond .eq 16, 3) := by decide +kernel
theorem d_Te_wordSetSize_20 : decode c_Te_wordSetSize 20 = .ok (.aload_n 0, 1) := by decide +kernel
theorem d_Te_wordSetSize_21 : decode c_Te_wordSetSize 21 = .ok (.iload_n 2, 1) := by decide +kernel
theorem d_Te_wordSetSize_22 : decode c_Te_wordSetSize 22 = .ok (.aload_n 0, 1) := by decide +kernel
theorem d_Te_wordSetSize_23 : decode c_Te_wordSetSize 23 = .ok (.iload_n 2, 1) := by decide +kernel
theorem d_Te_wordSetSize_24 : decode c_Te_wordSetSize 24 = .ok (.invokevirtual 42, 3) := by decide +kernel
theorem d_Te_wordSetSize_27 : decode c_Te_wordSetSize 27 = .ok (.ifCond .ne 6, 3) := by decide +kernel
theorem d_Te_wordSetSize_30 : decode c_Te_wordSetSize 30 = .ok (.iinc 1 1, 3) := by decide +kernel
theorem d_Te_wordSetSize_33 : decode c_Te_wordSetSize 33 = .ok (.iinc 2 1, 3) := by decide +kernel
theorem d_Te_wordSetSize_36 : decode c_Te_wordSetSize 36 = .ok (.goto (-32), 3) := by decide +kernel
theorem d_Te_wordSetSize_39 : decode c_Te_wordSetSize 39 = .ok (.iload_n 1, 1) := by decide +kernel
theorem d_Te_wordSetSize_40 : decode c_Te_wordSetSize 40 = .ok (.ireturn, 1) := by decide +kernel
theorem d_Te_countWordsSharedWith_0 : decode c_Te_countWordsSharedWith 0 = .ok (.iconst 0, 1) := by decide +kernel
theorem d_Te_countWordsSharedWith_1 : decode c_Te_countWordsSharedWith 1 = .ok (.istore_n 2, 1) := by decide +kernel
theorem d_Te_countWordsSharedWith_2 : decode c_Te_countWordsSharedWith 2 = .ok (.iconst 0, 1) := by decide +kernel
theorem d_Te_countWordsSharedWith_3 : decode c_Te_countWordsSharedWith 3 = .ok (.istore_n 3, 1) := by decide +kernel
theorem d_Te_countWordsSharedWith_4 : decode c_Te_countWordsSharedWith 4 = .ok (.iload_n 3, 1) := by decide +kernel
theorem d_Te_countWordsSharedWith_5 : decode c_Te_countWordsSharedWith 5 = .ok (.aload_n 0, 1) := by decide +kernel
theorem d_Te_countWordsSharedWith_6 : decode c_Te_countWordsSharedWith 6 = .ok (.getfield 27, 3) := by decide +kernel
theorem d_Te_countWordsSharedWith_9 : decode c_Te_countWordsSharedWith 9 = .ok (.if_icmp .ge 43, 3) := by decide +kernel
theorem d_Te_countWordsSharedWith_12 : decode c_Te_countWordsSharedWith 12 = .ok (.aload_n 0, 1) := by decide +kernel
theorem d_Te_countWordsSharedWith_13 : decode c_Te_countWordsSharedWith 13 = .ok (.iload_n 3, 1) := by decide +kernel
theorem d_Te_countWordsSharedWith_14 : decode c_Te_countWordsSharedWith 14 = .ok (.invokevirtual 38, 3) := by decide +kernel
theorem d_Te_countWordsSharedWith_17 : decode c_Te_countWordsSharedWith 17 = .ok (.ifCond .eq 29, 3) := by decide +kernel
theorem d_Te_countWordsSharedWith_20 : decode c_Te_countWordsSharedWith 20 = .ok (.aload_n 0, 1) := by decide +kernel
theorem d_Te_countWordsSharedWith_21 : decode c_Te_countWordsSharedWith 21 = .ok (.iload_n 3, 1) := by decide +kernel
theorem d_Te_countWordsSharedWith_22 : decode c_Te_countWordsSharedWith 22 = .ok (.aload_n 0, 1) := by decide +kernel
theorem d_Te_countWordsSharedWith_23 : decode c_Te_countWordsSharedWith 23 = .ok (.iload_n 3, 1) := by decide +kernel
theorem d_Te_countWordsSharedWith_24 : decode c_Te_countWordsSharedWith 24 = .ok (.invokevirtual 42, 3) := by decide +kernel
theorem d_Te_countWordsSharedWith_27 : decode c_Te_countWordsSharedWith 27 = .ok (.ifCond .ne 19, 3) := by decide +kernel
theorem d_Te_countWordsSharedWith_30 : decode c_Te_countWordsSharedWith 30 = .ok (.aload_n 1, 1) := by decide +kernel
theorem d_Te_countWordsSharedWith_31 : decode c_Te_countWordsSharedWith 31 = .ok (.aload_n 1, 1) := by decide +kernel
theorem d_Te_countWordsSharedWith_32 : decode c_Te_countWordsSharedWith 32 = .ok (.getfield 27, 3) := by decide +kernel
theorem d_Te_countWordsSharedWith_35 : decode c_Te_countWordsSharedWith 35 = .ok (.aload_n 0, 1) := by decide +kernel
theorem d_Te_countWordsSharedWith_36 : decode c_Te_countWordsSharedWith 36 = .ok (.iload_n 3, 1) := by decide +kernel
theorem d_Te_countWordsSharedWith_37 : decode c_Te_countWordsSharedWith 37 = .ok (.invokevirtual 42, 3) := by decide +kernel
theorem d_Te_countWordsSharedWith_40 : decode c_Te_countWordsSharedWith 40 = .ok (.ifCond .eq 6, 3) := by decide +kernel
theorem d_Te_countWordsSharedWith_43 : decode c_Te_countWordsSharedWith 43 = .ok (.iinc 2 1, 3) := by decide +kernel
theorem d_Te_countWordsSharedWith_46 : decode c_Te_countWordsSharedWith 46 = .ok (.iinc 3 1, 3) := by decide +kernel
theorem d_Te_countWordsSharedWith_49 : decode c_Te_countWordsSharedWith 49 = .ok (.goto (-45), 3) := by decide +kernel
theorem d_Te_countWordsSharedWith_52 : decode c_Te_countWordsSharedWith 52 = .ok (.iload_n 2, 1) := by decide +kernel
theorem d_Te_countWordsSharedWith_53 : decode c_Te_countWordsSharedWith 53 = .ok (.ireturn, 1) := by decide +kernel
theorem d_Te_hasWordBefore_0 : decode c_Te_hasWordBefore 0 = .ok (.iconst 0, 1) := by decide +kernel
theorem d_Te_hasWordBefore_1 : decode c_Te_hasWordBefore 1 = .ok (.istore 4, 2) := by decide +kernel
theorem d_Te_hasWordBefore_3 : decode c_Te_hasWordBefore 3 = .ok (.iload 4, 2) := by decide +kernel
theorem d_Te_hasWordBefore_5 : decode c_Te_hasWordBefore 5 = .ok (.iload_n 1, 1) := by decide +kernel
theorem d_Te_hasWordBefore_6 : decode c_Te_hasWordBefore 6 = .ok (.if_icmp .ge 31, 3) := by decide +kernel
theorem d_Te_hasWordBefore_9 : decode c_Te_hasWordBefore 9 = .ok (.aload_n 0, 1) := by decide +kernel
theorem d_Te_hasWordBefore_10 : decode c_Te_hasWordBefore 10 = .ok (.iload 4, 2) := by decide +kernel
theorem d_Te_hasWordBefore_12 : decode c_Te_hasWordBefore 12 = .ok (.invokevirtual 38, 3) := by decide +kernel
theorem d_Te_hasWordBefore_15 : decode c_Te_hasWordBefore 15 = .ok (.ifCond .eq 16, 3) := by decide +kernel
theorem d_Te_hasWordBefore_18 : decode c_Te_hasWordBefore 18 = .ok (.aload_n 0, 1) := by decide +kernel
theorem d_Te_hasWordBefore_19 : decode c_Te_hasWordBefore 19 = .ok (.iload 4, 2) := by decide +kernel
theorem d_Te_hasWordBefore_21 : decode c_Te_hasWordBefore 21 = .ok (.aload_n 2, 1) := by decide +kernel
theorem d_Te_hasWordBefore_22 : decode c_Te_hasWordBefore 22 = .ok (.iload_n 3, 1) := by decide +kernel
theorem d_Te_hasWordBefore_23 : decode c_Te_hasWordBefore 23 = .ok (.invokevirtual 46, 3) := by decide +kernel
theorem d_Te_hasWordBefore_26 : decode c_Te_hasWordBefore 26 = .ok (.ifCond .eq 5, 3) := by decide +kernel
theorem d_Te_hasWordBefore_29 : decode c_Te_hasWordBefore 29 = .ok (.iconst 1, 1) := by decide +kernel
theorem d_Te_hasWordBefore_30 : decode c_Te_hasWordBefore 30 = .ok (.ireturn, 1) := by decide +kernel
theorem d_Te_hasWordBefore_31 : decode c_Te_hasWordBefore 31 = .ok (.iinc 4 1, 3) := by decide +kernel
theorem d_Te_hasWordBefore_34 : decode c_Te_hasWordBefore 34 = .ok (.goto (-31), 3) := by decide +kernel
theorem d_Te_hasWordBefore_37 : decode c_Te_hasWordBefore 37 = .ok (.iconst 0, 1) := by decide +kernel
theorem d_Te_hasWordBefore_38 : decode c_Te_hasWordBefore 38 = .ok (.ireturn, 1) := by decide +kernel
theorem d_Te_isSameWord_0 : decode c_Te_isSameWord 0 = .ok (.iconst 0, 1) := by decide +kernel
theorem d_Te_isSameWord_1 : decode c_Te_isSameWord 1 = .ok (.istore 4, 2) := by decide +kernel
theorem d_Te_isSameWord_3 : decode c_Te_isSameWord 3 = .ok (.iload 4, 2) := by decide +kernel
theorem d_Te_isSameWord_5 : decode c_Te_isSameWord 5 = .ok (.bipush 12, 2) := by decide +kernel
theorem d_Te_isSameWord_7 : decode c_Te_isSameWord 7 = .ok (.if_icmp .ge 82, 3) := by decide +kernel
theorem d_Te_isSameWord_10 : decode c_Te_isSameWord 10 = .ok (.aload_n 0, 1) := by decide +kernel
theorem d_Te_isSameWord_11 : decode c_Te_isSameWord 11 = .ok (.iload_n 1, 1) := by decide +kernel
theorem d_Te_isSameWord_12 : decode c_Te_isSameWord 12 = .ok (.iload 4, 2) := by decide +kernel
theorem d_Te_isSameWord_14 : decode c_Te_isSameWord 14 = .ok (.iadd, 1) := by decide +kernel
theorem d_Te_isSameWord_15 : decode c_Te_isSameWord 15 = .ok (.invokevirtual 49, 3) := by decide +kernel
theorem d_Te_isSameWord_18 : decode c_Te_isSameWord 18 = .ok (.ifCond .ne 14, 3) := by decide +kernel
theorem d_Te_isSameWord_21 : decode c_Te_isSameWord 21 = .ok (.aload_n 2, 1) := by decide +kernel
theorem d_Te_isSameWord_22 : decode c_Te_isSameWord 22 = .ok (.iload_n 3, 1) := by decide +kernel
theorem d_Te_isSameWord_23 : decode c_Te_isSameWord 23 = .ok (.iload 4, 2) := by decide +kernel
theorem d_Te_isSameWord_25 : decode c_Te_isSameWord 25 = .ok (.iadd, 1) := by decide +kernel
theorem d_Te_isSameWord_26 : decode c_Te_isSameWord 26 = .ok (.invokevirtual 49, 3) := by decide +kernel
theorem d_Te_isSameWord_29 : decode c_Te_isSameWord 29 = .ok (.ifCond .eq 31, 3) := by decide +kernel
theorem d_Te_isSameWord_32 : decode c_Te_isSameWord 32 = .ok (.aload_n 0, 1) := by decide +kernel
theorem d_Te_isSameWord_33 : decode c_Te_isSameWord 33 = .ok (.iload_n 1, 1) := by decide +kernel
theorem d_Te_isSameWord_34 : decode c_Te_isSameWord 34 = .ok (.iload 4, 2) := by decide +kernel
theorem d_Te_isSameWord_36 : decode c_Te_isSameWord 36 = .ok (.iadd, 1) := by decide +kernel
theorem d_Te_isSameWord_37 : decode c_Te_isSameWord 37 = .ok (.invokevirtual 49, 3) := by decide +kernel
theorem d_Te_isSameWord_40 : decode c_Te_isSameWord 40 = .ok (.ifCond .eq 18, 3) := by decide +kernel
theorem d_Te_isSameWord_43 : decode c_Te_isSameWord 43 = .ok (.aload_n 2, 1) := by decide +kernel
theorem d_Te_isSameWord_44 : decode c_Te_isSameWord 44 = .ok (.iload_n 3, 1) := by decide +kernel
theorem d_Te_isSameWord_45 : decode c_Te_isSameWord 45 = .ok (.iload 4, 2) := by decide +kernel
theorem d_Te_isSameWord_47 : decode c_Te_isSameWord 47 = .ok (.iadd, 1) := by decide +kernel
theorem d_Te_isSameWord_48 : decode c_Te_isSameWord 48 = .ok (.invokevirtual 49, 3) := by decide +kernel
theorem d_Te_isSameWord_51 : decode c_Te_isSameWord 51 = .ok (.ifCond .eq 7, 3) := by decide +kernel
theorem d_Te_isSameWord_54 : decode c_Te_isSameWord 54 = .ok (.iconst 1, 1) := by decide +kernel
theorem d_Te_isSameWord_55 : decode c_Te_isSameWord 55 = .ok (.goto 4, 3) := by decide +kernel
theorem d_Te_isSameWord_58 : decode c_Te_isSameWord 58 = .ok (.iconst 0, 1) := by decide +kernel
theorem d_Te_isSameWord_59 : decode c_Te_isSameWord 59 = .ok (.ireturn, 1) := by decide +kernel
theorem d_Te_isSameWord_60 : decode c_Te_isSameWord 60 = .ok (.aload_n 0, 1) := by decide +kernel
theorem d_Te_isSameWord_61 : decode c_Te_isSameWord 61 = .ok (.getfield 9, 3) := by decide +kernel
theorem d_Te_isSameWord_64 : decode c_Te_isSameWord 64 = .ok (.iload_n 1, 1) := by decide +kernel
theorem d_Te_isSameWord_65 : decode c_Te_isSameWord 65 = .ok (.iload 4, 2) := by decide +kernel
theorem d_Te_isSameWord_67 : decode c_Te_isSameWord 67 = .ok (.iadd, 1) := by decide +kernel
theorem d_Te_isSameWord_68 : decode c_Te_isSameWord 68 = .ok (.caload, 1) := by decide +kernel
theorem d_Te_isSameWord_69 : decode c_Te_isSameWord 69 = .ok (.aload_n 2, 1) := by decide +kernel
theorem d_Te_isSameWord_70 : decode c_Te_isSameWord 70 = .ok (.getfield 9, 3) := by decide +kernel
theorem d_Te_isSameWord_73 : decode c_Te_isSameWord 73 = .ok (.iload_n 3, 1) := by decide +kernel
theorem d_Te_isSameWord_74 : decode c_Te_isSameWord 74 = .ok (.iload 4, 2) := by decide +kernel
theorem d_Te_isSameWord_76 : decode c_Te_isSameWord 76 = .ok (.iadd, 1) := by decide +kernel
theorem d_Te_isSameWord_77 : decode c_Te_isSameWord 77 = .ok (.caload, 1) := by decide +kernel
theorem d_Te_isSameWord_78 : decode c_Te_isSameWord 78 = .ok (.if_icmp .eq 5, 3) := by decide +kernel
theorem d_Te_isSameWord_81 : decode c_Te_isSameWord 81 = .ok (.iconst 0, 1) := by decide +kernel
theorem d_Te_isSameWord_82 : decode c_Te_isSameWord 82 = .ok (.ireturn, 1) := by decide +kernel
theorem d_Te_isSameWord_83 : decode c_Te_isSameWord 83 = .ok (.iinc 4 1, 3) := by decide +kernel
theorem d_Te_isSameWord_86 : decode c_Te_isSameWord 86 = .ok (.goto (-83), 3) := by decide +kernel
theorem d_Te_isSameWord_89 : decode c_Te_isSameWord 89 = .ok (.iconst 1, 1) := by decide +kernel
theorem d_Te_isSameWord_90 : decode c_Te_isSameWord 90 = .ok (.ireturn, 1) := by decide +kernel
theorem d_Te_beginsWord_0 : decode c_Te_beginsWord 0 = .ok (.iload_n 1, 1) := by decide +kernel
theorem d_Te_beginsWord_1 : decode c_Te_beginsWord 1 = .ok (.ifCond .eq 16, 3) := by decide +kernel
theorem d_Te_beginsWord_4 : decode c_Te_beginsWord 4 = .ok (.aload_n 0, 1) := by decide +kernel
theorem d_Te_beginsWord_5 : decode c_Te_beginsWord 5 = .ok (.getfield 9, 3) := by decide +kernel
theorem d_Te_beginsWord_8 : decode c_Te_beginsWord 8 = .ok (.iload_n 1, 1) := by decide +kernel
theorem d_Te_beginsWord_9 : decode c_Te_beginsWord 9 = .ok (.iconst 1, 1) := by decide +kernel
theorem d_Te_beginsWord_10 : decode c_Te_beginsWord 10 = .ok (.isub, 1) := by decide +kernel
theorem d_Te_beginsWord_11 : decode c_Te_beginsWord 11 = .ok (.caload, 1) := by decide +kernel
theorem d_Te_beginsWord_12 : decode c_Te_beginsWord 12 = .ok (.bipush 32, 2) := by decide +kernel
theorem d_Te_beginsWord_14 : decode c_Te_beginsWord 14 = .ok (.if_icmp .ne 7, 3) := by decide +kernel
theorem d_Te_beginsWord_17 : decode c_Te_beginsWord 17 = .ok (.iconst 1, 1) := by decide +kernel
theorem d_Te_beginsWord_18 : decode c_Te_beginsWord 18 = .ok (.goto 4, 3) := by decide +kernel
theorem d_Te_beginsWord_21 : decode c_Te_beginsWord 21 = .ok (.iconst 0, 1) := by decide +kernel
theorem d_Te_beginsWord_22 : decode c_Te_beginsWord 22 = .ok (.ireturn, 1) := by decide +kernel
theorem d_Te_endsWord_0 : decode c_Te_endsWord 0 = .ok (.iload_n 1, 1) := by decide +kernel
theorem d_Te_endsWord_1 : decode c_Te_endsWord 1 = .ok (.aload_n 0, 1) := by decide +kernel
theorem d_Te_endsWord_2 : decode c_Te_endsWord 2 = .ok (.getfield 27, 3) := by decide +kernel
theorem d_Te_endsWord_5 : decode c_Te_endsWord 5 = .ok (.if_icmp .ge 14, 3) := by decide +kernel
theorem d_Te_endsWord_8 : decode c_Te_endsWord 8 = .ok (.aload_n 0, 1) := by decide +kernel
theorem d_Te_endsWord_9 : decode c_Te_endsWord 9 = .ok (.getfield 9, 3) := by decide +kernel
theorem d_Te_endsWord_12 : decode c_Te_endsWord 12 = .ok (.iload_n 1, 1) := by decide +kernel
theorem d_Te_endsWord_13 : decode c_Te_endsWord 13 = .ok (.caload, 1) := by decide +kernel
theorem d_Te_endsWord_14 : decode c_Te_endsWord 14 = .ok (.bipush 32, 2) := by decide +kernel
theorem d_Te_endsWord_16 : decode c_Te_endsWord 16 = .ok (.if_icmp .ne 7, 3) := by decide +kernel
theorem d_Te_endsWord_19 : decode c_Te_endsWord 19 = .ok (.iconst 1, 1) := by decide +kernel
theorem d_Te_endsWord_20 : decode c_Te_endsWord 20 = .ok (.goto 4, 3) := by decide +kernel
theorem d_Te_endsWord_23 : decode c_Te_endsWord 23 = .ok (.iconst 0, 1) := by decide +kernel
theorem d_Te_endsWord_24 : decode c_Te_endsWord 24 = .ok (.ireturn, 1) := by decide +kernel
theorem d_Te_compareWith_0 : decode c_Te_compareWith 0 = .ok (.aload_n 0, 1) := by decide +kernel
theorem d_Te_compareWith_1 : decode c_Te_compareWith 1 = .ok (.getfield 27, 3) := by decide +kernel
theorem d_Te_compareWith_4 : decode c_Te_compareWith 4 = .ok (.aload_n 1, 1) := by decide +kernel
theorem d_Te_compareWith_5 : decode c_Te_compareWith 5 = .ok (.getfield 27, 3) := by decide +kernel
theorem d_Te_compareWith_8 : decode c_Te_compareWith 8 = .ok (.invokestatic 52, 3) := by decide +kernel
theorem d_Te_compareWith_11 : decode c_Te_compareWith 11 = .ok (.istore_n 2, 1) := by decide +kernel
theorem d_Te_compareWith_12 : decode c_Te_compareWith 12 = .ok (.iconst 0, 1) := by decide +kernel
theorem d_Te_compareWith_13 : decode c_Te_compareWith 13 = .ok (.istore_n 3, 1) := by decide +kernel
theorem d_Te_compareWith_14 : decode c_Te_compareWith 14 = .ok (.iload_n 3, 1) := by decide +kernel
theorem d_Te_compareWith_15 : decode c_Te_compareWith 15 = .ok (.iload_n 2, 1) := by decide +kernel
theorem d_Te_compareWith_16 : decode c_Te_compareWith 16 = .ok (.if_icmp .ge 38, 3) := by decide +kernel
theorem d_Te_compareWith_19 : decode c_Te_compareWith 19 = .ok (.aload_n 0, 1) := by decide +kernel
theorem d_Te_compareWith_20 : decode c_Te_compareWith 20 = .ok (.getfield 9, 3) := by decide +kernel
theorem d_Te_compareWith_23 : decode c_Te_compareWith 23 = .ok (.iload_n 3, 1) := by decide +kernel
theorem d_Te_compareWith_24 : decode c_Te_compareWith 24 = .ok (.caload, 1) := by decide +kernel
theorem d_Te_compareWith_25 : decode c_Te_compareWith 25 = .ok (.aload_n 1, 1) := by decide +kernel
theorem d_Te_compareWith_26 : decode c_Te_compareWith 26 = .ok (.getfield 9, 3) := by decide +kernel
theorem d_Te_compareWith_29 : decode c_Te_compareWith 29 = .ok (.iload_n 3, 1) := by decide +kernel
theorem d_Te_compareWith_30 : decode c_Te_compareWith 30 = .ok (.caload, 1) := by decide +kernel
theorem d_Te_compareWith_31 : decode c_Te_compareWith 31 = .ok (.if_icmp .eq 17, 3) := by decide +kernel
theorem d_Te_compareWith_34 : decode c_Te_compareWith 34 = .ok (.aload_n 0, 1) := by decide +kernel
theorem d_Te_compareWith_35 : decode c_Te_compareWith 35 = .ok (.getfield 9, 3) := by decide +kernel
theorem d_Te_compareWith_38 : decode c_Te_compareWith 38 = .ok (.iload_n 3, 1) := by decide +kernel
theorem d_Te_compareWith_39 : decode c_Te_compareWith 39 = .ok (.caload, 1) := by decide +kernel
theorem d_Te_compareWith_40 : decode c_Te_compareWith 40 = .ok (.aload_n 1, 1) := by decide +kernel
theorem d_Te_compareWith_41 : decode c_Te_compareWith 41 = .ok (.getfield 9, 3) := by decide +kernel
theorem d_Te_compareWith_44 : decode c_Te_compareWith 44 = .ok (.iload_n 3, 1) := by decide +kernel
theorem d_Te_compareWith_45 : decode c_Te_compareWith 45 = .ok (.caload, 1) := by decide +kernel
theorem d_Te_compareWith_46 : decode c_Te_compareWith 46 = .ok (.isub, 1) := by decide +kernel
theorem d_Te_compareWith_47 : decode c_Te_compareWith 47 = .ok (.ireturn, 1) := by decide +kernel
theorem d_Te_compareWith_48 : decode c_Te_compareWith 48 = .ok (.iinc 3 1, 3) := by decide +kernel
theorem d_Te_compareWith_51 : decode c_Te_compareWith 51 = .ok (.goto (-37), 3) := by decide +kernel
theorem d_Te_compareWith_54 : decode c_Te_compareWith 54 = .ok (.aload_n 0, 1) := by decide +kernel
theorem d_Te_compareWith_55 : decode c_Te_compareWith 55 = .ok (.getfield 27, 3) := by decide +kernel
theorem d_Te_compareWith_58 : decode c_Te_compareWith 58 = .ok (.aload_n 1, 1) := by decide +kernel
theorem d_Te_compareWith_59 : decode c_Te_compareWith 59 = .ok (.getfield 27, 3) := by decide +kernel
theorem d_Te_compareWith_62 : decode c_Te_compareWith 62 = .ok (.isub, 1) := by decide +kernel
theorem d_Te_compareWith_63 : decode c_Te_compareWith 63 = .ok (.ireturn, 1) := by decide +kernel
theorem d_La_law_0 : decode c_La_law 0 = .ok (.new 7, 3) := by decide +kernel
theorem d_La_law_3 : decode c_La_law 3 = .ok (.dup, 1) := by decide +kernel
theorem d_La_law_4 : decode c_La_law 4 = .ok (.invokespecial 9, 3) := by decide +kernel
theorem d_La_law_7 : decode c_La_law 7 = .ok (.astore_n 1, 1) := by decide +kernel
theorem d_La_law_8 : decode c_La_law 8 = .ok (.new 10, 3) := by decide +kernel
theorem d_La_law_11 : decode c_La_law 11 = .ok (.dup, 1) := by decide +kernel
theorem d_La_law_12 : decode c_La_law 12 = .ok (.invokespecial 12, 3) := by decide +kernel
theorem d_La_law_15 : decode c_La_law 15 = .ok (.astore_n 2, 1) := by decide +kernel
theorem d_La_law_16 : decode c_La_law 16 = .ok (.iconst 0, 1) := by decide +kernel
theorem d_La_law_17 : decode c_La_law 17 = .ok (.istore_n 3, 1) := by decide +kernel
theorem d_La_law_18 : decode c_La_law 18 = .ok (.iload_n 3, 1) := by decide +kernel
theorem d_La_law_19 : decode c_La_law 19 = .ok (.aload_n 0, 1) := by decide +kernel
theorem d_La_law_20 : decode c_La_law 20 = .ok (.arraylength, 1) := by decide +kernel
theorem d_La_law_21 : decode c_La_law 21 = .ok (.iconst 4, 1) := by decide +kernel
theorem d_La_law_22 : decode c_La_law 22 = .ok (.isub, 1) := by decide +kernel
theorem d_La_law_23 : decode c_La_law 23 = .ok (.if_icmp .gt 659, 3) := by decide +kernel
theorem d_La_law_26 : decode c_La_law 26 = .ok (.aload_n 0, 1) := by decide +kernel
theorem d_La_law_27 : decode c_La_law 27 = .ok (.iload_n 3, 1) := by decide +kernel
theorem d_La_law_28 : decode c_La_law 28 = .ok (.iaload, 1) := by decide +kernel
theorem d_La_law_29 : decode c_La_law 29 = .ok (.bipush 31, 2) := by decide +kernel
theorem d_La_law_31 : decode c_La_law 31 = .ok (.iand, 1) := by decide +kernel
theorem d_La_law_32 : decode c_La_law 32 = .ok (.tableswitch 644 0 19 #[96, 131, 144, 157, 190, 223, 266, 309, 342, 381, 394, 407, 440, 463, 486, 509, 522, 555, 578, 611], 96) := by decide +kernel
theorem d_La_law_128 : decode c_La_law 128 = .ok (.aload_n 1, 1) := by decide +kernel
theorem d_La_law_129 : decode c_La_law 129 = .ok (.aload_n 0, 1) := by decide +kernel
theorem d_La_law_130 : decode c_La_law 130 = .ok (.iload_n 3, 1) := by decide +kernel
theorem d_La_law_131 : decode c_La_law 131 = .ok (.iconst 1, 1) := by decide +kernel
theorem d_La_law_132 : decode c_La_law 132 = .ok (.iadd, 1) := by decide +kernel
theorem d_La_law_133 : decode c_La_law 133 = .ok (.iaload, 1) := by decide +kernel
theorem d_La_law_134 : decode c_La_law 134 = .ok (.aload_n 0, 1) := by decide +kernel
theorem d_La_law_135 : decode c_La_law 135 = .ok (.iload_n 3, 1) := by decide +kernel
theorem d_La_law_136 : decode c_La_law 136 = .ok (.iconst 2, 1) := by decide +kernel
theorem d_La_law_137 : decode c_La_law 137 = .ok (.iadd, 1) := by decide +kernel
theorem d_La_law_138 : decode c_La_law 138 = .ok (.iaload, 1) := by decide +kernel
theorem d_La_law_139 : decode c_La_law 139 = .ok (.i2c, 1) := by decide +kernel
theorem d_La_law_140 : decode c_La_law 140 = .ok (.invokevirtual 13, 3) := by decide +kernel
theorem d_La_law_143 : decode c_La_law 143 = .ok (.aload_n 2, 1) := by decide +kernel
theorem d_La_law_144 : decode c_La_law 144 = .ok (.aload_n 0, 1) := by decide +kernel
theorem d_La_law_145 : decode c_La_law 145 = .ok (.iload_n 3, 1) := by decide +kernel
theorem d_La_law_146 : decode c_La_law 146 = .ok (.iconst 1, 1) := by decide +kernel
theorem d_La_law_147 : decode c_La_law 147 = .ok (.iadd, 1) := by decide +kernel
theorem d_La_law_148 : decode c_La_law 148 = .ok (.iaload, 1) := by decide +kernel
theorem d_La_law_149 : decode c_La_law 149 = .ok (.aload_n 0, 1) := by decide +kernel
theorem d_La_law_150 : decode c_La_law 150 = .ok (.iload_n 3, 1) := by decide +kernel
theorem d_La_law_151 : decode c_La_law 151 = .ok (.iconst 2, 1) := by decide +kernel
theorem d_La_law_152 : decode c_La_law 152 = .ok (.iadd, 1) := by decide +kernel
theorem d_La_law_153 : decode c_La_law 153 = .ok (.iaload, 1) := by decide +kernel
theorem d_La_law_154 : decode c_La_law 154 = .ok (.i2c, 1) := by decide +kernel
theorem d_La_law_155 : decode c_La_law 155 = .ok (.invokevirtual 17, 3) := by decide +kernel
theorem d_La_law_158 : decode c_La_law 158 = .ok (.if_icmp .eq 518, 3) := by decide +kernel
theorem d_La_law_161 : decode c_La_law 161 = .ok (.iconst 0, 1) := by decide +kernel
theorem d_La_law_162 : decode c_La_law 162 = .ok (.ireturn, 1) := by decide +kernel
theorem d_La_law_163 : decode c_La_law 163 = .ok (.aload_n 1, 1) := by decide +kernel
theorem d_La_law_164 : decode c_La_law 164 = .ok (.invokevirtual 18, 3) := by decide +kernel
theorem d_La_law_167 : decode c_La_law 167 = .ok (.aload_n 2, 1) := by decide +kernel
theorem d_La_law_168 : decode c_La_law 168 = .ok (.invokevirtual 22, 3) := by decide +kernel
theorem d_La_law_171 : decode c_La_law 171 = .ok (.if_icmp .eq 505, 3) := by decide +kernel
theorem d_La_law_174 : decode c_La_law 174 = .ok (.iconst 0, 1) := by decide +kernel
theorem d_La_law_175 : decode c_La_law 175 = .ok (.ireturn, 1) := by decide +kernel
theorem d_La_law_176 : decode c_La_law 176 = .ok (.aload_n 1, 1) := by decide +kernel
theorem d_La_law_177 : decode c_La_law 177 = .ok (.invokevirtual 23, 3) := by decide +kernel
theorem d_La_law_180 : decode c_La_law 180 = .ok (.aload_n 2, 1) := by decide +kernel
theorem d_La_law_181 : decode c_La_law 181 = .ok (.invokevirtual 26, 3) := by decide +kernel
theorem d_La_law_184 : decode c_La_law 184 = .ok (.if_icmp .eq 492, 3) := by decide +kernel
theorem d_La_law_187 : decode c_La_law 187 = .ok (.iconst 0, 1) := by decide +kernel
theorem d_La_law_188 : decode c_La_law 188 = .ok (.ireturn, 1) := by decide +kernel
theorem d_La_law_189 : decode c_La_law 189 = .ok (.aload_n 1, 1) := by decide +kernel
theorem d_La_law_190 : decode c_La_law 190 = .ok (.aload_n 0, 1) := by decide +kernel
theorem d_La_law_191 : decode c_La_law 191 = .ok (.iload_n 3, 1) := by decide +kernel
theorem d_La_law_192 : decode c_La_law 192 = .ok (.iconst 1, 1) := by decide +kernel
theorem d_La_law_193 : decode c_La_law 193 = .ok (.iadd, 1) := by decide +kernel
theorem d_La_law_194 : decode c_La_law 194 = .ok (.iaload, 1) := by decide +kernel
theorem d_La_law_195 : decode c_La_law 195 = .ok (.aload_n 0, 1) := by decide +kernel
theorem d_La_law_196 : decode c_La_law 196 = .ok (.iload_n 3, 1) := by decide +kernel
theorem d_La_law_197 : decode c_La_law 197 = .ok (.iconst 2, 1) := by decide +kernel
theorem d_La_law_198 : decode c_La_law 198 = .ok (.iadd, 1) := by decide +kernel
theorem d_La_law_199 : decode c_La_law 199 = .ok (.iaload, 1) := by decide +kernel
theorem d_La_law_200 : decode c_La_law 200 = .ok (.invokevirtual 27, 3) := by decide +kernel
theorem d_La_law_203 : decode c_La_law 203 = .ok (.aload_n 2, 1) := by decide +kernel
theorem d_La_law_204 : decode c_La_law 204 = .ok (.aload_n 0, 1) := by decide +kernel
theorem d_La_law_205 : decode c_La_law 205 = .ok (.iload_n 3, 1) := by decide +kernel
theorem d_La_law_206 : decode c_La_law 206 = .ok (.iconst 1, 1) := by decide +kernel
theorem d_La_law_207 : decode c_La_law 207 = .ok (.iadd, 1) := by decide +kernel
theorem d_La_law_208 : decode c_La_law 208 = .ok (.iaload, 1) := by decide +kernel
theorem d_La_law_209 : decode c_La_law 209 = .ok (.aload_n 0, 1) := by decide +kernel
theorem d_La_law_210 : decode c_La_law 210 = .ok (.iload_n 3, 1) := by decide +kernel
theorem d_La_law_211 : decode c_La_law 211 = .ok (.iconst 2, 1) := by decide +kernel
theorem d_La_law_212 : decode c_La_law 212 = .ok (.iadd, 1) := by decide +kernel
theorem d_La_law_213 : decode c_La_law 213 = .ok (.iaload, 1) := by decide +kernel
theorem d_La_law_214 : decode c_La_law 214 = .ok (.invokevirtual 31, 3) := by decide +kernel
theorem d_La_law_217 : decode c_La_law 217 = .ok (.if_icmp .eq 459, 3) := by decide +kernel
theorem d_La_law_220 : decode c_La_law 220 = .ok (.iconst 0, 1) := by decide +kernel
theorem d_La_law_221 : decode c_La_law 221 = .ok (.ireturn, 1) := by decide +kernel
theorem d_La_law_222 : decode c_La_law 222 = .ok (.aload_n 1, 1) := by decide +kernel
theorem d_La_law_223 : decode c_La_law 223 = .ok (.aload_n 0, 1) := by decide +kernel
theorem d_La_law_224 : decode c_La_law 224 = .ok (.iload_n 3, 1) := by decide +kernel
theorem d_La_law_225 : decode c_La_law 225 = .ok (.iconst 1, 1) := by decide +kernel
theorem d_La_law_226 : decode c_La_law 226 = .ok (.iadd, 1) := by decide +kernel
theorem d_La_law_227 : decode c_La_law 227 = .ok (.iaload, 1) := by decide +kernel
theorem d_La_law_228 : decode c_La_law 228 = .ok (.aload_n 0, 1) := by decide +kernel
theorem d_La_law_229 : decode c_La_law 229 = .ok (.iload_n 3, 1) := by decide +kernel
theorem d_La_law_230 : decode c_La_law 230 = .ok (.iconst 2, 1) := by decide +kernel
theorem d_La_law_231 : decode c_La_law 231 = .ok (.iadd, 1) := by decide +kernel
theorem d_La_law_232 : decode c_La_law 232 = .ok (.iaload, 1) := by decide +kernel
theorem d_La_law_233 : decode c_La_law 233 = .ok (.invokevirtual 32, 3) := by decide +kernel
theorem d_La_law_236 : decode c_La_law 236 = .ok (.aload_n 2, 1) := by decide +kernel
theorem d_La_law_237 : decode c_La_law 237 = .ok (.aload_n 0, 1) := by decide +kernel
theorem d_La_law_238 : decode c_La_law 238 = .ok (.iload_n 3, 1) := by decide +kernel
theorem d_La_law_239 : decode c_La_law 239 = .ok (.iconst 1, 1) := by decide +kernel
theorem d_La_law_240 : decode c_La_law 240 = .ok (.iadd, 1) := by decide +kernel
theorem d_La_law_241 : decode c_La_law 241 = .ok (.iaload, 1) := by decide +kernel
theorem d_La_law_242 : decode c_La_law 242 = .ok (.aload_n 0, 1) := by decide +kernel
theorem d_La_law_243 : decode c_La_law 243 = .ok (.iload_n 3, 1) := by decide +kernel
theorem d_La_law_244 : decode c_La_law 244 = .ok (.iconst 2, 1) := by decide +kernel
theorem d_La_law_245 : decode c_La_law 245 = .ok (.iadd, 1) := by decide +kernel
theorem d_La_law_246 : decode c_La_law 246 = .ok (.iaload, 1) := by decide +kernel
theorem d_La_law_247 : decode c_La_law 247 = .ok (.invokevirtual 35, 3) := by decide +kernel
theorem d_La_law_250 : decode c_La_law 250 = .ok (.if_icmp .eq 426, 3) := by decide +kernel
theorem d_La_law_253 : decode c_La_law 253 = .ok (.iconst 0, 1) := by decide +kernel
theorem d_La_law_254 : decode c_La_law 254 = .ok (.ireturn, 1) := by decide +kernel
theorem d_La_law_255 : decode c_La_law 255 = .ok (.aload_n 1, 1) := by decide +kernel
theorem d_La_law_256 : decode c_La_law 256 = .ok (.aload_n 0, 1) := by decide +kernel
theorem d_La_law_257 : decode c_La_law 257 = .ok (.iload_n 3, 1) := by decide +kernel
theorem d_La_law_258 : decode c_La_law 258 = .ok (.iconst 1, 1) := by decide +kernel
theorem d_La_law_259 : decode c_La_law 259 = .ok (.iadd, 1) := by decide +kernel
theorem d_La_law_260 : decode c_La_law 260 = .ok (.iaload, 1) := by decide +kernel
theorem d_La_law_261 : decode c_La_law 261 = .ok (.aload_n 0, 1) := by decide +kernel
theorem d_La_law_262 : decode c_La_law 262 = .ok (.iload_n 3, 1) := by decide +kernel
theorem d_La_law_263 : decode c_La_law 263 = .ok (.iconst 2, 1) := by decide +kernel
theorem d_La_law_264 : decode c_La_law 264 = .ok (.iadd, 1) := by decide +kernel
theorem d_La_law_265 : decode c_La_law 265 = .ok (.iaload, 1) := by decide +kernel
theorem d_La_law_266 : decode c_La_law 266 = .ok (.aload_n 0, 1) := by decide +kernel
theorem d_La_law_267 : decode c_La_law 267 = .ok (.iload_n 3, 1) := by decide +kernel
theorem d_La_law_268 : decode c_La_law 268 = .ok (.iconst 3, 1) := by decide +kernel
theorem d_La_law_269 : decode c_La_law 269 = .ok (.iadd, 1) := by decide +kernel
theorem d_La_law_270 : decode c_La_law 270 = .ok (.iaload, 1) := by decide +kernel
theorem d_La_law_271 : decode c_La_law 271 = .ok (.invokevirtual 36, 3) := by decide +kernel
theorem d_La_law_274 : decode c_La_law 274 = .ok (.aload_n 2, 1) := by decide +kernel
theorem d_La_law_275 : decode c_La_law 275 = .ok (.aload_n 0, 1) := by decide +kernel
theorem d_La_law_276 : decode c_La_law 276 = .ok (.iload_n 3, 1) := by decide +kernel
theorem d_La_law_277 : decode c_La_law 277 = .ok (.iconst 1, 1) := by decide +kernel
theorem d_La_law_278 : decode c_La_law 278 = .ok (.iadd, 1) := by decide +kernel
theorem d_La_law_279 : decode c_La_law 279 = .ok (.iaload, 1) := by decide +kernel
theorem d_La_law_280 : decode c_La_law 280 = .ok (.aload_n 0, 1) := by decide +kernel
theorem d_La_law_281 : decode c_La_law 281 = .ok (.iload_n 3, 1) := by decide +kernel
theorem d_La_law_282 : decode c_La_law 282 = .ok (.iconst 2, 1) := by decide +kernel
theorem d_La_law_283 : decode c_La_law 283 = .ok (.iadd, 1) := by decide +kernel
theorem d_La_law_284 : decode c_La_law 284 = .ok (.iaload, 1) := by decide +kernel
theorem d_La_law_285 : decode c_La_law 285 = .ok (.aload_n 0, 1) := by decide +kernel
theorem d_La_law_286 : decode c_La_law 286 = .ok (.iload_n 3, 1) := by decide +kernel
theorem d_La_law_287 : decode c_La_law 287 = .ok (.iconst 3, 1) := by decide +kernel
theorem d_La_law_288 : decode c_La_law 288 = .ok (.iadd, 1) := by decide +kernel
theorem d_La_law_289 : decode c_La_law 289 = .ok (.iaload, 1) := by decide +kernel
theorem d_La_law_290 : decode c_La_law 290 = .ok (.invokevirtual 40, 3) := by decide +kernel
theorem d_La_law_293 : decode c_La_law 293 = .ok (.if_icmp .eq 383, 3) := by decide +kernel
theorem d_La_law_296 : decode c_La_law 296 = .ok (.iconst 0, 1) := by decide +kernel
theorem d_La_law_297 : decode c_La_law 297 = .ok (.ireturn, 1) := by decide +kernel
theorem d_La_law_298 : decode c_La_law 298 = .ok (.aload_n 1, 1) := by decide +kernel
theorem d_La_law_299 : decode c_La_law 299 = .ok (.aload_n 0, 1) := by decide +kernel
theorem d_La_law_300 : decode c_La_law 300 = .ok (.iload_n 3, 1) := by decide +kernel
theorem d_La_law_301 : decode c_La_law 301 = .ok (.iconst 1, 1) := by decide +kernel
theorem d_La_law_302 : decode c_La_law 302 = .ok (.iadd, 1) := by decide +kernel
theorem d_La_law_303 : decode c_La_law 303 = .ok (.iaload, 1) := by decide +kernel
theorem d_La_law_304 : decode c_La_law 304 = .ok (.aload_n 0, 1) := by decide +kernel
theorem d_La_law_305 : decode c_La_law 305 = .ok (.iload_n 3, 1) := by decide +kernel
theorem d_La_law_306 : decode c_La_law 306 = .ok (.iconst 2, 1) := by decide +kernel
theorem d_La_law_307 : decode c_La_law 307 = .ok (.iadd, 1) := by decide +kernel
theorem d_La_law_308 : decode c_La_law 308 = .ok (.iaload, 1) := by decide +kernel
theorem d_La_law_309 : decode c_La_law 309 = .ok (.aload_n 0, 1) := by decide +kernel
theorem d_La_law_310 : decode c_La_law 310 = .ok (.iload_n 3, 1) := by decide +kernel
theorem d_La_law_311 : decode c_La_law 311 = .ok (.iconst 3, 1) := by decide +kernel
theorem d_La_law_312 : decode c_La_law 312 = .ok (.iadd, 1) := by decide +kernel
theorem d_La_law_313 : decode c_La_law 313 = .ok (.iaload, 1) := by decide +kernel
theorem d_La_law_314 : decode c_La_law 314 = .ok (.invokevirtual 41, 3) := by decide +kernel
theorem d_La_law_317 : decode c_La_law 317 = .ok (.aload_n 2, 1) := by decide +kernel
theorem d_La_law_318 : decode c_La_law 318 = .ok (.aload_n 0, 1) := by decide +kernel
theorem d_La_law_319 : decode c_La_law 319 = .ok (.iload_n 3, 1) := by decide +kernel
theorem d_La_law_320 : decode c_La_law 320 = .ok (.iconst 1, 1) := by decide +kernel
theorem d_La_law_321 : decode c_La_law 321 = .ok (.iadd, 1) := by decide +kernel
theorem d_La_law_322 : decode c_La_law 322 = .ok (.iaload, 1) := by decide +kernel
theorem d_La_law_323 : decode c_La_law 323 = .ok (.aload_n 0, 1) := by decide +kernel
theorem d_La_law_324 : decode c_La_law 324 = .ok (.iload_n 3, 1) := by decide +kernel
theorem d_La_law_325 : decode c_La_law 325 = .ok (.iconst 2, 1) := by decide +kernel
theorem d_La_law_326 : decode c_La_law 326 = .ok (.iadd, 1) := by decide +kernel
theorem d_La_law_327 : decode c_La_law 327 = .ok (.iaload, 1) := by decide +kernel
theorem d_La_law_328 : decode c_La_law 328 = .ok (.aload_n 0, 1) := by decide +kernel
theorem d_La_law_329 : decode c_La_law 329 = .ok (.iload_n 3, 1) := by decide +kernel
theorem d_La_law_330 : decode c_La_law 330 = .ok (.iconst 3, 1) := by decide +kernel
theorem d_La_law_331 : decode c_La_law 331 = .ok (.iadd, 1) := by decide +kernel
theorem d_La_law_332 : decode c_La_law 332 = .ok (.iaload, 1) := by decide +kernel
theorem d_La_law_333 : decode c_La_law 333 = .ok (.invokevirtual 45, 3) := by decide +kernel
theorem d_La_law_336 : decode c_La_law 336 = .ok (.if_icmp .eq 340, 3) := by decide +kernel
theorem d_La_law_339 : decode c_La_law 339 = .ok (.iconst 0, 1) := by decide +kernel
theorem d_La_law_340 : decode c_La_law 340 = .ok (.ireturn, 1) := by decide +kernel
theorem d_La_law_341 : decode c_La_law 341 = .ok (.aload_n 1, 1) := by decide +kernel
theorem d_La_law_342 : decode c_La_law 342 = .ok (.aload_n 0, 1) := by decide +kernel
theorem d_La_law_343 : decode c_La_law 343 = .ok (.iload_n 3, 1) := by decide +kernel
theorem d_La_law_344 : decode c_La_law 344 = .ok (.iconst 1, 1) := by decide +kernel
theorem d_La_law_345 : decode c_La_law 345 = .ok (.iadd, 1) := by decide +kernel
theorem d_La_law_346 : decode c_La_law 346 = .ok (.iaload, 1) := by decide +kernel
theorem d_La_law_347 : decode c_La_law 347 = .ok (.aload_n 0, 1) := by decide +kernel
theorem d_La_law_348 : decode c_La_law 348 = .ok (.iload_n 3, 1) := by decide +kernel
theorem d_La_law_349 : decode c_La_law 349 = .ok (.iconst 2, 1) := by decide +kernel
theorem d_La_law_350 : decode c_La_law 350 = .ok (.iadd, 1) := by decide +kernel
theorem d_La_law_351 : decode c_La_law 351 = .ok (.iaload, 1) := by decide +kernel
theorem d_La_law_352 : decode c_La_law 352 = .ok (.invokevirtual 46, 3) := by decide +kernel
theorem d_La_law_355 : decode c_La_law 355 = .ok (.aload_n 2, 1) := by decide +kernel
theorem d_La_law_356 : decode c_La_law 356 = .ok (.aload_n 0, 1) := by decide +kernel
theorem d_La_law_357 : decode c_La_law 357 = .ok (.iload_n 3, 1) := by decide +kernel
theorem d_La_law_358 : decode c_La_law 358 = .ok (.iconst 1, 1) := by decide +kernel
theorem d_La_law_359 : decode c_La_law 359 = .ok (.iadd, 1) := by decide +kernel
theorem d_La_law_360 : decode c_La_law 360 = .ok (.iaload, 1) := by decide +kernel
theorem d_La_law_361 : decode c_La_law 361 = .ok (.aload_n 0, 1) := by decide +kernel
theorem d_La_law_362 : decode c_La_law 362 = .ok (.iload_n 3, 1) := by decide +kernel
theorem d_La_law_363 : decode c_La_law 363 = .ok (.iconst 2, 1) := by decide +kernel
theorem d_La_law_364 : decode c_La_law 364 = .ok (.iadd, 1) := by decide +kernel
theorem d_La_law_365 : decode c_La_law 365 = .ok (.iaload, 1) := by decide +kernel
theorem d_La_law_366 : decode c_La_law 366 = .ok (.invokevirtual 50, 3) := by decide +kernel
theorem d_La_law_369 : decode c_La_law 369 = .ok (.if_icmp .eq 307, 3) := by decide +kernel
theorem d_La_law_372 : decode c_La_law 372 = .ok (.iconst 0, 1) := by decide +kernel
theorem d_La_law_373 : decode c_La_law 373 = .ok (.ireturn, 1) := by decide +kernel
theorem d_La_law_374 : decode c_La_law 374 = .ok (.aload_n 1, 1) := by decide +kernel
theorem d_La_law_375 : decode c_La_law 375 = .ok (.aload_n 0, 1) := by decide +kernel
theorem d_La_law_376 : decode c_La_law 376 = .ok (.iload_n 3, 1) := by decide +kernel
theorem d_La_law_377 : decode c_La_law 377 = .ok (.iconst 1, 1) := by decide +kernel
theorem d_La_law_378 : decode c_La_law 378 = .ok (.iadd, 1) := by decide +kernel
theorem d_La_law_379 : decode c_La_law 379 = .ok (.iaload, 1) := by decide +kernel
theorem d_La_law_380 : decode c_La_law 380 = .ok (.ifCond .eq 7, 3) := by decide +kernel
theorem d_La_law_383 : decode c_La_law 383 = .ok (.iconst 1, 1) := by decide +kernel
theorem d_La_law_384 : decode c_La_law 384 = .ok (.goto 4, 3) := by decide +kernel
theorem d_La_law_387 : decode c_La_law 387 = .ok (.iconst 0, 1) := by decide +kernel
theorem d_La_law_388 : decode c_La_law 388 = .ok (.invokevirtual 51, 3) := by decide +kernel
theorem d_La_law_391 : decode c_La_law 391 = .ok (.aload_n 2, 1) := by decide +kernel
theorem d_La_law_392 : decode c_La_law 392 = .ok (.aload_n 0, 1) := by decide +kernel
theorem d_La_law_393 : decode c_La_law 393 = .ok (.iload_n 3, 1) := by decide +kernel
theorem d_La_law_394 : decode c_La_law 394 = .ok (.iconst 1, 1) := by decide +kernel
theorem d_La_law_395 : decode c_La_law 395 = .ok (.iadd, 1) := by decide +kernel
theorem d_La_law_396 : decode c_La_law 396 = .ok (.iaload, 1) := by decide +kernel
theorem d_La_law_397 : decode c_La_law 397 = .ok (.ifCond .eq 7, 3) := by decide +kernel
theorem d_La_law_400 : decode c_La_law 400 = .ok (.iconst 1, 1) := by decide +kernel
theorem d_La_law_401 : decode c_La_law 401 = .ok (.goto 4, 3) := by decide +kernel
theorem d_La_law_404 : decode c_La_law 404 = .ok (.iconst 0, 1) := by decide +kernel
theorem d_La_law_405 : decode c_La_law 405 = .ok (.invokevirtual 55, 3) := by decide +kernel
theorem d_La_law_408 : decode c_La_law 408 = .ok (.if_icmp .eq 268, 3) := by decide +kernel
theorem d_La_law_411 : decode c_La_law 411 = .ok (.iconst 0, 1) := by decide +kernel
theorem d_La_law_412 : decode c_La_law 412 = .ok (.ireturn, 1) := by decide +kernel
theorem d_La_law_413 : decode c_La_law 413 = .ok (.aload_n 1, 1) := by decide +kernel
theorem d_La_law_414 : decode c_La_law 414 = .ok (.invokevirtual 56, 3) := by decide +kernel
theorem d_La_law_417 : decode c_La_law 417 = .ok (.aload_n 2, 1) := by decide +kernel
theorem d_La_law_418 : decode c_La_law 418 = .ok (.invokevirtual 59, 3) := by decide +kernel
theorem d_La_law_421 : decode c_La_law 421 = .ok (.if_icmp .eq 255, 3) := by decide +kernel
theorem d_La_law_424 : decode c_La_law 424 = .ok (.iconst 0, 1) := by decide +kernel
theorem d_La_law_425 : decode c_La_law 425 = .ok (.ireturn, 1) := by decide +kernel
theorem d_La_law_426 : decode c_La_law 426 = .ok (.aload_n 1, 1) := by decide +kernel
theorem d_La_law_427 : decode c_La_law 427 = .ok (.invokevirtual 60, 3) := by decide +kernel
theorem d_La_law_430 : decode c_La_law 430 = .ok (.aload_n 2, 1) := by decide +kernel
theorem d_La_law_431 : decode c_La_law 431 = .ok (.invokevirtual 64, 3) := by decide +kernel
theorem d_La_law_434 : decode c_La_law 434 = .ok (.if_icmp .eq 242, 3) := by decide +kernel
theorem d_La_law_437 : decode c_La_law 437 = .ok (.iconst 0, 1) := by decide +kernel
theorem d_La_law_438 : decode c_La_law 438 = .ok (.ireturn, 1) := by decide +kernel
theorem d_La_law_439 : decode c_La_law 439 = .ok (.aload_n 1, 1) := by decide +kernel
theorem d_La_law_440 : decode c_La_law 440 = .ok (.aload_n 0, 1) := by decide +kernel
theorem d_La_law_441 : decode c_La_law 441 = .ok (.iload_n 3, 1) := by decide +kernel
theorem d_La_law_442 : decode c_La_law 442 = .ok (.iconst 1, 1) := by decide +kernel
theorem d_La_law_443 : decode c_La_law 443 = .ok (.iadd, 1) := by decide +kernel
theorem d_La_law_444 : decode c_La_law 444 = .ok (.iaload, 1) := by decide +kernel
theorem d_La_law_445 : decode c_La_law 445 = .ok (.aload_n 0, 1) := by decide +kernel
theorem d_La_law_446 : decode c_La_law 446 = .ok (.iload_n 3, 1) := by decide +kernel
theorem d_La_law_447 : decode c_La_law 447 = .ok (.iconst 2, 1) := by decide +kernel
theorem d_La_law_448 : decode c_La_law 448 = .ok (.iadd, 1) := by decide +kernel
theorem d_La_law_449 : decode c_La_law 449 = .ok (.iaload, 1) := by decide +kernel
theorem d_La_law_450 : decode c_La_law 450 = .ok (.invokevirtual 65, 3) := by decide +kernel
theorem d_La_law_453 : decode c_La_law 453 = .ok (.aload_n 2, 1) := by decide +kernel
theorem d_La_law_454 : decode c_La_law 454 = .ok (.aload_n 0, 1) := by decide +kernel
theorem d_La_law_455 : decode c_La_law 455 = .ok (.iload_n 3, 1) := by decide +kernel
theorem d_La_law_456 : decode c_La_law 456 = .ok (.iconst 1, 1) := by decide +kernel
theorem d_La_law_457 : decode c_La_law 457 = .ok (.iadd, 1) := by decide +kernel
theorem d_La_law_458 : decode c_La_law 458 = .ok (.iaload, 1) := by decide +kernel
theorem d_La_law_459 : decode c_La_law 459 = .ok (.aload_n 0, 1) := by decide +kernel
theorem d_La_law_460 : decode c_La_law 460 = .ok (.iload_n 3, 1) := by decide +kernel
theorem d_La_law_461 : decode c_La_law 461 = .ok (.iconst 2, 1) := by decide +kernel
theorem d_La_law_462 : decode c_La_law 462 = .ok (.iadd, 1) := by decide +kernel
theorem d_La_law_463 : decode c_La_law 463 = .ok (.iaload, 1) := by decide +kernel
theorem d_La_law_464 : decode c_La_law 464 = .ok (.invokevirtual 68, 3) := by decide +kernel
theorem d_La_law_467 : decode c_La_law 467 = .ok (.if_icmp .eq 209, 3) := by decide +kernel
theorem d_La_law_470 : decode c_La_law 470 = .ok (.iconst 0, 1) := by decide +kernel
theorem d_La_law_471 : decode c_La_law 471 = .ok (.ireturn, 1) := by decide +kernel
theorem d_La_law_472 : decode c_La_law 472 = .ok (.aload_n 1, 1) := by decide +kernel
theorem d_La_law_473 : decode c_La_law 473 = .ok (.aload_n 0, 1) := by decide +kernel
theorem d_La_law_474 : decode c_La_law 474 = .ok (.iload_n 3, 1) := by decide +kernel
theorem d_La_law_475 : decode c_La_law 475 = .ok (.iconst 1, 1) := by decide +kernel
theorem d_La_law_476 : decode c_La_law 476 = .ok (.iadd, 1) := by decide +kernel
theorem d_La_law_477 : decode c_La_law 477 = .ok (.iaload, 1) := by decide +kernel
theorem d_La_law_478 : decode c_La_law 478 = .ok (.invokevirtual 69, 3) := by decide +kernel
theorem d_La_law_481 : decode c_La_law 481 = .ok (.aload_n 2, 1) := by decide +kernel
theorem d_La_law_482 : decode c_La_law 482 = .ok (.aload_n 0, 1) := by decide +kernel
theorem d_La_law_483 : decode c_La_law 483 = .ok (.iload_n 3, 1) := by decide +kernel
theorem d_La_law_484 : decode c_La_law 484 = .ok (.iconst 1, 1) := by decide +kernel
theorem d_La_law_485 : decode c_La_law 485 = .ok (.iadd, 1) := by decide +kernel
theorem d_La_law_486 : decode c_La_law 486 = .ok (.iaload, 1) := by decide +kernel
theorem d_La_law_487 : decode c_La_law 487 = .ok (.invokevirtual 73, 3) := by decide +kernel
theorem d_La_law_490 : decode c_La_law 490 = .ok (.if_icmp .eq 186, 3) := by decide +kernel
theorem d_La_law_493 : decode c_La_law 493 = .ok (.iconst 0, 1) := by decide +kernel
theorem d_La_law_494 : decode c_La_law 494 = .ok (.ireturn, 1) := by decide +kernel
theorem d_La_law_495 : decode c_La_law 495 = .ok (.aload_n 1, 1) := by decide +kernel
theorem d_La_law_496 : decode c_La_law 496 = .ok (.aload_n 0, 1) := by decide +kernel
theorem d_La_law_497 : decode c_La_law 497 = .ok (.iload_n 3, 1) := by decide +kernel
theorem d_La_law_498 : decode c_La_law 498 = .ok (.iconst 1, 1) := by decide +kernel
theorem d_La_law_499 : decode c_La_law 499 = .ok (.iadd, 1) := by decide +kernel
theorem d_La_law_500 : decode c_La_law 500 = .ok (.iaload, 1) := by decide +kernel
theorem d_La_law_501 : decode c_La_law 501 = .ok (.invokevirtual 74, 3) := by decide +kernel
theorem d_La_law_504 : decode c_La_law 504 = .ok (.aload_n 2, 1) := by decide +kernel
theorem d_La_law_505 : decode c_La_law 505 = .ok (.aload_n 0, 1) := by decide +kernel
theorem d_La_law_506 : decode c_La_law 506 = .ok (.iload_n 3, 1) := by decide +kernel
theorem d_La_law_507 : decode c_La_law 507 = .ok (.iconst 1, 1) := by decide +kernel
theorem d_La_law_508 : decode c_La_law 508 = .ok (.iadd, 1) := by decide +kernel
theorem d_La_law_509 : decode c_La_law 509 = .ok (.iaload, 1) := by decide +kernel
theorem d_La_law_510 : decode c_La_law 510 = .ok (.invokevirtual 77, 3) := by decide +kernel
theorem d_La_law_513 : decode c_La_law 513 = .ok (.if_icmp .eq 163, 3) := by decide +kernel
theorem d_La_law_516 : decode c_La_law 516 = .ok (.iconst 0, 1) := by decide +kernel
theorem d_La_law_517 : decode c_La_law 517 = .ok (.ireturn, 1) := by decide +kernel
theorem d_La_law_518 : decode c_La_law 518 = .ok (.aload_n 1, 1) := by decide +kernel
theorem d_La_law_519 : decode c_La_law 519 = .ok (.aload_n 0, 1) := by decide +kernel
theorem d_La_law_520 : decode c_La_law 520 = .ok (.iload_n 3, 1) := by decide +kernel
theorem d_La_law_521 : decode c_La_law 521 = .ok (.iconst 1, 1) := by decide +kernel
theorem d_La_law_522 : decode c_La_law 522 = .ok (.iadd, 1) := by decide +kernel
theorem d_La_law_523 : decode c_La_law 523 = .ok (.iaload, 1) := by decide +kernel
theorem d_La_law_524 : decode c_La_law 524 = .ok (.invokevirtual 78, 3) := by decide +kernel
theorem d_La_law_527 : decode c_La_law 527 = .ok (.aload_n 2, 1) := by decide +kernel
theorem d_La_law_528 : decode c_La_law 528 = .ok (.aload_n 0, 1) := by decide +kernel
theorem d_La_law_529 : decode c_La_law 529 = .ok (.iload_n 3, 1) := by decide +kernel
theorem d_La_law_530 : decode c_La_law 530 = .ok (.iconst 1, 1) := by decide +kernel
theorem d_La_law_531 : decode c_La_law 531 = .ok (.iadd, 1) := by decide +kernel
theorem d_La_law_532 : decode c_La_law 532 = .ok (.iaload, 1) := by decide +kernel
theorem d_La_law_533 : decode c_La_law 533 = .ok (.invokevirtual 81, 3) := by decide +kernel
theorem d_La_law_536 : decode c_La_law 536 = .ok (.if_icmp .eq 140, 3) := by decide +kernel
theorem d_La_law_539 : decode c_La_law 539 = .ok (.iconst 0, 1) := by decide +kernel
theorem d_La_law_540 : decode c_La_law 540 = .ok (.ireturn, 1) := by decide +kernel
theorem d_La_law_541 : decode c_La_law 541 = .ok (.aload_n 1, 1) := by decide +kernel
theorem d_La_law_542 : decode c_La_law 542 = .ok (.invokevirtual 82, 3) := by decide +kernel
theorem d_La_law_545 : decode c_La_law 545 = .ok (.aload_n 2, 1) := by decide +kernel
theorem d_La_law_546 : decode c_La_law 546 = .ok (.invokevirtual 85, 3) := by decide +kernel
theorem d_La_law_549 : decode c_La_law 549 = .ok (.if_icmp .eq 127, 3) := by decide +kernel
theorem d_La_law_552 : decode c_La_law 552 = .ok (.iconst 0, 1) := by decide +kernel
theorem d_La_law_553 : decode c_La_law 553 = .ok (.ireturn, 1) := by decide +kernel
theorem d_La_law_554 : decode c_La_law 554 = .ok (.aload_n 1, 1) := by decide +kernel
theorem d_La_law_555 : decode c_La_law 555 = .ok (.aload_n 0, 1) := by decide +kernel
theorem d_La_law_556 : decode c_La_law 556 = .ok (.iload_n 3, 1) := by decide +kernel
theorem d_La_law_557 : decode c_La_law 557 = .ok (.iconst 1, 1) := by decide +kernel
theorem d_La_law_558 : decode c_La_law 558 = .ok (.iadd, 1) := by decide +kernel
theorem d_La_law_559 : decode c_La_law 559 = .ok (.iaload, 1) := by decide +kernel
theorem d_La_law_560 : decode c_La_law 560 = .ok (.aload_n 0, 1) := by decide +kernel
theorem d_La_law_561 : decode c_La_law 561 = .ok (.iload_n 3, 1) := by decide +kernel
theorem d_La_law_562 : decode c_La_law 562 = .ok (.iconst 2, 1) := by decide +kernel
theorem d_La_law_563 : decode c_La_law 563 = .ok (.iadd, 1) := by decide +kernel
theorem d_La_law_564 : decode c_La_law 564 = .ok (.iaload, 1) := by decide +kernel
theorem d_La_law_565 : decode c_La_law 565 = .ok (.invokevirtual 86, 3) := by decide +kernel
theorem d_La_law_568 : decode c_La_law 568 = .ok (.aload_n 2, 1) := by decide +kernel
theorem d_La_law_569 : decode c_La_law 569 = .ok (.aload_n 0, 1) := by decide +kernel
theorem d_La_law_570 : decode c_La_law 570 = .ok (.iload_n 3, 1) := by decide +kernel
theorem d_La_law_571 : decode c_La_law 571 = .ok (.iconst 1, 1) := by decide +kernel
theorem d_La_law_572 : decode c_La_law 572 = .ok (.iadd, 1) := by decide +kernel
theorem d_La_law_573 : decode c_La_law 573 = .ok (.iaload, 1) := by decide +kernel
theorem d_La_law_574 : decode c_La_law 574 = .ok (.aload_n 0, 1) := by decide +kernel
theorem d_La_law_575 : decode c_La_law 575 = .ok (.iload_n 3, 1) := by decide +kernel
theorem d_La_law_576 : decode c_La_law 576 = .ok (.iconst 2, 1) := by decide +kernel
theorem d_La_law_577 : decode c_La_law 577 = .ok (.iadd, 1) := by decide +kernel
theorem d_La_law_578 : decode c_La_law 578 = .ok (.iaload, 1) := by decide +kernel
theorem d_La_law_579 : decode c_La_law 579 = .ok (.invokevirtual 89, 3) := by decide +kernel
theorem d_La_law_582 : decode c_La_law 582 = .ok (.if_icmp .eq 94, 3) := by decide +kernel
theorem d_La_law_585 : decode c_La_law 585 = .ok (.iconst 0, 1) := by decide +kernel
theorem d_La_law_586 : decode c_La_law 586 = .ok (.ireturn, 1) := by decide +kernel
theorem d_La_law_587 : decode c_La_law 587 = .ok (.aload_n 1, 1) := by decide +kernel
theorem d_La_law_588 : decode c_La_law 588 = .ok (.aload_n 0, 1) := by decide +kernel
theorem d_La_law_589 : decode c_La_law 589 = .ok (.iload_n 3, 1) := by decide +kernel
theorem d_La_law_590 : decode c_La_law 590 = .ok (.iconst 1, 1) := by decide +kernel
theorem d_La_law_591 : decode c_La_law 591 = .ok (.iadd, 1) := by decide +kernel
theorem d_La_law_592 : decode c_La_law 592 = .ok (.iaload, 1) := by decide +kernel
theorem d_La_law_593 : decode c_La_law 593 = .ok (.invokevirtual 90, 3) := by decide +kernel
theorem d_La_law_596 : decode c_La_law 596 = .ok (.aload_n 2, 1) := by decide +kernel
theorem d_La_law_597 : decode c_La_law 597 = .ok (.aload_n 0, 1) := by decide +kernel
theorem d_La_law_598 : decode c_La_law 598 = .ok (.iload_n 3, 1) := by decide +kernel
theorem d_La_law_599 : decode c_La_law 599 = .ok (.iconst 1, 1) := by decide +kernel
theorem d_La_law_600 : decode c_La_law 600 = .ok (.iadd, 1) := by decide +kernel
theorem d_La_law_601 : decode c_La_law 601 = .ok (.iaload, 1) := by decide +kernel
theorem d_La_law_602 : decode c_La_law 602 = .ok (.invokevirtual 93, 3) := by decide +kernel
theorem d_La_law_605 : decode c_La_law 605 = .ok (.if_icmp .eq 71, 3) := by decide +kernel
theorem d_La_law_608 : decode c_La_law 608 = .ok (.iconst 0, 1) := by decide +kernel
theorem d_La_law_609 : decode c_La_law 609 = .ok (.ireturn, 1) := by decide +kernel
theorem d_La_law_610 : decode c_La_law 610 = .ok (.aload_n 1, 1) := by decide +kernel
theorem d_La_law_611 : decode c_La_law 611 = .ok (.aload_n 0, 1) := by decide +kernel
theorem d_La_law_612 : decode c_La_law 612 = .ok (.iload_n 3, 1) := by decide +kernel
theorem d_La_law_613 : decode c_La_law 613 = .ok (.iconst 1, 1) := by decide +kernel
theorem d_La_law_614 : decode c_La_law 614 = .ok (.iadd, 1) := by decide +kernel
theorem d_La_law_615 : decode c_La_law 615 = .ok (.iaload, 1) := by decide +kernel
theorem d_La_law_616 : decode c_La_law 616 = .ok (.aload_n 0, 1) := by decide +kernel
theorem d_La_law_617 : decode c_La_law 617 = .ok (.iload_n 3, 1) := by decide +kernel
theorem d_La_law_618 : decode c_La_law 618 = .ok (.iconst 2, 1) := by decide +kernel
theorem d_La_law_619 : decode c_La_law 619 = .ok (.iadd, 1) := by decide +kernel
theorem d_La_law_620 : decode c_La_law 620 = .ok (.iaload, 1) := by decide +kernel
theorem d_La_law_621 : decode c_La_law 621 = .ok (.invokevirtual 94, 3) := by decide +kernel
theorem d_La_law_624 : decode c_La_law 624 = .ok (.aload_n 2, 1) := by decide +kernel
theorem d_La_law_625 : decode c_La_law 625 = .ok (.aload_n 0, 1) := by decide +kernel
theorem d_La_law_626 : decode c_La_law 626 = .ok (.iload_n 3, 1) := by decide +kernel
theorem d_La_law_627 : decode c_La_law 627 = .ok (.iconst 1, 1) := by decide +kernel
theorem d_La_law_628 : decode c_La_law 628 = .ok (.iadd, 1) := by decide +kernel
theorem d_La_law_629 : decode c_La_law 629 = .ok (.iaload, 1) := by decide +kernel
theorem d_La_law_630 : decode c_La_law 630 = .ok (.aload_n 0, 1) := by decide +kernel
theorem d_La_law_631 : decode c_La_law 631 = .ok (.iload_n 3, 1) := by decide +kernel
theorem d_La_law_632 : decode c_La_law 632 = .ok (.iconst 2, 1) := by decide +kernel
theorem d_La_law_633 : decode c_La_law 633 = .ok (.iadd, 1) := by decide +kernel
theorem d_La_law_634 : decode c_La_law 634 = .ok (.iaload, 1) := by decide +kernel
theorem d_La_law_635 : decode c_La_law 635 = .ok (.invokevirtual 97, 3) := by decide +kernel
theorem d_La_law_638 : decode c_La_law 638 = .ok (.if_icmp .eq 38, 3) := by decide +kernel
theorem d_La_law_641 : decode c_La_law 641 = .ok (.iconst 0, 1) := by decide +kernel
theorem d_La_law_642 : decode c_La_law 642 = .ok (.ireturn, 1) := by decide +kernel
theorem d_La_law_643 : decode c_La_law 643 = .ok (.aload_n 1, 1) := by decide +kernel
theorem d_La_law_644 : decode c_La_law 644 = .ok (.aload_n 0, 1) := by decide +kernel
theorem d_La_law_645 : decode c_La_law 645 = .ok (.iload_n 3, 1) := by decide +kernel
theorem d_La_law_646 : decode c_La_law 646 = .ok (.iconst 1, 1) := by decide +kernel
theorem d_La_law_647 : decode c_La_law 647 = .ok (.iadd, 1) := by decide +kernel
theorem d_La_law_648 : decode c_La_law 648 = .ok (.iaload, 1) := by decide +kernel
theorem d_La_law_649 : decode c_La_law 649 = .ok (.aload_n 0, 1) := by decide +kernel
theorem d_La_law_650 : decode c_La_law 650 = .ok (.iload_n 3, 1) := by decide +kernel
theorem d_La_law_651 : decode c_La_law 651 = .ok (.iconst 2, 1) := by decide +kernel
theorem d_La_law_652 : decode c_La_law 652 = .ok (.iadd, 1) := by decide +kernel
theorem d_La_law_653 : decode c_La_law 653 = .ok (.iaload, 1) := by decide +kernel
theorem d_La_law_654 : decode c_La_law 654 = .ok (.invokevirtual 98, 3) := by decide +kernel
theorem d_La_law_657 : decode c_La_law 657 = .ok (.aload_n 2, 1) := by decide +kernel
theorem d_La_law_658 : decode c_La_law 658 = .ok (.aload_n 0, 1) := by decide +kernel
theorem d_La_law_659 : decode c_La_law 659 = .ok (.iload_n 3, 1) := by decide +kernel
theorem d_La_law_660 : decode c_La_law 660 = .ok (.iconst 1, 1) := by decide +kernel
theorem d_La_law_661 : decode c_La_law 661 = .ok (.iadd, 1) := by decide +kernel
theorem d_La_law_662 : decode c_La_law 662 = .ok (.iaload, 1) := by decide +kernel
theorem d_La_law_663 : decode c_La_law 663 = .ok (.aload_n 0, 1) := by decide +kernel
theorem d_La_law_664 : decode c_La_law 664 = .ok (.iload_n 3, 1) := by decide +kernel
theorem d_La_law_665 : decode c_La_law 665 = .ok (.iconst 2, 1) := by decide +kernel
theorem d_La_law_666 : decode c_La_law 666 = .ok (.iadd, 1) := by decide +kernel
theorem d_La_law_667 : decode c_La_law 667 = .ok (.iaload, 1) := by decide +kernel
theorem d_La_law_668 : decode c_La_law 668 = .ok (.invokevirtual 101, 3) := by decide +kernel
theorem d_La_law_671 : decode c_La_law 671 = .ok (.if_icmp .eq 5, 3) := by decide +kernel
theorem d_La_law_674 : decode c_La_law 674 = .ok (.iconst 0, 1) := by decide +kernel
theorem d_La_law_675 : decode c_La_law 675 = .ok (.ireturn, 1) := by decide +kernel
theorem d_La_law_676 : decode c_La_law 676 = .ok (.iinc 3 4, 3) := by decide +kernel
theorem d_La_law_679 : decode c_La_law 679 = .ok (.goto (-661), 3) := by decide +kernel
theorem d_La_law_682 : decode c_La_law 682 = .ok (.iconst 1, 1) := by decide +kernel
theorem d_La_law_683 : decode c_La_law 683 = .ok (.ireturn, 1) := by decide +kernel
end
section
/-! Rows over single cells: a fact a cell (va_at), what changed said address by address. -/
section ZZ
variable {p : Program} {l : Launch} {e : Env} {R : Room} {s : State} {m : MethodId} {args : Array Value} {below : List Frame} {meth : Method} {c : Code} {H : Heap} {locs : List Loc} {cells slots : Nat} {Q : State → Prop}
variable {cc : ByteArray} {pc : Nat} {ls : Array Slot} {rest st0 : List Value} {D : va_G} {cl : List vw_C} {a : Nat} {tys : List (ClassId × FieldType)} {Ts : List Cond} {F : Nat → Prop}
theorem zz_one {q : Nat × va_E} (h : va_at D cl q H) : va_P D cl [q] H := by
  intro k x hk
  cases k with
  | zero => cases hk; exact h
  | succ k => simp at hk
/-- what changed lies at one address -/
def zz_up (H H1 : Heap) (a : Nat) : Prop := H1.size = H.size ∧ ∀ q : Nat, q ≠ a → H1[q]? = H[q]?
/-- one cell more -/
def zz_nw (H H1 : Heap) : Prop := H1.size = H.size + 1 ∧ ∀ q : Nat, q < H.size → H1[q]? = H[q]?
theorem zz_keep {H H1 : Heap} {a : Nat} {q : Nat × va_E} (h : zz_up H H1 a) (hq : q.1 ≠ a) (hat : va_at D cl q H) : va_at D cl q H1 := hat.kept (h.2 q.1 hq)
theorem zz_keepN {H H1 : Heap} {q : Nat × va_E} (h : zz_nw H H1) (hat : va_at D cl q H) : va_at D cl q H1 := hat.kept (h.2 q.1 hat.lt)
/-- what has been written so far lies in F -/
def zz_L (F : Nat → Prop) (locs : List Loc) : Prop := ∀ q ∈ locs, F q.base
theorem zz_L.nil : zz_L F [] := fun _ h => by cases h
theorem zz_L.snoc {i : Nat} (h : zz_L F locs) (ha : F a) : zz_L F (locs ++ [⟨a, i⟩]) := t_lc h ha
theorem zz_L.app {L : List Loc} (h : zz_L F locs) (ha : zz_L F L) : zz_L F (locs ++ L) := t_lL h ha
theorem zz_get (hexec : p.tables.exec = Jvm.exec) (hb : c.code = cc) {own ref C : String} {T : u_T} {N ci index : Nat} (hts : ∀ w ∈ Ts, w.before args s = true) (hin : ∀ w ∈ u_ws C T N, w ∈ Ts) (hown : s.vm.findClass own = some m.cls) (hK : va_K D cl tys s) {fs : List Value} (hat : va_at D cl (a, .inr (ci, fs)) H) (hc : cl[ci]? = some (C, T, N)) (k : Nat) (hk : k < N) (hlink : (Cond.fieldLink own index ref (T k).2.1 (T k).2.2.1).before args s = true) (hsame : ∀ x, s.fieldFound? (T k).1 (T k).2.1 (T k).2.2.1 = some x → s.fieldFound? ref (T k).2.1 (T k).2.2.1 = some x) {v : Value} (hv : fs[k]? = some v) (hdg : decode cc pc = .ok (.getfield index, 3))
    (kk : W p l e R s m args below meth c H locs cells slots Q (F0 m (pc + 3) ls (v :: rest))) : W p l e R s m args below meth c H locs cells slots Q (F0 m pc ls (.ref a :: rest)) :=
  va_get hexec hb hts hin hown hK (zz_one hat) 0 rfl hc k hk hlink hsame hv hdg kk
theorem zz_getN (hexec : p.tables.exec = Jvm.exec) (hb : c.code = cc) {own ref C host : String} {T : u_T} {N ci index : Nat} (hts : ∀ w ∈ Ts, w.before args s = true) (hin : ∀ w ∈ u_ws C T N, w ∈ Ts) (hown : s.vm.findClass own = some m.cls) (hK : va_K D cl tys s) {fs : List Value} (hat : va_at D cl (a, .inr (ci, fs)) H) (hc : cl[ci]? = some (C, T, N)) (k : Nat) (hk : k < N) (hlink : (Cond.fieldLinkNest own index ref (T k).2.1 (T k).2.2.1 host).before args s = true) (hsame : ∀ x, s.fieldFound? (T k).1 (T k).2.1 (T k).2.2.1 = some x → s.fieldFound? ref (T k).2.1 (T k).2.2.1 = some x) {v : Value} (hv : fs[k]? = some v) (hdg : decode cc pc = .ok (.getfield index, 3))
    (kk : W p l e R s m args below meth c H locs cells slots Q (F0 m (pc + 3) ls (v :: rest))) : W p l e R s m args below meth c H locs cells slots Q (F0 m pc ls (.ref a :: rest)) :=
  va_getN hexec hb hts hin hown hK (zz_one hat) 0 rfl hc k hk hlink hsame hv hdg kk
/-- all that a field's store rests on -/
theorem zz_slot {C : String} {T : u_T} {N ci : Nat} (hts : ∀ w ∈ Ts, w.before args s = true) (hin : ∀ w ∈ u_ws C T N, w ∈ Ts) (ty0 : Nat → FieldType) (hty : ∀ k, k < N → parseFieldDescriptor (T k).2.2.1 = some (ty0 k)) (hnm : ∀ a, a < N → ∀ b, b < N → a ≠ b → (T a).2.1 ≠ (T b).2.1) (hK : va_K D cl tys s) {fs : List Value} (hat : va_at D cl (a, .inr (ci, fs)) H) (hc : cl[ci]? = some (C, T, N)) (k : Nat) (hk : k < N) (hl : k < fs.length) :
    ∃ (cf : Nat) (kf : Class) (fi : Nat) (f : Field) (cell : Cell) (kC : Class), s.fieldFound? (T k).1 (T k).2.1 (T k).2.2.1 = some (cf, kf, fi, f) ∧ f.isStatic = false ∧ H[a]? = some cell ∧ cell.cls = D.1 ci ∧ cell.vm = .none ∧ f.slot < cell.slots.size ∧ s.vm.findClass C = some (D.1 ci) ∧ s.vm.classes[D.1 ci]? = some kC ∧ kC.kind = .ordinary ∧
      ∀ (v : Value) (H1 : Heap), H1[a]? = some (cell.setSlot f.slot v) → va_at D cl (a, .inr (ci, fs.set k v)) H1 := by
  have hap := va_apart (own := C) hts hin ty0 hty hnm hK hc
  obtain ⟨r, h1, cell, g1, g2, g3, g4⟩ := hat
  cases h1.symm.trans hc
  obtain ⟨hS, hfc, kC, hkC, hkind⟩ := hK.1 ci _ hc
  obtain ⟨cf, kf, fi, f, hi, hsl⟩ := hS k hk
  refine ⟨cf, kf, fi, f, cell, kC, hi, (u_facts hfc hkC (u_lays hts hin hk) hi).1, g1, g2, g3, by rw [hsl]; exact k2_hasslot (g4 k hk), hfc, hkC, hkind, fun v H1 e1 => ?_⟩
  rw [hsl] at e1
  exact ⟨_, hc, t_OB.to (V := updV (vp_V fs) k v) ⟨_, e1, g2, g3, t_set g4 hap hk v⟩ (fun j _ => vp_updV_set hl v j)⟩
theorem zz_put (hexec : p.tables.exec = Jvm.exec) (hb : c.code = cc) {own ref C : String} {T : u_T} {N ci index : Nat} (hts : ∀ w ∈ Ts, w.before args s = true) (hin : ∀ w ∈ u_ws C T N, w ∈ Ts) (ty0 : Nat → FieldType) (hty : ∀ k, k < N → parseFieldDescriptor (T k).2.2.1 = some (ty0 k)) (hnm : ∀ a, a < N → ∀ b, b < N → a ≠ b → (T a).2.1 ≠ (T b).2.1) (hown : s.vm.findClass own = some m.cls) (hK : va_K D cl tys s) {fs : List Value} (hat : va_at D cl (a, .inr (ci, fs)) H) (hc : cl[ci]? = some (C, T, N)) (k : Nat) (hk : k < N) (hL : zz_L F locs) (hFa : F a) (hlink : (Cond.fieldLink own index ref (T k).2.1 (T k).2.2.1).before args s = true) (hsame : ∀ x, s.fieldFound? (T k).1 (T k).2.1 (T k).2.2.1 = some x → s.fieldFound? ref (T k).2.1 (T k).2.2.1 = some x) (hfin : (T k).2.2.2 = false) {ty : FieldType} {v : Value} (hd : parseFieldDescriptor (T k).2.2.1 = some ty) (hn : narrow ty v = v) (hfit : fits ty v = true) (hl : k < fs.length)
    (hdg : decode cc pc = .ok (.putfield index, 3)) (kk : ∀ (H1 : Heap) (locs1 : List Loc), va_at D cl (a, .inr (ci, fs.set k v)) H1 → zz_up H H1 a → zz_L F locs1 → W p l e R s m args below meth c H1 locs1 cells slots Q (F0 m (pc + 3) ls rest)) : W p l e R s m args below meth c H locs cells slots Q (F0 m pc ls (v :: .ref a :: rest)) := by
  obtain ⟨cf, kf, fi, f, cell, kC, hi, hst, g1, g2, g3, hlt, hfc, hkC, hkind, fin⟩ := zz_slot hts hin ty0 hty hnm hK hat hc k hk hl
  have hlay := hts _ (hin _ (u_in_lay hk))
  unfold u_lay at hlay
  rw [if_neg (by rw [hfin]; decide)] at hlay
  have h6 := u_store hfc hkC hkind hlay hi hd hn hfit
  exact W.putK hexec hb (f := f) ⟨hown, hlink, ⟨_, _, _, hsame _ hi⟩, hst⟩ (by rw [g2]; exact h6) g1 g3 hlt rfl rfl hdg fun H1 e1 e2 e3 => kk H1 _ (fin v H1 e1) ⟨e2, e3⟩ (hL.snoc hFa)
theorem zz_putN (hexec : p.tables.exec = Jvm.exec) (hb : c.code = cc) {own ref C host : String} {T : u_T} {N ci index : Nat} (hts : ∀ w ∈ Ts, w.before args s = true) (hin : ∀ w ∈ u_ws C T N, w ∈ Ts) (ty0 : Nat → FieldType) (hty : ∀ k, k < N → parseFieldDescriptor (T k).2.2.1 = some (ty0 k)) (hnm : ∀ a, a < N → ∀ b, b < N → a ≠ b → (T a).2.1 ≠ (T b).2.1) (hown : s.vm.findClass own = some m.cls) (hK : va_K D cl tys s) {fs : List Value} (hat : va_at D cl (a, .inr (ci, fs)) H) (hc : cl[ci]? = some (C, T, N)) (k : Nat) (hk : k < N) (hL : zz_L F locs) (hFa : F a) (hlink : (Cond.fieldLinkNest own index ref (T k).2.1 (T k).2.2.1 host).before args s = true) (hsame : ∀ x, s.fieldFound? (T k).1 (T k).2.1 (T k).2.2.1 = some x → s.fieldFound? ref (T k).2.1 (T k).2.2.1 = some x) (hfin : (T k).2.2.2 = false) {ty : FieldType} {v : Value} (hd : parseFieldDescriptor (T k).2.2.1 = some ty) (hn : narrow ty v = v) (hfit : fits ty v = true) (hl : k < fs.length)
    (hdg : decode cc pc = .ok (.putfield index, 3)) (kk : ∀ (H1 : Heap) (locs1 : List Loc), va_at D cl (a, .inr (ci, fs.set k v)) H1 → zz_up H H1 a → zz_L F locs1 → W p l e R s m args below meth c H1 locs1 cells slots Q (F0 m (pc + 3) ls rest)) : W p l e R s m args below meth c H locs cells slots Q (F0 m pc ls (v :: .ref a :: rest)) := by
  obtain ⟨cf, kf, fi, f, cell, kC, hi, hst, g1, g2, g3, hlt, hfc, hkC, hkind, fin⟩ := zz_slot hts hin ty0 hty hnm hK hat hc k hk hl
  have hlay := hts _ (hin _ (u_in_lay hk))
  unfold u_lay at hlay
  rw [if_neg (by rw [hfin]; decide)] at hlay
  have h6 := u_store hfc hkC hkind hlay hi hd hn hfit
  exact va_WputK hexec hb (f := f) hown hlink (hsame _ hi) hst (by rw [g2]; exact h6) g1 g3 hlt rfl rfl hdg fun H1 e1 e2 e3 => kk H1 _ (fin v H1 e1) ⟨e2, e3⟩ (hL.snoc hFa)
theorem zz_putF (hexec : p.tables.exec = Jvm.exec) (hb : c.code = cc) {own ref C : String} {T : u_T} {N ci index : Nat} (hts : ∀ w ∈ Ts, w.before args s = true) (hin : ∀ w ∈ u_ws C T N, w ∈ Ts) (ty0 : Nat → FieldType) (hty : ∀ k, k < N → parseFieldDescriptor (T k).2.2.1 = some (ty0 k)) (hnm : ∀ a, a < N → ∀ b, b < N → a ≠ b → (T a).2.1 ≠ (T b).2.1) (hown : s.vm.findClass own = some m.cls) (hK : va_K D cl tys s) {fs : List Value} (hat : va_at D cl (a, .inr (ci, fs)) H) (hc : cl[ci]? = some (C, T, N)) (k : Nat) (hk : k < N) (hL : zz_L F locs) (hFa : F a) (hlink : (Cond.fieldLink own index ref (T k).2.1 (T k).2.2.1).before args s = true) (hsame : ∀ x, s.fieldFound? (T k).1 (T k).2.1 (T k).2.2.1 = some x → s.fieldFound? ref (T k).2.1 (T k).2.2.1 = some x) (hfin : (T k).2.2.2 = true) (hin2 : meth.name = "<init>") (hdecl : (T k).1 = own) {ty : FieldType} {v : Value} (hd : parseFieldDescriptor (T k).2.2.1 = some ty) (hn : narrow ty v = v) (hfit : fits ty v = true) (hl : k < fs.length)
    (hdg : decode cc pc = .ok (.putfield index, 3)) (kk : ∀ (H1 : Heap) (locs1 : List Loc), va_at D cl (a, .inr (ci, fs.set k v)) H1 → zz_up H H1 a → zz_L F locs1 → W p l e R s m args below meth c H1 locs1 cells slots Q (F0 m (pc + 3) ls rest)) : W p l e R s m args below meth c H locs cells slots Q (F0 m pc ls (v :: .ref a :: rest)) := by
  obtain ⟨cf, kf, fi, f, cell, kC, hi, hst, g1, g2, g3, hlt, hfc, hkC, hkind, fin⟩ := zz_slot hts hin ty0 hty hnm hK hat hc k hk hl
  have hlay := hts _ (hin _ (u_in_lay hk))
  unfold u_lay at hlay
  rw [if_pos hfin] at hlay
  have h6 := u_fits hfc hkC hkind (Or.inr hlay) hi hd hn hfit
  have hcf : m.cls = cf := by
    obtain ⟨_, _, c2, _, _, _, -, -, hf2, -, -, -, ho2, -⟩ := Cond.laysFinal_spec hlay
    have e1 : cf = c2 := by have z := hi.symm.trans hf2; simp at z; exact z.1
    rw [hdecl] at ho2
    exact (Option.some.inj (hown.symm.trans ho2)).trans e1.symm
  exact W.putFinK hexec hb hown hlink (hsame _ hi) hst hcf hin2 (by rw [g2]; exact h6) g1 g3 hlt rfl rfl hdg fun H1 e1 e2 e3 => kk H1 _ (fin v H1 e1) ⟨e2, e3⟩ (hL.snoc hFa)
theorem zz_iald (hexec : p.tables.exec = Jvm.exec) (hb : c.code = cc) (hK : va_K D cl tys s) {cA : ClassId} {n : Nat} {f : Nat → Int32} (hat : va_at D cl (a, .inl (cA, n, .inl f)) H) (t0 : Nat) (ht : tys[t0]? = some (cA, .int)) {i : Nat} (hi : i < n) (hn : n < 2 ^ 31) (hdg : decode cc pc = .ok (.iaload, 1))
    (kk : W p l e R s m args below meth c H locs cells slots Q (F0 m (pc + 1) ls (.int (f i) :: rest))) : W p l e R s m args below meth c H locs cells slots Q (F0 m pc ls (.int (nI i) :: .ref a :: rest)) := by
  refine va_iald hexec hb hK (zz_one hat) 0 t0 rfl ht (vp_in_nI hi hn) hdg ?_
  rw [nI_clamp (Nat.lt_trans hi hn)]
  exact kk
theorem zz_zald (hexec : p.tables.exec = Jvm.exec) (hb : c.code = cc) (hK : va_K D cl tys s) {cA : ClassId} {n : Nat} {f : Nat → Int32} (hat : va_at D cl (a, .inl (cA, n, .inl f)) H) (t0 : Nat) (ht : tys[t0]? = some (cA, .boolean)) {i : Nat} (hi : i < n) (hn : n < 2 ^ 31) (hdg : decode cc pc = .ok (.baload, 1))
    (kk : W p l e R s m args below meth c H locs cells slots Q (F0 m (pc + 1) ls (.int (f i) :: rest))) : W p l e R s m args below meth c H locs cells slots Q (F0 m pc ls (.int (nI i) :: .ref a :: rest)) := by
  refine va_zald hexec hb hK (zz_one hat) 0 t0 rfl ht (vp_in_nI hi hn) hdg ?_
  rw [nI_clamp (Nat.lt_trans hi hn)]
  exact kk
theorem zz_bald (hexec : p.tables.exec = Jvm.exec) (hb : c.code = cc) (hK : va_K D cl tys s) {cA : ClassId} {n : Nat} {f : Nat → Int32} (hat : va_at D cl (a, .inl (cA, n, .inl f)) H) (t0 : Nat) (ht : tys[t0]? = some (cA, .byte)) {i : Nat} (hi : i < n) (hn : n < 2 ^ 31) (hdg : decode cc pc = .ok (.baload, 1))
    (kk : W p l e R s m args below meth c H locs cells slots Q (F0 m (pc + 1) ls (.int (f i) :: rest))) : W p l e R s m args below meth c H locs cells slots Q (F0 m pc ls (.int (nI i) :: .ref a :: rest)) := by
  refine va_bald hexec hb hK (zz_one hat) 0 t0 rfl ht (vp_in_nI hi hn) hdg ?_
  rw [nI_clamp (Nat.lt_trans hi hn)]
  exact kk
theorem zz_cald (hexec : p.tables.exec = Jvm.exec) (hb : c.code = cc) (hK : va_K D cl tys s) {cA : ClassId} {n : Nat} {f : Nat → Int32} (hat : va_at D cl (a, .inl (cA, n, .inl f)) H) (t0 : Nat) (ht : tys[t0]? = some (cA, .char)) {i : Nat} (hi : i < n) (hn : n < 2 ^ 31) (hdg : decode cc pc = .ok (.caload, 1))
    (kk : W p l e R s m args below meth c H locs cells slots Q (F0 m (pc + 1) ls (.int (f i) :: rest))) : W p l e R s m args below meth c H locs cells slots Q (F0 m pc ls (.int (nI i) :: .ref a :: rest)) := by
  refine va_cald hexec hb hK (zz_one hat) 0 t0 rfl ht (vp_in_nI hi hn) hdg ?_
  rw [nI_clamp (Nat.lt_trans hi hn)]
  exact kk
theorem zz_aald (hexec : p.tables.exec = Jvm.exec) (hb : c.code = cc) (hK : va_K D cl tys s) {cA : ClassId} {n : Nat} {C : String} {f : Nat → Option Nat} (hat : va_at D cl (a, .inl (cA, n, .inr (.inr (.inr (.inr f))))) H) (t0 : Nat) (ht : tys[t0]? = some (cA, .object C)) {i : Nat} (hi : i < n) (hn : n < 2 ^ 31) (hdg : decode cc pc = .ok (.aaload, 1))
    (kk : W p l e R s m args below meth c H locs cells slots Q (F0 m (pc + 1) ls (va_rf (f i) :: rest))) : W p l e R s m args below meth c H locs cells slots Q (F0 m pc ls (.int (nI i) :: .ref a :: rest)) := by
  refine va_aldq hexec hb hK (zz_one hat) 0 t0 rfl ht (vp_in_nI hi hn) hdg ?_
  rw [nI_clamp (Nat.lt_trans hi hn)]
  exact kk
theorem zz_alen (hexec : p.tables.exec = Jvm.exec) (hb : c.code = cc) (hK : va_K D cl tys s) {cA : ClassId} {x : vp_A} (hat : va_at D cl (a, .inl (cA, x)) H) (t0 : Nat) {ty : FieldType} (ht : tys[t0]? = some (cA, ty)) (hdg : decode cc pc = .ok (.arraylength, 1))
    (kk : W p l e R s m args below meth c H locs cells slots Q (F0 m (pc + 1) ls (.int (nI x.1) :: rest))) : W p l e R s m args below meth c H locs cells slots Q (F0 m pc ls (.ref a :: rest)) :=
  va_alen hexec hb hK (zz_one hat) 0 t0 rfl ht rfl hdg kk
theorem zz_setI {cA : ClassId} {n j : Nat} {f : Nat → Int32} {y : Int32} {H1 : Heap} (h : H1[a]? = some ((vp_cell cA (n, .inl f)).setSlot j (.int y))) : va_at D cl (a, .inl (cA, n, .inl (upd f j y))) H1 := by
  show H1[a]? = some (vp_cell _ _)
  rw [h, vp_cell_i, vp_cell_i, arrV_store]
  congr 2
  funext q
  by_cases hq : q = j
  · subst hq; simp [updV, upd]
  · simp [updV, upd, hq]
theorem zz_setQ {cA : ClassId} {n j : Nat} {f : Nat → Option Nat} {y : Option Nat} {H1 : Heap} (h : H1[a]? = some ((vp_cell cA (n, .inr (.inr (.inr (.inr f))))).setSlot j (va_rf y))) : va_at D cl (a, .inl (cA, n, .inr (.inr (.inr (.inr (va_up f j y)))))) H1 := by
  show H1[a]? = some (vp_cell _ _)
  rw [h, vp_cell_q, vp_cell_q, arrV_store]
  congr 2
  funext q
  by_cases hq : q = j
  · subst hq; simp [updV, va_up]
  · simp [updV, va_up, hq]
theorem zz_iast (hexec : p.tables.exec = Jvm.exec) (hb : c.code = cc) (hK : va_K D cl tys s) {cA : ClassId} {n : Nat} {f : Nat → Int32} (hat : va_at D cl (a, .inl (cA, n, .inl f)) H) (hL : zz_L F locs) (hFa : F a) (t0 : Nat) (ht : tys[t0]? = some (cA, .int)) {i : Nat} {x : Int32} (hi : i < n) (hn : n < 2 ^ 31) (hdg : decode cc pc = .ok (.iastore, 1))
    (kk : ∀ (H1 : Heap) (locs1 : List Loc), va_at D cl (a, .inl (cA, n, .inl (upd f i x))) H1 → zz_up H H1 a → zz_L F locs1 → W p l e R s m args below meth c H1 locs1 cells slots Q (F0 m (pc + 1) ls rest)) : W p l e R s m args below meth c H locs cells slots Q (F0 m pc ls (.int x :: .int (nI i) :: .ref a :: rest)) := by
  have hin := vp_in_nI hi hn
  have hc := nI_clamp (Nat.lt_trans hi hn)
  refine W.iast hexec hb hat ((hK.2 t0 _ ht).1 n (fun j => .int (f j))) (fun q => by cases q) (by show ¬ (nI i < 0 ∨ (arrV _ _ _).slots.size ≤ _); rw [arrV_size]; exact hin) rfl rfl hdg fun H1 e1 e2 e3 => ?_
  rw [hc] at e1 ⊢
  exact kk H1 _ (zz_setI e1) ⟨e2, e3⟩ (hL.snoc hFa)
theorem zz_zast (hexec : p.tables.exec = Jvm.exec) (hb : c.code = cc) (hK : va_K D cl tys s) {cA : ClassId} {n : Nat} {f : Nat → Int32} (hat : va_at D cl (a, .inl (cA, n, .inl f)) H) (hL : zz_L F locs) (hFa : F a) (t0 : Nat) (ht : tys[t0]? = some (cA, .boolean)) {i : Nat} {x : Int32} (hi : i < n) (hn : n < 2 ^ 31) {y : Int32} (hy : narrow .boolean (.int x) = .int y) (hdg : decode cc pc = .ok (.bastore, 1))
    (kk : ∀ (H1 : Heap) (locs1 : List Loc), va_at D cl (a, .inl (cA, n, .inl (upd f i y))) H1 → zz_up H H1 a → zz_L F locs1 → W p l e R s m args below meth c H1 locs1 cells slots Q (F0 m (pc + 1) ls rest)) : W p l e R s m args below meth c H locs cells slots Q (F0 m pc ls (.int x :: .int (nI i) :: .ref a :: rest)) := by
  have hin := vp_in_nI hi hn
  have hc := nI_clamp (Nat.lt_trans hi hn)
  refine W.zast hexec hb hat ((hK.2 t0 _ ht).1 n (fun j => .int (f j))) (fun q => by cases q) (by show ¬ (nI i < 0 ∨ (arrV _ _ _).slots.size ≤ _); rw [arrV_size]; exact hin) rfl rfl hdg fun H1 e1 e2 e3 => ?_
  rw [hc] at e1 ⊢
  rw [hy] at e1; exact kk H1 _ (zz_setI e1) ⟨e2, e3⟩ (hL.snoc hFa)
theorem zz_cast (hexec : p.tables.exec = Jvm.exec) (hb : c.code = cc) (hK : va_K D cl tys s) {cA : ClassId} {n : Nat} {f : Nat → Int32} (hat : va_at D cl (a, .inl (cA, n, .inl f)) H) (hL : zz_L F locs) (hFa : F a) (t0 : Nat) (ht : tys[t0]? = some (cA, .char)) {i : Nat} {x : Int32} (hi : i < n) (hn : n < 2 ^ 31) {y : Int32} (hy : narrow .char (.int x) = .int y) (hdg : decode cc pc = .ok (.castore, 1))
    (kk : ∀ (H1 : Heap) (locs1 : List Loc), va_at D cl (a, .inl (cA, n, .inl (upd f i y))) H1 → zz_up H H1 a → zz_L F locs1 → W p l e R s m args below meth c H1 locs1 cells slots Q (F0 m (pc + 1) ls rest)) : W p l e R s m args below meth c H locs cells slots Q (F0 m pc ls (.int x :: .int (nI i) :: .ref a :: rest)) := by
  have hin := vp_in_nI hi hn
  have hc := nI_clamp (Nat.lt_trans hi hn)
  refine W.cast hexec hb hat ((hK.2 t0 _ ht).1 n (fun j => .int (f j))) (fun q => by cases q) (by show ¬ (nI i < 0 ∨ (arrV _ _ _).slots.size ≤ _); rw [arrV_size]; exact hin) rfl rfl hdg fun H1 e1 e2 e3 => ?_
  rw [hc] at e1 ⊢
  rw [hy] at e1; exact kk H1 _ (zz_setI e1) ⟨e2, e3⟩ (hL.snoc hFa)
theorem zz_bast (hexec : p.tables.exec = Jvm.exec) (hb : c.code = cc) (hK : va_K D cl tys s) {cA : ClassId} {n : Nat} {f : Nat → Int32} (hat : va_at D cl (a, .inl (cA, n, .inl f)) H) (hL : zz_L F locs) (hFa : F a) (t0 : Nat) (ht : tys[t0]? = some (cA, .byte)) {i : Nat} {x : Int32} (hi : i < n) (hn : n < 2 ^ 31) {y : Int32} (hy : narrow .byte (.int x) = .int y) (hdg : decode cc pc = .ok (.bastore, 1))
    (kk : ∀ (H1 : Heap) (locs1 : List Loc), va_at D cl (a, .inl (cA, n, .inl (upd f i y))) H1 → zz_up H H1 a → zz_L F locs1 → W p l e R s m args below meth c H1 locs1 cells slots Q (F0 m (pc + 1) ls rest)) : W p l e R s m args below meth c H locs cells slots Q (F0 m pc ls (.int x :: .int (nI i) :: .ref a :: rest)) := by
  have hin := vp_in_nI hi hn
  have hc := nI_clamp (Nat.lt_trans hi hn)
  refine W.bast hexec hb hat ((hK.2 t0 _ ht).1 n (fun j => .int (f j))) (fun q => by cases q) (by show ¬ (nI i < 0 ∨ (arrV _ _ _).slots.size ≤ _); rw [arrV_size]; exact hin) rfl rfl hdg fun H1 e1 e2 e3 => ?_
  rw [hc] at e1 ⊢
  rw [hy] at e1; exact kk H1 _ (zz_setI e1) ⟨e2, e3⟩ (hL.snoc hFa)
/-- a reference into an array of references: the value's class is assignable to the component's -/
theorem zz_aast (hexec : p.tables.exec = Jvm.exec) (hb : c.code = cc) (hK : va_K D cl tys s) {cA : ClassId} {C : String} {n v ci : Nat} {vs : List Value} {f : Nat → Option Nat} {r : vw_C} (hat : va_at D cl (a, .inl (cA, n, .inr (.inr (.inr (.inr f))))) H) (hv : va_at D cl (v, .inr (ci, vs)) H) (hc : cl[ci]? = some r) (hL : zz_L F locs) (hFa : F a) (t0 : Nat) (ht : tys[t0]? = some (cA, .object C))
    (has : ∀ comp : ClassId, s.vm.findClass C = some comp → s.vm.assignable (D.1 ci) comp = true ∧ ∃ kc : Class, s.vm.classes[comp]? = some kc) {i : Nat} (hi : i < n) (hn : n < 2 ^ 31) (hdg : decode cc pc = .ok (.aastore, 1))
    (kk : ∀ (H1 : Heap) (locs1 : List Loc), va_at D cl (a, .inl (cA, n, .inr (.inr (.inr (.inr (va_up f i (some v))))))) H1 → zz_up H H1 a → zz_L F locs1 → W p l e R s m args below meth c H1 locs1 cells slots Q (F0 m (pc + 1) ls rest)) : W p l e R s m args below meth c H locs cells slots Q (F0 m pc ls (.ref v :: .int (nI i) :: .ref a :: rest)) := by
  have hc2 := nI_clamp (Nat.lt_trans hi hn)
  obtain ⟨r2, hr2, cellV, g1, g2, g3, -⟩ := hv
  obtain ⟨kA, comp, k1, k2, k3, -⟩ := (hK.2 t0 _ ht).2
  obtain ⟨as1, kc, as2⟩ := has comp k3
  obtain ⟨kC, hkC, -⟩ := (hK.1 ci r hc).2.2
  refine W.aast hexec hb hat (fun q h => by cases h) (fun h => by cases h) k1 k2 rfl as2 ⟨nI_pos (Nat.lt_trans hi hn), by rw [hc2]; show _ < (arrV _ _ _).slots.size; rw [arrV_size]; exact hi⟩ g1 (fun q h => by rw [g3] at h; cases h) (by rw [g2]; exact hkC) (by rw [g2]; exact as1) rfl rfl hdg fun H1 e1 e2 e3 => ?_
  rw [hc2] at e1 ⊢
  exact kk H1 _ (zz_setQ (y := some v) e1) ⟨e2, e3⟩ (hL.snoc hFa)
/-- null into an array of references -/
theorem zz_aastN (hexec : p.tables.exec = Jvm.exec) (hb : c.code = cc) (hK : va_K D cl tys s) {cA : ClassId} {C : String} {n : Nat} {f : Nat → Option Nat} (hat : va_at D cl (a, .inl (cA, n, .inr (.inr (.inr (.inr f))))) H) (hL : zz_L F locs) (hFa : F a) (t0 : Nat) (ht : tys[t0]? = some (cA, .object C)) {i : Nat} (hi : i < n) (hn : n < 2 ^ 31) (hdg : decode cc pc = .ok (.aastore, 1))
    (kk : ∀ (H1 : Heap) (locs1 : List Loc), va_at D cl (a, .inl (cA, n, .inr (.inr (.inr (.inr (va_up f i none)))))) H1 → zz_up H H1 a → zz_L F locs1 → W p l e R s m args below meth c H1 locs1 cells slots Q (F0 m (pc + 1) ls rest)) : W p l e R s m args below meth c H locs cells slots Q (F0 m pc ls (.null :: .int (nI i) :: .ref a :: rest)) := by
  have hin := vp_in_nI hi hn
  have hc2 := nI_clamp (Nat.lt_trans hi hn)
  refine va_WaastN (C := C) hexec hb hat ((hK.2 t0 _ ht).1 n (fun j => va_rf (f j))) (fun h => by cases h) (by show ¬ (nI i < 0 ∨ (arrV _ _ _).slots.size ≤ _); rw [arrV_size]; exact hin) rfl rfl hdg fun H1 e1 e2 e3 => ?_
  rw [hc2] at e1 ⊢
  exact kk H1 _ (zz_setQ (y := none) e1) ⟨e2, e3⟩ (hL.snoc hFa)
/-- a new object: the next address -/
theorem zz_new (hexec : p.tables.exec = Jvm.exec) (hb : c.code = cc) {own C : String} {T : u_T} {N ci index : Nat} (hts : ∀ w ∈ Ts, w.before args s = true) (hin : ∀ w ∈ u_ws C T N, w ∈ Ts) (ty : Nat → FieldType) (hty : ∀ k, k < N → parseFieldDescriptor (T k).2.2.1 = some (ty k)) (hown : s.vm.findClass own = some m.cls) (hK : va_K D cl tys s) (hcl : (Cond.classLink own index C).before args s = true) (hinst : (Cond.instantiable C N).before args s = true) (hini : (Cond.initialized C).before args s = true)
    (hc : cl[ci]? = some (C, T, N)) (fs : List Value) (hfs : ∀ j, j < N → defaultValue (ty j) = vp_V fs j) {h : Nat} (hh : H.size = h) (hcells : cells + 1 ≤ R.cells) (hslots : slots + N ≤ R.slots) (hdg : decode cc pc = .ok (.new index, 3))
    (kk : ∀ H1 : Heap, va_at D cl (h, .inr (ci, fs)) H1 → zz_nw H H1 → W p l e R s m args below meth c H1 locs (cells + 1) (slots + N) Q (F0 m (pc + 3) ls (.ref h :: rest))) : W p l e R s m args below meth c H locs cells slots Q (F0 m pc ls rest) := by
  have hKn := hK.1 ci _ hc
  subst hh
  exact W.newcK hexec hb hown hcl hinst hini rfl hdg hcells hslots hKn.2.1 rfl fun H1 kC hkC e1 z1 o1 => kk H1 ⟨_, hc, (u_born ty hts hin hKn hkC e1 hty).to hfs⟩ ⟨z1, o1⟩
/-- a new array of numbers -/
theorem zz_newa (hexec : p.tables.exec = Jvm.exec) (hb : c.code = cc) {atype : ArrayType} (harr : (Cond.arrayClass (newarray.typeOf atype)).before args s = true) (hK : va_K D cl tys s) (t0 : Nat) {cA : ClassId} (ht : tys[t0]? = some (cA, newarray.typeOf atype)) (hty : defaultValue (newarray.typeOf atype) = .int 0) {n : Nat} (hn : n < 2 ^ 31) (hbytes : n * componentBytes (newarray.typeOf atype) ≤ 536870912) {h : Nat} (hh : H.size = h) (hcells : cells + 1 ≤ R.cells) (hslots : slots + n ≤ R.slots) (hdg : decode cc pc = .ok (.newarray atype, 2))
    (kk : ∀ H1 : Heap, va_at D cl (h, .inl (cA, n, .inl (fun _ => 0))) H1 → zz_nw H H1 → W p l e R s m args below meth c H1 locs (cells + 1) (slots + n) Q (F0 m (pc + 2) ls (.ref h :: rest))) : W p l e R s m args below meth c H locs cells slots Q (F0 m pc ls (.int (nI n) :: rest)) := by
  subst hh
  refine va_newaK hexec hb harr rfl hdg rfl (nI_pos hn) (nI_clamp hn) hbytes hcells hslots rfl fun H1 cB e1 z1 o1 hAr hNm => ?_
  have hcA : cA = cB := by
    have h2 := (hK.2 t0 _ ht).2
    cases atype <;> exact Option.some.inj (h2.symm.trans hNm)
  subst hcA
  refine kk H1 ?_ ⟨z1, o1⟩
  show H1[H.size]? = some (vp_cell _ _)
  rw [e1, hty]
  rfl
/-- a new array of references -/
theorem zz_newq (hexec : p.tables.exec = Jvm.exec) (hb : c.code = cc) {own C : String} {index : Nat} (hown : s.vm.findClass own = some m.cls) (hK : va_K D cl tys s) (hclink : (Cond.classLink own index C).before args s = true) (hover : va_AO C s) (t0 : Nat) {cA : ClassId} (ht : tys[t0]? = some (cA, .object C)) {n : Nat} (hn : n < 2 ^ 31) (hbytes : n * 4 ≤ 536870912) {h : Nat} (hh : H.size = h) (hcells : cells + 1 ≤ R.cells) (hslots : slots + n ≤ R.slots) (hdg : decode cc pc = .ok (.anewarray index, 3))
    (kk : ∀ H1 : Heap, va_at D cl (h, .inl (cA, n, .inr (.inr (.inr (.inr (fun _ => none)))))) H1 → zz_nw H H1 → W p l e R s m args below meth c H1 locs (cells + 1) (slots + n) Q (F0 m (pc + 3) ls (.ref h :: rest))) : W p l e R s m args below meth c H locs cells slots Q (F0 m pc ls (.int (nI n) :: rest)) := by
  subst hh
  have hcn := nI_clamp hn
  refine W.anew hexec hb hown hclink (va_AO.use hover) rfl hdg rfl (nI_pos hn) (by rw [hcn]; exact hbytes) hcells (by rw [hcn]; exact hslots) fun cB kA comp f1 f2 f3 f4 => ?_
  obtain ⟨-, -, -, -, -, h2⟩ := (hK.2 t0 _ ht).2
  have hcA : cA = cB := Option.some.inj (h2.symm.trans f1)
  subst hcA
  rw [hcn]
  refine kk _ ?_ ⟨by simp, fun q hq => by rw [Array.getElem?_push, if_neg (Nat.ne_of_lt hq)]⟩
  show (H.push _)[H.size]? = some (vp_cell _ _)
  rw [Array.getElem?_push_size, vp_cell_q, ← arrV_new]
  rfl
/-- a contract's end, by what it says of the two heaps and the answer -/
def zz_Q (P : Heap → Heap → Option Value → Prop) : Array Value → State → Outcome → State → Prop := fun _ st oc t => ∃ v : Option Value, oc = .returned v ∧ P st.heap t.heap v
/-- a call that changes the heap -/
theorem zz_call {P : Heap → Heap → Option Value → Prop} {mc ms : Nat} {av : Array Value} {free : Addr → Prop} (hr : va_Run p l e R s m args below meth c H locs cells slots mc ms (F0 m pc ls st0) rest (zz_Q P av) free) (hL : zz_L F locs) (hF : ∀ q : Nat, free q → F q)
    (kk : ∀ (v : Option Value) (H1 : Heap) (locs1 : List Loc), P H H1 v → zz_L F locs1 → W p l e R s m args below meth c H1 locs1 (cells + mc) (slots + ms) Q (F0 m (pc + 3) ls (v.toList ++ rest))) : W p l e R s m args below meth c H locs cells slots Q (F0 m pc ls st0) := by
  intro T hT X
  obtain ⟨v, st1, t, T1, L, h0, X1, hLq, e1, -, ⟨v2, hv, hP⟩, st⟩ := hr T hT X
  cases hv
  obtain ⟨t2, a1, b1⟩ := kk v T1.heap (locs ++ L) (by rw [e1, ← h0]; exact hP) (hL.app (fun q hq => hF _ (hLq q hq))) T1 rfl X1
  exact ⟨t2, st t2 a1, b1⟩
/-- a call that changes nothing -/
theorem zz_callP {r : Value} {av : Array Value} (hr : va_Run p l e R s m args below meth c H locs cells slots 0 0 (F0 m pc ls st0) rest (zz_Q (fun H H1 v => H1 = H ∧ v = some r) av) (fun _ => False))
    (kk : W p l e R s m args below meth c H locs cells slots Q (F0 m (pc + 3) ls (r :: rest))) : W p l e R s m args below meth c H locs cells slots Q (F0 m pc ls st0) := by
  intro T hT X
  obtain ⟨v, st1, t, T1, L, h0, X1, hLq, e1, -, ⟨v2, hv, hP, hv2⟩, st⟩ := hr T hT X
  cases hv
  subst hv2
  obtain ⟨t2, a1, b1⟩ := kk T1 (by rw [e1, hP, h0]) (Stand.forget X1 (fun q h => (hLq q h).elim))
  exact ⟨t2, st t2 a1, b1⟩
/-- the number on top, in other words -/
theorem zz_top {x y : Int32} (h : x = y) (kk : W p l e R s m args below meth c H locs cells slots Q (F0 m pc ls (.int y :: rest))) : W p l e R s m args below meth c H locs cells slots Q (F0 m pc ls (.int x :: rest)) := by subst h; exact kk
theorem zz_eq (hexec : p.tables.exec = Jvm.exec) (hb : c.code = cc) {x : Nat} (hx : x < 2 ^ 31) {y : Nat} (hy : y < 2 ^ 31) {off : Int} {tgt : Nat} (hdg : decode cc pc = .ok (.if_icmp .eq off, 3)) (ht : (pc : Int) + off = (tgt : Int))
    (kt : x = y → W p l e R s m args below meth c H locs cells slots Q (F0 m tgt ls rest)) (kf : x ≠ y → W p l e R s m args below meth c H locs cells slots Q (F0 m (pc + 3) ls rest)) : W p l e R s m args below meth c H locs cells slots Q (F0 m pc ls (.int (nI y) :: .int (nI x) :: rest)) := by
  refine lv_icmp_eq hexec hb hdg ht (fun h => kt ?_) (fun h => kf ?_)
  · have z := nI_eq (a := x) (b := y) hx hy
    first | (have q := z.1 h; omega) | (have q := mt z.2 h; omega)
  · have z := nI_eq (a := x) (b := y) hx hy
    first | (have q := z.1 h; omega) | (have q := mt z.2 h; omega)
theorem zz_ne (hexec : p.tables.exec = Jvm.exec) (hb : c.code = cc) {x : Nat} (hx : x < 2 ^ 31) {y : Nat} (hy : y < 2 ^ 31) {off : Int} {tgt : Nat} (hdg : decode cc pc = .ok (.if_icmp .ne off, 3)) (ht : (pc : Int) + off = (tgt : Int))
    (kt : x ≠ y → W p l e R s m args below meth c H locs cells slots Q (F0 m tgt ls rest)) (kf : x = y → W p l e R s m args below meth c H locs cells slots Q (F0 m (pc + 3) ls rest)) : W p l e R s m args below meth c H locs cells slots Q (F0 m pc ls (.int (nI y) :: .int (nI x) :: rest)) := by
  refine lv_icmp_ne hexec hb hdg ht (fun h => kt ?_) (fun h => kf ?_)
  · have z := nI_eq (a := x) (b := y) hx hy
    first | (have q := z.1 h; omega) | (have q := mt z.2 h; omega)
  · have z := nI_eq (a := x) (b := y) hx hy
    first | (have q := z.1 h; omega) | (have q := mt z.2 h; omega)
theorem zz_lt (hexec : p.tables.exec = Jvm.exec) (hb : c.code = cc) {x : Nat} (hx : x < 2 ^ 31) {y : Nat} (hy : y < 2 ^ 31) {off : Int} {tgt : Nat} (hdg : decode cc pc = .ok (.if_icmp .lt off, 3)) (ht : (pc : Int) + off = (tgt : Int))
    (kt : x < y → W p l e R s m args below meth c H locs cells slots Q (F0 m tgt ls rest)) (kf : y ≤ x → W p l e R s m args below meth c H locs cells slots Q (F0 m (pc + 3) ls rest)) : W p l e R s m args below meth c H locs cells slots Q (F0 m pc ls (.int (nI y) :: .int (nI x) :: rest)) := by
  refine lv_icmp_lt hexec hb hdg ht (fun h => kt ?_) (fun h => kf ?_)
  · have z := nI_ltI (a := x) (b := y) hx hy
    first | (have q := z.1 h; omega) | (have q := mt z.2 h; omega)
  · have z := nI_ltI (a := x) (b := y) hx hy
    first | (have q := z.1 h; omega) | (have q := mt z.2 h; omega)
theorem zz_ge (hexec : p.tables.exec = Jvm.exec) (hb : c.code = cc) {x : Nat} (hx : x < 2 ^ 31) {y : Nat} (hy : y < 2 ^ 31) {off : Int} {tgt : Nat} (hdg : decode cc pc = .ok (.if_icmp .ge off, 3)) (ht : (pc : Int) + off = (tgt : Int))
    (kt : y ≤ x → W p l e R s m args below meth c H locs cells slots Q (F0 m tgt ls rest)) (kf : x < y → W p l e R s m args below meth c H locs cells slots Q (F0 m (pc + 3) ls rest)) : W p l e R s m args below meth c H locs cells slots Q (F0 m pc ls (.int (nI y) :: .int (nI x) :: rest)) := by
  refine lv_icmp_ge hexec hb hdg ht (fun h => kt ?_) (fun h => kf ?_)
  · have z := nI_leI (a := y) (b := x) hy hx
    first | (have q := z.1 h; omega) | (have q := mt z.2 h; omega)
  · have z := nI_leI (a := y) (b := x) hy hx
    first | (have q := z.1 h; omega) | (have q := mt z.2 h; omega)
theorem zz_gt (hexec : p.tables.exec = Jvm.exec) (hb : c.code = cc) {x : Nat} (hx : x < 2 ^ 31) {y : Nat} (hy : y < 2 ^ 31) {off : Int} {tgt : Nat} (hdg : decode cc pc = .ok (.if_icmp .gt off, 3)) (ht : (pc : Int) + off = (tgt : Int))
    (kt : y < x → W p l e R s m args below meth c H locs cells slots Q (F0 m tgt ls rest)) (kf : x ≤ y → W p l e R s m args below meth c H locs cells slots Q (F0 m (pc + 3) ls rest)) : W p l e R s m args below meth c H locs cells slots Q (F0 m pc ls (.int (nI y) :: .int (nI x) :: rest)) := by
  refine lv_icmp_gt hexec hb hdg ht (fun h => kt ?_) (fun h => kf ?_)
  · have z := nI_ltI (a := y) (b := x) hy hx
    first | (have q := z.1 h; omega) | (have q := mt z.2 h; omega)
  · have z := nI_ltI (a := y) (b := x) hy hx
    first | (have q := z.1 h; omega) | (have q := mt z.2 h; omega)
theorem zz_le (hexec : p.tables.exec = Jvm.exec) (hb : c.code = cc) {x : Nat} (hx : x < 2 ^ 31) {y : Nat} (hy : y < 2 ^ 31) {off : Int} {tgt : Nat} (hdg : decode cc pc = .ok (.if_icmp .le off, 3)) (ht : (pc : Int) + off = (tgt : Int))
    (kt : x ≤ y → W p l e R s m args below meth c H locs cells slots Q (F0 m tgt ls rest)) (kf : y < x → W p l e R s m args below meth c H locs cells slots Q (F0 m (pc + 3) ls rest)) : W p l e R s m args below meth c H locs cells slots Q (F0 m pc ls (.int (nI y) :: .int (nI x) :: rest)) := by
  refine lv_icmp_le hexec hb hdg ht (fun h => kt ?_) (fun h => kf ?_)
  · have z := nI_leI (a := x) (b := y) hx hy
    first | (have q := z.1 h; omega) | (have q := mt z.2 h; omega)
  · have z := nI_leI (a := x) (b := y) hx hy
    first | (have q := z.1 h; omega) | (have q := mt z.2 h; omega)
theorem zz_eq0 (hexec : p.tables.exec = Jvm.exec) (hb : c.code = cc) {x : Nat} (hx : x < 2 ^ 31) {off : Int} {tgt : Nat} (hdg : decode cc pc = .ok (.ifCond .eq off, 3)) (ht : (pc : Int) + off = (tgt : Int))
    (kt : x = 0 → W p l e R s m args below meth c H locs cells slots Q (F0 m tgt ls rest)) (kf : 0 < x → W p l e R s m args below meth c H locs cells slots Q (F0 m (pc + 3) ls rest)) : W p l e R s m args below meth c H locs cells slots Q (F0 m pc ls (.int (nI x) :: rest)) := by
  refine lv_if_eq hexec hb hdg ht (fun h => kt ?_) (fun h => kf ?_)
  · have z := nI_eq (a := x) (b := 0) hx (by decide)
    rw [nI_0] at z
    first | (have q := z.1 h; omega) | (have q := mt z.2 h; omega)
  · have z := nI_eq (a := x) (b := 0) hx (by decide)
    rw [nI_0] at z
    first | (have q := z.1 h; omega) | (have q := mt z.2 h; omega)
theorem zz_ne0 (hexec : p.tables.exec = Jvm.exec) (hb : c.code = cc) {x : Nat} (hx : x < 2 ^ 31) {off : Int} {tgt : Nat} (hdg : decode cc pc = .ok (.ifCond .ne off, 3)) (ht : (pc : Int) + off = (tgt : Int))
    (kt : 0 < x → W p l e R s m args below meth c H locs cells slots Q (F0 m tgt ls rest)) (kf : x = 0 → W p l e R s m args below meth c H locs cells slots Q (F0 m (pc + 3) ls rest)) : W p l e R s m args below meth c H locs cells slots Q (F0 m pc ls (.int (nI x) :: rest)) := by
  refine lv_if_ne hexec hb hdg ht (fun h => kt ?_) (fun h => kf ?_)
  · have z := nI_eq (a := x) (b := 0) hx (by decide)
    rw [nI_0] at z
    first | (have q := z.1 h; omega) | (have q := mt z.2 h; omega)
  · have z := nI_eq (a := x) (b := 0) hx (by decide)
    rw [nI_0] at z
    first | (have q := z.1 h; omega) | (have q := mt z.2 h; omega)
theorem zz_gt0 (hexec : p.tables.exec = Jvm.exec) (hb : c.code = cc) {x : Nat} (hx : x < 2 ^ 31) {off : Int} {tgt : Nat} (hdg : decode cc pc = .ok (.ifCond .gt off, 3)) (ht : (pc : Int) + off = (tgt : Int))
    (kt : 0 < x → W p l e R s m args below meth c H locs cells slots Q (F0 m tgt ls rest)) (kf : x = 0 → W p l e R s m args below meth c H locs cells slots Q (F0 m (pc + 3) ls rest)) : W p l e R s m args below meth c H locs cells slots Q (F0 m pc ls (.int (nI x) :: rest)) := by
  refine lv_if_gt hexec hb hdg ht (fun h => kt ?_) (fun h => kf ?_)
  · have z := nI_ltI (a := 0) (b := x) (by decide) hx
    rw [nI_0] at z
    first | (have q := z.1 h; omega) | (have q := mt z.2 h; omega)
  · have z := nI_ltI (a := 0) (b := x) (by decide) hx
    rw [nI_0] at z
    first | (have q := z.1 h; omega) | (have q := mt z.2 h; omega)
theorem zz_le0 (hexec : p.tables.exec = Jvm.exec) (hb : c.code = cc) {x : Nat} (hx : x < 2 ^ 31) {off : Int} {tgt : Nat} (hdg : decode cc pc = .ok (.ifCond .le off, 3)) (ht : (pc : Int) + off = (tgt : Int))
    (kt : x = 0 → W p l e R s m args below meth c H locs cells slots Q (F0 m tgt ls rest)) (kf : 0 < x → W p l e R s m args below meth c H locs cells slots Q (F0 m (pc + 3) ls rest)) : W p l e R s m args below meth c H locs cells slots Q (F0 m pc ls (.int (nI x) :: rest)) := by
  refine lv_if_le hexec hb hdg ht (fun h => kt ?_) (fun h => kf ?_)
  · have z := nI_leI (a := x) (b := 0) hx (by decide)
    rw [nI_0] at z
    first | (have q := z.1 h; omega) | (have q := mt z.2 h; omega)
  · have z := nI_leI (a := x) (b := 0) hx (by decide)
    rw [nI_0] at z
    first | (have q := z.1 h; omega) | (have q := mt z.2 h; omega)
end ZZ
end
section
/-! What every walk stands in: the machine, the words, the classes' numbers. -/
def ztys (ca : Nat → ClassId) : List (ClassId × FieldType) := [(ca 0, .int), (ca 1, .char), (ca 2, .boolean), (ca 3, .object "RecordMatcher$Entry"), (ca 4, .object "RecordMatcher$Expression")]
def zz_K (D : va_G) (ca : Nat → ClassId) (U : State) : Prop := va_K D zC (ztys ca) U ∧ (∀ w ∈ zN, va_Nw w U) ∧ va_AO "RecordMatcher$Entry" U ∧ va_AO "RecordMatcher$Expression" U
theorem zn_warm {w : Cond} {s U : State} (hk : zn_k w = true) (hW : s.WarmedH U.vm) (h : va_Nw w s) : va_Nw w U := by
  cases w <;> first | exact va_Nw.warmF hW h | exact va_Nw.warmM hW h | exact va_Nw.warmC hW h | exact va_Nw.warmD hW h | (simp [zn_k] at hk)
theorem zz_K.moved {D : va_G} {ca : Nat → ClassId} {s U : State} (hW : s.WarmedH U.vm) (h : zz_K D ca s) : zz_K D ca U :=
  ⟨va_K.moved hW.alike h.1, fun w hw => zn_warm (zn_ok w hw) hW (h.2.1 w hw), h.2.2.1.moved hW.alike, h.2.2.2.moved hW.alike⟩
theorem zn_same {w : Cond} {s U : State} (hk : zn_k w = true) (hv : s.vm = U.vm) (h : va_Nw w s) : va_Nw w U := by
  cases w <;> first | exact va_Nw.same rfl hv h | (simp [zn_k] at hk)
theorem zz_K.same {D : va_G} {ca : Nat → ClassId} {s U : State} (hv : s.vm = U.vm) (h : zz_K D ca s) : zz_K D ca U := by
  have hal : s.vm.Alike U.vm := hv ▸ Vm.Alike.refl s.vm
  exact ⟨va_K.moved hal h.1, fun w hw => zn_same (zn_ok w hw) hv (h.2.1 w hw), h.2.2.1.moved hal, h.2.2.2.moved hal⟩
/-- the machine, the method's code and class, the words, the numbers -/
def zz_E (p : Program) (m : MethodId) (c : Code) (cc : ByteArray) (nL : Nat) (s : State) (args : Array Value) (own : String) (D : va_G) (ca : Nat → ClassId) : Prop := CallFix p m c cc nL s args zW own ∧ zz_K D ca s
/-- a contract's start -/
def zz_P (D : va_G) (ca : Nat → ClassId) (av : List Value) (Pre : Heap → Prop) : Array Value → State → Prop := fun v U => v = av.toArray ∧ zz_K D ca U ∧ Pre U.heap
theorem zz_blind {D : va_G} {ca : Nat → ClassId} {av : List Value} {Pre : Heap → Prop} : FrameBlind (zz_P D ca av Pre) := fun a U g mk h => ⟨h.1, zz_K.same (s := U) (U := U.calling g mk a) rfl h.2.1, h.2.2⟩
/-- a method's room by its level -/
def zr (k mc ms : Nat) : Room := { frames := k, cells := mc, slots := ms, locals := 64 * k }
theorem zr_ok {k k2 mc ms mc2 ms2 maxL : Nat} (h : k < k2) (hm : maxL ≤ 45) : (zr k mc ms).frames + 1 ≤ (zr k2 mc2 ms2).frames ∧ 8 + (maxL + 11) + (zr k mc ms).locals ≤ (zr k2 mc2 ms2).locals := by
  simp only [zr]; omega
section ZE
variable {p : Program} {l : Launch} {e : Env} {R : Room} {s : State} {m : MethodId} {args : Array Value} {below : List Frame} {meth : Method} {c : Code} {H : Heap} {locs : List Loc} {cells slots : Nat} {Q : State → Prop}
variable {cc : ByteArray} {nL pc : Nat} {ls : Array Slot} {rest st0 : List Value} {D : va_G} {ca : Nat → ClassId} {a : Nat} {F : Nat → Prop}
/-- a contract out of a walk -/
theorem zz_met {y : MethodName} {maxL : Nat} {ret : Option FieldType} {rm : Room} {av : List Value} {Pre : Heap → Prop} {P : Heap → Heap → Option Value → Prop} {mc ms : Nat} (hy : plainName y.cls = true) (hlen : (lg_sl av).length ≤ maxL)
    (body : ∀ (p : Program) (e : Env) (s : State) (m : MethodId) (below : List Frame) (meth : Method) (c : Code) (ls : Array Slot), zz_E p m c cc maxL s av.toArray y.cls D ca → meth.sig.returnType = ret → meth.locks = false → meth.name = y.name → Pre s.heap → lv_has ls maxL (lv_args 0 av) →
      W p l e rm s m av.toArray below meth c s.heap [] 0 0 (MQ below (zz_Q P) av.toArray s mc ms F) (F0 m 0 ls [])) :
    Met l y (Cond.code y cc maxL ret :: zW) rm (zz_P D ca av Pre) (zz_Q P) mc ms F := by
  refine Met.ofW (cc := cc) (maxL := maxL) (ret := ret) hy rfl ?_
  intro p e s m args below meth c s₁ B hml hv
  obtain ⟨rfl, hK, hpre⟩ := hv
  have hts := atoms_spec (ws := Cond.code y cc maxL ret :: zW) B.pre
  have hl := lv_entry av (n := maxL) hlen
  rw [lg_entry_eq]
  exact body p e s m below meth c _ ⟨⟨B.exec, B.bytes, hml, findClass_of_methodNamed B.named, fun w hw => hts w (List.mem_cons_of_mem _ hw)⟩, hK⟩ B.returns B.notSynchronized (name_of_methodNamed B.named B.method).1 hpre hl
theorem zz_inc (i : Nat) : nI i + Int32.ofInt 1 = nI (i + 1) := by rw [lit1]; exact nI_1 i
theorem zz_iret {P : Heap → Heap → Option Value → Prop} {x : Int32} {ty : FieldType} (hexec : p.tables.exec = Jvm.exec) (hb : c.code = cc) (hr : meth.sig.returnType = some ty) (hlocks : meth.locks = false) (hn : narrow ty (.int x) = .int x) (hP : P s.heap H (some (.int x))) (hL : zz_L F locs) (hdg : decode cc pc = .ok (.ireturn, 1)) : W p l e R s m args below meth c H locs cells slots (MQ below (zz_Q P) args s cells slots F) (F0 m pc ls [.int x]) :=
  W.zret hexec hb hr hn (fun t ht hW => ⟨_, rfl, by rw [ht]; exact hP⟩) hL hdg hlocks
theorem zz_vret {P : Heap → Heap → Option Value → Prop} (hexec : p.tables.exec = Jvm.exec) (hb : c.code = cc) (hr : meth.sig.returnType = none) (hlocks : meth.locks = false) (hP : P s.heap H none) (hL : zz_L F locs) (hdg : decode cc pc = .ok (.return_, 1)) : W p l e R s m args below meth c H locs cells slots (MQ below (zz_Q P) args s cells slots F) (F0 m pc ls []) :=
  W.vret hexec hb hr (fun t ht hW => ⟨_, rfl, by rw [ht]; exact hP⟩) hL hdg hlocks
theorem zz_aret {P : Heap → Heap → Option Value → Prop} {v : Value} {C : String} (hexec : p.tables.exec = Jvm.exec) (hb : c.code = cc) (hr : meth.sig.returnType = some (.object C)) (hlocks : meth.locks = false) (hv : v = .null ∨ ∃ a, v = .ref a) (hP : P s.heap H (some v)) (hL : zz_L F locs) (hdg : decode cc pc = .ok (.areturn, 1)) : W p l e R s m args below meth c H locs cells slots (MQ below (zz_Q P) args s cells slots F) (F0 m pc ls [v]) :=
  W.aret hexec hb hr (Or.inl ⟨_, rfl⟩) hv (fun t ht hW => ⟨_, rfl, by rw [ht]; exact hP⟩) hL hdg hlocks
theorem zz_narB (b : Bool) : narrow .boolean (.int (nI b.toNat)) = .int (nI b.toNat) := by cases b <;> rfl
theorem zz_iadd {x y : Nat} (hexec : p.tables.exec = Jvm.exec) (hb : c.code = cc) (hdg : decode cc pc = .ok (.iadd, 1)) (k : W p l e R s m args below meth c H locs cells slots Q (F0 m (pc + 1) ls (.int (nI (x + y)) :: rest))) : W p l e R s m args below meth c H locs cells slots Q (F0 m pc ls (.int (nI y) :: .int (nI x) :: rest)) := lv_iadd hexec hb hdg (by rw [nI_add]; exact k)
theorem zz_isub {x y : Nat} (h : y ≤ x) (hexec : p.tables.exec = Jvm.exec) (hb : c.code = cc) (hdg : decode cc pc = .ok (.isub, 1)) (k : W p l e R s m args below meth c H locs cells slots Q (F0 m (pc + 1) ls (.int (nI (x - y)) :: rest))) : W p l e R s m args below meth c H locs cells slots Q (F0 m pc ls (.int (nI y) :: .int (nI x) :: rest)) := lv_isub hexec hb hdg (by rw [pk_sub h]; exact k)
theorem zz_imul {x y : Nat} (hexec : p.tables.exec = Jvm.exec) (hb : c.code = cc) (hdg : decode cc pc = .ok (.imul, 1)) (k : W p l e R s m args below meth c H locs cells slots Q (F0 m (pc + 1) ls (.int (nI (x * y)) :: rest))) : W p l e R s m args below meth c H locs cells slots Q (F0 m pc ls (.int (nI y) :: .int (nI x) :: rest)) := lv_imul hexec hb hdg (by rw [pk_mul]; exact k)
theorem zz_eqB {b : Bool} (hexec : p.tables.exec = Jvm.exec) (hb : c.code = cc) {off : Int} {tgt : Nat} (hdg : decode cc pc = .ok (.ifCond .eq off, 3)) (ht : (pc : Int) + off = (tgt : Int))
    (kt : b = false → W p l e R s m args below meth c H locs cells slots Q (F0 m tgt ls rest)) (kf : b = true → W p l e R s m args below meth c H locs cells slots Q (F0 m (pc + 3) ls rest)) : W p l e R s m args below meth c H locs cells slots Q (F0 m pc ls (.int (nI b.toNat) :: rest)) :=
  zz_eq0 hexec hb (by cases b <;> decide) hdg ht (fun h => kt (by cases b <;> simp_all)) (fun h => kf (by cases b <;> simp_all))
theorem zz_neB {b : Bool} (hexec : p.tables.exec = Jvm.exec) (hb : c.code = cc) {off : Int} {tgt : Nat} (hdg : decode cc pc = .ok (.ifCond .ne off, 3)) (ht : (pc : Int) + off = (tgt : Int))
    (kt : b = true → W p l e R s m args below meth c H locs cells slots Q (F0 m tgt ls rest)) (kf : b = false → W p l e R s m args below meth c H locs cells slots Q (F0 m (pc + 3) ls rest)) : W p l e R s m args below meth c H locs cells slots Q (F0 m pc ls (.int (nI b.toNat) :: rest)) :=
  zz_ne0 hexec hb (by cases b <;> decide) hdg ht (fun h => kt (by cases b <;> simp_all)) (fun h => kf (by cases b <;> simp_all))
theorem fg_RM_11 (hE : zz_E p m c cc nL s args R_RM D ca) {fs : List Value} {v : Value} (hat : va_at D zC (a, .inr (6, fs)) H) (hv : fs[0]? = some v) (hdg : decode cc pc = .ok (.getfield 11, 3)) (kk : W p l e R s m args below meth c H locs cells slots Q (F0 m (pc + 3) ls (v :: rest))) : W p l e R s m args below meth c H locs cells slots Q (F0 m pc ls (.ref a :: rest)) :=
  zz_get hE.1.1 hE.1.2.1 hE.1.2.2.2.2 in_RM hE.1.2.2.2.1 hE.2.1 hat rfl 0 (by decide) (hE.1.2.2.2.2 _ zm_85) (fun _ h => h) hv hdg kk
theorem fg_RM_17 (hE : zz_E p m c cc nL s args R_RM D ca) {fs : List Value} {v : Value} (hat : va_at D zC (a, .inr (6, fs)) H) (hv : fs[2]? = some v) (hdg : decode cc pc = .ok (.getfield 17, 3)) (kk : W p l e R s m args below meth c H locs cells slots Q (F0 m (pc + 3) ls (v :: rest))) : W p l e R s m args below meth c H locs cells slots Q (F0 m pc ls (.ref a :: rest)) :=
  zz_get hE.1.1 hE.1.2.1 hE.1.2.2.2.2 in_RM hE.1.2.2.2.1 hE.2.1 hat rfl 2 (by decide) (hE.1.2.2.2.2 _ zm_87) (fun _ h => h) hv hdg kk
theorem fg_RM_24 (hE : zz_E p m c cc nL s args R_RM D ca) {fs : List Value} {v : Value} (hat : va_at D zC (a, .inr (6, fs)) H) (hv : fs[5]? = some v) (hdg : decode cc pc = .ok (.getfield 24, 3)) (kk : W p l e R s m args below meth c H locs cells slots Q (F0 m (pc + 3) ls (v :: rest))) : W p l e R s m args below meth c H locs cells slots Q (F0 m pc ls (.ref a :: rest)) :=
  zz_get hE.1.1 hE.1.2.1 hE.1.2.2.2.2 in_RM hE.1.2.2.2.1 hE.2.1 hat rfl 5 (by decide) (hE.1.2.2.2.2 _ zm_90) (fun _ h => h) hv hdg kk
theorem fg_RM_28 (hE : zz_E p m c cc nL s args R_RM D ca) {fs : List Value} {v : Value} (hat : va_at D zC (a, .inr (6, fs)) H) (hv : fs[6]? = some v) (hdg : decode cc pc = .ok (.getfield 28, 3)) (kk : W p l e R s m args below meth c H locs cells slots Q (F0 m (pc + 3) ls (v :: rest))) : W p l e R s m args below meth c H locs cells slots Q (F0 m pc ls (.ref a :: rest)) :=
  zz_get hE.1.1 hE.1.2.1 hE.1.2.2.2.2 in_RM hE.1.2.2.2.1 hE.2.1 hat rfl 6 (by decide) (hE.1.2.2.2.2 _ zm_91) (fun _ h => h) hv hdg kk
theorem fg_RM_37 (hE : zz_E p m c cc nL s args R_RM D ca) {fs : List Value} {v : Value} (hat : va_at D zC (a, .inr (6, fs)) H) (hv : fs[1]? = some v) (hdg : decode cc pc = .ok (.getfield 37, 3)) (kk : W p l e R s m args below meth c H locs cells slots Q (F0 m (pc + 3) ls (v :: rest))) : W p l e R s m args below meth c H locs cells slots Q (F0 m pc ls (.ref a :: rest)) :=
  zz_get hE.1.1 hE.1.2.1 hE.1.2.2.2.2 in_RM hE.1.2.2.2.1 hE.2.1 hat rfl 1 (by decide) (hE.1.2.2.2.2 _ zm_86) (fun _ h => h) hv hdg kk
theorem fg_RM_61 (hE : zz_E p m c cc nL s args R_RM D ca) {fs : List Value} {v : Value} (hat : va_at D zC (a, .inr (0, fs)) H) (hv : fs[1]? = some v) (hdg : decode cc pc = .ok (.getfield 61, 3)) (kk : W p l e R s m args below meth c H locs cells slots Q (F0 m (pc + 3) ls (v :: rest))) : W p l e R s m args below meth c H locs cells slots Q (F0 m pc ls (.ref a :: rest)) :=
  zz_getN hE.1.1 hE.1.2.1 hE.1.2.2.2.2 in_Te hE.1.2.2.2.1 hE.2.1 hat rfl 1 (by decide) (va_Nw.use rfl (hE.2.2.1 _ zn_65)) (fun _ h => h) hv hdg kk
theorem fg_RM_64 (hE : zz_E p m c cc nL s args R_RM D ca) {fs : List Value} {v : Value} (hat : va_at D zC (a, .inr (0, fs)) H) (hv : fs[0]? = some v) (hdg : decode cc pc = .ok (.getfield 64, 3)) (kk : W p l e R s m args below meth c H locs cells slots Q (F0 m (pc + 3) ls (v :: rest))) : W p l e R s m args below meth c H locs cells slots Q (F0 m pc ls (.ref a :: rest)) :=
  zz_getN hE.1.1 hE.1.2.1 hE.1.2.2.2.2 in_Te hE.1.2.2.2.1 hE.2.1 hat rfl 0 (by decide) (va_Nw.use rfl (hE.2.2.1 _ zn_62)) (fun _ h => h) hv hdg kk
theorem fg_RM_68 (hE : zz_E p m c cc nL s args R_RM D ca) {fs : List Value} {v : Value} (hat : va_at D zC (a, .inr (6, fs)) H) (hv : fs[3]? = some v) (hdg : decode cc pc = .ok (.getfield 68, 3)) (kk : W p l e R s m args below meth c H locs cells slots Q (F0 m (pc + 3) ls (v :: rest))) : W p l e R s m args below meth c H locs cells slots Q (F0 m pc ls (.ref a :: rest)) :=
  zz_get hE.1.1 hE.1.2.1 hE.1.2.2.2.2 in_RM hE.1.2.2.2.1 hE.2.1 hat rfl 3 (by decide) (hE.1.2.2.2.2 _ zm_88) (fun _ h => h) hv hdg kk
theorem fg_RM_89_Ja (hE : zz_E p m c cc nL s args R_RM D ca) {fs : List Value} {v : Value} (hat : va_at D zC (a, .inr (2, fs)) H) (hv : fs[0]? = some v) (hdg : decode cc pc = .ok (.getfield 89, 3)) (kk : W p l e R s m args below meth c H locs cells slots Q (F0 m (pc + 3) ls (v :: rest))) : W p l e R s m args below meth c H locs cells slots Q (F0 m pc ls (.ref a :: rest)) :=
  zz_get hE.1.1 hE.1.2.1 hE.1.2.2.2.2 in_Ja hE.1.2.2.2.1 hE.2.1 hat rfl 0 (by decide) (hE.1.2.2.2.2 _ zm_202) (fun _ h => h) hv hdg kk
theorem fg_RM_89_Ed (hE : zz_E p m c cc nL s args R_RM D ca) {fs : List Value} {v : Value} (hat : va_at D zC (a, .inr (3, fs)) H) (hv : fs[0]? = some v) (hdg : decode cc pc = .ok (.getfield 89, 3)) (kk : W p l e R s m args below meth c H locs cells slots Q (F0 m (pc + 3) ls (v :: rest))) : W p l e R s m args below meth c H locs cells slots Q (F0 m pc ls (.ref a :: rest)) :=
  zz_get hE.1.1 hE.1.2.1 hE.1.2.2.2.2 in_Ed hE.1.2.2.2.1 hE.2.1 hat rfl 0 (by decide) (hE.1.2.2.2.2 _ zm_202) (fun _ h => h) hv hdg kk
theorem fg_RM_89_Jo (hE : zz_E p m c cc nL s args R_RM D ca) {fs : List Value} {v : Value} (hat : va_at D zC (a, .inr (4, fs)) H) (hv : fs[0]? = some v) (hdg : decode cc pc = .ok (.getfield 89, 3)) (kk : W p l e R s m args below meth c H locs cells slots Q (F0 m (pc + 3) ls (v :: rest))) : W p l e R s m args below meth c H locs cells slots Q (F0 m pc ls (.ref a :: rest)) :=
  zz_get hE.1.1 hE.1.2.1 hE.1.2.2.2.2 in_Jo hE.1.2.2.2.1 hE.2.1 hat rfl 0 (by decide) (hE.1.2.2.2.2 _ zm_202) (fun _ h => h) hv hdg kk
theorem fg_RM_97_Ja (hE : zz_E p m c cc nL s args R_RM D ca) {fs : List Value} {v : Value} (hat : va_at D zC (a, .inr (2, fs)) H) (hv : fs[1]? = some v) (hdg : decode cc pc = .ok (.getfield 97, 3)) (kk : W p l e R s m args below meth c H locs cells slots Q (F0 m (pc + 3) ls (v :: rest))) : W p l e R s m args below meth c H locs cells slots Q (F0 m pc ls (.ref a :: rest)) :=
  zz_get hE.1.1 hE.1.2.1 hE.1.2.2.2.2 in_Ja hE.1.2.2.2.1 hE.2.1 hat rfl 1 (by decide) (hE.1.2.2.2.2 _ zm_205) (fun _ h => h) hv hdg kk
theorem fg_RM_97_Ed (hE : zz_E p m c cc nL s args R_RM D ca) {fs : List Value} {v : Value} (hat : va_at D zC (a, .inr (3, fs)) H) (hv : fs[1]? = some v) (hdg : decode cc pc = .ok (.getfield 97, 3)) (kk : W p l e R s m args below meth c H locs cells slots Q (F0 m (pc + 3) ls (v :: rest))) : W p l e R s m args below meth c H locs cells slots Q (F0 m pc ls (.ref a :: rest)) :=
  zz_get hE.1.1 hE.1.2.1 hE.1.2.2.2.2 in_Ed hE.1.2.2.2.1 hE.2.1 hat rfl 1 (by decide) (hE.1.2.2.2.2 _ zm_205) (fun _ h => h) hv hdg kk
theorem fg_RM_97_Jo (hE : zz_E p m c cc nL s args R_RM D ca) {fs : List Value} {v : Value} (hat : va_at D zC (a, .inr (4, fs)) H) (hv : fs[1]? = some v) (hdg : decode cc pc = .ok (.getfield 97, 3)) (kk : W p l e R s m args below meth c H locs cells slots Q (F0 m (pc + 3) ls (v :: rest))) : W p l e R s m args below meth c H locs cells slots Q (F0 m pc ls (.ref a :: rest)) :=
  zz_get hE.1.1 hE.1.2.1 hE.1.2.2.2.2 in_Jo hE.1.2.2.2.1 hE.2.1 hat rfl 1 (by decide) (hE.1.2.2.2.2 _ zm_205) (fun _ h => h) hv hdg kk
theorem fg_RM_101 (hE : zz_E p m c cc nL s args R_RM D ca) {fs : List Value} {v : Value} (hat : va_at D zC (a, .inr (6, fs)) H) (hv : fs[4]? = some v) (hdg : decode cc pc = .ok (.getfield 101, 3)) (kk : W p l e R s m args below meth c H locs cells slots Q (F0 m (pc + 3) ls (v :: rest))) : W p l e R s m args below meth c H locs cells slots Q (F0 m pc ls (.ref a :: rest)) :=
  zz_get hE.1.1 hE.1.2.1 hE.1.2.2.2.2 in_RM hE.1.2.2.2.1 hE.2.1 hat rfl 4 (by decide) (hE.1.2.2.2.2 _ zm_89) (fun _ h => h) hv hdg kk
theorem fg_RM_127 (hE : zz_E p m c cc nL s args R_RM D ca) {fs : List Value} {v : Value} (hat : va_at D zC (a, .inr (5, fs)) H) (hv : fs[3]? = some v) (hdg : decode cc pc = .ok (.getfield 127, 3)) (kk : W p l e R s m args below meth c H locs cells slots Q (F0 m (pc + 3) ls (v :: rest))) : W p l e R s m args below meth c H locs cells slots Q (F0 m pc ls (.ref a :: rest)) :=
  zz_getN hE.1.1 hE.1.2.1 hE.1.2.2.2.2 in_Ru hE.1.2.2.2.1 hE.2.1 hat rfl 3 (by decide) (va_Nw.use rfl (hE.2.2.1 _ zn_34)) (fun _ h => h) hv hdg kk
theorem fg_RM_161 (hE : zz_E p m c cc nL s args R_RM D ca) {fs : List Value} {v : Value} (hat : va_at D zC (a, .inr (5, fs)) H) (hv : fs[2]? = some v) (hdg : decode cc pc = .ok (.getfield 161, 3)) (kk : W p l e R s m args below meth c H locs cells slots Q (F0 m (pc + 3) ls (v :: rest))) : W p l e R s m args below meth c H locs cells slots Q (F0 m pc ls (.ref a :: rest)) :=
  zz_getN hE.1.1 hE.1.2.1 hE.1.2.2.2.2 in_Ru hE.1.2.2.2.1 hE.2.1 hat rfl 2 (by decide) (va_Nw.use rfl (hE.2.2.1 _ zn_32)) (fun _ h => h) hv hdg kk
theorem fg_Ed_9 (hE : zz_E p m c cc nL s args R_Ed D ca) {fs : List Value} {v : Value} (hat : va_at D zC (a, .inr (3, fs)) H) (hv : fs[4]? = some v) (hdg : decode cc pc = .ok (.getfield 9, 3)) (kk : W p l e R s m args below meth c H locs cells slots Q (F0 m (pc + 3) ls (v :: rest))) : W p l e R s m args below meth c H locs cells slots Q (F0 m pc ls (.ref a :: rest)) :=
  zz_get hE.1.1 hE.1.2.1 hE.1.2.2.2.2 in_Ed hE.1.2.2.2.1 hE.2.1 hat rfl 4 (by decide) (hE.1.2.2.2.2 _ zm_233) (fun _ h => h) hv hdg kk
theorem fg_Ed_15 (hE : zz_E p m c cc nL s args R_Ed D ca) {fs : List Value} {v : Value} (hat : va_at D zC (a, .inr (3, fs)) H) (hv : fs[2]? = some v) (hdg : decode cc pc = .ok (.getfield 15, 3)) (kk : W p l e R s m args below meth c H locs cells slots Q (F0 m (pc + 3) ls (v :: rest))) : W p l e R s m args below meth c H locs cells slots Q (F0 m pc ls (.ref a :: rest)) :=
  zz_get hE.1.1 hE.1.2.1 hE.1.2.2.2.2 in_Ed hE.1.2.2.2.1 hE.2.1 hat rfl 2 (by decide) (hE.1.2.2.2.2 _ zm_231) (fun _ h => h) hv hdg kk
theorem fg_Ed_19 (hE : zz_E p m c cc nL s args R_Ed D ca) {fs : List Value} {v : Value} (hat : va_at D zC (a, .inr (3, fs)) H) (hv : fs[3]? = some v) (hdg : decode cc pc = .ok (.getfield 19, 3)) (kk : W p l e R s m args below meth c H locs cells slots Q (F0 m (pc + 3) ls (v :: rest))) : W p l e R s m args below meth c H locs cells slots Q (F0 m pc ls (.ref a :: rest)) :=
  zz_get hE.1.1 hE.1.2.1 hE.1.2.2.2.2 in_Ed hE.1.2.2.2.1 hE.2.1 hat rfl 3 (by decide) (hE.1.2.2.2.2 _ zm_232) (fun _ h => h) hv hdg kk
theorem fg_Ed_32 (hE : zz_E p m c cc nL s args R_Ed D ca) {fs : List Value} {v : Value} (hat : va_at D zC (a, .inr (0, fs)) H) (hv : fs[1]? = some v) (hdg : decode cc pc = .ok (.getfield 32, 3)) (kk : W p l e R s m args below meth c H locs cells slots Q (F0 m (pc + 3) ls (v :: rest))) : W p l e R s m args below meth c H locs cells slots Q (F0 m pc ls (.ref a :: rest)) :=
  zz_getN hE.1.1 hE.1.2.1 hE.1.2.2.2.2 in_Te hE.1.2.2.2.1 hE.2.1 hat rfl 1 (by decide) (va_Nw.use rfl (hE.2.2.1 _ zn_64)) (fun _ h => h) hv hdg kk
theorem fg_Ed_37 (hE : zz_E p m c cc nL s args R_Ed D ca) {fs : List Value} {v : Value} (hat : va_at D zC (a, .inr (0, fs)) H) (hv : fs[0]? = some v) (hdg : decode cc pc = .ok (.getfield 37, 3)) (kk : W p l e R s m args below meth c H locs cells slots Q (F0 m (pc + 3) ls (v :: rest))) : W p l e R s m args below meth c H locs cells slots Q (F0 m pc ls (.ref a :: rest)) :=
  zz_getN hE.1.1 hE.1.2.1 hE.1.2.2.2.2 in_Te hE.1.2.2.2.1 hE.2.1 hat rfl 0 (by decide) (va_Nw.use rfl (hE.2.2.1 _ zn_61)) (fun _ h => h) hv hdg kk
theorem fg_En_10 (hE : zz_E p m c cc nL s args R_En D ca) {fs : List Value} {v : Value} (hat : va_at D zC (a, .inr (1, fs)) H) (hv : fs[0]? = some v) (hdg : decode cc pc = .ok (.getfield 10, 3)) (kk : W p l e R s m args below meth c H locs cells slots Q (F0 m (pc + 3) ls (v :: rest))) : W p l e R s m args below meth c H locs cells slots Q (F0 m pc ls (.ref a :: rest)) :=
  zz_get hE.1.1 hE.1.2.1 hE.1.2.2.2.2 in_En hE.1.2.2.2.1 hE.2.1 hat rfl 0 (by decide) (hE.1.2.2.2.2 _ zm_78) (fun _ h => h) hv hdg kk
theorem fg_En_16 (hE : zz_E p m c cc nL s args R_En D ca) {fs : List Value} {v : Value} (hat : va_at D zC (a, .inr (1, fs)) H) (hv : fs[1]? = some v) (hdg : decode cc pc = .ok (.getfield 16, 3)) (kk : W p l e R s m args below meth c H locs cells slots Q (F0 m (pc + 3) ls (v :: rest))) : W p l e R s m args below meth c H locs cells slots Q (F0 m pc ls (.ref a :: rest)) :=
  zz_get hE.1.1 hE.1.2.1 hE.1.2.2.2.2 in_En hE.1.2.2.2.1 hE.2.1 hat rfl 1 (by decide) (hE.1.2.2.2.2 _ zm_79) (fun _ h => h) hv hdg kk
theorem fg_Ja_7 (hE : zz_E p m c cc nL s args R_Ja D ca) {fs : List Value} {v : Value} (hat : va_at D zC (a, .inr (2, fs)) H) (hv : fs[2]? = some v) (hdg : decode cc pc = .ok (.getfield 7, 3)) (kk : W p l e R s m args below meth c H locs cells slots Q (F0 m (pc + 3) ls (v :: rest))) : W p l e R s m args below meth c H locs cells slots Q (F0 m pc ls (.ref a :: rest)) :=
  zz_get hE.1.1 hE.1.2.1 hE.1.2.2.2.2 in_Ja hE.1.2.2.2.1 hE.2.1 hat rfl 2 (by decide) (hE.1.2.2.2.2 _ zm_197) (fun _ h => h) hv hdg kk
theorem fg_Ja_13 (hE : zz_E p m c cc nL s args R_Ja D ca) {fs : List Value} {v : Value} (hat : va_at D zC (a, .inr (2, fs)) H) (hv : fs[3]? = some v) (hdg : decode cc pc = .ok (.getfield 13, 3)) (kk : W p l e R s m args below meth c H locs cells slots Q (F0 m (pc + 3) ls (v :: rest))) : W p l e R s m args below meth c H locs cells slots Q (F0 m pc ls (.ref a :: rest)) :=
  zz_get hE.1.1 hE.1.2.1 hE.1.2.2.2.2 in_Ja hE.1.2.2.2.1 hE.2.1 hat rfl 3 (by decide) (hE.1.2.2.2.2 _ zm_198) (fun _ h => h) hv hdg kk
theorem fg_Ja_16 (hE : zz_E p m c cc nL s args R_Ja D ca) {fs : List Value} {v : Value} (hat : va_at D zC (a, .inr (2, fs)) H) (hv : fs[4]? = some v) (hdg : decode cc pc = .ok (.getfield 16, 3)) (kk : W p l e R s m args below meth c H locs cells slots Q (F0 m (pc + 3) ls (v :: rest))) : W p l e R s m args below meth c H locs cells slots Q (F0 m pc ls (.ref a :: rest)) :=
  zz_get hE.1.1 hE.1.2.1 hE.1.2.2.2.2 in_Ja hE.1.2.2.2.1 hE.2.1 hat rfl 4 (by decide) (hE.1.2.2.2.2 _ zm_199) (fun _ h => h) hv hdg kk
theorem fg_Jo_1_Ja (hE : zz_E p m c cc nL s args R_Jo D ca) {fs : List Value} {v : Value} (hat : va_at D zC (a, .inr (2, fs)) H) (hv : fs[0]? = some v) (hdg : decode cc pc = .ok (.getfield 1, 3)) (kk : W p l e R s m args below meth c H locs cells slots Q (F0 m (pc + 3) ls (v :: rest))) : W p l e R s m args below meth c H locs cells slots Q (F0 m pc ls (.ref a :: rest)) :=
  zz_get hE.1.1 hE.1.2.1 hE.1.2.2.2.2 in_Ja hE.1.2.2.2.1 hE.2.1 hat rfl 0 (by decide) (hE.1.2.2.2.2 _ zm_200) (fun _ h => h) hv hdg kk
theorem fg_Jo_1_Ed (hE : zz_E p m c cc nL s args R_Jo D ca) {fs : List Value} {v : Value} (hat : va_at D zC (a, .inr (3, fs)) H) (hv : fs[0]? = some v) (hdg : decode cc pc = .ok (.getfield 1, 3)) (kk : W p l e R s m args below meth c H locs cells slots Q (F0 m (pc + 3) ls (v :: rest))) : W p l e R s m args below meth c H locs cells slots Q (F0 m pc ls (.ref a :: rest)) :=
  zz_get hE.1.1 hE.1.2.1 hE.1.2.2.2.2 in_Ed hE.1.2.2.2.1 hE.2.1 hat rfl 0 (by decide) (hE.1.2.2.2.2 _ zm_200) (fun _ h => h) hv hdg kk
theorem fg_Jo_1_Jo (hE : zz_E p m c cc nL s args R_Jo D ca) {fs : List Value} {v : Value} (hat : va_at D zC (a, .inr (4, fs)) H) (hv : fs[0]? = some v) (hdg : decode cc pc = .ok (.getfield 1, 3)) (kk : W p l e R s m args below meth c H locs cells slots Q (F0 m (pc + 3) ls (v :: rest))) : W p l e R s m args below meth c H locs cells slots Q (F0 m pc ls (.ref a :: rest)) :=
  zz_get hE.1.1 hE.1.2.1 hE.1.2.2.2.2 in_Jo hE.1.2.2.2.1 hE.2.1 hat rfl 0 (by decide) (hE.1.2.2.2.2 _ zm_200) (fun _ h => h) hv hdg kk
theorem fg_Jo_7_Ja (hE : zz_E p m c cc nL s args R_Jo D ca) {fs : List Value} {v : Value} (hat : va_at D zC (a, .inr (2, fs)) H) (hv : fs[1]? = some v) (hdg : decode cc pc = .ok (.getfield 7, 3)) (kk : W p l e R s m args below meth c H locs cells slots Q (F0 m (pc + 3) ls (v :: rest))) : W p l e R s m args below meth c H locs cells slots Q (F0 m pc ls (.ref a :: rest)) :=
  zz_get hE.1.1 hE.1.2.1 hE.1.2.2.2.2 in_Ja hE.1.2.2.2.1 hE.2.1 hat rfl 1 (by decide) (hE.1.2.2.2.2 _ zm_204) (fun _ h => h) hv hdg kk
theorem fg_Jo_7_Ed (hE : zz_E p m c cc nL s args R_Jo D ca) {fs : List Value} {v : Value} (hat : va_at D zC (a, .inr (3, fs)) H) (hv : fs[1]? = some v) (hdg : decode cc pc = .ok (.getfield 7, 3)) (kk : W p l e R s m args below meth c H locs cells slots Q (F0 m (pc + 3) ls (v :: rest))) : W p l e R s m args below meth c H locs cells slots Q (F0 m pc ls (.ref a :: rest)) :=
  zz_get hE.1.1 hE.1.2.1 hE.1.2.2.2.2 in_Ed hE.1.2.2.2.1 hE.2.1 hat rfl 1 (by decide) (hE.1.2.2.2.2 _ zm_204) (fun _ h => h) hv hdg kk
theorem fg_Jo_7_Jo (hE : zz_E p m c cc nL s args R_Jo D ca) {fs : List Value} {v : Value} (hat : va_at D zC (a, .inr (4, fs)) H) (hv : fs[1]? = some v) (hdg : decode cc pc = .ok (.getfield 7, 3)) (kk : W p l e R s m args below meth c H locs cells slots Q (F0 m (pc + 3) ls (v :: rest))) : W p l e R s m args below meth c H locs cells slots Q (F0 m pc ls (.ref a :: rest)) :=
  zz_get hE.1.1 hE.1.2.1 hE.1.2.2.2.2 in_Jo hE.1.2.2.2.1 hE.2.1 hat rfl 1 (by decide) (hE.1.2.2.2.2 _ zm_204) (fun _ h => h) hv hdg kk
theorem fg_Jo_15 (hE : zz_E p m c cc nL s args R_Jo D ca) {fs : List Value} {v : Value} (hat : va_at D zC (a, .inr (4, fs)) H) (hv : fs[2]? = some v) (hdg : decode cc pc = .ok (.getfield 15, 3)) (kk : W p l e R s m args below meth c H locs cells slots Q (F0 m (pc + 3) ls (v :: rest))) : W p l e R s m args below meth c H locs cells slots Q (F0 m pc ls (.ref a :: rest)) :=
  zz_get hE.1.1 hE.1.2.1 hE.1.2.2.2.2 in_Jo hE.1.2.2.2.1 hE.2.1 hat rfl 2 (by decide) (hE.1.2.2.2.2 _ zm_257) (fun _ h => h) hv hdg kk
theorem fg_Jo_20 (hE : zz_E p m c cc nL s args R_Jo D ca) {fs : List Value} {v : Value} (hat : va_at D zC (a, .inr (4, fs)) H) (hv : fs[3]? = some v) (hdg : decode cc pc = .ok (.getfield 20, 3)) (kk : W p l e R s m args below meth c H locs cells slots Q (F0 m (pc + 3) ls (v :: rest))) : W p l e R s m args below meth c H locs cells slots Q (F0 m pc ls (.ref a :: rest)) :=
  zz_get hE.1.1 hE.1.2.1 hE.1.2.2.2.2 in_Jo hE.1.2.2.2.1 hE.2.1 hat rfl 3 (by decide) (hE.1.2.2.2.2 _ zm_258) (fun _ h => h) hv hdg kk
theorem fg_Jo_24 (hE : zz_E p m c cc nL s args R_Jo D ca) {fs : List Value} {v : Value} (hat : va_at D zC (a, .inr (4, fs)) H) (hv : fs[4]? = some v) (hdg : decode cc pc = .ok (.getfield 24, 3)) (kk : W p l e R s m args below meth c H locs cells slots Q (F0 m (pc + 3) ls (v :: rest))) : W p l e R s m args below meth c H locs cells slots Q (F0 m pc ls (.ref a :: rest)) :=
  zz_get hE.1.1 hE.1.2.1 hE.1.2.2.2.2 in_Jo hE.1.2.2.2.1 hE.2.1 hat rfl 4 (by decide) (hE.1.2.2.2.2 _ zm_259) (fun _ h => h) hv hdg kk
theorem fg_Ru_9 (hE : zz_E p m c cc nL s args R_Ru D ca) {fs : List Value} {v : Value} (hat : va_at D zC (a, .inr (5, fs)) H) (hv : fs[0]? = some v) (hdg : decode cc pc = .ok (.getfield 9, 3)) (kk : W p l e R s m args below meth c H locs cells slots Q (F0 m (pc + 3) ls (v :: rest))) : W p l e R s m args below meth c H locs cells slots Q (F0 m pc ls (.ref a :: rest)) :=
  zz_get hE.1.1 hE.1.2.1 hE.1.2.2.2.2 in_Ru hE.1.2.2.2.1 hE.2.1 hat rfl 0 (by decide) (hE.1.2.2.2.2 _ zm_29) (fun _ h => h) hv hdg kk
theorem fg_Ru_15 (hE : zz_E p m c cc nL s args R_Ru D ca) {fs : List Value} {v : Value} (hat : va_at D zC (a, .inr (5, fs)) H) (hv : fs[1]? = some v) (hdg : decode cc pc = .ok (.getfield 15, 3)) (kk : W p l e R s m args below meth c H locs cells slots Q (F0 m (pc + 3) ls (v :: rest))) : W p l e R s m args below meth c H locs cells slots Q (F0 m pc ls (.ref a :: rest)) :=
  zz_get hE.1.1 hE.1.2.1 hE.1.2.2.2.2 in_Ru hE.1.2.2.2.1 hE.2.1 hat rfl 1 (by decide) (hE.1.2.2.2.2 _ zm_30) (fun _ h => h) hv hdg kk
theorem fg_Ru_19 (hE : zz_E p m c cc nL s args R_Ru D ca) {fs : List Value} {v : Value} (hat : va_at D zC (a, .inr (5, fs)) H) (hv : fs[2]? = some v) (hdg : decode cc pc = .ok (.getfield 19, 3)) (kk : W p l e R s m args below meth c H locs cells slots Q (F0 m (pc + 3) ls (v :: rest))) : W p l e R s m args below meth c H locs cells slots Q (F0 m pc ls (.ref a :: rest)) :=
  zz_get hE.1.1 hE.1.2.1 hE.1.2.2.2.2 in_Ru hE.1.2.2.2.1 hE.2.1 hat rfl 2 (by decide) (hE.1.2.2.2.2 _ zm_31) (fun _ h => h) hv hdg kk
theorem fg_Ru_22 (hE : zz_E p m c cc nL s args R_Ru D ca) {fs : List Value} {v : Value} (hat : va_at D zC (a, .inr (5, fs)) H) (hv : fs[4]? = some v) (hdg : decode cc pc = .ok (.getfield 22, 3)) (kk : W p l e R s m args below meth c H locs cells slots Q (F0 m (pc + 3) ls (v :: rest))) : W p l e R s m args below meth c H locs cells slots Q (F0 m pc ls (.ref a :: rest)) :=
  zz_get hE.1.1 hE.1.2.1 hE.1.2.2.2.2 in_Ru hE.1.2.2.2.1 hE.2.1 hat rfl 4 (by decide) (hE.1.2.2.2.2 _ zm_35) (fun _ h => h) hv hdg kk
theorem fg_Ru_26 (hE : zz_E p m c cc nL s args R_Ru D ca) {fs : List Value} {v : Value} (hat : va_at D zC (a, .inr (5, fs)) H) (hv : fs[3]? = some v) (hdg : decode cc pc = .ok (.getfield 26, 3)) (kk : W p l e R s m args below meth c H locs cells slots Q (F0 m (pc + 3) ls (v :: rest))) : W p l e R s m args below meth c H locs cells slots Q (F0 m pc ls (.ref a :: rest)) :=
  zz_get hE.1.1 hE.1.2.1 hE.1.2.2.2.2 in_Ru hE.1.2.2.2.1 hE.2.1 hat rfl 3 (by decide) (hE.1.2.2.2.2 _ zm_33) (fun _ h => h) hv hdg kk
theorem fg_Te_9 (hE : zz_E p m c cc nL s args R_Te D ca) {fs : List Value} {v : Value} (hat : va_at D zC (a, .inr (0, fs)) H) (hv : fs[0]? = some v) (hdg : decode cc pc = .ok (.getfield 9, 3)) (kk : W p l e R s m args below meth c H locs cells slots Q (F0 m (pc + 3) ls (v :: rest))) : W p l e R s m args below meth c H locs cells slots Q (F0 m pc ls (.ref a :: rest)) :=
  zz_get hE.1.1 hE.1.2.1 hE.1.2.2.2.2 in_Te hE.1.2.2.2.1 hE.2.1 hat rfl 0 (by decide) (hE.1.2.2.2.2 _ zm_60) (fun _ h => h) hv hdg kk
theorem fg_Te_15 (hE : zz_E p m c cc nL s args R_Te D ca) {fs : List Value} {v : Value} (hat : va_at D zC (a, .inr (0, fs)) H) (hv : fs[2]? = some v) (hdg : decode cc pc = .ok (.getfield 15, 3)) (kk : W p l e R s m args below meth c H locs cells slots Q (F0 m (pc + 3) ls (v :: rest))) : W p l e R s m args below meth c H locs cells slots Q (F0 m pc ls (.ref a :: rest)) :=
  zz_get hE.1.1 hE.1.2.1 hE.1.2.2.2.2 in_Te hE.1.2.2.2.1 hE.2.1 hat rfl 2 (by decide) (hE.1.2.2.2.2 _ zm_66) (fun _ h => h) hv hdg kk
theorem fg_Te_19 (hE : zz_E p m c cc nL s args R_Te D ca) {fs : List Value} {v : Value} (hat : va_at D zC (a, .inr (0, fs)) H) (hv : fs[3]? = some v) (hdg : decode cc pc = .ok (.getfield 19, 3)) (kk : W p l e R s m args below meth c H locs cells slots Q (F0 m (pc + 3) ls (v :: rest))) : W p l e R s m args below meth c H locs cells slots Q (F0 m pc ls (.ref a :: rest)) :=
  zz_get hE.1.1 hE.1.2.1 hE.1.2.2.2.2 in_Te hE.1.2.2.2.1 hE.2.1 hat rfl 3 (by decide) (hE.1.2.2.2.2 _ zm_67) (fun _ h => h) hv hdg kk
theorem fg_Te_27 (hE : zz_E p m c cc nL s args R_Te D ca) {fs : List Value} {v : Value} (hat : va_at D zC (a, .inr (0, fs)) H) (hv : fs[1]? = some v) (hdg : decode cc pc = .ok (.getfield 27, 3)) (kk : W p l e R s m args below meth c H locs cells slots Q (F0 m (pc + 3) ls (v :: rest))) : W p l e R s m args below meth c H locs cells slots Q (F0 m pc ls (.ref a :: rest)) :=
  zz_get hE.1.1 hE.1.2.1 hE.1.2.2.2.2 in_Te hE.1.2.2.2.1 hE.2.1 hat rfl 1 (by decide) (hE.1.2.2.2.2 _ zm_63) (fun _ h => h) hv hdg kk
theorem fg_Mo_7 (hE : zz_E p m c cc nL s args R_Mo D ca) {fs : List Value} {v : Value} (hat : va_at D zC (a, .inr (7, fs)) H) (hv : fs[0]? = some v) (hdg : decode cc pc = .ok (.getfield 7, 3)) (kk : W p l e R s m args below meth c H locs cells slots Q (F0 m (pc + 3) ls (v :: rest))) : W p l e R s m args below meth c H locs cells slots Q (F0 m pc ls (.ref a :: rest)) :=
  zz_get hE.1.1 hE.1.2.1 hE.1.2.2.2.2 in_Mo hE.1.2.2.2.1 hE.2.1 hat rfl 0 (by decide) (hE.1.2.2.2.2 _ zm_437) (fun _ h => h) hv hdg kk
theorem fg_Mo_13 (hE : zz_E p m c cc nL s args R_Mo D ca) {fs : List Value} {v : Value} (hat : va_at D zC (a, .inr (7, fs)) H) (hv : fs[1]? = some v) (hdg : decode cc pc = .ok (.getfield 13, 3)) (kk : W p l e R s m args below meth c H locs cells slots Q (F0 m (pc + 3) ls (v :: rest))) : W p l e R s m args below meth c H locs cells slots Q (F0 m pc ls (.ref a :: rest)) :=
  zz_get hE.1.1 hE.1.2.1 hE.1.2.2.2.2 in_Mo hE.1.2.2.2.1 hE.2.1 hat rfl 1 (by decide) (hE.1.2.2.2.2 _ zm_438) (fun _ h => h) hv hdg kk
theorem fg_Mo_16 (hE : zz_E p m c cc nL s args R_Mo D ca) {fs : List Value} {v : Value} (hat : va_at D zC (a, .inr (7, fs)) H) (hv : fs[3]? = some v) (hdg : decode cc pc = .ok (.getfield 16, 3)) (kk : W p l e R s m args below meth c H locs cells slots Q (F0 m (pc + 3) ls (v :: rest))) : W p l e R s m args below meth c H locs cells slots Q (F0 m pc ls (.ref a :: rest)) :=
  zz_get hE.1.1 hE.1.2.1 hE.1.2.2.2.2 in_Mo hE.1.2.2.2.1 hE.2.1 hat rfl 3 (by decide) (hE.1.2.2.2.2 _ zm_440) (fun _ h => h) hv hdg kk
theorem fg_Mo_19 (hE : zz_E p m c cc nL s args R_Mo D ca) {fs : List Value} {v : Value} (hat : va_at D zC (a, .inr (7, fs)) H) (hv : fs[4]? = some v) (hdg : decode cc pc = .ok (.getfield 19, 3)) (kk : W p l e R s m args below meth c H locs cells slots Q (F0 m (pc + 3) ls (v :: rest))) : W p l e R s m args below meth c H locs cells slots Q (F0 m pc ls (.ref a :: rest)) :=
  zz_get hE.1.1 hE.1.2.1 hE.1.2.2.2.2 in_Mo hE.1.2.2.2.1 hE.2.1 hat rfl 4 (by decide) (hE.1.2.2.2.2 _ zm_441) (fun _ h => h) hv hdg kk
theorem fg_Mo_22 (hE : zz_E p m c cc nL s args R_Mo D ca) {fs : List Value} {v : Value} (hat : va_at D zC (a, .inr (7, fs)) H) (hv : fs[5]? = some v) (hdg : decode cc pc = .ok (.getfield 22, 3)) (kk : W p l e R s m args below meth c H locs cells slots Q (F0 m (pc + 3) ls (v :: rest))) : W p l e R s m args below meth c H locs cells slots Q (F0 m pc ls (.ref a :: rest)) :=
  zz_get hE.1.1 hE.1.2.1 hE.1.2.2.2.2 in_Mo hE.1.2.2.2.1 hE.2.1 hat rfl 5 (by decide) (hE.1.2.2.2.2 _ zm_442) (fun _ h => h) hv hdg kk
theorem fg_Mo_25 (hE : zz_E p m c cc nL s args R_Mo D ca) {fs : List Value} {v : Value} (hat : va_at D zC (a, .inr (7, fs)) H) (hv : fs[6]? = some v) (hdg : decode cc pc = .ok (.getfield 25, 3)) (kk : W p l e R s m args below meth c H locs cells slots Q (F0 m (pc + 3) ls (v :: rest))) : W p l e R s m args below meth c H locs cells slots Q (F0 m pc ls (.ref a :: rest)) :=
  zz_get hE.1.1 hE.1.2.1 hE.1.2.2.2.2 in_Mo hE.1.2.2.2.1 hE.2.1 hat rfl 6 (by decide) (hE.1.2.2.2.2 _ zm_443) (fun _ h => h) hv hdg kk
theorem fg_Mo_28 (hE : zz_E p m c cc nL s args R_Mo D ca) {fs : List Value} {v : Value} (hat : va_at D zC (a, .inr (7, fs)) H) (hv : fs[7]? = some v) (hdg : decode cc pc = .ok (.getfield 28, 3)) (kk : W p l e R s m args below meth c H locs cells slots Q (F0 m (pc + 3) ls (v :: rest))) : W p l e R s m args below meth c H locs cells slots Q (F0 m pc ls (.ref a :: rest)) :=
  zz_get hE.1.1 hE.1.2.1 hE.1.2.2.2.2 in_Mo hE.1.2.2.2.1 hE.2.1 hat rfl 7 (by decide) (hE.1.2.2.2.2 _ zm_444) (fun _ h => h) hv hdg kk
theorem fg_Mo_31 (hE : zz_E p m c cc nL s args R_Mo D ca) {fs : List Value} {v : Value} (hat : va_at D zC (a, .inr (7, fs)) H) (hv : fs[8]? = some v) (hdg : decode cc pc = .ok (.getfield 31, 3)) (kk : W p l e R s m args below meth c H locs cells slots Q (F0 m (pc + 3) ls (v :: rest))) : W p l e R s m args below meth c H locs cells slots Q (F0 m pc ls (.ref a :: rest)) :=
  zz_get hE.1.1 hE.1.2.1 hE.1.2.2.2.2 in_Mo hE.1.2.2.2.1 hE.2.1 hat rfl 8 (by decide) (hE.1.2.2.2.2 _ zm_445) (fun _ h => h) hv hdg kk
theorem fg_Mo_34 (hE : zz_E p m c cc nL s args R_Mo D ca) {fs : List Value} {v : Value} (hat : va_at D zC (a, .inr (7, fs)) H) (hv : fs[9]? = some v) (hdg : decode cc pc = .ok (.getfield 34, 3)) (kk : W p l e R s m args below meth c H locs cells slots Q (F0 m (pc + 3) ls (v :: rest))) : W p l e R s m args below meth c H locs cells slots Q (F0 m pc ls (.ref a :: rest)) :=
  zz_get hE.1.1 hE.1.2.1 hE.1.2.2.2.2 in_Mo hE.1.2.2.2.1 hE.2.1 hat rfl 9 (by decide) (hE.1.2.2.2.2 _ zm_446) (fun _ h => h) hv hdg kk
theorem fg_Mo_37 (hE : zz_E p m c cc nL s args R_Mo D ca) {fs : List Value} {v : Value} (hat : va_at D zC (a, .inr (7, fs)) H) (hv : fs[10]? = some v) (hdg : decode cc pc = .ok (.getfield 37, 3)) (kk : W p l e R s m args below meth c H locs cells slots Q (F0 m (pc + 3) ls (v :: rest))) : W p l e R s m args below meth c H locs cells slots Q (F0 m pc ls (.ref a :: rest)) :=
  zz_get hE.1.1 hE.1.2.1 hE.1.2.2.2.2 in_Mo hE.1.2.2.2.1 hE.2.1 hat rfl 10 (by decide) (hE.1.2.2.2.2 _ zm_447) (fun _ h => h) hv hdg kk
theorem fg_Mo_40 (hE : zz_E p m c cc nL s args R_Mo D ca) {fs : List Value} {v : Value} (hat : va_at D zC (a, .inr (7, fs)) H) (hv : fs[13]? = some v) (hdg : decode cc pc = .ok (.getfield 40, 3)) (kk : W p l e R s m args below meth c H locs cells slots Q (F0 m (pc + 3) ls (v :: rest))) : W p l e R s m args below meth c H locs cells slots Q (F0 m pc ls (.ref a :: rest)) :=
  zz_get hE.1.1 hE.1.2.1 hE.1.2.2.2.2 in_Mo hE.1.2.2.2.1 hE.2.1 hat rfl 13 (by decide) (hE.1.2.2.2.2 _ zm_450) (fun _ h => h) hv hdg kk
theorem fg_Mo_43 (hE : zz_E p m c cc nL s args R_Mo D ca) {fs : List Value} {v : Value} (hat : va_at D zC (a, .inr (7, fs)) H) (hv : fs[14]? = some v) (hdg : decode cc pc = .ok (.getfield 43, 3)) (kk : W p l e R s m args below meth c H locs cells slots Q (F0 m (pc + 3) ls (v :: rest))) : W p l e R s m args below meth c H locs cells slots Q (F0 m pc ls (.ref a :: rest)) :=
  zz_get hE.1.1 hE.1.2.1 hE.1.2.2.2.2 in_Mo hE.1.2.2.2.1 hE.2.1 hat rfl 14 (by decide) (hE.1.2.2.2.2 _ zm_451) (fun _ h => h) hv hdg kk
theorem fg_Mo_46 (hE : zz_E p m c cc nL s args R_Mo D ca) {fs : List Value} {v : Value} (hat : va_at D zC (a, .inr (7, fs)) H) (hv : fs[15]? = some v) (hdg : decode cc pc = .ok (.getfield 46, 3)) (kk : W p l e R s m args below meth c H locs cells slots Q (F0 m (pc + 3) ls (v :: rest))) : W p l e R s m args below meth c H locs cells slots Q (F0 m pc ls (.ref a :: rest)) :=
  zz_get hE.1.1 hE.1.2.1 hE.1.2.2.2.2 in_Mo hE.1.2.2.2.1 hE.2.1 hat rfl 15 (by decide) (hE.1.2.2.2.2 _ zm_452) (fun _ h => h) hv hdg kk
theorem fg_Mo_49 (hE : zz_E p m c cc nL s args R_Mo D ca) {fs : List Value} {v : Value} (hat : va_at D zC (a, .inr (7, fs)) H) (hv : fs[16]? = some v) (hdg : decode cc pc = .ok (.getfield 49, 3)) (kk : W p l e R s m args below meth c H locs cells slots Q (F0 m (pc + 3) ls (v :: rest))) : W p l e R s m args below meth c H locs cells slots Q (F0 m pc ls (.ref a :: rest)) :=
  zz_get hE.1.1 hE.1.2.1 hE.1.2.2.2.2 in_Mo hE.1.2.2.2.1 hE.2.1 hat rfl 16 (by decide) (hE.1.2.2.2.2 _ zm_453) (fun _ h => h) hv hdg kk
theorem fg_Mo_52 (hE : zz_E p m c cc nL s args R_Mo D ca) {fs : List Value} {v : Value} (hat : va_at D zC (a, .inr (7, fs)) H) (hv : fs[17]? = some v) (hdg : decode cc pc = .ok (.getfield 52, 3)) (kk : W p l e R s m args below meth c H locs cells slots Q (F0 m (pc + 3) ls (v :: rest))) : W p l e R s m args below meth c H locs cells slots Q (F0 m pc ls (.ref a :: rest)) :=
  zz_get hE.1.1 hE.1.2.1 hE.1.2.2.2.2 in_Mo hE.1.2.2.2.1 hE.2.1 hat rfl 17 (by decide) (hE.1.2.2.2.2 _ zm_454) (fun _ h => h) hv hdg kk
theorem fg_Mo_56 (hE : zz_E p m c cc nL s args R_Mo D ca) {fs : List Value} {v : Value} (hat : va_at D zC (a, .inr (7, fs)) H) (hv : fs[19]? = some v) (hdg : decode cc pc = .ok (.getfield 56, 3)) (kk : W p l e R s m args below meth c H locs cells slots Q (F0 m (pc + 3) ls (v :: rest))) : W p l e R s m args below meth c H locs cells slots Q (F0 m pc ls (.ref a :: rest)) :=
  zz_get hE.1.1 hE.1.2.1 hE.1.2.2.2.2 in_Mo hE.1.2.2.2.1 hE.2.1 hat rfl 19 (by decide) (hE.1.2.2.2.2 _ zm_456) (fun _ h => h) hv hdg kk
theorem fg_Mo_59 (hE : zz_E p m c cc nL s args R_Mo D ca) {fs : List Value} {v : Value} (hat : va_at D zC (a, .inr (7, fs)) H) (hv : fs[20]? = some v) (hdg : decode cc pc = .ok (.getfield 59, 3)) (kk : W p l e R s m args below meth c H locs cells slots Q (F0 m (pc + 3) ls (v :: rest))) : W p l e R s m args below meth c H locs cells slots Q (F0 m pc ls (.ref a :: rest)) :=
  zz_get hE.1.1 hE.1.2.1 hE.1.2.2.2.2 in_Mo hE.1.2.2.2.1 hE.2.1 hat rfl 20 (by decide) (hE.1.2.2.2.2 _ zm_457) (fun _ h => h) hv hdg kk
theorem fg_Mo_62 (hE : zz_E p m c cc nL s args R_Mo D ca) {fs : List Value} {v : Value} (hat : va_at D zC (a, .inr (7, fs)) H) (hv : fs[21]? = some v) (hdg : decode cc pc = .ok (.getfield 62, 3)) (kk : W p l e R s m args below meth c H locs cells slots Q (F0 m (pc + 3) ls (v :: rest))) : W p l e R s m args below meth c H locs cells slots Q (F0 m pc ls (.ref a :: rest)) :=
  zz_get hE.1.1 hE.1.2.1 hE.1.2.2.2.2 in_Mo hE.1.2.2.2.1 hE.2.1 hat rfl 21 (by decide) (hE.1.2.2.2.2 _ zm_458) (fun _ h => h) hv hdg kk
theorem fg_Mo_65 (hE : zz_E p m c cc nL s args R_Mo D ca) {fs : List Value} {v : Value} (hat : va_at D zC (a, .inr (7, fs)) H) (hv : fs[2]? = some v) (hdg : decode cc pc = .ok (.getfield 65, 3)) (kk : W p l e R s m args below meth c H locs cells slots Q (F0 m (pc + 3) ls (v :: rest))) : W p l e R s m args below meth c H locs cells slots Q (F0 m pc ls (.ref a :: rest)) :=
  zz_get hE.1.1 hE.1.2.1 hE.1.2.2.2.2 in_Mo hE.1.2.2.2.1 hE.2.1 hat rfl 2 (by decide) (hE.1.2.2.2.2 _ zm_439) (fun _ h => h) hv hdg kk
theorem fg_Mo_73 (hE : zz_E p m c cc nL s args R_Mo D ca) {fs : List Value} {v : Value} (hat : va_at D zC (a, .inr (7, fs)) H) (hv : fs[18]? = some v) (hdg : decode cc pc = .ok (.getfield 73, 3)) (kk : W p l e R s m args below meth c H locs cells slots Q (F0 m (pc + 3) ls (v :: rest))) : W p l e R s m args below meth c H locs cells slots Q (F0 m pc ls (.ref a :: rest)) :=
  zz_get hE.1.1 hE.1.2.1 hE.1.2.2.2.2 in_Mo hE.1.2.2.2.1 hE.2.1 hat rfl 18 (by decide) (hE.1.2.2.2.2 _ zm_455) (fun _ h => h) hv hdg kk
theorem fg_Mo_109 (hE : zz_E p m c cc nL s args R_Mo D ca) {fs : List Value} {v : Value} (hat : va_at D zC (a, .inr (7, fs)) H) (hv : fs[11]? = some v) (hdg : decode cc pc = .ok (.getfield 109, 3)) (kk : W p l e R s m args below meth c H locs cells slots Q (F0 m (pc + 3) ls (v :: rest))) : W p l e R s m args below meth c H locs cells slots Q (F0 m pc ls (.ref a :: rest)) :=
  zz_get hE.1.1 hE.1.2.1 hE.1.2.2.2.2 in_Mo hE.1.2.2.2.1 hE.2.1 hat rfl 11 (by decide) (hE.1.2.2.2.2 _ zm_448) (fun _ h => h) hv hdg kk
theorem fg_Mo_130 (hE : zz_E p m c cc nL s args R_Mo D ca) {fs : List Value} {v : Value} (hat : va_at D zC (a, .inr (7, fs)) H) (hv : fs[12]? = some v) (hdg : decode cc pc = .ok (.getfield 130, 3)) (kk : W p l e R s m args below meth c H locs cells slots Q (F0 m (pc + 3) ls (v :: rest))) : W p l e R s m args below meth c H locs cells slots Q (F0 m pc ls (.ref a :: rest)) :=
  zz_get hE.1.1 hE.1.2.1 hE.1.2.2.2.2 in_Mo hE.1.2.2.2.1 hE.2.1 hat rfl 12 (by decide) (hE.1.2.2.2.2 _ zm_449) (fun _ h => h) hv hdg kk
theorem fp_RM_11 (hE : zz_E p m c cc nL s args R_RM D ca) (hin : meth.name = "<init>") {fs : List Value} {q : Nat} (hat : va_at D zC (a, .inr (6, fs)) H) (hL : zz_L F locs) (hF : F a) (hl : 0 < fs.length) (hdg : decode cc pc = .ok (.putfield 11, 3)) (kk : ∀ (H1 : Heap) (locs1 : List Loc), va_at D zC (a, .inr (6, fs.set 0 (.ref q))) H1 → zz_up H H1 a → zz_L F locs1 → W p l e R s m args below meth c H1 locs1 cells slots Q (F0 m (pc + 3) ls rest)) : W p l e R s m args below meth c H locs cells slots Q (F0 m pc ls (.ref q :: .ref a :: rest)) :=
  zz_putF hE.1.1 hE.1.2.1 hE.1.2.2.2.2 in_RM ty_RM tk_RM nm_RM hE.1.2.2.2.1 hE.2.1 hat rfl 0 (by decide) hL hF (hE.1.2.2.2.2 _ zm_85) (fun _ h => h) rfl hin rfl (ty := .array (.object "RecordMatcher$Entry")) (by decide +kernel) rfl rfl hl hdg kk
theorem fp_RM_17 (hE : zz_E p m c cc nL s args R_RM D ca) (hin : meth.name = "<init>") {fs : List Value} {q : Nat} (hat : va_at D zC (a, .inr (6, fs)) H) (hL : zz_L F locs) (hF : F a) (hl : 2 < fs.length) (hdg : decode cc pc = .ok (.putfield 17, 3)) (kk : ∀ (H1 : Heap) (locs1 : List Loc), va_at D zC (a, .inr (6, fs.set 2 (.ref q))) H1 → zz_up H H1 a → zz_L F locs1 → W p l e R s m args below meth c H1 locs1 cells slots Q (F0 m (pc + 3) ls rest)) : W p l e R s m args below meth c H locs cells slots Q (F0 m pc ls (.ref q :: .ref a :: rest)) :=
  zz_putF hE.1.1 hE.1.2.1 hE.1.2.2.2.2 in_RM ty_RM tk_RM nm_RM hE.1.2.2.2.1 hE.2.1 hat rfl 2 (by decide) hL hF (hE.1.2.2.2.2 _ zm_87) (fun _ h => h) rfl hin rfl (ty := .array (.object "RecordMatcher$Expression")) (by decide +kernel) rfl rfl hl hdg kk
theorem fp_RM_24 (hE : zz_E p m c cc nL s args R_RM D ca) (hin : meth.name = "<init>") {fs : List Value} {q : Nat} (hat : va_at D zC (a, .inr (6, fs)) H) (hL : zz_L F locs) (hF : F a) (hl : 5 < fs.length) (hdg : decode cc pc = .ok (.putfield 24, 3)) (kk : ∀ (H1 : Heap) (locs1 : List Loc), va_at D zC (a, .inr (6, fs.set 5 (.ref q))) H1 → zz_up H H1 a → zz_L F locs1 → W p l e R s m args below meth c H1 locs1 cells slots Q (F0 m (pc + 3) ls rest)) : W p l e R s m args below meth c H locs cells slots Q (F0 m pc ls (.ref q :: .ref a :: rest)) :=
  zz_putF hE.1.1 hE.1.2.1 hE.1.2.2.2.2 in_RM ty_RM tk_RM nm_RM hE.1.2.2.2.1 hE.2.1 hat rfl 5 (by decide) hL hF (hE.1.2.2.2.2 _ zm_90) (fun _ h => h) rfl hin rfl (ty := .object "RecordMatcher$Run") (by decide +kernel) rfl rfl hl hdg kk
theorem fp_RM_28 (hE : zz_E p m c cc nL s args R_RM D ca) (hin : meth.name = "<init>") {fs : List Value} {q : Nat} (hat : va_at D zC (a, .inr (6, fs)) H) (hL : zz_L F locs) (hF : F a) (hl : 6 < fs.length) (hdg : decode cc pc = .ok (.putfield 28, 3)) (kk : ∀ (H1 : Heap) (locs1 : List Loc), va_at D zC (a, .inr (6, fs.set 6 (.ref q))) H1 → zz_up H H1 a → zz_L F locs1 → W p l e R s m args below meth c H1 locs1 cells slots Q (F0 m (pc + 3) ls rest)) : W p l e R s m args below meth c H locs cells slots Q (F0 m pc ls (.ref q :: .ref a :: rest)) :=
  zz_putF hE.1.1 hE.1.2.1 hE.1.2.2.2.2 in_RM ty_RM tk_RM nm_RM hE.1.2.2.2.1 hE.2.1 hat rfl 6 (by decide) hL hF (hE.1.2.2.2.2 _ zm_91) (fun _ h => h) rfl hin rfl (ty := .array .int) (by decide +kernel) rfl rfl hl hdg kk
theorem fp_RM_37 (hE : zz_E p m c cc nL s args R_RM D ca) {fs : List Value} {x : Int32} (hat : va_at D zC (a, .inr (6, fs)) H) (hL : zz_L F locs) (hF : F a) (hl : 1 < fs.length) (hdg : decode cc pc = .ok (.putfield 37, 3)) (kk : ∀ (H1 : Heap) (locs1 : List Loc), va_at D zC (a, .inr (6, fs.set 1 (.int x))) H1 → zz_up H H1 a → zz_L F locs1 → W p l e R s m args below meth c H1 locs1 cells slots Q (F0 m (pc + 3) ls rest)) : W p l e R s m args below meth c H locs cells slots Q (F0 m pc ls (.int x :: .ref a :: rest)) :=
  zz_put hE.1.1 hE.1.2.1 hE.1.2.2.2.2 in_RM ty_RM tk_RM nm_RM hE.1.2.2.2.1 hE.2.1 hat rfl 1 (by decide) hL hF (hE.1.2.2.2.2 _ zm_86) (fun _ h => h) rfl (ty := .int) (by decide +kernel) rfl rfl hl hdg kk
theorem fp_RM_68 (hE : zz_E p m c cc nL s args R_RM D ca) {fs : List Value} {x : Int32} (hat : va_at D zC (a, .inr (6, fs)) H) (hL : zz_L F locs) (hF : F a) (hl : 3 < fs.length) (hdg : decode cc pc = .ok (.putfield 68, 3)) (kk : ∀ (H1 : Heap) (locs1 : List Loc), va_at D zC (a, .inr (6, fs.set 3 (.int x))) H1 → zz_up H H1 a → zz_L F locs1 → W p l e R s m args below meth c H1 locs1 cells slots Q (F0 m (pc + 3) ls rest)) : W p l e R s m args below meth c H locs cells slots Q (F0 m pc ls (.int x :: .ref a :: rest)) :=
  zz_put hE.1.1 hE.1.2.1 hE.1.2.2.2.2 in_RM ty_RM tk_RM nm_RM hE.1.2.2.2.1 hE.2.1 hat rfl 3 (by decide) hL hF (hE.1.2.2.2.2 _ zm_88) (fun _ h => h) rfl (ty := .int) (by decide +kernel) rfl rfl hl hdg kk
theorem fp_RM_101 (hE : zz_E p m c cc nL s args R_RM D ca) {fs : List Value} {q : Nat} (hat : va_at D zC (a, .inr (6, fs)) H) (hL : zz_L F locs) (hF : F a) (hl : 4 < fs.length) (hdg : decode cc pc = .ok (.putfield 101, 3)) (kk : ∀ (H1 : Heap) (locs1 : List Loc), va_at D zC (a, .inr (6, fs.set 4 (.ref q))) H1 → zz_up H H1 a → zz_L F locs1 → W p l e R s m args below meth c H1 locs1 cells slots Q (F0 m (pc + 3) ls rest)) : W p l e R s m args below meth c H locs cells slots Q (F0 m pc ls (.ref q :: .ref a :: rest)) :=
  zz_put hE.1.1 hE.1.2.1 hE.1.2.2.2.2 in_RM ty_RM tk_RM nm_RM hE.1.2.2.2.1 hE.2.1 hat rfl 4 (by decide) hL hF (hE.1.2.2.2.2 _ zm_89) (fun _ h => h) rfl (ty := .object "RecordMatcher$Expression") (by decide +kernel) rfl rfl hl hdg kk
theorem fp_Ed_9 (hE : zz_E p m c cc nL s args R_Ed D ca) (hin : meth.name = "<init>") {fs : List Value} {q : Nat} (hat : va_at D zC (a, .inr (3, fs)) H) (hL : zz_L F locs) (hF : F a) (hl : 4 < fs.length) (hdg : decode cc pc = .ok (.putfield 9, 3)) (kk : ∀ (H1 : Heap) (locs1 : List Loc), va_at D zC (a, .inr (3, fs.set 4 (.ref q))) H1 → zz_up H H1 a → zz_L F locs1 → W p l e R s m args below meth c H1 locs1 cells slots Q (F0 m (pc + 3) ls rest)) : W p l e R s m args below meth c H locs cells slots Q (F0 m pc ls (.ref q :: .ref a :: rest)) :=
  zz_putF hE.1.1 hE.1.2.1 hE.1.2.2.2.2 in_Ed ty_Ed tk_Ed nm_Ed hE.1.2.2.2.1 hE.2.1 hat rfl 4 (by decide) hL hF (hE.1.2.2.2.2 _ zm_233) (fun _ h => h) rfl hin rfl (ty := .array .int) (by decide +kernel) rfl rfl hl hdg kk
theorem fp_Ed_15 (hE : zz_E p m c cc nL s args R_Ed D ca) (hin : meth.name = "<init>") {fs : List Value} {x : Int32} (hat : va_at D zC (a, .inr (3, fs)) H) (hL : zz_L F locs) (hF : F a) (hl : 2 < fs.length) (hdg : decode cc pc = .ok (.putfield 15, 3)) (kk : ∀ (H1 : Heap) (locs1 : List Loc), va_at D zC (a, .inr (3, fs.set 2 (.int x))) H1 → zz_up H H1 a → zz_L F locs1 → W p l e R s m args below meth c H1 locs1 cells slots Q (F0 m (pc + 3) ls rest)) : W p l e R s m args below meth c H locs cells slots Q (F0 m pc ls (.int x :: .ref a :: rest)) :=
  zz_putF hE.1.1 hE.1.2.1 hE.1.2.2.2.2 in_Ed ty_Ed tk_Ed nm_Ed hE.1.2.2.2.1 hE.2.1 hat rfl 2 (by decide) hL hF (hE.1.2.2.2.2 _ zm_231) (fun _ h => h) rfl hin rfl (ty := .int) (by decide +kernel) rfl rfl hl hdg kk
theorem fp_Ed_19 (hE : zz_E p m c cc nL s args R_Ed D ca) (hin : meth.name = "<init>") {fs : List Value} {x : Int32} (hat : va_at D zC (a, .inr (3, fs)) H) (hL : zz_L F locs) (hF : F a) (hl : 3 < fs.length) (hdg : decode cc pc = .ok (.putfield 19, 3)) (kk : ∀ (H1 : Heap) (locs1 : List Loc), va_at D zC (a, .inr (3, fs.set 3 (.int x))) H1 → zz_up H H1 a → zz_L F locs1 → W p l e R s m args below meth c H1 locs1 cells slots Q (F0 m (pc + 3) ls rest)) : W p l e R s m args below meth c H locs cells slots Q (F0 m pc ls (.int x :: .ref a :: rest)) :=
  zz_putF hE.1.1 hE.1.2.1 hE.1.2.2.2.2 in_Ed ty_Ed tk_Ed nm_Ed hE.1.2.2.2.1 hE.2.1 hat rfl 3 (by decide) hL hF (hE.1.2.2.2.2 _ zm_232) (fun _ h => h) rfl hin rfl (ty := .int) (by decide +kernel) rfl rfl hl hdg kk
theorem fp_En_10 (hE : zz_E p m c cc nL s args R_En D ca) (hin : meth.name = "<init>") {fs : List Value} {q : Nat} (hat : va_at D zC (a, .inr (1, fs)) H) (hL : zz_L F locs) (hF : F a) (hl : 0 < fs.length) (hdg : decode cc pc = .ok (.putfield 10, 3)) (kk : ∀ (H1 : Heap) (locs1 : List Loc), va_at D zC (a, .inr (1, fs.set 0 (.ref q))) H1 → zz_up H H1 a → zz_L F locs1 → W p l e R s m args below meth c H1 locs1 cells slots Q (F0 m (pc + 3) ls rest)) : W p l e R s m args below meth c H locs cells slots Q (F0 m pc ls (.ref q :: .ref a :: rest)) :=
  zz_putF hE.1.1 hE.1.2.1 hE.1.2.2.2.2 in_En ty_En tk_En nm_En hE.1.2.2.2.1 hE.2.1 hat rfl 0 (by decide) hL hF (hE.1.2.2.2.2 _ zm_78) (fun _ h => h) rfl hin rfl (ty := .object "RecordMatcher$Text") (by decide +kernel) rfl rfl hl hdg kk
theorem fp_En_16 (hE : zz_E p m c cc nL s args R_En D ca) (hin : meth.name = "<init>") {fs : List Value} {q : Nat} (hat : va_at D zC (a, .inr (1, fs)) H) (hL : zz_L F locs) (hF : F a) (hl : 1 < fs.length) (hdg : decode cc pc = .ok (.putfield 16, 3)) (kk : ∀ (H1 : Heap) (locs1 : List Loc), va_at D zC (a, .inr (1, fs.set 1 (.ref q))) H1 → zz_up H H1 a → zz_L F locs1 → W p l e R s m args below meth c H1 locs1 cells slots Q (F0 m (pc + 3) ls rest)) : W p l e R s m args below meth c H locs cells slots Q (F0 m pc ls (.ref q :: .ref a :: rest)) :=
  zz_putF hE.1.1 hE.1.2.1 hE.1.2.2.2.2 in_En ty_En tk_En nm_En hE.1.2.2.2.1 hE.2.1 hat rfl 1 (by decide) hL hF (hE.1.2.2.2.2 _ zm_79) (fun _ h => h) rfl hin rfl (ty := .object "RecordMatcher$Text") (by decide +kernel) rfl rfl hl hdg kk
theorem fp_Ex_7_Ja (hE : zz_E p m c cc nL s args R_Ex D ca) (hin : meth.name = "<init>") {fs : List Value} {x : Int32} (hat : va_at D zC (a, .inr (2, fs)) H) (hL : zz_L F locs) (hF : F a) (hl : 0 < fs.length) (hdg : decode cc pc = .ok (.putfield 7, 3)) (kk : ∀ (H1 : Heap) (locs1 : List Loc), va_at D zC (a, .inr (2, fs.set 0 (.int x))) H1 → zz_up H H1 a → zz_L F locs1 → W p l e R s m args below meth c H1 locs1 cells slots Q (F0 m (pc + 3) ls rest)) : W p l e R s m args below meth c H locs cells slots Q (F0 m pc ls (.int x :: .ref a :: rest)) :=
  zz_putF hE.1.1 hE.1.2.1 hE.1.2.2.2.2 in_Ja ty_Ja tk_Ja nm_Ja hE.1.2.2.2.1 hE.2.1 hat rfl 0 (by decide) hL hF (hE.1.2.2.2.2 _ zm_201) (fun _ h => h) rfl hin rfl (ty := .int) (by decide +kernel) rfl rfl hl hdg kk
theorem fp_Ex_7_Ed (hE : zz_E p m c cc nL s args R_Ex D ca) (hin : meth.name = "<init>") {fs : List Value} {x : Int32} (hat : va_at D zC (a, .inr (3, fs)) H) (hL : zz_L F locs) (hF : F a) (hl : 0 < fs.length) (hdg : decode cc pc = .ok (.putfield 7, 3)) (kk : ∀ (H1 : Heap) (locs1 : List Loc), va_at D zC (a, .inr (3, fs.set 0 (.int x))) H1 → zz_up H H1 a → zz_L F locs1 → W p l e R s m args below meth c H1 locs1 cells slots Q (F0 m (pc + 3) ls rest)) : W p l e R s m args below meth c H locs cells slots Q (F0 m pc ls (.int x :: .ref a :: rest)) :=
  zz_putF hE.1.1 hE.1.2.1 hE.1.2.2.2.2 in_Ed ty_Ed tk_Ed nm_Ed hE.1.2.2.2.1 hE.2.1 hat rfl 0 (by decide) hL hF (hE.1.2.2.2.2 _ zm_201) (fun _ h => h) rfl hin rfl (ty := .int) (by decide +kernel) rfl rfl hl hdg kk
theorem fp_Ex_7_Jo (hE : zz_E p m c cc nL s args R_Ex D ca) (hin : meth.name = "<init>") {fs : List Value} {x : Int32} (hat : va_at D zC (a, .inr (4, fs)) H) (hL : zz_L F locs) (hF : F a) (hl : 0 < fs.length) (hdg : decode cc pc = .ok (.putfield 7, 3)) (kk : ∀ (H1 : Heap) (locs1 : List Loc), va_at D zC (a, .inr (4, fs.set 0 (.int x))) H1 → zz_up H H1 a → zz_L F locs1 → W p l e R s m args below meth c H1 locs1 cells slots Q (F0 m (pc + 3) ls rest)) : W p l e R s m args below meth c H locs cells slots Q (F0 m pc ls (.int x :: .ref a :: rest)) :=
  zz_putF hE.1.1 hE.1.2.1 hE.1.2.2.2.2 in_Jo ty_Jo tk_Jo nm_Jo hE.1.2.2.2.1 hE.2.1 hat rfl 0 (by decide) hL hF (hE.1.2.2.2.2 _ zm_201) (fun _ h => h) rfl hin rfl (ty := .int) (by decide +kernel) rfl rfl hl hdg kk
theorem fp_Ex_13_Ja (hE : zz_E p m c cc nL s args R_Ex D ca) (hin : meth.name = "<init>") {fs : List Value} {b : Bool} (hat : va_at D zC (a, .inr (2, fs)) H) (hL : zz_L F locs) (hF : F a) (hl : 1 < fs.length) (hdg : decode cc pc = .ok (.putfield 13, 3)) (kk : ∀ (H1 : Heap) (locs1 : List Loc), va_at D zC (a, .inr (2, fs.set 1 (.int (nI b.toNat)))) H1 → zz_up H H1 a → zz_L F locs1 → W p l e R s m args below meth c H1 locs1 cells slots Q (F0 m (pc + 3) ls rest)) : W p l e R s m args below meth c H locs cells slots Q (F0 m pc ls (.int (nI b.toNat) :: .ref a :: rest)) :=
  zz_putF hE.1.1 hE.1.2.1 hE.1.2.2.2.2 in_Ja ty_Ja tk_Ja nm_Ja hE.1.2.2.2.1 hE.2.1 hat rfl 1 (by decide) hL hF (hE.1.2.2.2.2 _ zm_203) (fun _ h => h) rfl hin rfl (ty := .boolean) (by decide +kernel) (zz_narB _) (by cases b <;> rfl) hl hdg kk
theorem fp_Ex_13_Ed (hE : zz_E p m c cc nL s args R_Ex D ca) (hin : meth.name = "<init>") {fs : List Value} {b : Bool} (hat : va_at D zC (a, .inr (3, fs)) H) (hL : zz_L F locs) (hF : F a) (hl : 1 < fs.length) (hdg : decode cc pc = .ok (.putfield 13, 3)) (kk : ∀ (H1 : Heap) (locs1 : List Loc), va_at D zC (a, .inr (3, fs.set 1 (.int (nI b.toNat)))) H1 → zz_up H H1 a → zz_L F locs1 → W p l e R s m args below meth c H1 locs1 cells slots Q (F0 m (pc + 3) ls rest)) : W p l e R s m args below meth c H locs cells slots Q (F0 m pc ls (.int (nI b.toNat) :: .ref a :: rest)) :=
  zz_putF hE.1.1 hE.1.2.1 hE.1.2.2.2.2 in_Ed ty_Ed tk_Ed nm_Ed hE.1.2.2.2.1 hE.2.1 hat rfl 1 (by decide) hL hF (hE.1.2.2.2.2 _ zm_203) (fun _ h => h) rfl hin rfl (ty := .boolean) (by decide +kernel) (zz_narB _) (by cases b <;> rfl) hl hdg kk
theorem fp_Ex_13_Jo (hE : zz_E p m c cc nL s args R_Ex D ca) (hin : meth.name = "<init>") {fs : List Value} {b : Bool} (hat : va_at D zC (a, .inr (4, fs)) H) (hL : zz_L F locs) (hF : F a) (hl : 1 < fs.length) (hdg : decode cc pc = .ok (.putfield 13, 3)) (kk : ∀ (H1 : Heap) (locs1 : List Loc), va_at D zC (a, .inr (4, fs.set 1 (.int (nI b.toNat)))) H1 → zz_up H H1 a → zz_L F locs1 → W p l e R s m args below meth c H1 locs1 cells slots Q (F0 m (pc + 3) ls rest)) : W p l e R s m args below meth c H locs cells slots Q (F0 m pc ls (.int (nI b.toNat) :: .ref a :: rest)) :=
  zz_putF hE.1.1 hE.1.2.1 hE.1.2.2.2.2 in_Jo ty_Jo tk_Jo nm_Jo hE.1.2.2.2.1 hE.2.1 hat rfl 1 (by decide) hL hF (hE.1.2.2.2.2 _ zm_203) (fun _ h => h) rfl hin rfl (ty := .boolean) (by decide +kernel) (zz_narB _) (by cases b <;> rfl) hl hdg kk
theorem fp_Ja_7 (hE : zz_E p m c cc nL s args R_Ja D ca) (hin : meth.name = "<init>") {fs : List Value} {x : Int32} (hat : va_at D zC (a, .inr (2, fs)) H) (hL : zz_L F locs) (hF : F a) (hl : 2 < fs.length) (hdg : decode cc pc = .ok (.putfield 7, 3)) (kk : ∀ (H1 : Heap) (locs1 : List Loc), va_at D zC (a, .inr (2, fs.set 2 (.int x))) H1 → zz_up H H1 a → zz_L F locs1 → W p l e R s m args below meth c H1 locs1 cells slots Q (F0 m (pc + 3) ls rest)) : W p l e R s m args below meth c H locs cells slots Q (F0 m pc ls (.int x :: .ref a :: rest)) :=
  zz_putF hE.1.1 hE.1.2.1 hE.1.2.2.2.2 in_Ja ty_Ja tk_Ja nm_Ja hE.1.2.2.2.1 hE.2.1 hat rfl 2 (by decide) hL hF (hE.1.2.2.2.2 _ zm_197) (fun _ h => h) rfl hin rfl (ty := .int) (by decide +kernel) rfl rfl hl hdg kk
theorem fp_Ja_13 (hE : zz_E p m c cc nL s args R_Ja D ca) (hin : meth.name = "<init>") {fs : List Value} {x : Int32} (hat : va_at D zC (a, .inr (2, fs)) H) (hL : zz_L F locs) (hF : F a) (hl : 3 < fs.length) (hdg : decode cc pc = .ok (.putfield 13, 3)) (kk : ∀ (H1 : Heap) (locs1 : List Loc), va_at D zC (a, .inr (2, fs.set 3 (.int x))) H1 → zz_up H H1 a → zz_L F locs1 → W p l e R s m args below meth c H1 locs1 cells slots Q (F0 m (pc + 3) ls rest)) : W p l e R s m args below meth c H locs cells slots Q (F0 m pc ls (.int x :: .ref a :: rest)) :=
  zz_putF hE.1.1 hE.1.2.1 hE.1.2.2.2.2 in_Ja ty_Ja tk_Ja nm_Ja hE.1.2.2.2.1 hE.2.1 hat rfl 3 (by decide) hL hF (hE.1.2.2.2.2 _ zm_198) (fun _ h => h) rfl hin rfl (ty := .int) (by decide +kernel) rfl rfl hl hdg kk
theorem fp_Ja_16 (hE : zz_E p m c cc nL s args R_Ja D ca) (hin : meth.name = "<init>") {fs : List Value} {x : Int32} (hat : va_at D zC (a, .inr (2, fs)) H) (hL : zz_L F locs) (hF : F a) (hl : 4 < fs.length) (hdg : decode cc pc = .ok (.putfield 16, 3)) (kk : ∀ (H1 : Heap) (locs1 : List Loc), va_at D zC (a, .inr (2, fs.set 4 (.int x))) H1 → zz_up H H1 a → zz_L F locs1 → W p l e R s m args below meth c H1 locs1 cells slots Q (F0 m (pc + 3) ls rest)) : W p l e R s m args below meth c H locs cells slots Q (F0 m pc ls (.int x :: .ref a :: rest)) :=
  zz_putF hE.1.1 hE.1.2.1 hE.1.2.2.2.2 in_Ja ty_Ja tk_Ja nm_Ja hE.1.2.2.2.1 hE.2.1 hat rfl 4 (by decide) hL hF (hE.1.2.2.2.2 _ zm_199) (fun _ h => h) rfl hin rfl (ty := .int) (by decide +kernel) rfl rfl hl hdg kk
theorem fp_Jo_15 (hE : zz_E p m c cc nL s args R_Jo D ca) (hin : meth.name = "<init>") {fs : List Value} {b : Bool} (hat : va_at D zC (a, .inr (4, fs)) H) (hL : zz_L F locs) (hF : F a) (hl : 2 < fs.length) (hdg : decode cc pc = .ok (.putfield 15, 3)) (kk : ∀ (H1 : Heap) (locs1 : List Loc), va_at D zC (a, .inr (4, fs.set 2 (.int (nI b.toNat)))) H1 → zz_up H H1 a → zz_L F locs1 → W p l e R s m args below meth c H1 locs1 cells slots Q (F0 m (pc + 3) ls rest)) : W p l e R s m args below meth c H locs cells slots Q (F0 m pc ls (.int (nI b.toNat) :: .ref a :: rest)) :=
  zz_putF hE.1.1 hE.1.2.1 hE.1.2.2.2.2 in_Jo ty_Jo tk_Jo nm_Jo hE.1.2.2.2.1 hE.2.1 hat rfl 2 (by decide) hL hF (hE.1.2.2.2.2 _ zm_257) (fun _ h => h) rfl hin rfl (ty := .boolean) (by decide +kernel) (zz_narB _) (by cases b <;> rfl) hl hdg kk
theorem fp_Jo_20 (hE : zz_E p m c cc nL s args R_Jo D ca) (hin : meth.name = "<init>") {fs : List Value} {q : Nat} (hat : va_at D zC (a, .inr (4, fs)) H) (hL : zz_L F locs) (hF : F a) (hl : 3 < fs.length) (hdg : decode cc pc = .ok (.putfield 20, 3)) (kk : ∀ (H1 : Heap) (locs1 : List Loc), va_at D zC (a, .inr (4, fs.set 3 (.ref q))) H1 → zz_up H H1 a → zz_L F locs1 → W p l e R s m args below meth c H1 locs1 cells slots Q (F0 m (pc + 3) ls rest)) : W p l e R s m args below meth c H locs cells slots Q (F0 m pc ls (.ref q :: .ref a :: rest)) :=
  zz_putF hE.1.1 hE.1.2.1 hE.1.2.2.2.2 in_Jo ty_Jo tk_Jo nm_Jo hE.1.2.2.2.1 hE.2.1 hat rfl 3 (by decide) hL hF (hE.1.2.2.2.2 _ zm_258) (fun _ h => h) rfl hin rfl (ty := .object "RecordMatcher$Expression") (by decide +kernel) rfl rfl hl hdg kk
theorem fp_Jo_24 (hE : zz_E p m c cc nL s args R_Jo D ca) (hin : meth.name = "<init>") {fs : List Value} {q : Nat} (hat : va_at D zC (a, .inr (4, fs)) H) (hL : zz_L F locs) (hF : F a) (hl : 4 < fs.length) (hdg : decode cc pc = .ok (.putfield 24, 3)) (kk : ∀ (H1 : Heap) (locs1 : List Loc), va_at D zC (a, .inr (4, fs.set 4 (.ref q))) H1 → zz_up H H1 a → zz_L F locs1 → W p l e R s m args below meth c H1 locs1 cells slots Q (F0 m (pc + 3) ls rest)) : W p l e R s m args below meth c H locs cells slots Q (F0 m pc ls (.ref q :: .ref a :: rest)) :=
  zz_putF hE.1.1 hE.1.2.1 hE.1.2.2.2.2 in_Jo ty_Jo tk_Jo nm_Jo hE.1.2.2.2.1 hE.2.1 hat rfl 4 (by decide) hL hF (hE.1.2.2.2.2 _ zm_259) (fun _ h => h) rfl hin rfl (ty := .object "RecordMatcher$Expression") (by decide +kernel) rfl rfl hl hdg kk
theorem fp_Ru_9 (hE : zz_E p m c cc nL s args R_Ru D ca) (hin : meth.name = "<init>") {fs : List Value} {q : Nat} (hat : va_at D zC (a, .inr (5, fs)) H) (hL : zz_L F locs) (hF : F a) (hl : 0 < fs.length) (hdg : decode cc pc = .ok (.putfield 9, 3)) (kk : ∀ (H1 : Heap) (locs1 : List Loc), va_at D zC (a, .inr (5, fs.set 0 (.ref q))) H1 → zz_up H H1 a → zz_L F locs1 → W p l e R s m args below meth c H1 locs1 cells slots Q (F0 m (pc + 3) ls rest)) : W p l e R s m args below meth c H locs cells slots Q (F0 m pc ls (.ref q :: .ref a :: rest)) :=
  zz_putF hE.1.1 hE.1.2.1 hE.1.2.2.2.2 in_Ru ty_Ru tk_Ru nm_Ru hE.1.2.2.2.1 hE.2.1 hat rfl 0 (by decide) hL hF (hE.1.2.2.2.2 _ zm_29) (fun _ h => h) rfl hin rfl (ty := .array .int) (by decide +kernel) rfl rfl hl hdg kk
theorem fp_Ru_15 (hE : zz_E p m c cc nL s args R_Ru D ca) (hin : meth.name = "<init>") {fs : List Value} {q : Nat} (hat : va_at D zC (a, .inr (5, fs)) H) (hL : zz_L F locs) (hF : F a) (hl : 1 < fs.length) (hdg : decode cc pc = .ok (.putfield 15, 3)) (kk : ∀ (H1 : Heap) (locs1 : List Loc), va_at D zC (a, .inr (5, fs.set 1 (.ref q))) H1 → zz_up H H1 a → zz_L F locs1 → W p l e R s m args below meth c H1 locs1 cells slots Q (F0 m (pc + 3) ls rest)) : W p l e R s m args below meth c H locs cells slots Q (F0 m pc ls (.ref q :: .ref a :: rest)) :=
  zz_putF hE.1.1 hE.1.2.1 hE.1.2.2.2.2 in_Ru ty_Ru tk_Ru nm_Ru hE.1.2.2.2.1 hE.2.1 hat rfl 1 (by decide) hL hF (hE.1.2.2.2.2 _ zm_30) (fun _ h => h) rfl hin rfl (ty := .array .boolean) (by decide +kernel) rfl rfl hl hdg kk
theorem fp_Ru_19 (hE : zz_E p m c cc nL s args R_Ru D ca) (hin : meth.name = "<init>") {fs : List Value} {q : Nat} (hat : va_at D zC (a, .inr (5, fs)) H) (hL : zz_L F locs) (hF : F a) (hl : 2 < fs.length) (hdg : decode cc pc = .ok (.putfield 19, 3)) (kk : ∀ (H1 : Heap) (locs1 : List Loc), va_at D zC (a, .inr (5, fs.set 2 (.ref q))) H1 → zz_up H H1 a → zz_L F locs1 → W p l e R s m args below meth c H1 locs1 cells slots Q (F0 m (pc + 3) ls rest)) : W p l e R s m args below meth c H locs cells slots Q (F0 m pc ls (.ref q :: .ref a :: rest)) :=
  zz_putF hE.1.1 hE.1.2.1 hE.1.2.2.2.2 in_Ru ty_Ru tk_Ru nm_Ru hE.1.2.2.2.1 hE.2.1 hat rfl 2 (by decide) hL hF (hE.1.2.2.2.2 _ zm_31) (fun _ h => h) rfl hin rfl (ty := .array .int) (by decide +kernel) rfl rfl hl hdg kk
theorem fp_Ru_22 (hE : zz_E p m c cc nL s args R_Ru D ca) {fs : List Value} {x : Int32} (hat : va_at D zC (a, .inr (5, fs)) H) (hL : zz_L F locs) (hF : F a) (hl : 4 < fs.length) (hdg : decode cc pc = .ok (.putfield 22, 3)) (kk : ∀ (H1 : Heap) (locs1 : List Loc), va_at D zC (a, .inr (5, fs.set 4 (.int x))) H1 → zz_up H H1 a → zz_L F locs1 → W p l e R s m args below meth c H1 locs1 cells slots Q (F0 m (pc + 3) ls rest)) : W p l e R s m args below meth c H locs cells slots Q (F0 m pc ls (.int x :: .ref a :: rest)) :=
  zz_put hE.1.1 hE.1.2.1 hE.1.2.2.2.2 in_Ru ty_Ru tk_Ru nm_Ru hE.1.2.2.2.1 hE.2.1 hat rfl 4 (by decide) hL hF (hE.1.2.2.2.2 _ zm_35) (fun _ h => h) rfl (ty := .int) (by decide +kernel) rfl rfl hl hdg kk
theorem fp_Ru_26 (hE : zz_E p m c cc nL s args R_Ru D ca) {fs : List Value} {x : Int32} (hat : va_at D zC (a, .inr (5, fs)) H) (hL : zz_L F locs) (hF : F a) (hl : 3 < fs.length) (hdg : decode cc pc = .ok (.putfield 26, 3)) (kk : ∀ (H1 : Heap) (locs1 : List Loc), va_at D zC (a, .inr (5, fs.set 3 (.int x))) H1 → zz_up H H1 a → zz_L F locs1 → W p l e R s m args below meth c H1 locs1 cells slots Q (F0 m (pc + 3) ls rest)) : W p l e R s m args below meth c H locs cells slots Q (F0 m pc ls (.int x :: .ref a :: rest)) :=
  zz_put hE.1.1 hE.1.2.1 hE.1.2.2.2.2 in_Ru ty_Ru tk_Ru nm_Ru hE.1.2.2.2.1 hE.2.1 hat rfl 3 (by decide) hL hF (hE.1.2.2.2.2 _ zm_33) (fun _ h => h) rfl (ty := .int) (by decide +kernel) rfl rfl hl hdg kk
theorem fp_Te_9 (hE : zz_E p m c cc nL s args R_Te D ca) (hin : meth.name = "<init>") {fs : List Value} {q : Nat} (hat : va_at D zC (a, .inr (0, fs)) H) (hL : zz_L F locs) (hF : F a) (hl : 0 < fs.length) (hdg : decode cc pc = .ok (.putfield 9, 3)) (kk : ∀ (H1 : Heap) (locs1 : List Loc), va_at D zC (a, .inr (0, fs.set 0 (.ref q))) H1 → zz_up H H1 a → zz_L F locs1 → W p l e R s m args below meth c H1 locs1 cells slots Q (F0 m (pc + 3) ls rest)) : W p l e R s m args below meth c H locs cells slots Q (F0 m pc ls (.ref q :: .ref a :: rest)) :=
  zz_putF hE.1.1 hE.1.2.1 hE.1.2.2.2.2 in_Te ty_Te tk_Te nm_Te hE.1.2.2.2.1 hE.2.1 hat rfl 0 (by decide) hL hF (hE.1.2.2.2.2 _ zm_60) (fun _ h => h) rfl hin rfl (ty := .array .char) (by decide +kernel) rfl rfl hl hdg kk
theorem fp_Te_15 (hE : zz_E p m c cc nL s args R_Te D ca) {fs : List Value} {x : Int32} (hat : va_at D zC (a, .inr (0, fs)) H) (hL : zz_L F locs) (hF : F a) (hl : 2 < fs.length) (hdg : decode cc pc = .ok (.putfield 15, 3)) (kk : ∀ (H1 : Heap) (locs1 : List Loc), va_at D zC (a, .inr (0, fs.set 2 (.int x))) H1 → zz_up H H1 a → zz_L F locs1 → W p l e R s m args below meth c H1 locs1 cells slots Q (F0 m (pc + 3) ls rest)) : W p l e R s m args below meth c H locs cells slots Q (F0 m pc ls (.int x :: .ref a :: rest)) :=
  zz_put hE.1.1 hE.1.2.1 hE.1.2.2.2.2 in_Te ty_Te tk_Te nm_Te hE.1.2.2.2.1 hE.2.1 hat rfl 2 (by decide) hL hF (hE.1.2.2.2.2 _ zm_66) (fun _ h => h) rfl (ty := .int) (by decide +kernel) rfl rfl hl hdg kk
theorem fp_Te_19 (hE : zz_E p m c cc nL s args R_Te D ca) {fs : List Value} {b : Bool} (hat : va_at D zC (a, .inr (0, fs)) H) (hL : zz_L F locs) (hF : F a) (hl : 3 < fs.length) (hdg : decode cc pc = .ok (.putfield 19, 3)) (kk : ∀ (H1 : Heap) (locs1 : List Loc), va_at D zC (a, .inr (0, fs.set 3 (.int (nI b.toNat)))) H1 → zz_up H H1 a → zz_L F locs1 → W p l e R s m args below meth c H1 locs1 cells slots Q (F0 m (pc + 3) ls rest)) : W p l e R s m args below meth c H locs cells slots Q (F0 m pc ls (.int (nI b.toNat) :: .ref a :: rest)) :=
  zz_put hE.1.1 hE.1.2.1 hE.1.2.2.2.2 in_Te ty_Te tk_Te nm_Te hE.1.2.2.2.1 hE.2.1 hat rfl 3 (by decide) hL hF (hE.1.2.2.2.2 _ zm_67) (fun _ h => h) rfl (ty := .boolean) (by decide +kernel) (zz_narB _) (by cases b <;> rfl) hl hdg kk
theorem fp_Te_27 (hE : zz_E p m c cc nL s args R_Te D ca) {fs : List Value} {x : Int32} (hat : va_at D zC (a, .inr (0, fs)) H) (hL : zz_L F locs) (hF : F a) (hl : 1 < fs.length) (hdg : decode cc pc = .ok (.putfield 27, 3)) (kk : ∀ (H1 : Heap) (locs1 : List Loc), va_at D zC (a, .inr (0, fs.set 1 (.int x))) H1 → zz_up H H1 a → zz_L F locs1 → W p l e R s m args below meth c H1 locs1 cells slots Q (F0 m (pc + 3) ls rest)) : W p l e R s m args below meth c H locs cells slots Q (F0 m pc ls (.int x :: .ref a :: rest)) :=
  zz_put hE.1.1 hE.1.2.1 hE.1.2.2.2.2 in_Te ty_Te tk_Te nm_Te hE.1.2.2.2.1 hE.2.1 hat rfl 1 (by decide) hL hF (hE.1.2.2.2.2 _ zm_63) (fun _ h => h) rfl (ty := .int) (by decide +kernel) rfl rfl hl hdg kk
theorem fp_Mo_7 (hE : zz_E p m c cc nL s args R_Mo D ca) (hin : meth.name = "<init>") {fs : List Value} {q : Nat} (hat : va_at D zC (a, .inr (7, fs)) H) (hL : zz_L F locs) (hF : F a) (hl : 0 < fs.length) (hdg : decode cc pc = .ok (.putfield 7, 3)) (kk : ∀ (H1 : Heap) (locs1 : List Loc), va_at D zC (a, .inr (7, fs.set 0 (.ref q))) H1 → zz_up H H1 a → zz_L F locs1 → W p l e R s m args below meth c H1 locs1 cells slots Q (F0 m (pc + 3) ls rest)) : W p l e R s m args below meth c H locs cells slots Q (F0 m pc ls (.ref q :: .ref a :: rest)) :=
  zz_putF hE.1.1 hE.1.2.1 hE.1.2.2.2.2 in_Mo ty_Mo tk_Mo nm_Mo hE.1.2.2.2.1 hE.2.1 hat rfl 0 (by decide) hL hF (hE.1.2.2.2.2 _ zm_437) (fun _ h => h) rfl hin rfl (ty := .array .int) (by decide +kernel) rfl rfl hl hdg kk
theorem fp_Mo_13 (hE : zz_E p m c cc nL s args R_Mo D ca) (hin : meth.name = "<init>") {fs : List Value} {q : Nat} (hat : va_at D zC (a, .inr (7, fs)) H) (hL : zz_L F locs) (hF : F a) (hl : 1 < fs.length) (hdg : decode cc pc = .ok (.putfield 13, 3)) (kk : ∀ (H1 : Heap) (locs1 : List Loc), va_at D zC (a, .inr (7, fs.set 1 (.ref q))) H1 → zz_up H H1 a → zz_L F locs1 → W p l e R s m args below meth c H1 locs1 cells slots Q (F0 m (pc + 3) ls rest)) : W p l e R s m args below meth c H locs cells slots Q (F0 m pc ls (.ref q :: .ref a :: rest)) :=
  zz_putF hE.1.1 hE.1.2.1 hE.1.2.2.2.2 in_Mo ty_Mo tk_Mo nm_Mo hE.1.2.2.2.1 hE.2.1 hat rfl 1 (by decide) hL hF (hE.1.2.2.2.2 _ zm_438) (fun _ h => h) rfl hin rfl (ty := .array .int) (by decide +kernel) rfl rfl hl hdg kk
theorem fp_Mo_16 (hE : zz_E p m c cc nL s args R_Mo D ca) (hin : meth.name = "<init>") {fs : List Value} {q : Nat} (hat : va_at D zC (a, .inr (7, fs)) H) (hL : zz_L F locs) (hF : F a) (hl : 3 < fs.length) (hdg : decode cc pc = .ok (.putfield 16, 3)) (kk : ∀ (H1 : Heap) (locs1 : List Loc), va_at D zC (a, .inr (7, fs.set 3 (.ref q))) H1 → zz_up H H1 a → zz_L F locs1 → W p l e R s m args below meth c H1 locs1 cells slots Q (F0 m (pc + 3) ls rest)) : W p l e R s m args below meth c H locs cells slots Q (F0 m pc ls (.ref q :: .ref a :: rest)) :=
  zz_putF hE.1.1 hE.1.2.1 hE.1.2.2.2.2 in_Mo ty_Mo tk_Mo nm_Mo hE.1.2.2.2.1 hE.2.1 hat rfl 3 (by decide) hL hF (hE.1.2.2.2.2 _ zm_440) (fun _ h => h) rfl hin rfl (ty := .array .int) (by decide +kernel) rfl rfl hl hdg kk
theorem fp_Mo_19 (hE : zz_E p m c cc nL s args R_Mo D ca) (hin : meth.name = "<init>") {fs : List Value} {q : Nat} (hat : va_at D zC (a, .inr (7, fs)) H) (hL : zz_L F locs) (hF : F a) (hl : 4 < fs.length) (hdg : decode cc pc = .ok (.putfield 19, 3)) (kk : ∀ (H1 : Heap) (locs1 : List Loc), va_at D zC (a, .inr (7, fs.set 4 (.ref q))) H1 → zz_up H H1 a → zz_L F locs1 → W p l e R s m args below meth c H1 locs1 cells slots Q (F0 m (pc + 3) ls rest)) : W p l e R s m args below meth c H locs cells slots Q (F0 m pc ls (.ref q :: .ref a :: rest)) :=
  zz_putF hE.1.1 hE.1.2.1 hE.1.2.2.2.2 in_Mo ty_Mo tk_Mo nm_Mo hE.1.2.2.2.1 hE.2.1 hat rfl 4 (by decide) hL hF (hE.1.2.2.2.2 _ zm_441) (fun _ h => h) rfl hin rfl (ty := .array .int) (by decide +kernel) rfl rfl hl hdg kk
theorem fp_Mo_22 (hE : zz_E p m c cc nL s args R_Mo D ca) (hin : meth.name = "<init>") {fs : List Value} {q : Nat} (hat : va_at D zC (a, .inr (7, fs)) H) (hL : zz_L F locs) (hF : F a) (hl : 5 < fs.length) (hdg : decode cc pc = .ok (.putfield 22, 3)) (kk : ∀ (H1 : Heap) (locs1 : List Loc), va_at D zC (a, .inr (7, fs.set 5 (.ref q))) H1 → zz_up H H1 a → zz_L F locs1 → W p l e R s m args below meth c H1 locs1 cells slots Q (F0 m (pc + 3) ls rest)) : W p l e R s m args below meth c H locs cells slots Q (F0 m pc ls (.ref q :: .ref a :: rest)) :=
  zz_putF hE.1.1 hE.1.2.1 hE.1.2.2.2.2 in_Mo ty_Mo tk_Mo nm_Mo hE.1.2.2.2.1 hE.2.1 hat rfl 5 (by decide) hL hF (hE.1.2.2.2.2 _ zm_442) (fun _ h => h) rfl hin rfl (ty := .array .int) (by decide +kernel) rfl rfl hl hdg kk
theorem fp_Mo_25 (hE : zz_E p m c cc nL s args R_Mo D ca) (hin : meth.name = "<init>") {fs : List Value} {q : Nat} (hat : va_at D zC (a, .inr (7, fs)) H) (hL : zz_L F locs) (hF : F a) (hl : 6 < fs.length) (hdg : decode cc pc = .ok (.putfield 25, 3)) (kk : ∀ (H1 : Heap) (locs1 : List Loc), va_at D zC (a, .inr (7, fs.set 6 (.ref q))) H1 → zz_up H H1 a → zz_L F locs1 → W p l e R s m args below meth c H1 locs1 cells slots Q (F0 m (pc + 3) ls rest)) : W p l e R s m args below meth c H locs cells slots Q (F0 m pc ls (.ref q :: .ref a :: rest)) :=
  zz_putF hE.1.1 hE.1.2.1 hE.1.2.2.2.2 in_Mo ty_Mo tk_Mo nm_Mo hE.1.2.2.2.1 hE.2.1 hat rfl 6 (by decide) hL hF (hE.1.2.2.2.2 _ zm_443) (fun _ h => h) rfl hin rfl (ty := .array .int) (by decide +kernel) rfl rfl hl hdg kk
theorem fp_Mo_28 (hE : zz_E p m c cc nL s args R_Mo D ca) (hin : meth.name = "<init>") {fs : List Value} {q : Nat} (hat : va_at D zC (a, .inr (7, fs)) H) (hL : zz_L F locs) (hF : F a) (hl : 7 < fs.length) (hdg : decode cc pc = .ok (.putfield 28, 3)) (kk : ∀ (H1 : Heap) (locs1 : List Loc), va_at D zC (a, .inr (7, fs.set 7 (.ref q))) H1 → zz_up H H1 a → zz_L F locs1 → W p l e R s m args below meth c H1 locs1 cells slots Q (F0 m (pc + 3) ls rest)) : W p l e R s m args below meth c H locs cells slots Q (F0 m pc ls (.ref q :: .ref a :: rest)) :=
  zz_putF hE.1.1 hE.1.2.1 hE.1.2.2.2.2 in_Mo ty_Mo tk_Mo nm_Mo hE.1.2.2.2.1 hE.2.1 hat rfl 7 (by decide) hL hF (hE.1.2.2.2.2 _ zm_444) (fun _ h => h) rfl hin rfl (ty := .array .int) (by decide +kernel) rfl rfl hl hdg kk
theorem fp_Mo_31 (hE : zz_E p m c cc nL s args R_Mo D ca) (hin : meth.name = "<init>") {fs : List Value} {q : Nat} (hat : va_at D zC (a, .inr (7, fs)) H) (hL : zz_L F locs) (hF : F a) (hl : 8 < fs.length) (hdg : decode cc pc = .ok (.putfield 31, 3)) (kk : ∀ (H1 : Heap) (locs1 : List Loc), va_at D zC (a, .inr (7, fs.set 8 (.ref q))) H1 → zz_up H H1 a → zz_L F locs1 → W p l e R s m args below meth c H1 locs1 cells slots Q (F0 m (pc + 3) ls rest)) : W p l e R s m args below meth c H locs cells slots Q (F0 m pc ls (.ref q :: .ref a :: rest)) :=
  zz_putF hE.1.1 hE.1.2.1 hE.1.2.2.2.2 in_Mo ty_Mo tk_Mo nm_Mo hE.1.2.2.2.1 hE.2.1 hat rfl 8 (by decide) hL hF (hE.1.2.2.2.2 _ zm_445) (fun _ h => h) rfl hin rfl (ty := .array .int) (by decide +kernel) rfl rfl hl hdg kk
theorem fp_Mo_34 (hE : zz_E p m c cc nL s args R_Mo D ca) (hin : meth.name = "<init>") {fs : List Value} {q : Nat} (hat : va_at D zC (a, .inr (7, fs)) H) (hL : zz_L F locs) (hF : F a) (hl : 9 < fs.length) (hdg : decode cc pc = .ok (.putfield 34, 3)) (kk : ∀ (H1 : Heap) (locs1 : List Loc), va_at D zC (a, .inr (7, fs.set 9 (.ref q))) H1 → zz_up H H1 a → zz_L F locs1 → W p l e R s m args below meth c H1 locs1 cells slots Q (F0 m (pc + 3) ls rest)) : W p l e R s m args below meth c H locs cells slots Q (F0 m pc ls (.ref q :: .ref a :: rest)) :=
  zz_putF hE.1.1 hE.1.2.1 hE.1.2.2.2.2 in_Mo ty_Mo tk_Mo nm_Mo hE.1.2.2.2.1 hE.2.1 hat rfl 9 (by decide) hL hF (hE.1.2.2.2.2 _ zm_446) (fun _ h => h) rfl hin rfl (ty := .array .int) (by decide +kernel) rfl rfl hl hdg kk
theorem fp_Mo_37 (hE : zz_E p m c cc nL s args R_Mo D ca) (hin : meth.name = "<init>") {fs : List Value} {q : Nat} (hat : va_at D zC (a, .inr (7, fs)) H) (hL : zz_L F locs) (hF : F a) (hl : 10 < fs.length) (hdg : decode cc pc = .ok (.putfield 37, 3)) (kk : ∀ (H1 : Heap) (locs1 : List Loc), va_at D zC (a, .inr (7, fs.set 10 (.ref q))) H1 → zz_up H H1 a → zz_L F locs1 → W p l e R s m args below meth c H1 locs1 cells slots Q (F0 m (pc + 3) ls rest)) : W p l e R s m args below meth c H locs cells slots Q (F0 m pc ls (.ref q :: .ref a :: rest)) :=
  zz_putF hE.1.1 hE.1.2.1 hE.1.2.2.2.2 in_Mo ty_Mo tk_Mo nm_Mo hE.1.2.2.2.1 hE.2.1 hat rfl 10 (by decide) hL hF (hE.1.2.2.2.2 _ zm_447) (fun _ h => h) rfl hin rfl (ty := .array .int) (by decide +kernel) rfl rfl hl hdg kk
theorem fp_Mo_40 (hE : zz_E p m c cc nL s args R_Mo D ca) (hin : meth.name = "<init>") {fs : List Value} {q : Nat} (hat : va_at D zC (a, .inr (7, fs)) H) (hL : zz_L F locs) (hF : F a) (hl : 13 < fs.length) (hdg : decode cc pc = .ok (.putfield 40, 3)) (kk : ∀ (H1 : Heap) (locs1 : List Loc), va_at D zC (a, .inr (7, fs.set 13 (.ref q))) H1 → zz_up H H1 a → zz_L F locs1 → W p l e R s m args below meth c H1 locs1 cells slots Q (F0 m (pc + 3) ls rest)) : W p l e R s m args below meth c H locs cells slots Q (F0 m pc ls (.ref q :: .ref a :: rest)) :=
  zz_putF hE.1.1 hE.1.2.1 hE.1.2.2.2.2 in_Mo ty_Mo tk_Mo nm_Mo hE.1.2.2.2.1 hE.2.1 hat rfl 13 (by decide) hL hF (hE.1.2.2.2.2 _ zm_450) (fun _ h => h) rfl hin rfl (ty := .array .int) (by decide +kernel) rfl rfl hl hdg kk
theorem fp_Mo_43 (hE : zz_E p m c cc nL s args R_Mo D ca) (hin : meth.name = "<init>") {fs : List Value} {q : Nat} (hat : va_at D zC (a, .inr (7, fs)) H) (hL : zz_L F locs) (hF : F a) (hl : 14 < fs.length) (hdg : decode cc pc = .ok (.putfield 43, 3)) (kk : ∀ (H1 : Heap) (locs1 : List Loc), va_at D zC (a, .inr (7, fs.set 14 (.ref q))) H1 → zz_up H H1 a → zz_L F locs1 → W p l e R s m args below meth c H1 locs1 cells slots Q (F0 m (pc + 3) ls rest)) : W p l e R s m args below meth c H locs cells slots Q (F0 m pc ls (.ref q :: .ref a :: rest)) :=
  zz_putF hE.1.1 hE.1.2.1 hE.1.2.2.2.2 in_Mo ty_Mo tk_Mo nm_Mo hE.1.2.2.2.1 hE.2.1 hat rfl 14 (by decide) hL hF (hE.1.2.2.2.2 _ zm_451) (fun _ h => h) rfl hin rfl (ty := .array .int) (by decide +kernel) rfl rfl hl hdg kk
theorem fp_Mo_46 (hE : zz_E p m c cc nL s args R_Mo D ca) (hin : meth.name = "<init>") {fs : List Value} {q : Nat} (hat : va_at D zC (a, .inr (7, fs)) H) (hL : zz_L F locs) (hF : F a) (hl : 15 < fs.length) (hdg : decode cc pc = .ok (.putfield 46, 3)) (kk : ∀ (H1 : Heap) (locs1 : List Loc), va_at D zC (a, .inr (7, fs.set 15 (.ref q))) H1 → zz_up H H1 a → zz_L F locs1 → W p l e R s m args below meth c H1 locs1 cells slots Q (F0 m (pc + 3) ls rest)) : W p l e R s m args below meth c H locs cells slots Q (F0 m pc ls (.ref q :: .ref a :: rest)) :=
  zz_putF hE.1.1 hE.1.2.1 hE.1.2.2.2.2 in_Mo ty_Mo tk_Mo nm_Mo hE.1.2.2.2.1 hE.2.1 hat rfl 15 (by decide) hL hF (hE.1.2.2.2.2 _ zm_452) (fun _ h => h) rfl hin rfl (ty := .array .int) (by decide +kernel) rfl rfl hl hdg kk
theorem fp_Mo_49 (hE : zz_E p m c cc nL s args R_Mo D ca) (hin : meth.name = "<init>") {fs : List Value} {q : Nat} (hat : va_at D zC (a, .inr (7, fs)) H) (hL : zz_L F locs) (hF : F a) (hl : 16 < fs.length) (hdg : decode cc pc = .ok (.putfield 49, 3)) (kk : ∀ (H1 : Heap) (locs1 : List Loc), va_at D zC (a, .inr (7, fs.set 16 (.ref q))) H1 → zz_up H H1 a → zz_L F locs1 → W p l e R s m args below meth c H1 locs1 cells slots Q (F0 m (pc + 3) ls rest)) : W p l e R s m args below meth c H locs cells slots Q (F0 m pc ls (.ref q :: .ref a :: rest)) :=
  zz_putF hE.1.1 hE.1.2.1 hE.1.2.2.2.2 in_Mo ty_Mo tk_Mo nm_Mo hE.1.2.2.2.1 hE.2.1 hat rfl 16 (by decide) hL hF (hE.1.2.2.2.2 _ zm_453) (fun _ h => h) rfl hin rfl (ty := .array .int) (by decide +kernel) rfl rfl hl hdg kk
theorem fp_Mo_52 (hE : zz_E p m c cc nL s args R_Mo D ca) (hin : meth.name = "<init>") {fs : List Value} {q : Nat} (hat : va_at D zC (a, .inr (7, fs)) H) (hL : zz_L F locs) (hF : F a) (hl : 17 < fs.length) (hdg : decode cc pc = .ok (.putfield 52, 3)) (kk : ∀ (H1 : Heap) (locs1 : List Loc), va_at D zC (a, .inr (7, fs.set 17 (.ref q))) H1 → zz_up H H1 a → zz_L F locs1 → W p l e R s m args below meth c H1 locs1 cells slots Q (F0 m (pc + 3) ls rest)) : W p l e R s m args below meth c H locs cells slots Q (F0 m pc ls (.ref q :: .ref a :: rest)) :=
  zz_putF hE.1.1 hE.1.2.1 hE.1.2.2.2.2 in_Mo ty_Mo tk_Mo nm_Mo hE.1.2.2.2.1 hE.2.1 hat rfl 17 (by decide) hL hF (hE.1.2.2.2.2 _ zm_454) (fun _ h => h) rfl hin rfl (ty := .array .boolean) (by decide +kernel) rfl rfl hl hdg kk
theorem fp_Mo_56 (hE : zz_E p m c cc nL s args R_Mo D ca) (hin : meth.name = "<init>") {fs : List Value} {q : Nat} (hat : va_at D zC (a, .inr (7, fs)) H) (hL : zz_L F locs) (hF : F a) (hl : 19 < fs.length) (hdg : decode cc pc = .ok (.putfield 56, 3)) (kk : ∀ (H1 : Heap) (locs1 : List Loc), va_at D zC (a, .inr (7, fs.set 19 (.ref q))) H1 → zz_up H H1 a → zz_L F locs1 → W p l e R s m args below meth c H1 locs1 cells slots Q (F0 m (pc + 3) ls rest)) : W p l e R s m args below meth c H locs cells slots Q (F0 m pc ls (.ref q :: .ref a :: rest)) :=
  zz_putF hE.1.1 hE.1.2.1 hE.1.2.2.2.2 in_Mo ty_Mo tk_Mo nm_Mo hE.1.2.2.2.1 hE.2.1 hat rfl 19 (by decide) hL hF (hE.1.2.2.2.2 _ zm_456) (fun _ h => h) rfl hin rfl (ty := .array .int) (by decide +kernel) rfl rfl hl hdg kk
theorem fp_Mo_59 (hE : zz_E p m c cc nL s args R_Mo D ca) (hin : meth.name = "<init>") {fs : List Value} {q : Nat} (hat : va_at D zC (a, .inr (7, fs)) H) (hL : zz_L F locs) (hF : F a) (hl : 20 < fs.length) (hdg : decode cc pc = .ok (.putfield 59, 3)) (kk : ∀ (H1 : Heap) (locs1 : List Loc), va_at D zC (a, .inr (7, fs.set 20 (.ref q))) H1 → zz_up H H1 a → zz_L F locs1 → W p l e R s m args below meth c H1 locs1 cells slots Q (F0 m (pc + 3) ls rest)) : W p l e R s m args below meth c H locs cells slots Q (F0 m pc ls (.ref q :: .ref a :: rest)) :=
  zz_putF hE.1.1 hE.1.2.1 hE.1.2.2.2.2 in_Mo ty_Mo tk_Mo nm_Mo hE.1.2.2.2.1 hE.2.1 hat rfl 20 (by decide) hL hF (hE.1.2.2.2.2 _ zm_457) (fun _ h => h) rfl hin rfl (ty := .array .int) (by decide +kernel) rfl rfl hl hdg kk
theorem fp_Mo_62 (hE : zz_E p m c cc nL s args R_Mo D ca) (hin : meth.name = "<init>") {fs : List Value} {q : Nat} (hat : va_at D zC (a, .inr (7, fs)) H) (hL : zz_L F locs) (hF : F a) (hl : 21 < fs.length) (hdg : decode cc pc = .ok (.putfield 62, 3)) (kk : ∀ (H1 : Heap) (locs1 : List Loc), va_at D zC (a, .inr (7, fs.set 21 (.ref q))) H1 → zz_up H H1 a → zz_L F locs1 → W p l e R s m args below meth c H1 locs1 cells slots Q (F0 m (pc + 3) ls rest)) : W p l e R s m args below meth c H locs cells slots Q (F0 m pc ls (.ref q :: .ref a :: rest)) :=
  zz_putF hE.1.1 hE.1.2.1 hE.1.2.2.2.2 in_Mo ty_Mo tk_Mo nm_Mo hE.1.2.2.2.1 hE.2.1 hat rfl 21 (by decide) hL hF (hE.1.2.2.2.2 _ zm_458) (fun _ h => h) rfl hin rfl (ty := .array .int) (by decide +kernel) rfl rfl hl hdg kk
theorem fp_Mo_65 (hE : zz_E p m c cc nL s args R_Mo D ca) {fs : List Value} {x : Int32} (hat : va_at D zC (a, .inr (7, fs)) H) (hL : zz_L F locs) (hF : F a) (hl : 2 < fs.length) (hdg : decode cc pc = .ok (.putfield 65, 3)) (kk : ∀ (H1 : Heap) (locs1 : List Loc), va_at D zC (a, .inr (7, fs.set 2 (.int x))) H1 → zz_up H H1 a → zz_L F locs1 → W p l e R s m args below meth c H1 locs1 cells slots Q (F0 m (pc + 3) ls rest)) : W p l e R s m args below meth c H locs cells slots Q (F0 m pc ls (.int x :: .ref a :: rest)) :=
  zz_put hE.1.1 hE.1.2.1 hE.1.2.2.2.2 in_Mo ty_Mo tk_Mo nm_Mo hE.1.2.2.2.1 hE.2.1 hat rfl 2 (by decide) hL hF (hE.1.2.2.2.2 _ zm_439) (fun _ h => h) rfl (ty := .int) (by decide +kernel) rfl rfl hl hdg kk
theorem fp_Mo_73 (hE : zz_E p m c cc nL s args R_Mo D ca) {fs : List Value} {x : Int32} (hat : va_at D zC (a, .inr (7, fs)) H) (hL : zz_L F locs) (hF : F a) (hl : 18 < fs.length) (hdg : decode cc pc = .ok (.putfield 73, 3)) (kk : ∀ (H1 : Heap) (locs1 : List Loc), va_at D zC (a, .inr (7, fs.set 18 (.int x))) H1 → zz_up H H1 a → zz_L F locs1 → W p l e R s m args below meth c H1 locs1 cells slots Q (F0 m (pc + 3) ls rest)) : W p l e R s m args below meth c H locs cells slots Q (F0 m pc ls (.int x :: .ref a :: rest)) :=
  zz_put hE.1.1 hE.1.2.1 hE.1.2.2.2.2 in_Mo ty_Mo tk_Mo nm_Mo hE.1.2.2.2.1 hE.2.1 hat rfl 18 (by decide) hL hF (hE.1.2.2.2.2 _ zm_455) (fun _ h => h) rfl (ty := .int) (by decide +kernel) rfl rfl hl hdg kk
theorem fp_Mo_109 (hE : zz_E p m c cc nL s args R_Mo D ca) {fs : List Value} {x : Int32} (hat : va_at D zC (a, .inr (7, fs)) H) (hL : zz_L F locs) (hF : F a) (hl : 11 < fs.length) (hdg : decode cc pc = .ok (.putfield 109, 3)) (kk : ∀ (H1 : Heap) (locs1 : List Loc), va_at D zC (a, .inr (7, fs.set 11 (.int x))) H1 → zz_up H H1 a → zz_L F locs1 → W p l e R s m args below meth c H1 locs1 cells slots Q (F0 m (pc + 3) ls rest)) : W p l e R s m args below meth c H locs cells slots Q (F0 m pc ls (.int x :: .ref a :: rest)) :=
  zz_put hE.1.1 hE.1.2.1 hE.1.2.2.2.2 in_Mo ty_Mo tk_Mo nm_Mo hE.1.2.2.2.1 hE.2.1 hat rfl 11 (by decide) hL hF (hE.1.2.2.2.2 _ zm_448) (fun _ h => h) rfl (ty := .int) (by decide +kernel) rfl rfl hl hdg kk
theorem fp_Mo_130 (hE : zz_E p m c cc nL s args R_Mo D ca) {fs : List Value} {x : Int32} (hat : va_at D zC (a, .inr (7, fs)) H) (hL : zz_L F locs) (hF : F a) (hl : 12 < fs.length) (hdg : decode cc pc = .ok (.putfield 130, 3)) (kk : ∀ (H1 : Heap) (locs1 : List Loc), va_at D zC (a, .inr (7, fs.set 12 (.int x))) H1 → zz_up H H1 a → zz_L F locs1 → W p l e R s m args below meth c H1 locs1 cells slots Q (F0 m (pc + 3) ls rest)) : W p l e R s m args below meth c H locs cells slots Q (F0 m pc ls (.int x :: .ref a :: rest)) :=
  zz_put hE.1.1 hE.1.2.1 hE.1.2.2.2.2 in_Mo ty_Mo tk_Mo nm_Mo hE.1.2.2.2.1 hE.2.1 hat rfl 12 (by decide) hL hF (hE.1.2.2.2.2 _ zm_449) (fun _ h => h) rfl (ty := .int) (by decide +kernel) rfl rfl hl hdg kk
end ZE
end
section
/-! Calls: a row a link. -/
section ZCa
variable {p : Program} {l : Launch} {e : Env} {R : Room} {s : State} {m : MethodId} {args : Array Value} {below : List Frame} {meth : Method} {c : Code} {H : Heap} {locs : List Loc} {cells slots : Nat} {Q : State → Prop}
variable {cc bytes : ByteArray} {nL pc : Nat} {ls : Array Slot} {rest st0 As : List Value} {D : va_G} {ca : Nat → ClassId} {a b : Nat} {F : Nat → Prop} {rm : Room} {Pre : Heap → Prop} {P : Heap → Heap → Option Value → Prop} {mc ms n maxL index ci : Nat} {free : Addr → Prop} {fs : List Value} {y : MethodName} {ret : Option FieldType} {own C : String} {r : vw_C}
theorem zz_rV (hE : zz_E p m c cc nL s args own D ca) (hM : Met l y (Cond.code y bytes maxL ret :: zW) rm (zz_P D ca (.ref b :: As) Pre) (zz_Q P) mc ms free) (hlink : Cond.methodLink own index y ∈ zW) (hinst : Cond.instanceMethod y ∈ zW) (hsel : Cond.selects C y y ∈ zW) (hini : Cond.initialized C ∈ zW) (hcode : Cond.code y bytes maxL ret ∈ zW)
    (hd : y.cls = C ∧ y.cls ≠ "java/lang/invoke/MethodHandle" ∧ y.cls ≠ "java/lang/invoke/VarHandle" ∧ (parseMethodDescriptor y.desc).map (fun d => d.parameters.length) = some n) (hc : zC[ci]? = some r) (hrC : r.1 = C) (hrm : rm.cells = mc ∧ rm.slots = ms ∧ rm.frames + 1 ≤ R.frames ∧ 8 + (maxL + 11) + rm.locals ≤ R.locals) (hpre : Pre H) (hat : va_at D zC (b, .inr (ci, fs)) H) (hn : As.length = n) (hls : ls.size = nL) (hst : st0 = As.reverse ++ .ref b :: rest) (hro : (rest.map fun v => v.category).sum ≤ 8) (hdg : decode cc pc = .ok (.invokevirtual index, 3)) (hcs : cells + mc ≤ R.cells ∧ slots + ms ≤ R.slots) : va_Run p l e R s m args below meth c H locs cells slots mc ms (F0 m pc ls st0) rest (zz_Q P (.ref b :: As).toArray) free := by
  subst hst
  subst hrC
  have hG : GoodIn zW (wsV own index r.1 y (Cond.code y bytes maxL ret :: zW)) := fun w hw => by
    unfold wsV at hw
    rcases List.mem_append.mp hw with h | h
    · rcases List.mem_cons.mp h with rfl | h
      · exact zw_good hlink
      rcases List.mem_cons.mp h with rfl | h
      · exact zw_good hinst
      rcases List.mem_cons.mp h with rfl | h
      · exact zw_good hsel
      rcases List.mem_cons.mp h with rfl | h
      · exact zw_good hini
      cases h
    · exact zw_all hcode w h
  exact va_runV hE.1 hM (cwV n hE.1.2.2.2.2 hG rfl hrm.1 hrm.2.1 hd hrm.2.2) ⟨zz_blind, va_recv (q0 := 0) hE.2.1 (zz_one hat) hc rfl, fun U hU hW => ⟨rfl, hE.2.moved hW, by rw [hU]; exact hpre⟩⟩ rfl hn hls rfl (lv_room hro) hdg hcs
theorem zz_rS (hE : zz_E p m c cc nL s args own D ca) (hM : Met l y (Cond.code y bytes maxL ret :: zW) rm (zz_P D ca (As) Pre) (zz_Q P) mc ms free) (hlink : Cond.methodLink own index y ∈ zW) (hst2 : Cond.static y ∈ zW) (hini : Cond.initialized own ∈ zW) (hcode : Cond.code y bytes maxL ret ∈ zW)
    (hd : y.cls = own ∧ y.cls ≠ "java/lang/invoke/MethodHandle" ∧ y.cls ≠ "java/lang/invoke/VarHandle" ∧ (parseMethodDescriptor y.desc).map (fun d => d.parameters.length) = some n) (hrm : rm.cells = mc ∧ rm.slots = ms ∧ rm.frames + 1 ≤ R.frames ∧ 8 + (maxL + 11) + rm.locals ≤ R.locals) (hpre : Pre H) (hn : As.length = n) (hls : ls.size = nL) (hst : st0 = As.reverse ++ rest) (hro : (rest.map fun v => v.category).sum ≤ 8) (hdg : decode cc pc = .ok (.invokestatic index, 3)) (hcs : cells + mc ≤ R.cells ∧ slots + ms ≤ R.slots) : va_Run p l e R s m args below meth c H locs cells slots mc ms (F0 m pc ls st0) rest (zz_Q P (As).toArray) free := by
  subst hst
  have hG : GoodIn zW (wsS own index y (Cond.code y bytes maxL ret :: zW)) := fun w hw => by
    unfold wsS at hw
    rcases List.mem_append.mp hw with h | h
    · rcases List.mem_cons.mp h with rfl | h
      · exact zw_good hlink
      rcases List.mem_cons.mp h with rfl | h
      · exact zw_good hst2
      rcases List.mem_cons.mp h with rfl | h
      · exact zw_good hini
      cases h
    · exact zw_all hcode w h
  exact va_runS hE.1 hM (cwS n hE.1.2.2.2.2 hG rfl hrm.1 hrm.2.1 hd hrm.2.2) ⟨zz_blind, fun U hU hW => ⟨rfl, hE.2.moved hW, by rw [hU]; exact hpre⟩⟩ rfl hn hls rfl (lv_room hro) hdg hcs
theorem zz_rI (hE : zz_E p m c cc nL s args own D ca) (hM : Met l y (Cond.code y bytes maxL none :: zW) rm (zz_P D ca (.ref b :: As) Pre) (zz_Q P) mc ms free) (hlink : Cond.methodLink own index y ∈ zW) (hinst : Cond.instanceMethod y ∈ zW) (hini : Cond.initialized y.cls ∈ zW) (hcode : Cond.code y bytes maxL none ∈ zW) (hy : y.name = "<init>")
    (hd : y.cls ≠ "java/lang/invoke/MethodHandle" ∧ y.cls ≠ "java/lang/invoke/VarHandle" ∧ (parseMethodDescriptor y.desc).map (fun d => d.parameters.length) = some n) (hrm : rm.cells = mc ∧ rm.slots = ms ∧ rm.frames + 1 ≤ R.frames ∧ 8 + (maxL + 11) + rm.locals ≤ R.locals) (hpre : Pre H) (hn : As.length = n) (hls : ls.size = nL) (hst : st0 = As.reverse ++ .ref b :: rest) (hro : (rest.map fun v => v.category).sum ≤ 8) (hdg : decode cc pc = .ok (.invokespecial index, 3)) (hcs : cells + mc ≤ R.cells ∧ slots + ms ≤ R.slots) : va_Run p l e R s m args below meth c H locs cells slots mc ms (F0 m pc ls st0) rest (zz_Q P (.ref b :: As).toArray) free := by
  subst hst
  exact va_runI hE.1 hM (cwI n hE.1.2.2.2.2 (zw_all hcode) rfl hrm.1 hrm.2.1 (hE.1.2.2.2.2 _ hini) (hE.1.2.2.2.2 _ hlink) (hE.1.2.2.2.2 _ hinst) hy hd hrm.2.2) ⟨zz_blind, fun U hU hW => ⟨rfl, hE.2.moved hW, by rw [hU]; exact hpre⟩⟩ rfl hn hls rfl (lv_room hro) hdg hcs
theorem zz_rIN {host : String} (hE : zz_E p m c cc nL s args own D ca) (hM : Met l y (Cond.code y bytes maxL none :: zW) rm (zz_P D ca (.ref b :: As) Pre) (zz_Q P) mc ms free) (hlink : Cond.methodLinkNest own index y host ∈ zN) (hinst : Cond.instanceMethod y ∈ zW) (hini : Cond.initialized y.cls ∈ zW) (hcode : Cond.code y bytes maxL none ∈ zW) (hy : y.name = "<init>")
    (hd : y.cls ≠ "java/lang/invoke/MethodHandle" ∧ y.cls ≠ "java/lang/invoke/VarHandle" ∧ (parseMethodDescriptor y.desc).map (fun d => d.parameters.length) = some n) (hrm : rm.cells = mc ∧ rm.slots = ms ∧ rm.frames + 1 ≤ R.frames ∧ 8 + (maxL + 11) + rm.locals ≤ R.locals) (hpre : Pre H) (hn : As.length = n) (hls : ls.size = nL) (hst : st0 = As.reverse ++ .ref b :: rest) (hro : (rest.map fun v => v.category).sum ≤ 8) (hdg : decode cc pc = .ok (.invokespecial index, 3)) (hcs : cells + mc ≤ R.cells ∧ slots + ms ≤ R.slots) : va_Run p l e R s m args below meth c H locs cells slots mc ms (F0 m pc ls st0) rest (zz_Q P (.ref b :: As).toArray) free := by
  subst hst
  exact va_runIN hE.1 hM ⟨va_cnB n hE.1.2.2.2.2 (zw_all hcode) rfl hrm.1 hrm.2.1 (hE.2.2.1 _ hlink) (hE.1.2.2.2.2 _ hini) hd hrm.2.2, hy, hE.1.2.2.2.2 _ hinst⟩ ⟨zz_blind, fun U hU hW => ⟨rfl, hE.2.moved hW, by rw [hU]; exact hpre⟩⟩ rfl hn hls rfl (lv_room hro) hdg hcs
theorem cl_RM_23 (hE : zz_E p m c cc nL s args R_RM D ca) (hM : Met l y_Ru_init w_Ru_init rm (zz_P D ca (.ref b :: As) Pre) (zz_Q P) mc ms free) (hrm : rm.cells = mc ∧ rm.slots = ms ∧ rm.frames + 1 ≤ R.frames ∧ 8 + (1 + 11) + rm.locals ≤ R.locals) (hpre : Pre H) (hn : As.length = 0) (hls : ls.size = nL) (hst : st0 = As.reverse ++ .ref b :: rest) (hro : (rest.map fun v => v.category).sum ≤ 8) (hdg : decode cc pc = .ok (.invokespecial 23, 3)) (hcs : cells + mc ≤ R.cells ∧ slots + ms ≤ R.slots) : va_Run p l e R s m args below meth c H locs cells slots mc ms (F0 m pc ls st0) rest (zz_Q P (.ref b :: As).toArray) free :=
  zz_rIN (n := 0) hE hM zn_25 zm_26 zm_2 zm_27 rfl (by decide +kernel) hrm hpre hn hls hst hro hdg hcs
theorem cl_RM_32 (hE : zz_E p m c cc nL s args R_RM D ca) (hM : Met l y_En_init w_En_init rm (zz_P D ca (.ref b :: As) Pre) (zz_Q P) mc ms free) (hrm : rm.cells = mc ∧ rm.slots = ms ∧ rm.frames + 1 ≤ R.frames ∧ 8 + (1 + 11) + rm.locals ≤ R.locals) (hpre : Pre H) (hn : As.length = 0) (hls : ls.size = nL) (hst : st0 = As.reverse ++ .ref b :: rest) (hro : (rest.map fun v => v.category).sum ≤ 8) (hdg : decode cc pc = .ok (.invokespecial 32, 3)) (hcs : cells + mc ≤ R.cells ∧ slots + ms ≤ R.slots) : va_Run p l e R s m args below meth c H locs cells slots mc ms (F0 m pc ls st0) rest (zz_Q P (.ref b :: As).toArray) free :=
  zz_rIN (n := 0) hE hM zn_50 zm_51 zm_3 zm_52 rfl (by decide +kernel) hrm hpre hn hls hst hro hdg hcs
theorem cl_RM_33 (hE : zz_E p m c cc nL s args R_RM D ca) (hM : Met l y_RM_isField w_RM_isField rm (zz_P D ca (As) Pre) (zz_Q P) mc ms free) (hrm : rm.cells = mc ∧ rm.slots = ms ∧ rm.frames + 1 ≤ R.frames ∧ 8 + (1 + 11) + rm.locals ≤ R.locals) (hpre : Pre H) (hn : As.length = 1) (hls : ls.size = nL) (hst : st0 = As.reverse ++ rest) (hro : (rest.map fun v => v.category).sum ≤ 8) (hdg : decode cc pc = .ok (.invokestatic 33, 3)) (hcs : cells + mc ≤ R.cells ∧ slots + ms ≤ R.slots) : va_Run p l e R s m args below meth c H locs cells slots mc ms (F0 m pc ls st0) rest (zz_Q P (As).toArray) free :=
  zz_rS (n := 1) hE hM zm_111 zm_112 zm_1 zm_113 (by decide +kernel) hrm hpre hn hls hst hro hdg hcs
theorem cl_RM_41 (hE : zz_E p m c cc nL s args R_RM D ca) (hM : Met l y_RM_textOf w_RM_textOf rm (zz_P D ca (.ref b :: As) Pre) (zz_Q P) mc ms free) (hrm : rm.cells = mc ∧ rm.slots = ms ∧ rm.frames + 1 ≤ R.frames ∧ 8 + (3 + 11) + rm.locals ≤ R.locals) (hpre : Pre H) (hat : va_at D zC (b, .inr (6, fs)) H) (hn : As.length = 2) (hls : ls.size = nL) (hst : st0 = As.reverse ++ .ref b :: rest) (hro : (rest.map fun v => v.category).sum ≤ 8) (hdg : decode cc pc = .ok (.invokevirtual 41, 3)) (hcs : cells + mc ≤ R.cells ∧ slots + ms ≤ R.slots) : va_Run p l e R s m args below meth c H locs cells slots mc ms (F0 m pc ls st0) rest (zz_Q P (.ref b :: As).toArray) free :=
  zz_rV (n := 2) hE hM zm_114 zm_116 zp_RM_textOf zm_1 zm_117 (by decide +kernel) rfl rfl hrm hpre hat hn hls hst hro hdg hcs
theorem cl_RM_45 (hE : zz_E p m c cc nL s args R_RM D ca) (hM : Met l y_Te_take w_Te_take rm (zz_P D ca (.ref b :: As) Pre) (zz_Q P) mc ms free) (hrm : rm.cells = mc ∧ rm.slots = ms ∧ rm.frames + 1 ≤ R.frames ∧ 8 + (3 + 11) + rm.locals ≤ R.locals) (hpre : Pre H) (hat : va_at D zC (b, .inr (0, fs)) H) (hn : As.length = 1) (hls : ls.size = nL) (hst : st0 = As.reverse ++ .ref b :: rest) (hro : (rest.map fun v => v.category).sum ≤ 8) (hdg : decode cc pc = .ok (.invokevirtual 45, 3)) (hcs : cells + mc ≤ R.cells ∧ slots + ms ≤ R.slots) : va_Run p l e R s m args below meth c H locs cells slots mc ms (F0 m pc ls st0) rest (zz_Q P (.ref b :: As).toArray) free :=
  zz_rV (n := 1) hE hM zm_122 zm_123 zm_124 zm_4 zm_125 (by decide +kernel) rfl rfl hrm hpre hat hn hls hst hro hdg hcs
theorem cl_RM_51 (hE : zz_E p m c cc nL s args R_RM D ca) (hM : Met l y_Ru_end w_Ru_end rm (zz_P D ca (.ref b :: As) Pre) (zz_Q P) mc ms free) (hrm : rm.cells = mc ∧ rm.slots = ms ∧ rm.frames + 1 ≤ R.frames ∧ 8 + (1 + 11) + rm.locals ≤ R.locals) (hpre : Pre H) (hat : va_at D zC (b, .inr (5, fs)) H) (hn : As.length = 0) (hls : ls.size = nL) (hst : st0 = As.reverse ++ .ref b :: rest) (hro : (rest.map fun v => v.category).sum ≤ 8) (hdg : decode cc pc = .ok (.invokevirtual 51, 3)) (hcs : cells + mc ≤ R.cells ∧ slots + ms ≤ R.slots) : va_Run p l e R s m args below meth c H locs cells slots mc ms (F0 m pc ls st0) rest (zz_Q P (.ref b :: As).toArray) free :=
  zz_rV (n := 0) hE hM zm_140 zm_141 zm_142 zm_2 zm_143 (by decide +kernel) rfl rfl hrm hpre hat hn hls hst hro hdg hcs
theorem cl_RM_54 (hE : zz_E p m c cc nL s args R_RM D ca) (hM : Met l y_RM_isRecord w_RM_isRecord rm (zz_P D ca (.ref b :: As) Pre) (zz_Q P) mc ms free) (hrm : rm.cells = mc ∧ rm.slots = ms ∧ rm.frames + 1 ≤ R.frames ∧ 8 + (2 + 11) + rm.locals ≤ R.locals) (hpre : Pre H) (hat : va_at D zC (b, .inr (6, fs)) H) (hn : As.length = 1) (hls : ls.size = nL) (hst : st0 = As.reverse ++ .ref b :: rest) (hro : (rest.map fun v => v.category).sum ≤ 8) (hdg : decode cc pc = .ok (.invokevirtual 54, 3)) (hcs : cells + mc ≤ R.cells ∧ slots + ms ≤ R.slots) : va_Run p l e R s m args below meth c H locs cells slots mc ms (F0 m pc ls st0) rest (zz_Q P (.ref b :: As).toArray) free :=
  zz_rV (n := 1) hE hM zm_152 zm_154 zp_RM_isRecord zm_1 zm_155 (by decide +kernel) rfl rfl hrm hpre hat hn hls hst hro hdg hcs
theorem cl_RM_57 (hE : zz_E p m c cc nL s args R_RM D ca) (hM : Met l y_Te_wordSetSize w_Te_wordSetSize rm (zz_P D ca (.ref b :: As) Pre) (zz_Q P) mc ms free) (hrm : rm.cells = mc ∧ rm.slots = ms ∧ rm.frames + 1 ≤ R.frames ∧ 8 + (3 + 11) + rm.locals ≤ R.locals) (hpre : Pre H) (hat : va_at D zC (b, .inr (0, fs)) H) (hn : As.length = 0) (hls : ls.size = nL) (hst : st0 = As.reverse ++ .ref b :: rest) (hro : (rest.map fun v => v.category).sum ≤ 8) (hdg : decode cc pc = .ok (.invokevirtual 57, 3)) (hcs : cells + mc ≤ R.cells ∧ slots + ms ≤ R.slots) : va_Run p l e R s m args below meth c H locs cells slots mc ms (F0 m pc ls st0) rest (zz_Q P (.ref b :: As).toArray) free :=
  zz_rV (n := 0) hE hM zm_156 zm_157 zm_158 zm_4 zm_159 (by decide +kernel) rfl rfl hrm hpre hat hn hls hst hro hdg hcs
theorem cl_RM_73 (hE : zz_E p m c cc nL s args R_RM D ca) (hM : Met l y_Ja_init w_Ja_init rm (zz_P D ca (.ref b :: As) Pre) (zz_Q P) mc ms free) (hrm : rm.cells = mc ∧ rm.slots = ms ∧ rm.frames + 1 ≤ R.frames ∧ 8 + (4 + 11) + rm.locals ≤ R.locals) (hpre : Pre H) (hn : As.length = 3) (hls : ls.size = nL) (hst : st0 = As.reverse ++ .ref b :: rest) (hro : (rest.map fun v => v.category).sum ≤ 8) (hdg : decode cc pc = .ok (.invokespecial 73, 3)) (hcs : cells + mc ≤ R.cells ∧ slots + ms ≤ R.slots) : va_Run p l e R s m args below meth c H locs cells slots mc ms (F0 m pc ls st0) rest (zz_Q P (.ref b :: As).toArray) free :=
  zz_rI (n := 3) hE hM zm_190 zm_191 zm_7 zm_192 rfl (by decide +kernel) hrm hpre hn hls hst hro hdg hcs
theorem cl_RM_76 (hE : zz_E p m c cc nL s args R_RM D ca) (hM : Met l y_RM_push w_RM_push rm (zz_P D ca (.ref b :: As) Pre) (zz_Q P) mc ms free) (hrm : rm.cells = mc ∧ rm.slots = ms ∧ rm.frames + 1 ≤ R.frames ∧ 8 + (2 + 11) + rm.locals ≤ R.locals) (hpre : Pre H) (hat : va_at D zC (b, .inr (6, fs)) H) (hn : As.length = 1) (hls : ls.size = nL) (hst : st0 = As.reverse ++ .ref b :: rest) (hro : (rest.map fun v => v.category).sum ≤ 8) (hdg : decode cc pc = .ok (.invokevirtual 76, 3)) (hcs : cells + mc ≤ R.cells ∧ slots + ms ≤ R.slots) : va_Run p l e R s m args below meth c H locs cells slots mc ms (F0 m pc ls st0) rest (zz_Q P (.ref b :: As).toArray) free :=
  zz_rV (n := 1) hE hM zm_217 zm_219 zp_RM_push zm_1 zm_220 (by decide +kernel) rfl rfl hrm hpre hat hn hls hst hro hdg hcs
theorem cl_RM_82 (hE : zz_E p m c cc nL s args R_RM D ca) (hM : Met l y_Ed_init w_Ed_init rm (zz_P D ca (.ref b :: As) Pre) (zz_Q P) mc ms free) (hrm : rm.cells = mc ∧ rm.slots = ms ∧ rm.frames + 1 ≤ R.frames ∧ 8 + (3 + 11) + rm.locals ≤ R.locals) (hpre : Pre H) (hn : As.length = 2) (hls : ls.size = nL) (hst : st0 = As.reverse ++ .ref b :: rest) (hro : (rest.map fun v => v.category).sum ≤ 8) (hdg : decode cc pc = .ok (.invokespecial 82, 3)) (hcs : cells + mc ≤ R.cells ∧ slots + ms ≤ R.slots) : va_Run p l e R s m args below meth c H locs cells slots mc ms (F0 m pc ls st0) rest (zz_Q P (.ref b :: As).toArray) free :=
  zz_rI (n := 2) hE hM zm_227 zm_228 zm_8 zm_229 rfl (by decide +kernel) hrm hpre hn hls hst hro hdg hcs
theorem cl_RM_85 (hE : zz_E p m c cc nL s args R_RM D ca) (hM : Met l y_RM_fromTop w_RM_fromTop rm (zz_P D ca (.ref b :: As) Pre) (zz_Q P) mc ms free) (hrm : rm.cells = mc ∧ rm.slots = ms ∧ rm.frames + 1 ≤ R.frames ∧ 8 + (2 + 11) + rm.locals ≤ R.locals) (hpre : Pre H) (hat : va_at D zC (b, .inr (6, fs)) H) (hn : As.length = 1) (hls : ls.size = nL) (hst : st0 = As.reverse ++ .ref b :: rest) (hro : (rest.map fun v => v.category).sum ≤ 8) (hdg : decode cc pc = .ok (.invokevirtual 85, 3)) (hcs : cells + mc ≤ R.cells ∧ slots + ms ≤ R.slots) : va_Run p l e R s m args below meth c H locs cells slots mc ms (F0 m pc ls st0) rest (zz_Q P (.ref b :: As).toArray) free :=
  zz_rV (n := 1) hE hM zm_247 zm_249 zp_RM_fromTop zm_1 zm_250 (by decide +kernel) rfl rfl hrm hpre hat hn hls hst hro hdg hcs
theorem cl_RM_94 (hE : zz_E p m c cc nL s args R_RM D ca) (hM : Met l y_Jo_init w_Jo_init rm (zz_P D ca (.ref b :: As) Pre) (zz_Q P) mc ms free) (hrm : rm.cells = mc ∧ rm.slots = ms ∧ rm.frames + 1 ≤ R.frames ∧ 8 + (4 + 11) + rm.locals ≤ R.locals) (hpre : Pre H) (hn : As.length = 3) (hls : ls.size = nL) (hst : st0 = As.reverse ++ .ref b :: rest) (hro : (rest.map fun v => v.category).sum ≤ 8) (hdg : decode cc pc = .ok (.invokespecial 94, 3)) (hcs : cells + mc ≤ R.cells ∧ slots + ms ≤ R.slots) : va_Run p l e R s m args below meth c H locs cells slots mc ms (F0 m pc ls st0) rest (zz_Q P (.ref b :: As).toArray) free :=
  zz_rI (n := 3) hE hM zm_253 zm_254 zm_9 zm_255 rfl (by decide +kernel) hrm hpre hn hls hst hro hdg hcs
theorem cl_RM_105 (hE : zz_E p m c cc nL s args R_RM D ca) (hM : Met l y_RM_areTwoRecords w_RM_areTwoRecords rm (zz_P D ca (.ref b :: As) Pre) (zz_Q P) mc ms free) (hrm : rm.cells = mc ∧ rm.slots = ms ∧ rm.frames + 1 ≤ R.frames ∧ 8 + (3 + 11) + rm.locals ≤ R.locals) (hpre : Pre H) (hat : va_at D zC (b, .inr (6, fs)) H) (hn : As.length = 2) (hls : ls.size = nL) (hst : st0 = As.reverse ++ .ref b :: rest) (hro : (rest.map fun v => v.category).sum ≤ 8) (hdg : decode cc pc = .ok (.invokevirtual 105, 3)) (hcs : cells + mc ≤ R.cells ∧ slots + ms ≤ R.slots) : va_Run p l e R s m args below meth c H locs cells slots mc ms (F0 m pc ls st0) rest (zz_Q P (.ref b :: As).toArray) free :=
  zz_rV (n := 2) hE hM zm_281 zm_283 zp_RM_areTwoRecords zm_1 zm_284 (by decide +kernel) rfl rfl hrm hpre hat hn hls hst hro hdg hcs
theorem cl_RM_113 (hE : zz_E p m c cc nL s args R_RM D ca) (hM : Met l y_Ru_begin w_Ru_begin rm (zz_P D ca (.ref b :: As) Pre) (zz_Q P) mc ms free) (hrm : rm.cells = mc ∧ rm.slots = ms ∧ rm.frames + 1 ≤ R.frames ∧ 8 + (4 + 11) + rm.locals ≤ R.locals) (hpre : Pre H) (hat : va_at D zC (b, .inr (5, fs)) H) (hn : As.length = 2) (hls : ls.size = nL) (hst : st0 = As.reverse ++ .ref b :: rest) (hro : (rest.map fun v => v.category).sum ≤ 8) (hdg : decode cc pc = .ok (.invokevirtual 113, 3)) (hcs : cells + mc ≤ R.cells ∧ slots + ms ≤ R.slots) : va_Run p l e R s m args below meth c H locs cells slots mc ms (F0 m pc ls st0) rest (zz_Q P (.ref b :: As).toArray) free :=
  zz_rV (n := 2) hE hM zm_320 zm_321 zm_322 zm_2 zm_323 (by decide +kernel) rfl rfl hrm hpre hat hn hls hst hro hdg hcs
theorem cl_RM_116 (hE : zz_E p m c cc nL s args R_RM D ca) (hM : Met l y_Ru_isOpen w_Ru_isOpen rm (zz_P D ca (.ref b :: As) Pre) (zz_Q P) mc ms free) (hrm : rm.cells = mc ∧ rm.slots = ms ∧ rm.frames + 1 ≤ R.frames ∧ 8 + (1 + 11) + rm.locals ≤ R.locals) (hpre : Pre H) (hat : va_at D zC (b, .inr (5, fs)) H) (hn : As.length = 0) (hls : ls.size = nL) (hst : st0 = As.reverse ++ .ref b :: rest) (hro : (rest.map fun v => v.category).sum ≤ 8) (hdg : decode cc pc = .ok (.invokevirtual 116, 3)) (hcs : cells + mc ≤ R.cells ∧ slots + ms ≤ R.slots) : va_Run p l e R s m args below meth c H locs cells slots mc ms (F0 m pc ls st0) rest (zz_Q P (.ref b :: As).toArray) free :=
  zz_rV (n := 0) hE hM zm_328 zm_329 zm_330 zm_2 zm_331 (by decide +kernel) rfl rfl hrm hpre hat hn hls hst hro hdg hcs
theorem cl_RM_120 (hE : zz_E p m c cc nL s args R_RM D ca) (hM : Met l y_Ru_hasWorker w_Ru_hasWorker rm (zz_P D ca (.ref b :: As) Pre) (zz_Q P) mc ms free) (hrm : rm.cells = mc ∧ rm.slots = ms ∧ rm.frames + 1 ≤ R.frames ∧ 8 + (2 + 11) + rm.locals ≤ R.locals) (hpre : Pre H) (hat : va_at D zC (b, .inr (5, fs)) H) (hn : As.length = 1) (hls : ls.size = nL) (hst : st0 = As.reverse ++ .ref b :: rest) (hro : (rest.map fun v => v.category).sum ≤ 8) (hdg : decode cc pc = .ok (.invokevirtual 120, 3)) (hcs : cells + mc ≤ R.cells ∧ slots + ms ≤ R.slots) : va_Run p l e R s m args below meth c H locs cells slots mc ms (F0 m pc ls st0) rest (zz_Q P (.ref b :: As).toArray) free :=
  zz_rV (n := 1) hE hM zm_332 zm_333 zm_334 zm_2 zm_335 (by decide +kernel) rfl rfl hrm hpre hat hn hls hst hro hdg hcs
theorem cl_RM_123 (hE : zz_E p m c cc nL s args R_RM D ca) (hM : Met l y_Ru_nextTask w_Ru_nextTask rm (zz_P D ca (.ref b :: As) Pre) (zz_Q P) mc ms free) (hrm : rm.cells = mc ∧ rm.slots = ms ∧ rm.frames + 1 ≤ R.frames ∧ 8 + (2 + 11) + rm.locals ≤ R.locals) (hpre : Pre H) (hat : va_at D zC (b, .inr (5, fs)) H) (hn : As.length = 1) (hls : ls.size = nL) (hst : st0 = As.reverse ++ .ref b :: rest) (hro : (rest.map fun v => v.category).sum ≤ 8) (hdg : decode cc pc = .ok (.invokevirtual 123, 3)) (hcs : cells + mc ≤ R.cells ∧ slots + ms ≤ R.slots) : va_Run p l e R s m args below meth c H locs cells slots mc ms (F0 m pc ls st0) rest (zz_Q P (.ref b :: As).toArray) free :=
  zz_rV (n := 1) hE hM zm_336 zm_337 zm_338 zm_2 zm_339 (by decide +kernel) rfl rfl hrm hpre hat hn hls hst hro hdg hcs
theorem cl_RM_130 (hE : zz_E p m c cc nL s args R_RM D ca) (hM : Met l y_Ru_note w_Ru_note rm (zz_P D ca (.ref b :: As) Pre) (zz_Q P) mc ms free) (hrm : rm.cells = mc ∧ rm.slots = ms ∧ rm.frames + 1 ≤ R.frames ∧ 8 + (3 + 11) + rm.locals ≤ R.locals) (hpre : Pre H) (hat : va_at D zC (b, .inr (5, fs)) H) (hn : As.length = 2) (hls : ls.size = nL) (hst : st0 = As.reverse ++ .ref b :: rest) (hro : (rest.map fun v => v.category).sum ≤ 8) (hdg : decode cc pc = .ok (.invokevirtual 130, 3)) (hcs : cells + mc ≤ R.cells ∧ slots + ms ≤ R.slots) : va_Run p l e R s m args below meth c H locs cells slots mc ms (F0 m pc ls st0) rest (zz_Q P (.ref b :: As).toArray) free :=
  zz_rV (n := 2) hE hM zm_344 zm_345 zm_346 zm_2 zm_347 (by decide +kernel) rfl rfl hrm hpre hat hn hls hst hro hdg hcs
theorem cl_RM_133 (hE : zz_E p m c cc nL s args R_RM D ca) (hM : Met l y_Ru_finishTask w_Ru_finishTask rm (zz_P D ca (.ref b :: As) Pre) (zz_Q P) mc ms free) (hrm : rm.cells = mc ∧ rm.slots = ms ∧ rm.frames + 1 ≤ R.frames ∧ 8 + (2 + 11) + rm.locals ≤ R.locals) (hpre : Pre H) (hat : va_at D zC (b, .inr (5, fs)) H) (hn : As.length = 1) (hls : ls.size = nL) (hst : st0 = As.reverse ++ .ref b :: rest) (hro : (rest.map fun v => v.category).sum ≤ 8) (hdg : decode cc pc = .ok (.invokevirtual 133, 3)) (hcs : cells + mc ≤ R.cells ∧ slots + ms ≤ R.slots) : va_Run p l e R s m args below meth c H locs cells slots mc ms (F0 m pc ls st0) rest (zz_Q P (.ref b :: As).toArray) free :=
  zz_rV (n := 1) hE hM zm_351 zm_352 zm_353 zm_2 zm_354 (by decide +kernel) rfl rfl hrm hpre hat hn hls hst hro hdg hcs
theorem cl_RM_137 (hE : zz_E p m c cc nL s args R_RM D ca) (hM : Met l y_Ru_isDone w_Ru_isDone rm (zz_P D ca (.ref b :: As) Pre) (zz_Q P) mc ms free) (hrm : rm.cells = mc ∧ rm.slots = ms ∧ rm.frames + 1 ≤ R.frames ∧ 8 + (3 + 11) + rm.locals ≤ R.locals) (hpre : Pre H) (hat : va_at D zC (b, .inr (5, fs)) H) (hn : As.length = 0) (hls : ls.size = nL) (hst : st0 = As.reverse ++ .ref b :: rest) (hro : (rest.map fun v => v.category).sum ≤ 8) (hdg : decode cc pc = .ok (.invokevirtual 137, 3)) (hcs : cells + mc ≤ R.cells ∧ slots + ms ≤ R.slots) : va_Run p l e R s m args below meth c H locs cells slots mc ms (F0 m pc ls st0) rest (zz_Q P (.ref b :: As).toArray) free :=
  zz_rV (n := 0) hE hM zm_359 zm_360 zm_361 zm_2 zm_362 (by decide +kernel) rfl rfl hrm hpre hat hn hls hst hro hdg hcs
theorem cl_RM_140 (hE : zz_E p m c cc nL s args R_RM D ca) (hM : Met l y_Ru_undoTasks w_Ru_undoTasks rm (zz_P D ca (.ref b :: As) Pre) (zz_Q P) mc ms free) (hrm : rm.cells = mc ∧ rm.slots = ms ∧ rm.frames + 1 ≤ R.frames ∧ 8 + (4 + 11) + rm.locals ≤ R.locals) (hpre : Pre H) (hat : va_at D zC (b, .inr (5, fs)) H) (hn : As.length = 1) (hls : ls.size = nL) (hst : st0 = As.reverse ++ .ref b :: rest) (hro : (rest.map fun v => v.category).sum ≤ 8) (hdg : decode cc pc = .ok (.invokevirtual 140, 3)) (hcs : cells + mc ≤ R.cells ∧ slots + ms ≤ R.slots) : va_Run p l e R s m args below meth c H locs cells slots mc ms (F0 m pc ls st0) rest (zz_Q P (.ref b :: As).toArray) free :=
  zz_rV (n := 1) hE hM zm_363 zm_364 zm_365 zm_2 zm_366 (by decide +kernel) rfl rfl hrm hpre hat hn hls hst hro hdg hcs
theorem cl_RM_143 (hE : zz_E p m c cc nL s args R_RM D ca) (hM : Met l y_Ru_countPairs w_Ru_countPairs rm (zz_P D ca (.ref b :: As) Pre) (zz_Q P) mc ms free) (hrm : rm.cells = mc ∧ rm.slots = ms ∧ rm.frames + 1 ≤ R.frames ∧ 8 + (4 + 11) + rm.locals ≤ R.locals) (hpre : Pre H) (hat : va_at D zC (b, .inr (5, fs)) H) (hn : As.length = 0) (hls : ls.size = nL) (hst : st0 = As.reverse ++ .ref b :: rest) (hro : (rest.map fun v => v.category).sum ≤ 8) (hdg : decode cc pc = .ok (.invokevirtual 143, 3)) (hcs : cells + mc ≤ R.cells ∧ slots + ms ≤ R.slots) : va_Run p l e R s m args below meth c H locs cells slots mc ms (F0 m pc ls st0) rest (zz_Q P (.ref b :: As).toArray) free :=
  zz_rV (n := 0) hE hM zm_375 zm_376 zm_377 zm_2 zm_378 (by decide +kernel) rfl rfl hrm hpre hat hn hls hst hro hdg hcs
theorem cl_RM_155 (hE : zz_E p m c cc nL s args R_RM D ca) (hM : Met l y_Ru_isNoted w_Ru_isNoted rm (zz_P D ca (.ref b :: As) Pre) (zz_Q P) mc ms free) (hrm : rm.cells = mc ∧ rm.slots = ms ∧ rm.frames + 1 ≤ R.frames ∧ 8 + (3 + 11) + rm.locals ≤ R.locals) (hpre : Pre H) (hat : va_at D zC (b, .inr (5, fs)) H) (hn : As.length = 2) (hls : ls.size = nL) (hst : st0 = As.reverse ++ .ref b :: rest) (hro : (rest.map fun v => v.category).sum ≤ 8) (hdg : decode cc pc = .ok (.invokevirtual 155, 3)) (hcs : cells + mc ≤ R.cells ∧ slots + ms ≤ R.slots) : va_Run p l e R s m args below meth c H locs cells slots mc ms (F0 m pc ls st0) rest (zz_Q P (.ref b :: As).toArray) free :=
  zz_rV (n := 2) hE hM zm_391 zm_380 zm_381 zm_2 zm_382 (by decide +kernel) rfl rfl hrm hpre hat hn hls hst hro hdg hcs
theorem cl_RM_158 (hE : zz_E p m c cc nL s args R_RM D ca) (hM : Met l y_Ru_gather w_Ru_gather rm (zz_P D ca (.ref b :: As) Pre) (zz_Q P) mc ms free) (hrm : rm.cells = mc ∧ rm.slots = ms ∧ rm.frames + 1 ≤ R.frames ∧ 8 + (3 + 11) + rm.locals ≤ R.locals) (hpre : Pre H) (hat : va_at D zC (b, .inr (5, fs)) H) (hn : As.length = 0) (hls : ls.size = nL) (hst : st0 = As.reverse ++ .ref b :: rest) (hro : (rest.map fun v => v.category).sum ≤ 8) (hdg : decode cc pc = .ok (.invokevirtual 158, 3)) (hcs : cells + mc ≤ R.cells ∧ slots + ms ≤ R.slots) : va_Run p l e R s m args below meth c H locs cells slots mc ms (F0 m pc ls st0) rest (zz_Q P (.ref b :: As).toArray) free :=
  zz_rV (n := 0) hE hM zm_396 zm_397 zm_398 zm_2 zm_399 (by decide +kernel) rfl rfl hrm hpre hat hn hls hst hro hdg hcs
theorem cl_RM_164 (hE : zz_E p m c cc nL s args R_RM D ca) (hM : Met l y_RM_bestOfCluster w_RM_bestOfCluster rm (zz_P D ca (.ref b :: As) Pre) (zz_Q P) mc ms free) (hrm : rm.cells = mc ∧ rm.slots = ms ∧ rm.frames + 1 ≤ R.frames ∧ 8 + (5 + 11) + rm.locals ≤ R.locals) (hpre : Pre H) (hat : va_at D zC (b, .inr (6, fs)) H) (hn : As.length = 2) (hls : ls.size = nL) (hst : st0 = As.reverse ++ .ref b :: rest) (hro : (rest.map fun v => v.category).sum ≤ 8) (hdg : decode cc pc = .ok (.invokevirtual 164, 3)) (hcs : cells + mc ≤ R.cells ∧ slots + ms ≤ R.slots) : va_Run p l e R s m args below meth c H locs cells slots mc ms (F0 m pc ls st0) rest (zz_Q P (.ref b :: As).toArray) free :=
  zz_rV (n := 2) hE hM zm_414 zm_416 zp_RM_bestOfCluster zm_1 zm_417 (by decide +kernel) rfl rfl hrm hpre hat hn hls hst hro hdg hcs
theorem cl_RM_167 (hE : zz_E p m c cc nL s args R_RM D ca) (hM : Met l y_En_text w_En_text rm (zz_P D ca (.ref b :: As) Pre) (zz_Q P) mc ms free) (hrm : rm.cells = mc ∧ rm.slots = ms ∧ rm.frames + 1 ≤ R.frames ∧ 8 + (2 + 11) + rm.locals ≤ R.locals) (hpre : Pre H) (hat : va_at D zC (b, .inr (1, fs)) H) (hn : As.length = 1) (hls : ls.size = nL) (hst : st0 = As.reverse ++ .ref b :: rest) (hro : (rest.map fun v => v.category).sum ≤ 8) (hdg : decode cc pc = .ok (.invokevirtual 167, 3)) (hcs : cells + mc ≤ R.cells ∧ slots + ms ≤ R.slots) : va_Run p l e R s m args below meth c H locs cells slots mc ms (F0 m pc ls st0) rest (zz_Q P (.ref b :: As).toArray) free :=
  zz_rV (n := 1) hE hM zm_118 zm_119 zm_120 zm_3 zm_121 (by decide +kernel) rfl rfl hrm hpre hat hn hls hst hro hdg hcs
theorem cl_RM_171 (hE : zz_E p m c cc nL s args R_RM D ca) (hM : Met l y_RM_isBetter w_RM_isBetter rm (zz_P D ca (.ref b :: As) Pre) (zz_Q P) mc ms free) (hrm : rm.cells = mc ∧ rm.slots = ms ∧ rm.frames + 1 ≤ R.frames ∧ 8 + (6 + 11) + rm.locals ≤ R.locals) (hpre : Pre H) (hat : va_at D zC (b, .inr (6, fs)) H) (hn : As.length = 3) (hls : ls.size = nL) (hst : st0 = As.reverse ++ .ref b :: rest) (hro : (rest.map fun v => v.category).sum ≤ 8) (hdg : decode cc pc = .ok (.invokevirtual 171, 3)) (hcs : cells + mc ≤ R.cells ∧ slots + ms ≤ R.slots) : va_Run p l e R s m args below meth c H locs cells slots mc ms (F0 m pc ls st0) rest (zz_Q P (.ref b :: As).toArray) free :=
  zz_rV (n := 3) hE hM zm_418 zm_420 zp_RM_isBetter zm_1 zm_421 (by decide +kernel) rfl rfl hrm hpre hat hn hls hst hro hdg hcs
theorem cl_RM_175 (hE : zz_E p m c cc nL s args R_RM D ca) (hM : Met l y_RM_countHavingTextOf w_RM_countHavingTextOf rm (zz_P D ca (.ref b :: As) Pre) (zz_Q P) mc ms free) (hrm : rm.cells = mc ∧ rm.slots = ms ∧ rm.frames + 1 ≤ R.frames ∧ 8 + (6 + 11) + rm.locals ≤ R.locals) (hpre : Pre H) (hat : va_at D zC (b, .inr (6, fs)) H) (hn : As.length = 2) (hls : ls.size = nL) (hst : st0 = As.reverse ++ .ref b :: rest) (hro : (rest.map fun v => v.category).sum ≤ 8) (hdg : decode cc pc = .ok (.invokevirtual 175, 3)) (hcs : cells + mc ≤ R.cells ∧ slots + ms ≤ R.slots) : va_Run p l e R s m args below meth c H locs cells slots mc ms (F0 m pc ls st0) rest (zz_Q P (.ref b :: As).toArray) free :=
  zz_rV (n := 2) hE hM zm_422 zm_424 zp_RM_countHavingTextOf zm_1 zm_425 (by decide +kernel) rfl rfl hrm hpre hat hn hls hst hro hdg hcs
theorem cl_RM_178 (hE : zz_E p m c cc nL s args R_RM D ca) (hM : Met l y_Te_compareWith w_Te_compareWith rm (zz_P D ca (.ref b :: As) Pre) (zz_Q P) mc ms free) (hrm : rm.cells = mc ∧ rm.slots = ms ∧ rm.frames + 1 ≤ R.frames ∧ 8 + (4 + 11) + rm.locals ≤ R.locals) (hpre : Pre H) (hat : va_at D zC (b, .inr (0, fs)) H) (hn : As.length = 1) (hls : ls.size = nL) (hst : st0 = As.reverse ++ .ref b :: rest) (hro : (rest.map fun v => v.category).sum ≤ 8) (hdg : decode cc pc = .ok (.invokevirtual 178, 3)) (hcs : cells + mc ≤ R.cells ∧ slots + ms ≤ R.slots) : va_Run p l e R s m args below meth c H locs cells slots mc ms (F0 m pc ls st0) rest (zz_Q P (.ref b :: As).toArray) free :=
  zz_rV (n := 1) hE hM zm_426 zm_427 zm_428 zm_4 zm_429 (by decide +kernel) rfl rfl hrm hpre hat hn hls hst hro hdg hcs
theorem cl_Ed_3 (hE : zz_E p m c cc nL s args R_Ed D ca) (hM : Met l y_Ex_init w_Ex_init rm (zz_P D ca (.ref b :: As) Pre) (zz_Q P) mc ms free) (hrm : rm.cells = mc ∧ rm.slots = ms ∧ rm.frames + 1 ≤ R.frames ∧ 8 + (3 + 11) + rm.locals ≤ R.locals) (hpre : Pre H) (hn : As.length = 2) (hls : ls.size = nL) (hst : st0 = As.reverse ++ .ref b :: rest) (hro : (rest.map fun v => v.category).sum ≤ 8) (hdg : decode cc pc = .ok (.invokespecial 3, 3)) (hcs : cells + mc ≤ R.cells ∧ slots + ms ≤ R.slots) : va_Run p l e R s m args below meth c H locs cells slots mc ms (F0 m pc ls st0) rest (zz_Q P (.ref b :: As).toArray) free :=
  zz_rI (n := 2) hE hM zm_230 zm_194 zm_6 zm_195 rfl (by decide +kernel) hrm hpre hn hls hst hro hdg hcs
theorem cl_Ed_22 (hE : zz_E p m c cc nL s args R_Ed D ca) (hM : Met l y_En_text w_En_text rm (zz_P D ca (.ref b :: As) Pre) (zz_Q P) mc ms free) (hrm : rm.cells = mc ∧ rm.slots = ms ∧ rm.frames + 1 ≤ R.frames ∧ 8 + (2 + 11) + rm.locals ≤ R.locals) (hpre : Pre H) (hat : va_at D zC (b, .inr (1, fs)) H) (hn : As.length = 1) (hls : ls.size = nL) (hst : st0 = As.reverse ++ .ref b :: rest) (hro : (rest.map fun v => v.category).sum ≤ 8) (hdg : decode cc pc = .ok (.invokevirtual 22, 3)) (hcs : cells + mc ≤ R.cells ∧ slots + ms ≤ R.slots) : va_Run p l e R s m args below meth c H locs cells slots mc ms (F0 m pc ls st0) rest (zz_Q P (.ref b :: As).toArray) free :=
  zz_rV (n := 1) hE hM zm_291 zm_119 zm_120 zm_3 zm_121 (by decide +kernel) rfl rfl hrm hpre hat hn hls hst hro hdg hcs
theorem cl_Ed_28 (hE : zz_E p m c cc nL s args R_Ed D ca) (hM : Met l y_Ed_countSteps w_Ed_countSteps rm (zz_P D ca (.ref b :: As) Pre) (zz_Q P) mc ms free) (hrm : rm.cells = mc ∧ rm.slots = ms ∧ rm.frames + 1 ≤ R.frames ∧ 8 + (4 + 11) + rm.locals ≤ R.locals) (hpre : Pre H) (hat : va_at D zC (b, .inr (3, fs)) H) (hn : As.length = 2) (hls : ls.size = nL) (hst : st0 = As.reverse ++ .ref b :: rest) (hro : (rest.map fun v => v.category).sum ≤ 8) (hdg : decode cc pc = .ok (.invokevirtual 28, 3)) (hcs : cells + mc ≤ R.cells ∧ slots + ms ≤ R.slots) : va_Run p l e R s m args below meth c H locs cells slots mc ms (F0 m pc ls st0) rest (zz_Q P (.ref b :: As).toArray) free :=
  zz_rV (n := 2) hE hM zm_292 zm_294 zp_Ed_countSteps zm_8 zm_295 (by decide +kernel) rfl rfl hrm hpre hat hn hls hst hro hdg hcs
theorem cl_Ed_41 (hE : zz_E p m c cc nL s args R_Ed D ca) (hM : Met l y_Ed_goThrough w_Ed_goThrough rm (zz_P D ca (.ref b :: As) Pre) (zz_Q P) mc ms free) (hrm : rm.cells = mc ∧ rm.slots = ms ∧ rm.frames + 1 ≤ R.frames ∧ 8 + (6 + 11) + rm.locals ≤ R.locals) (hpre : Pre H) (hat : va_at D zC (b, .inr (3, fs)) H) (hn : As.length = 2) (hls : ls.size = nL) (hst : st0 = As.reverse ++ .ref b :: rest) (hro : (rest.map fun v => v.category).sum ≤ 8) (hdg : decode cc pc = .ok (.invokevirtual 41, 3)) (hcs : cells + mc ≤ R.cells ∧ slots + ms ≤ R.slots) : va_Run p l e R s m args below meth c H locs cells slots mc ms (F0 m pc ls st0) rest (zz_Q P (.ref b :: As).toArray) free :=
  zz_rV (n := 2) hE hM zm_296 zm_298 zp_Ed_goThrough zm_8 zm_299 (by decide +kernel) rfl rfl hrm hpre hat hn hls hst hro hdg hcs
theorem cl_En_9 (hE : zz_E p m c cc nL s args R_En D ca) (hM : Met l y_Te_init w_Te_init rm (zz_P D ca (.ref b :: As) Pre) (zz_Q P) mc ms free) (hrm : rm.cells = mc ∧ rm.slots = ms ∧ rm.frames + 1 ≤ R.frames ∧ 8 + (1 + 11) + rm.locals ≤ R.locals) (hpre : Pre H) (hn : As.length = 0) (hls : ls.size = nL) (hst : st0 = As.reverse ++ .ref b :: rest) (hro : (rest.map fun v => v.category).sum ≤ 8) (hdg : decode cc pc = .ok (.invokespecial 9, 3)) (hcs : cells + mc ≤ R.cells ∧ slots + ms ≤ R.slots) : va_Run p l e R s m args below meth c H locs cells slots mc ms (F0 m pc ls st0) rest (zz_Q P (.ref b :: As).toArray) free :=
  zz_rIN (n := 0) hE hM zn_56 zm_57 zm_4 zm_58 rfl (by decide +kernel) hrm hpre hn hls hst hro hdg hcs
theorem cl_Ja_1 (hE : zz_E p m c cc nL s args R_Ja D ca) (hM : Met l y_Ex_init w_Ex_init rm (zz_P D ca (.ref b :: As) Pre) (zz_Q P) mc ms free) (hrm : rm.cells = mc ∧ rm.slots = ms ∧ rm.frames + 1 ≤ R.frames ∧ 8 + (3 + 11) + rm.locals ≤ R.locals) (hpre : Pre H) (hn : As.length = 2) (hls : ls.size = nL) (hst : st0 = As.reverse ++ .ref b :: rest) (hro : (rest.map fun v => v.category).sum ≤ 8) (hdg : decode cc pc = .ok (.invokespecial 1, 3)) (hcs : cells + mc ≤ R.cells ∧ slots + ms ≤ R.slots) : va_Run p l e R s m args below meth c H locs cells slots mc ms (F0 m pc ls st0) rest (zz_Q P (.ref b :: As).toArray) free :=
  zz_rI (n := 2) hE hM zm_193 zm_194 zm_6 zm_195 rfl (by decide +kernel) hrm hpre hn hls hst hro hdg hcs
theorem cl_Ja_19 (hE : zz_E p m c cc nL s args R_Ja D ca) (hM : Met l y_En_text w_En_text rm (zz_P D ca (.ref b :: As) Pre) (zz_Q P) mc ms free) (hrm : rm.cells = mc ∧ rm.slots = ms ∧ rm.frames + 1 ≤ R.frames ∧ 8 + (2 + 11) + rm.locals ≤ R.locals) (hpre : Pre H) (hat : va_at D zC (b, .inr (1, fs)) H) (hn : As.length = 1) (hls : ls.size = nL) (hst : st0 = As.reverse ++ .ref b :: rest) (hro : (rest.map fun v => v.category).sum ≤ 8) (hdg : decode cc pc = .ok (.invokevirtual 19, 3)) (hcs : cells + mc ≤ R.cells ∧ slots + ms ≤ R.slots) : va_Run p l e R s m args below meth c H locs cells slots mc ms (F0 m pc ls st0) rest (zz_Q P (.ref b :: As).toArray) free :=
  zz_rV (n := 1) hE hM zm_306 zm_119 zm_120 zm_3 zm_121 (by decide +kernel) rfl rfl hrm hpre hat hn hls hst hro hdg hcs
theorem cl_Ja_25 (hE : zz_E p m c cc nL s args R_Ja D ca) (hM : Met l y_Te_countWordsSharedWith w_Te_countWordsSharedWith rm (zz_P D ca (.ref b :: As) Pre) (zz_Q P) mc ms free) (hrm : rm.cells = mc ∧ rm.slots = ms ∧ rm.frames + 1 ≤ R.frames ∧ 8 + (4 + 11) + rm.locals ≤ R.locals) (hpre : Pre H) (hat : va_at D zC (b, .inr (0, fs)) H) (hn : As.length = 1) (hls : ls.size = nL) (hst : st0 = As.reverse ++ .ref b :: rest) (hro : (rest.map fun v => v.category).sum ≤ 8) (hdg : decode cc pc = .ok (.invokevirtual 25, 3)) (hcs : cells + mc ≤ R.cells ∧ slots + ms ≤ R.slots) : va_Run p l e R s m args below meth c H locs cells slots mc ms (F0 m pc ls st0) rest (zz_Q P (.ref b :: As).toArray) free :=
  zz_rV (n := 1) hE hM zm_307 zm_308 zm_309 zm_4 zm_310 (by decide +kernel) rfl rfl hrm hpre hat hn hls hst hro hdg hcs
theorem cl_Ja_31 (hE : zz_E p m c cc nL s args R_Ja D ca) (hM : Met l y_Te_wordSetSize w_Te_wordSetSize rm (zz_P D ca (.ref b :: As) Pre) (zz_Q P) mc ms free) (hrm : rm.cells = mc ∧ rm.slots = ms ∧ rm.frames + 1 ≤ R.frames ∧ 8 + (3 + 11) + rm.locals ≤ R.locals) (hpre : Pre H) (hat : va_at D zC (b, .inr (0, fs)) H) (hn : As.length = 0) (hls : ls.size = nL) (hst : st0 = As.reverse ++ .ref b :: rest) (hro : (rest.map fun v => v.category).sum ≤ 8) (hdg : decode cc pc = .ok (.invokevirtual 31, 3)) (hcs : cells + mc ≤ R.cells ∧ slots + ms ≤ R.slots) : va_Run p l e R s m args below meth c H locs cells slots mc ms (F0 m pc ls st0) rest (zz_Q P (.ref b :: As).toArray) free :=
  zz_rV (n := 0) hE hM zm_311 zm_157 zm_158 zm_4 zm_159 (by decide +kernel) rfl rfl hrm hpre hat hn hls hst hro hdg hcs
theorem cl_Jo_11 (hE : zz_E p m c cc nL s args R_Jo D ca) (hM : Met l y_Ex_init w_Ex_init rm (zz_P D ca (.ref b :: As) Pre) (zz_Q P) mc ms free) (hrm : rm.cells = mc ∧ rm.slots = ms ∧ rm.frames + 1 ≤ R.frames ∧ 8 + (3 + 11) + rm.locals ≤ R.locals) (hpre : Pre H) (hn : As.length = 2) (hls : ls.size = nL) (hst : st0 = As.reverse ++ .ref b :: rest) (hro : (rest.map fun v => v.category).sum ≤ 8) (hdg : decode cc pc = .ok (.invokespecial 11, 3)) (hcs : cells + mc ≤ R.cells ∧ slots + ms ≤ R.slots) : va_Run p l e R s m args below meth c H locs cells slots mc ms (F0 m pc ls st0) rest (zz_Q P (.ref b :: As).toArray) free :=
  zz_rI (n := 2) hE hM zm_256 zm_194 zm_6 zm_195 rfl (by decide +kernel) hrm hpre hn hls hst hro hdg hcs
theorem cl_Ru_29 (hE : zz_E p m c cc nL s args R_Ru D ca) (hM : Met l y_Ru_taskOf w_Ru_taskOf rm (zz_P D ca (.ref b :: As) Pre) (zz_Q P) mc ms free) (hrm : rm.cells = mc ∧ rm.slots = ms ∧ rm.frames + 1 ≤ R.frames ∧ 8 + (3 + 11) + rm.locals ≤ R.locals) (hpre : Pre H) (hat : va_at D zC (b, .inr (5, fs)) H) (hn : As.length = 2) (hls : ls.size = nL) (hst : st0 = As.reverse ++ .ref b :: rest) (hro : (rest.map fun v => v.category).sum ≤ 8) (hdg : decode cc pc = .ok (.invokevirtual 29, 3)) (hcs : cells + mc ≤ R.cells ∧ slots + ms ≤ R.slots) : va_Run p l e R s m args below meth c H locs cells slots mc ms (F0 m pc ls st0) rest (zz_Q P (.ref b :: As).toArray) free :=
  zz_rV (n := 2) hE hM zm_340 zm_342 zp_Ru_taskOf zm_2 zm_343 (by decide +kernel) rfl rfl hrm hpre hat hn hls hst hro hdg hcs
theorem cl_Ru_33 (hE : zz_E p m c cc nL s args R_Ru D ca) (hM : Met l y_Ru_forgetPairsOf w_Ru_forgetPairsOf rm (zz_P D ca (.ref b :: As) Pre) (zz_Q P) mc ms free) (hrm : rm.cells = mc ∧ rm.slots = ms ∧ rm.frames + 1 ≤ R.frames ∧ 8 + (3 + 11) + rm.locals ≤ R.locals) (hpre : Pre H) (hat : va_at D zC (b, .inr (5, fs)) H) (hn : As.length = 1) (hls : ls.size = nL) (hst : st0 = As.reverse ++ .ref b :: rest) (hro : (rest.map fun v => v.category).sum ≤ 8) (hdg : decode cc pc = .ok (.invokevirtual 33, 3)) (hcs : cells + mc ≤ R.cells ∧ slots + ms ≤ R.slots) : va_Run p l e R s m args below meth c H locs cells slots mc ms (F0 m pc ls st0) rest (zz_Q P (.ref b :: As).toArray) free :=
  zz_rV (n := 1) hE hM zm_367 zm_369 zp_Ru_forgetPairsOf zm_2 zm_370 (by decide +kernel) rfl rfl hrm hpre hat hn hls hst hro hdg hcs
theorem cl_Ru_37 (hE : zz_E p m c cc nL s args R_Ru D ca) (hM : Met l y_Ru_placeOf w_Ru_placeOf rm (zz_P D ca (As) Pre) (zz_Q P) mc ms free) (hrm : rm.cells = mc ∧ rm.slots = ms ∧ rm.frames + 1 ≤ R.frames ∧ 8 + (2 + 11) + rm.locals ≤ R.locals) (hpre : Pre H) (hn : As.length = 2) (hls : ls.size = nL) (hst : st0 = As.reverse ++ rest) (hro : (rest.map fun v => v.category).sum ≤ 8) (hdg : decode cc pc = .ok (.invokestatic 37, 3)) (hcs : cells + mc ≤ R.cells ∧ slots + ms ≤ R.slots) : va_Run p l e R s m args below meth c H locs cells slots mc ms (F0 m pc ls st0) rest (zz_Q P (As).toArray) free :=
  zz_rS (n := 2) hE hM zm_348 zm_349 zm_2 zm_350 (by decide +kernel) hrm hpre hn hls hst hro hdg hcs
theorem cl_Ru_40 (hE : zz_E p m c cc nL s args R_Ru D ca) (hM : Met l y_Ru_isNoted w_Ru_isNoted rm (zz_P D ca (.ref b :: As) Pre) (zz_Q P) mc ms free) (hrm : rm.cells = mc ∧ rm.slots = ms ∧ rm.frames + 1 ≤ R.frames ∧ 8 + (3 + 11) + rm.locals ≤ R.locals) (hpre : Pre H) (hat : va_at D zC (b, .inr (5, fs)) H) (hn : As.length = 2) (hls : ls.size = nL) (hst : st0 = As.reverse ++ .ref b :: rest) (hro : (rest.map fun v => v.category).sum ≤ 8) (hdg : decode cc pc = .ok (.invokevirtual 40, 3)) (hcs : cells + mc ≤ R.cells ∧ slots + ms ≤ R.slots) : va_Run p l e R s m args below meth c H locs cells slots mc ms (F0 m pc ls st0) rest (zz_Q P (.ref b :: As).toArray) free :=
  zz_rV (n := 2) hE hM zm_379 zm_380 zm_381 zm_2 zm_382 (by decide +kernel) rfl rfl hrm hpre hat hn hls hst hro hdg hcs
theorem cl_Ru_44 (hE : zz_E p m c cc nL s args R_Ru D ca) (hM : Met l y_Ru_unite w_Ru_unite rm (zz_P D ca (.ref b :: As) Pre) (zz_Q P) mc ms free) (hrm : rm.cells = mc ∧ rm.slots = ms ∧ rm.frames + 1 ≤ R.frames ∧ 8 + (6 + 11) + rm.locals ≤ R.locals) (hpre : Pre H) (hat : va_at D zC (b, .inr (5, fs)) H) (hn : As.length = 2) (hls : ls.size = nL) (hst : st0 = As.reverse ++ .ref b :: rest) (hro : (rest.map fun v => v.category).sum ≤ 8) (hdg : decode cc pc = .ok (.invokevirtual 44, 3)) (hcs : cells + mc ≤ R.cells ∧ slots + ms ≤ R.slots) : va_Run p l e R s m args below meth c H locs cells slots mc ms (F0 m pc ls st0) rest (zz_Q P (.ref b :: As).toArray) free :=
  zz_rV (n := 2) hE hM zm_400 zm_402 zp_Ru_unite zm_2 zm_403 (by decide +kernel) rfl rfl hrm hpre hat hn hls hst hro hdg hcs
theorem cl_Te_23 (hE : zz_E p m c cc nL s args R_Te D ca) (hM : Met l y_Te_isOfWord w_Te_isOfWord rm (zz_P D ca (As) Pre) (zz_Q P) mc ms free) (hrm : rm.cells = mc ∧ rm.slots = ms ∧ rm.frames + 1 ≤ R.frames ∧ 8 + (1 + 11) + rm.locals ≤ R.locals) (hpre : Pre H) (hn : As.length = 1) (hls : ls.size = nL) (hst : st0 = As.reverse ++ rest) (hro : (rest.map fun v => v.category).sum ≤ 8) (hdg : decode cc pc = .ok (.invokestatic 23, 3)) (hcs : cells + mc ≤ R.cells ∧ slots + ms ≤ R.slots) : va_Run p l e R s m args below meth c H locs cells slots mc ms (F0 m pc ls st0) rest (zz_Q P (As).toArray) free :=
  zz_rS (n := 1) hE hM zm_126 zm_127 zm_4 zm_128 (by decide +kernel) hrm hpre hn hls hst hro hdg hcs
theorem cl_Te_30 (hE : zz_E p m c cc nL s args R_Te D ca) (hM : Met l y_Te_put w_Te_put rm (zz_P D ca (.ref b :: As) Pre) (zz_Q P) mc ms free) (hrm : rm.cells = mc ∧ rm.slots = ms ∧ rm.frames + 1 ≤ R.frames ∧ 8 + (2 + 11) + rm.locals ≤ R.locals) (hpre : Pre H) (hat : va_at D zC (b, .inr (0, fs)) H) (hn : As.length = 1) (hls : ls.size = nL) (hst : st0 = As.reverse ++ .ref b :: rest) (hro : (rest.map fun v => v.category).sum ≤ 8) (hdg : decode cc pc = .ok (.invokevirtual 30, 3)) (hcs : cells + mc ≤ R.cells ∧ slots + ms ≤ R.slots) : va_Run p l e R s m args below meth c H locs cells slots mc ms (F0 m pc ls st0) rest (zz_Q P (.ref b :: As).toArray) free :=
  zz_rV (n := 1) hE hM zm_129 zm_131 zp_Te_put zm_4 zm_132 (by decide +kernel) rfl rfl hrm hpre hat hn hls hst hro hdg hcs
theorem cl_Te_34 (hE : zz_E p m c cc nL s args R_Te D ca) (hM : Met l y_Te_small w_Te_small rm (zz_P D ca (As) Pre) (zz_Q P) mc ms free) (hrm : rm.cells = mc ∧ rm.slots = ms ∧ rm.frames + 1 ≤ R.frames ∧ 8 + (1 + 11) + rm.locals ≤ R.locals) (hpre : Pre H) (hn : As.length = 1) (hls : ls.size = nL) (hst : st0 = As.reverse ++ rest) (hro : (rest.map fun v => v.category).sum ≤ 8) (hdg : decode cc pc = .ok (.invokestatic 34, 3)) (hcs : cells + mc ≤ R.cells ∧ slots + ms ≤ R.slots) : va_Run p l e R s m args below meth c H locs cells slots mc ms (F0 m pc ls st0) rest (zz_Q P (As).toArray) free :=
  zz_rS (n := 1) hE hM zm_133 zm_134 zm_4 zm_135 (by decide +kernel) hrm hpre hn hls hst hro hdg hcs
theorem cl_Te_38 (hE : zz_E p m c cc nL s args R_Te D ca) (hM : Met l y_Te_beginsWord w_Te_beginsWord rm (zz_P D ca (.ref b :: As) Pre) (zz_Q P) mc ms free) (hrm : rm.cells = mc ∧ rm.slots = ms ∧ rm.frames + 1 ≤ R.frames ∧ 8 + (2 + 11) + rm.locals ≤ R.locals) (hpre : Pre H) (hat : va_at D zC (b, .inr (0, fs)) H) (hn : As.length = 1) (hls : ls.size = nL) (hst : st0 = As.reverse ++ .ref b :: rest) (hro : (rest.map fun v => v.category).sum ≤ 8) (hdg : decode cc pc = .ok (.invokevirtual 38, 3)) (hcs : cells + mc ≤ R.cells ∧ slots + ms ≤ R.slots) : va_Run p l e R s m args below meth c H locs cells slots mc ms (F0 m pc ls st0) rest (zz_Q P (.ref b :: As).toArray) free :=
  zz_rV (n := 1) hE hM zm_160 zm_162 zp_Te_beginsWord zm_4 zm_163 (by decide +kernel) rfl rfl hrm hpre hat hn hls hst hro hdg hcs
theorem cl_Te_42 (hE : zz_E p m c cc nL s args R_Te D ca) (hM : Met l y_Te_hasWordBefore w_Te_hasWordBefore rm (zz_P D ca (.ref b :: As) Pre) (zz_Q P) mc ms free) (hrm : rm.cells = mc ∧ rm.slots = ms ∧ rm.frames + 1 ≤ R.frames ∧ 8 + (5 + 11) + rm.locals ≤ R.locals) (hpre : Pre H) (hat : va_at D zC (b, .inr (0, fs)) H) (hn : As.length = 3) (hls : ls.size = nL) (hst : st0 = As.reverse ++ .ref b :: rest) (hro : (rest.map fun v => v.category).sum ≤ 8) (hdg : decode cc pc = .ok (.invokevirtual 42, 3)) (hcs : cells + mc ≤ R.cells ∧ slots + ms ≤ R.slots) : va_Run p l e R s m args below meth c H locs cells slots mc ms (F0 m pc ls st0) rest (zz_Q P (.ref b :: As).toArray) free :=
  zz_rV (n := 3) hE hM zm_164 zm_166 zp_Te_hasWordBefore zm_4 zm_167 (by decide +kernel) rfl rfl hrm hpre hat hn hls hst hro hdg hcs
theorem cl_Te_46 (hE : zz_E p m c cc nL s args R_Te D ca) (hM : Met l y_Te_isSameWord w_Te_isSameWord rm (zz_P D ca (.ref b :: As) Pre) (zz_Q P) mc ms free) (hrm : rm.cells = mc ∧ rm.slots = ms ∧ rm.frames + 1 ≤ R.frames ∧ 8 + (5 + 11) + rm.locals ≤ R.locals) (hpre : Pre H) (hat : va_at D zC (b, .inr (0, fs)) H) (hn : As.length = 3) (hls : ls.size = nL) (hst : st0 = As.reverse ++ .ref b :: rest) (hro : (rest.map fun v => v.category).sum ≤ 8) (hdg : decode cc pc = .ok (.invokevirtual 46, 3)) (hcs : cells + mc ≤ R.cells ∧ slots + ms ≤ R.slots) : va_Run p l e R s m args below meth c H locs cells slots mc ms (F0 m pc ls st0) rest (zz_Q P (.ref b :: As).toArray) free :=
  zz_rV (n := 3) hE hM zm_168 zm_170 zp_Te_isSameWord zm_4 zm_171 (by decide +kernel) rfl rfl hrm hpre hat hn hls hst hro hdg hcs
theorem cl_Te_49 (hE : zz_E p m c cc nL s args R_Te D ca) (hM : Met l y_Te_endsWord w_Te_endsWord rm (zz_P D ca (.ref b :: As) Pre) (zz_Q P) mc ms free) (hrm : rm.cells = mc ∧ rm.slots = ms ∧ rm.frames + 1 ≤ R.frames ∧ 8 + (2 + 11) + rm.locals ≤ R.locals) (hpre : Pre H) (hat : va_at D zC (b, .inr (0, fs)) H) (hn : As.length = 1) (hls : ls.size = nL) (hst : st0 = As.reverse ++ .ref b :: rest) (hro : (rest.map fun v => v.category).sum ≤ 8) (hdg : decode cc pc = .ok (.invokevirtual 49, 3)) (hcs : cells + mc ≤ R.cells ∧ slots + ms ≤ R.slots) : va_Run p l e R s m args below meth c H locs cells slots mc ms (F0 m pc ls st0) rest (zz_Q P (.ref b :: As).toArray) free :=
  zz_rV (n := 1) hE hM zm_172 zm_174 zp_Te_endsWord zm_4 zm_175 (by decide +kernel) rfl rfl hrm hpre hat hn hls hst hro hdg hcs
theorem cl_La_9 (hE : zz_E p m c cc nL s args R_La D ca) (hM : Met l y_RM_init w_RM_init rm (zz_P D ca (.ref b :: As) Pre) (zz_Q P) mc ms free) (hrm : rm.cells = mc ∧ rm.slots = ms ∧ rm.frames + 1 ≤ R.frames ∧ 8 + (2 + 11) + rm.locals ≤ R.locals) (hpre : Pre H) (hn : As.length = 0) (hls : ls.size = nL) (hst : st0 = As.reverse ++ .ref b :: rest) (hro : (rest.map fun v => v.category).sum ≤ 8) (hdg : decode cc pc = .ok (.invokespecial 9, 3)) (hcs : cells + mc ≤ R.cells ∧ slots + ms ≤ R.slots) : va_Run p l e R s m args below meth c H locs cells slots mc ms (F0 m pc ls st0) rest (zz_Q P (.ref b :: As).toArray) free :=
  zz_rI (n := 0) hE hM zm_13 zm_14 zm_1 zm_15 rfl (by decide +kernel) hrm hpre hn hls hst hro hdg hcs
theorem cl_La_12 (hE : zz_E p m c cc nL s args R_La D ca) (hM : Met l y_Mo_init w_Mo_init rm (zz_P D ca (.ref b :: As) Pre) (zz_Q P) mc ms free) (hrm : rm.cells = mc ∧ rm.slots = ms ∧ rm.frames + 1 ≤ R.frames ∧ 8 + (1 + 11) + rm.locals ≤ R.locals) (hpre : Pre H) (hn : As.length = 0) (hls : ls.size = nL) (hst : st0 = As.reverse ++ .ref b :: rest) (hro : (rest.map fun v => v.category).sum ≤ 8) (hdg : decode cc pc = .ok (.invokespecial 12, 3)) (hcs : cells + mc ≤ R.cells ∧ slots + ms ≤ R.slots) : va_Run p l e R s m args below meth c H locs cells slots mc ms (F0 m pc ls st0) rest (zz_Q P (.ref b :: As).toArray) free :=
  zz_rI (n := 0) hE hM zm_433 zm_434 zm_5 zm_435 rfl (by decide +kernel) hrm hpre hn hls hst hro hdg hcs
theorem cl_La_13 (hE : zz_E p m c cc nL s args R_La D ca) (hM : Met l y_RM_type w_RM_type rm (zz_P D ca (.ref b :: As) Pre) (zz_Q P) mc ms free) (hrm : rm.cells = mc ∧ rm.slots = ms ∧ rm.frames + 1 ≤ R.frames ∧ 8 + (3 + 11) + rm.locals ≤ R.locals) (hpre : Pre H) (hat : va_at D zC (b, .inr (6, fs)) H) (hn : As.length = 2) (hls : ls.size = nL) (hst : st0 = As.reverse ++ .ref b :: rest) (hro : (rest.map fun v => v.category).sum ≤ 8) (hdg : decode cc pc = .ok (.invokevirtual 13, 3)) (hcs : cells + mc ≤ R.cells ∧ slots + ms ≤ R.slots) : va_Run p l e R s m args below meth c H locs cells slots mc ms (F0 m pc ls st0) rest (zz_Q P (.ref b :: As).toArray) free :=
  zz_rV (n := 2) hE hM zm_107 zm_108 zm_109 zm_1 zm_110 (by decide +kernel) rfl rfl hrm hpre hat hn hls hst hro hdg hcs
theorem cl_La_17 (hE : zz_E p m c cc nL s args R_La D ca) (hM : Met l y_Mo_type w_Mo_type rm (zz_P D ca (.ref b :: As) Pre) (zz_Q P) mc ms free) (hrm : rm.cells = mc ∧ rm.slots = ms ∧ rm.frames + 1 ≤ R.frames ∧ 8 + (3 + 11) + rm.locals ≤ R.locals) (hpre : Pre H) (hat : va_at D zC (b, .inr (7, fs)) H) (hn : As.length = 2) (hls : ls.size = nL) (hst : st0 = As.reverse ++ .ref b :: rest) (hro : (rest.map fun v => v.category).sum ≤ 8) (hdg : decode cc pc = .ok (.invokevirtual 17, 3)) (hcs : cells + mc ≤ R.cells ∧ slots + ms ≤ R.slots) : va_Run p l e R s m args below meth c H locs cells slots mc ms (F0 m pc ls st0) rest (zz_Q P (.ref b :: As).toArray) free :=
  zz_rV (n := 2) hE hM zm_504 zm_505 zm_506 zm_5 zm_507 (by decide +kernel) rfl rfl hrm hpre hat hn hls hst hro hdg hcs
theorem cl_La_18 (hE : zz_E p m c cc nL s args R_La D ca) (hM : Met l y_RM_add w_RM_add rm (zz_P D ca (.ref b :: As) Pre) (zz_Q P) mc ms free) (hrm : rm.cells = mc ∧ rm.slots = ms ∧ rm.frames + 1 ≤ R.frames ∧ 8 + (1 + 11) + rm.locals ≤ R.locals) (hpre : Pre H) (hat : va_at D zC (b, .inr (6, fs)) H) (hn : As.length = 0) (hls : ls.size = nL) (hst : st0 = As.reverse ++ .ref b :: rest) (hro : (rest.map fun v => v.category).sum ≤ 8) (hdg : decode cc pc = .ok (.invokevirtual 18, 3)) (hcs : cells + mc ≤ R.cells ∧ slots + ms ≤ R.slots) : va_Run p l e R s m args below meth c H locs cells slots mc ms (F0 m pc ls st0) rest (zz_Q P (.ref b :: As).toArray) free :=
  zz_rV (n := 0) hE hM zm_136 zm_137 zm_138 zm_1 zm_139 (by decide +kernel) rfl rfl hrm hpre hat hn hls hst hro hdg hcs
theorem cl_La_22 (hE : zz_E p m c cc nL s args R_La D ca) (hM : Met l y_Mo_add w_Mo_add rm (zz_P D ca (.ref b :: As) Pre) (zz_Q P) mc ms free) (hrm : rm.cells = mc ∧ rm.slots = ms ∧ rm.frames + 1 ≤ R.frames ∧ 8 + (4 + 11) + rm.locals ≤ R.locals) (hpre : Pre H) (hat : va_at D zC (b, .inr (7, fs)) H) (hn : As.length = 0) (hls : ls.size = nL) (hst : st0 = As.reverse ++ .ref b :: rest) (hro : (rest.map fun v => v.category).sum ≤ 8) (hdg : decode cc pc = .ok (.invokevirtual 22, 3)) (hcs : cells + mc ≤ R.cells ∧ slots + ms ≤ R.slots) : va_Run p l e R s m args below meth c H locs cells slots mc ms (F0 m pc ls st0) rest (zz_Q P (.ref b :: As).toArray) free :=
  zz_rV (n := 0) hE hM zm_511 zm_512 zm_513 zm_5 zm_514 (by decide +kernel) rfl rfl hrm hpre hat hn hls hst hro hdg hcs
theorem cl_La_23 (hE : zz_E p m c cc nL s args R_La D ca) (hM : Met l y_RM_records w_RM_records rm (zz_P D ca (.ref b :: As) Pre) (zz_Q P) mc ms free) (hrm : rm.cells = mc ∧ rm.slots = ms ∧ rm.frames + 1 ≤ R.frames ∧ 8 + (1 + 11) + rm.locals ≤ R.locals) (hpre : Pre H) (hat : va_at D zC (b, .inr (6, fs)) H) (hn : As.length = 0) (hls : ls.size = nL) (hst : st0 = As.reverse ++ .ref b :: rest) (hro : (rest.map fun v => v.category).sum ≤ 8) (hdg : decode cc pc = .ok (.invokevirtual 23, 3)) (hcs : cells + mc ≤ R.cells ∧ slots + ms ≤ R.slots) : va_Run p l e R s m args below meth c H locs cells slots mc ms (F0 m pc ls st0) rest (zz_Q P (.ref b :: As).toArray) free :=
  zz_rV (n := 0) hE hM zm_144 zm_145 zm_146 zm_1 zm_147 (by decide +kernel) rfl rfl hrm hpre hat hn hls hst hro hdg hcs
theorem cl_La_26 (hE : zz_E p m c cc nL s args R_La D ca) (hM : Met l y_Mo_records w_Mo_records rm (zz_P D ca (.ref b :: As) Pre) (zz_Q P) mc ms free) (hrm : rm.cells = mc ∧ rm.slots = ms ∧ rm.frames + 1 ≤ R.frames ∧ 8 + (1 + 11) + rm.locals ≤ R.locals) (hpre : Pre H) (hat : va_at D zC (b, .inr (7, fs)) H) (hn : As.length = 0) (hls : ls.size = nL) (hst : st0 = As.reverse ++ .ref b :: rest) (hro : (rest.map fun v => v.category).sum ≤ 8) (hdg : decode cc pc = .ok (.invokevirtual 26, 3)) (hcs : cells + mc ≤ R.cells ∧ slots + ms ≤ R.slots) : va_Run p l e R s m args below meth c H locs cells slots mc ms (F0 m pc ls st0) rest (zz_Q P (.ref b :: As).toArray) free :=
  zz_rV (n := 0) hE hM zm_515 zm_516 zm_517 zm_5 zm_518 (by decide +kernel) rfl rfl hrm hpre hat hn hls hst hro hdg hcs
theorem cl_La_27 (hE : zz_E p m c cc nL s args R_La D ca) (hM : Met l y_RM_words w_RM_words rm (zz_P D ca (.ref b :: As) Pre) (zz_Q P) mc ms free) (hrm : rm.cells = mc ∧ rm.slots = ms ∧ rm.frames + 1 ≤ R.frames ∧ 8 + (3 + 11) + rm.locals ≤ R.locals) (hpre : Pre H) (hat : va_at D zC (b, .inr (6, fs)) H) (hn : As.length = 2) (hls : ls.size = nL) (hst : st0 = As.reverse ++ .ref b :: rest) (hro : (rest.map fun v => v.category).sum ≤ 8) (hdg : decode cc pc = .ok (.invokevirtual 27, 3)) (hcs : cells + mc ≤ R.cells ∧ slots + ms ≤ R.slots) : va_Run p l e R s m args below meth c H locs cells slots mc ms (F0 m pc ls st0) rest (zz_Q P (.ref b :: As).toArray) free :=
  zz_rV (n := 2) hE hM zm_148 zm_149 zm_150 zm_1 zm_151 (by decide +kernel) rfl rfl hrm hpre hat hn hls hst hro hdg hcs
theorem cl_La_31 (hE : zz_E p m c cc nL s args R_La D ca) (hM : Met l y_Mo_words w_Mo_words rm (zz_P D ca (.ref b :: As) Pre) (zz_Q P) mc ms free) (hrm : rm.cells = mc ∧ rm.slots = ms ∧ rm.frames + 1 ≤ R.frames ∧ 8 + (3 + 11) + rm.locals ≤ R.locals) (hpre : Pre H) (hat : va_at D zC (b, .inr (7, fs)) H) (hn : As.length = 2) (hls : ls.size = nL) (hst : st0 = As.reverse ++ .ref b :: rest) (hro : (rest.map fun v => v.category).sum ≤ 8) (hdg : decode cc pc = .ok (.invokevirtual 31, 3)) (hcs : cells + mc ≤ R.cells ∧ slots + ms ≤ R.slots) : va_Run p l e R s m args below meth c H locs cells slots mc ms (F0 m pc ls st0) rest (zz_Q P (.ref b :: As).toArray) free :=
  zz_rV (n := 2) hE hM zm_519 zm_520 zm_521 zm_5 zm_522 (by decide +kernel) rfl rfl hrm hpre hat hn hls hst hro hdg hcs
theorem cl_La_32 (hE : zz_E p m c cc nL s args R_La D ca) (hM : Met l y_RM_length w_RM_length rm (zz_P D ca (.ref b :: As) Pre) (zz_Q P) mc ms free) (hrm : rm.cells = mc ∧ rm.slots = ms ∧ rm.frames + 1 ≤ R.frames ∧ 8 + (3 + 11) + rm.locals ≤ R.locals) (hpre : Pre H) (hat : va_at D zC (b, .inr (6, fs)) H) (hn : As.length = 2) (hls : ls.size = nL) (hst : st0 = As.reverse ++ .ref b :: rest) (hro : (rest.map fun v => v.category).sum ≤ 8) (hdg : decode cc pc = .ok (.invokevirtual 32, 3)) (hcs : cells + mc ≤ R.cells ∧ slots + ms ≤ R.slots) : va_Run p l e R s m args below meth c H locs cells slots mc ms (F0 m pc ls st0) rest (zz_Q P (.ref b :: As).toArray) free :=
  zz_rV (n := 2) hE hM zm_176 zm_177 zm_178 zm_1 zm_179 (by decide +kernel) rfl rfl hrm hpre hat hn hls hst hro hdg hcs
theorem cl_La_35 (hE : zz_E p m c cc nL s args R_La D ca) (hM : Met l y_Mo_length w_Mo_length rm (zz_P D ca (.ref b :: As) Pre) (zz_Q P) mc ms free) (hrm : rm.cells = mc ∧ rm.slots = ms ∧ rm.frames + 1 ≤ R.frames ∧ 8 + (3 + 11) + rm.locals ≤ R.locals) (hpre : Pre H) (hat : va_at D zC (b, .inr (7, fs)) H) (hn : As.length = 2) (hls : ls.size = nL) (hst : st0 = As.reverse ++ .ref b :: rest) (hro : (rest.map fun v => v.category).sum ≤ 8) (hdg : decode cc pc = .ok (.invokevirtual 35, 3)) (hcs : cells + mc ≤ R.cells ∧ slots + ms ≤ R.slots) : va_Run p l e R s m args below meth c H locs cells slots mc ms (F0 m pc ls st0) rest (zz_Q P (.ref b :: As).toArray) free :=
  zz_rV (n := 2) hE hM zm_554 zm_555 zm_556 zm_5 zm_557 (by decide +kernel) rfl rfl hrm hpre hat hn hls hst hro hdg hcs
theorem cl_La_36 (hE : zz_E p m c cc nL s args R_La D ca) (hM : Met l y_RM_unit w_RM_unit rm (zz_P D ca (.ref b :: As) Pre) (zz_Q P) mc ms free) (hrm : rm.cells = mc ∧ rm.slots = ms ∧ rm.frames + 1 ≤ R.frames ∧ 8 + (5 + 11) + rm.locals ≤ R.locals) (hpre : Pre H) (hat : va_at D zC (b, .inr (6, fs)) H) (hn : As.length = 3) (hls : ls.size = nL) (hst : st0 = As.reverse ++ .ref b :: rest) (hro : (rest.map fun v => v.category).sum ≤ 8) (hdg : decode cc pc = .ok (.invokevirtual 36, 3)) (hcs : cells + mc ≤ R.cells ∧ slots + ms ≤ R.slots) : va_Run p l e R s m args below meth c H locs cells slots mc ms (F0 m pc ls st0) rest (zz_Q P (.ref b :: As).toArray) free :=
  zz_rV (n := 3) hE hM zm_180 zm_181 zm_182 zm_1 zm_183 (by decide +kernel) rfl rfl hrm hpre hat hn hls hst hro hdg hcs
theorem cl_La_40 (hE : zz_E p m c cc nL s args R_La D ca) (hM : Met l y_Mo_unit w_Mo_unit rm (zz_P D ca (.ref b :: As) Pre) (zz_Q P) mc ms free) (hrm : rm.cells = mc ∧ rm.slots = ms ∧ rm.frames + 1 ≤ R.frames ∧ 8 + (5 + 11) + rm.locals ≤ R.locals) (hpre : Pre H) (hat : va_at D zC (b, .inr (7, fs)) H) (hn : As.length = 3) (hls : ls.size = nL) (hst : st0 = As.reverse ++ .ref b :: rest) (hro : (rest.map fun v => v.category).sum ≤ 8) (hdg : decode cc pc = .ok (.invokevirtual 40, 3)) (hcs : cells + mc ≤ R.cells ∧ slots + ms ≤ R.slots) : va_Run p l e R s m args below meth c H locs cells slots mc ms (F0 m pc ls st0) rest (zz_Q P (.ref b :: As).toArray) free :=
  zz_rV (n := 3) hE hM zm_558 zm_559 zm_560 zm_5 zm_561 (by decide +kernel) rfl rfl hrm hpre hat hn hls hst hro hdg hcs
theorem cl_La_41 (hE : zz_E p m c cc nL s args R_La D ca) (hM : Met l y_RM_jaccard w_RM_jaccard rm (zz_P D ca (.ref b :: As) Pre) (zz_Q P) mc ms free) (hrm : rm.cells = mc ∧ rm.slots = ms ∧ rm.frames + 1 ≤ R.frames ∧ 8 + (4 + 11) + rm.locals ≤ R.locals) (hpre : Pre H) (hat : va_at D zC (b, .inr (6, fs)) H) (hn : As.length = 3) (hls : ls.size = nL) (hst : st0 = As.reverse ++ .ref b :: rest) (hro : (rest.map fun v => v.category).sum ≤ 8) (hdg : decode cc pc = .ok (.invokevirtual 41, 3)) (hcs : cells + mc ≤ R.cells ∧ slots + ms ≤ R.slots) : va_Run p l e R s m args below meth c H locs cells slots mc ms (F0 m pc ls st0) rest (zz_Q P (.ref b :: As).toArray) free :=
  zz_rV (n := 3) hE hM zm_184 zm_185 zm_186 zm_1 zm_187 (by decide +kernel) rfl rfl hrm hpre hat hn hls hst hro hdg hcs
theorem cl_La_45 (hE : zz_E p m c cc nL s args R_La D ca) (hM : Met l y_Mo_jaccard w_Mo_jaccard rm (zz_P D ca (.ref b :: As) Pre) (zz_Q P) mc ms free) (hrm : rm.cells = mc ∧ rm.slots = ms ∧ rm.frames + 1 ≤ R.frames ∧ 8 + (4 + 11) + rm.locals ≤ R.locals) (hpre : Pre H) (hat : va_at D zC (b, .inr (7, fs)) H) (hn : As.length = 3) (hls : ls.size = nL) (hst : st0 = As.reverse ++ .ref b :: rest) (hro : (rest.map fun v => v.category).sum ≤ 8) (hdg : decode cc pc = .ok (.invokevirtual 45, 3)) (hcs : cells + mc ≤ R.cells ∧ slots + ms ≤ R.slots) : va_Run p l e R s m args below meth c H locs cells slots mc ms (F0 m pc ls st0) rest (zz_Q P (.ref b :: As).toArray) free :=
  zz_rV (n := 3) hE hM zm_563 zm_564 zm_565 zm_5 zm_566 (by decide +kernel) rfl rfl hrm hpre hat hn hls hst hro hdg hcs
theorem cl_La_46 (hE : zz_E p m c cc nL s args R_La D ca) (hM : Met l y_RM_edit w_RM_edit rm (zz_P D ca (.ref b :: As) Pre) (zz_Q P) mc ms free) (hrm : rm.cells = mc ∧ rm.slots = ms ∧ rm.frames + 1 ≤ R.frames ∧ 8 + (3 + 11) + rm.locals ≤ R.locals) (hpre : Pre H) (hat : va_at D zC (b, .inr (6, fs)) H) (hn : As.length = 2) (hls : ls.size = nL) (hst : st0 = As.reverse ++ .ref b :: rest) (hro : (rest.map fun v => v.category).sum ≤ 8) (hdg : decode cc pc = .ok (.invokevirtual 46, 3)) (hcs : cells + mc ≤ R.cells ∧ slots + ms ≤ R.slots) : va_Run p l e R s m args below meth c H locs cells slots mc ms (F0 m pc ls st0) rest (zz_Q P (.ref b :: As).toArray) free :=
  zz_rV (n := 2) hE hM zm_221 zm_222 zm_223 zm_1 zm_224 (by decide +kernel) rfl rfl hrm hpre hat hn hls hst hro hdg hcs
theorem cl_La_50 (hE : zz_E p m c cc nL s args R_La D ca) (hM : Met l y_Mo_edit w_Mo_edit rm (zz_P D ca (.ref b :: As) Pre) (zz_Q P) mc ms free) (hrm : rm.cells = mc ∧ rm.slots = ms ∧ rm.frames + 1 ≤ R.frames ∧ 8 + (3 + 11) + rm.locals ≤ R.locals) (hpre : Pre H) (hat : va_at D zC (b, .inr (7, fs)) H) (hn : As.length = 2) (hls : ls.size = nL) (hst : st0 = As.reverse ++ .ref b :: rest) (hro : (rest.map fun v => v.category).sum ≤ 8) (hdg : decode cc pc = .ok (.invokevirtual 50, 3)) (hcs : cells + mc ≤ R.cells ∧ slots + ms ≤ R.slots) : va_Run p l e R s m args below meth c H locs cells slots mc ms (F0 m pc ls st0) rest (zz_Q P (.ref b :: As).toArray) free :=
  zz_rV (n := 2) hE hM zm_579 zm_580 zm_581 zm_5 zm_582 (by decide +kernel) rfl rfl hrm hpre hat hn hls hst hro hdg hcs
theorem cl_La_51 (hE : zz_E p m c cc nL s args R_La D ca) (hM : Met l y_RM_join w_RM_join rm (zz_P D ca (.ref b :: As) Pre) (zz_Q P) mc ms free) (hrm : rm.cells = mc ∧ rm.slots = ms ∧ rm.frames + 1 ≤ R.frames ∧ 8 + (4 + 11) + rm.locals ≤ R.locals) (hpre : Pre H) (hat : va_at D zC (b, .inr (6, fs)) H) (hn : As.length = 1) (hls : ls.size = nL) (hst : st0 = As.reverse ++ .ref b :: rest) (hro : (rest.map fun v => v.category).sum ≤ 8) (hdg : decode cc pc = .ok (.invokevirtual 51, 3)) (hcs : cells + mc ≤ R.cells ∧ slots + ms ≤ R.slots) : va_Run p l e R s m args below meth c H locs cells slots mc ms (F0 m pc ls st0) rest (zz_Q P (.ref b :: As).toArray) free :=
  zz_rV (n := 1) hE hM zm_243 zm_244 zm_245 zm_1 zm_246 (by decide +kernel) rfl rfl hrm hpre hat hn hls hst hro hdg hcs
theorem cl_La_55 (hE : zz_E p m c cc nL s args R_La D ca) (hM : Met l y_Mo_join w_Mo_join rm (zz_P D ca (.ref b :: As) Pre) (zz_Q P) mc ms free) (hrm : rm.cells = mc ∧ rm.slots = ms ∧ rm.frames + 1 ≤ R.frames ∧ 8 + (3 + 11) + rm.locals ≤ R.locals) (hpre : Pre H) (hat : va_at D zC (b, .inr (7, fs)) H) (hn : As.length = 1) (hls : ls.size = nL) (hst : st0 = As.reverse ++ .ref b :: rest) (hro : (rest.map fun v => v.category).sum ≤ 8) (hdg : decode cc pc = .ok (.invokevirtual 55, 3)) (hcs : cells + mc ≤ R.cells ∧ slots + ms ≤ R.slots) : va_Run p l e R s m args below meth c H locs cells slots mc ms (F0 m pc ls st0) rest (zz_Q P (.ref b :: As).toArray) free :=
  zz_rV (n := 1) hE hM zm_583 zm_584 zm_585 zm_5 zm_586 (by decide +kernel) rfl rfl hrm hpre hat hn hls hst hro hdg hcs
theorem cl_La_56 (hE : zz_E p m c cc nL s args R_La D ca) (hM : Met l y_RM_accept w_RM_accept rm (zz_P D ca (.ref b :: As) Pre) (zz_Q P) mc ms free) (hrm : rm.cells = mc ∧ rm.slots = ms ∧ rm.frames + 1 ≤ R.frames ∧ 8 + (2 + 11) + rm.locals ≤ R.locals) (hpre : Pre H) (hat : va_at D zC (b, .inr (6, fs)) H) (hn : As.length = 0) (hls : ls.size = nL) (hst : st0 = As.reverse ++ .ref b :: rest) (hro : (rest.map fun v => v.category).sum ≤ 8) (hdg : decode cc pc = .ok (.invokevirtual 56, 3)) (hcs : cells + mc ≤ R.cells ∧ slots + ms ≤ R.slots) : va_Run p l e R s m args below meth c H locs cells slots mc ms (F0 m pc ls st0) rest (zz_Q P (.ref b :: As).toArray) free :=
  zz_rV (n := 0) hE hM zm_269 zm_270 zm_271 zm_1 zm_272 (by decide +kernel) rfl rfl hrm hpre hat hn hls hst hro hdg hcs
theorem cl_La_59 (hE : zz_E p m c cc nL s args R_La D ca) (hM : Met l y_Mo_accept w_Mo_accept rm (zz_P D ca (.ref b :: As) Pre) (zz_Q P) mc ms free) (hrm : rm.cells = mc ∧ rm.slots = ms ∧ rm.frames + 1 ≤ R.frames ∧ 8 + (3 + 11) + rm.locals ≤ R.locals) (hpre : Pre H) (hat : va_at D zC (b, .inr (7, fs)) H) (hn : As.length = 0) (hls : ls.size = nL) (hst : st0 = As.reverse ++ .ref b :: rest) (hro : (rest.map fun v => v.category).sum ≤ 8) (hdg : decode cc pc = .ok (.invokevirtual 59, 3)) (hcs : cells + mc ≤ R.cells ∧ slots + ms ≤ R.slots) : va_Run p l e R s m args below meth c H locs cells slots mc ms (F0 m pc ls st0) rest (zz_Q P (.ref b :: As).toArray) free :=
  zz_rV (n := 0) hE hM zm_591 zm_592 zm_593 zm_5 zm_594 (by decide +kernel) rfl rfl hrm hpre hat hn hls hst hro hdg hcs
theorem cl_La_60 (hE : zz_E p m c cc nL s args R_La D ca) (hM : Met l y_RM_discard w_RM_discard rm (zz_P D ca (.ref b :: As) Pre) (zz_Q P) mc ms free) (hrm : rm.cells = mc ∧ rm.slots = ms ∧ rm.frames + 1 ≤ R.frames ∧ 8 + (1 + 11) + rm.locals ≤ R.locals) (hpre : Pre H) (hat : va_at D zC (b, .inr (6, fs)) H) (hn : As.length = 0) (hls : ls.size = nL) (hst : st0 = As.reverse ++ .ref b :: rest) (hro : (rest.map fun v => v.category).sum ≤ 8) (hdg : decode cc pc = .ok (.invokevirtual 60, 3)) (hcs : cells + mc ≤ R.cells ∧ slots + ms ≤ R.slots) : va_Run p l e R s m args below meth c H locs cells slots mc ms (F0 m pc ls st0) rest (zz_Q P (.ref b :: As).toArray) free :=
  zz_rV (n := 0) hE hM zm_273 zm_274 zm_275 zm_1 zm_276 (by decide +kernel) rfl rfl hrm hpre hat hn hls hst hro hdg hcs
theorem cl_La_64 (hE : zz_E p m c cc nL s args R_La D ca) (hM : Met l y_Mo_discard w_Mo_discard rm (zz_P D ca (.ref b :: As) Pre) (zz_Q P) mc ms free) (hrm : rm.cells = mc ∧ rm.slots = ms ∧ rm.frames + 1 ≤ R.frames ∧ 8 + (1 + 11) + rm.locals ≤ R.locals) (hpre : Pre H) (hat : va_at D zC (b, .inr (7, fs)) H) (hn : As.length = 0) (hls : ls.size = nL) (hst : st0 = As.reverse ++ .ref b :: rest) (hro : (rest.map fun v => v.category).sum ≤ 8) (hdg : decode cc pc = .ok (.invokevirtual 64, 3)) (hcs : cells + mc ≤ R.cells ∧ slots + ms ≤ R.slots) : va_Run p l e R s m args below meth c H locs cells slots mc ms (F0 m pc ls st0) rest (zz_Q P (.ref b :: As).toArray) free :=
  zz_rV (n := 0) hE hM zm_599 zm_600 zm_601 zm_5 zm_602 (by decide +kernel) rfl rfl hrm hpre hat hn hls hst hro hdg hcs
theorem cl_La_65 (hE : zz_E p m c cc nL s args R_La D ca) (hM : Met l y_RM_similar w_RM_similar rm (zz_P D ca (.ref b :: As) Pre) (zz_Q P) mc ms free) (hrm : rm.cells = mc ∧ rm.slots = ms ∧ rm.frames + 1 ≤ R.frames ∧ 8 + (3 + 11) + rm.locals ≤ R.locals) (hpre : Pre H) (hat : va_at D zC (b, .inr (6, fs)) H) (hn : As.length = 2) (hls : ls.size = nL) (hst : st0 = As.reverse ++ .ref b :: rest) (hro : (rest.map fun v => v.category).sum ≤ 8) (hdg : decode cc pc = .ok (.invokevirtual 65, 3)) (hcs : cells + mc ≤ R.cells ∧ slots + ms ≤ R.slots) : va_Run p l e R s m args below meth c H locs cells slots mc ms (F0 m pc ls st0) rest (zz_Q P (.ref b :: As).toArray) free :=
  zz_rV (n := 2) hE hM zm_277 zm_278 zm_279 zm_1 zm_280 (by decide +kernel) rfl rfl hrm hpre hat hn hls hst hro hdg hcs
theorem cl_La_68 (hE : zz_E p m c cc nL s args R_La D ca) (hM : Met l y_Mo_similar w_Mo_similar rm (zz_P D ca (.ref b :: As) Pre) (zz_Q P) mc ms free) (hrm : rm.cells = mc ∧ rm.slots = ms ∧ rm.frames + 1 ≤ R.frames ∧ 8 + (3 + 11) + rm.locals ≤ R.locals) (hpre : Pre H) (hat : va_at D zC (b, .inr (7, fs)) H) (hn : As.length = 2) (hls : ls.size = nL) (hst : st0 = As.reverse ++ .ref b :: rest) (hro : (rest.map fun v => v.category).sum ≤ 8) (hdg : decode cc pc = .ok (.invokevirtual 68, 3)) (hcs : cells + mc ≤ R.cells ∧ slots + ms ≤ R.slots) : va_Run p l e R s m args below meth c H locs cells slots mc ms (F0 m pc ls st0) rest (zz_Q P (.ref b :: As).toArray) free :=
  zz_rV (n := 2) hE hM zm_603 zm_604 zm_605 zm_5 zm_606 (by decide +kernel) rfl rfl hrm hpre hat hn hls hst hro hdg hcs
theorem cl_La_69 (hE : zz_E p m c cc nL s args R_La D ca) (hM : Met l y_RM_start w_RM_start rm (zz_P D ca (.ref b :: As) Pre) (zz_Q P) mc ms free) (hrm : rm.cells = mc ∧ rm.slots = ms ∧ rm.frames + 1 ≤ R.frames ∧ 8 + (2 + 11) + rm.locals ≤ R.locals) (hpre : Pre H) (hat : va_at D zC (b, .inr (6, fs)) H) (hn : As.length = 1) (hls : ls.size = nL) (hst : st0 = As.reverse ++ .ref b :: rest) (hro : (rest.map fun v => v.category).sum ≤ 8) (hdg : decode cc pc = .ok (.invokevirtual 69, 3)) (hcs : cells + mc ≤ R.cells ∧ slots + ms ≤ R.slots) : va_Run p l e R s m args below meth c H locs cells slots mc ms (F0 m pc ls st0) rest (zz_Q P (.ref b :: As).toArray) free :=
  zz_rV (n := 1) hE hM zm_316 zm_317 zm_318 zm_1 zm_319 (by decide +kernel) rfl rfl hrm hpre hat hn hls hst hro hdg hcs
theorem cl_La_73 (hE : zz_E p m c cc nL s args R_La D ca) (hM : Met l y_Mo_start w_Mo_start rm (zz_P D ca (.ref b :: As) Pre) (zz_Q P) mc ms free) (hrm : rm.cells = mc ∧ rm.slots = ms ∧ rm.frames + 1 ≤ R.frames ∧ 8 + (3 + 11) + rm.locals ≤ R.locals) (hpre : Pre H) (hat : va_at D zC (b, .inr (7, fs)) H) (hn : As.length = 1) (hls : ls.size = nL) (hst : st0 = As.reverse ++ .ref b :: rest) (hro : (rest.map fun v => v.category).sum ≤ 8) (hdg : decode cc pc = .ok (.invokevirtual 73, 3)) (hcs : cells + mc ≤ R.cells ∧ slots + ms ≤ R.slots) : va_Run p l e R s m args below meth c H locs cells slots mc ms (F0 m pc ls st0) rest (zz_Q P (.ref b :: As).toArray) free :=
  zz_rV (n := 1) hE hM zm_619 zm_620 zm_621 zm_5 zm_622 (by decide +kernel) rfl rfl hrm hpre hat hn hls hst hro hdg hcs
theorem cl_La_74 (hE : zz_E p m c cc nL s args R_La D ca) (hM : Met l y_RM_work w_RM_work rm (zz_P D ca (.ref b :: As) Pre) (zz_Q P) mc ms free) (hrm : rm.cells = mc ∧ rm.slots = ms ∧ rm.frames + 1 ≤ R.frames ∧ 8 + (5 + 11) + rm.locals ≤ R.locals) (hpre : Pre H) (hat : va_at D zC (b, .inr (6, fs)) H) (hn : As.length = 1) (hls : ls.size = nL) (hst : st0 = As.reverse ++ .ref b :: rest) (hro : (rest.map fun v => v.category).sum ≤ 8) (hdg : decode cc pc = .ok (.invokevirtual 74, 3)) (hcs : cells + mc ≤ R.cells ∧ slots + ms ≤ R.slots) : va_Run p l e R s m args below meth c H locs cells slots mc ms (F0 m pc ls st0) rest (zz_Q P (.ref b :: As).toArray) free :=
  zz_rV (n := 1) hE hM zm_324 zm_325 zm_326 zm_1 zm_327 (by decide +kernel) rfl rfl hrm hpre hat hn hls hst hro hdg hcs
theorem cl_La_77 (hE : zz_E p m c cc nL s args R_La D ca) (hM : Met l y_Mo_work w_Mo_work rm (zz_P D ca (.ref b :: As) Pre) (zz_Q P) mc ms free) (hrm : rm.cells = mc ∧ rm.slots = ms ∧ rm.frames + 1 ≤ R.frames ∧ 8 + (6 + 11) + rm.locals ≤ R.locals) (hpre : Pre H) (hat : va_at D zC (b, .inr (7, fs)) H) (hn : As.length = 1) (hls : ls.size = nL) (hst : st0 = As.reverse ++ .ref b :: rest) (hro : (rest.map fun v => v.category).sum ≤ 8) (hdg : decode cc pc = .ok (.invokevirtual 77, 3)) (hcs : cells + mc ≤ R.cells ∧ slots + ms ≤ R.slots) : va_Run p l e R s m args below meth c H locs cells slots mc ms (F0 m pc ls st0) rest (zz_Q P (.ref b :: As).toArray) free :=
  zz_rV (n := 1) hE hM zm_623 zm_624 zm_625 zm_5 zm_626 (by decide +kernel) rfl rfl hrm hpre hat hn hls hst hro hdg hcs
theorem cl_La_78 (hE : zz_E p m c cc nL s args R_La D ca) (hM : Met l y_RM_crash w_RM_crash rm (zz_P D ca (.ref b :: As) Pre) (zz_Q P) mc ms free) (hrm : rm.cells = mc ∧ rm.slots = ms ∧ rm.frames + 1 ≤ R.frames ∧ 8 + (2 + 11) + rm.locals ≤ R.locals) (hpre : Pre H) (hat : va_at D zC (b, .inr (6, fs)) H) (hn : As.length = 1) (hls : ls.size = nL) (hst : st0 = As.reverse ++ .ref b :: rest) (hro : (rest.map fun v => v.category).sum ≤ 8) (hdg : decode cc pc = .ok (.invokevirtual 78, 3)) (hcs : cells + mc ≤ R.cells ∧ slots + ms ≤ R.slots) : va_Run p l e R s m args below meth c H locs cells slots mc ms (F0 m pc ls st0) rest (zz_Q P (.ref b :: As).toArray) free :=
  zz_rV (n := 1) hE hM zm_355 zm_356 zm_357 zm_1 zm_358 (by decide +kernel) rfl rfl hrm hpre hat hn hls hst hro hdg hcs
theorem cl_La_81 (hE : zz_E p m c cc nL s args R_La D ca) (hM : Met l y_Mo_crash w_Mo_crash rm (zz_P D ca (.ref b :: As) Pre) (zz_Q P) mc ms free) (hrm : rm.cells = mc ∧ rm.slots = ms ∧ rm.frames + 1 ≤ R.frames ∧ 8 + (3 + 11) + rm.locals ≤ R.locals) (hpre : Pre H) (hat : va_at D zC (b, .inr (7, fs)) H) (hn : As.length = 1) (hls : ls.size = nL) (hst : st0 = As.reverse ++ .ref b :: rest) (hro : (rest.map fun v => v.category).sum ≤ 8) (hdg : decode cc pc = .ok (.invokevirtual 81, 3)) (hcs : cells + mc ≤ R.cells ∧ slots + ms ≤ R.slots) : va_Run p l e R s m args below meth c H locs cells slots mc ms (F0 m pc ls st0) rest (zz_Q P (.ref b :: As).toArray) free :=
  zz_rV (n := 1) hE hM zm_635 zm_636 zm_637 zm_5 zm_638 (by decide +kernel) rfl rfl hrm hpre hat hn hls hst hro hdg hcs
theorem cl_La_82 (hE : zz_E p m c cc nL s args R_La D ca) (hM : Met l y_RM_pairs w_RM_pairs rm (zz_P D ca (.ref b :: As) Pre) (zz_Q P) mc ms free) (hrm : rm.cells = mc ∧ rm.slots = ms ∧ rm.frames + 1 ≤ R.frames ∧ 8 + (1 + 11) + rm.locals ≤ R.locals) (hpre : Pre H) (hat : va_at D zC (b, .inr (6, fs)) H) (hn : As.length = 0) (hls : ls.size = nL) (hst : st0 = As.reverse ++ .ref b :: rest) (hro : (rest.map fun v => v.category).sum ≤ 8) (hdg : decode cc pc = .ok (.invokevirtual 82, 3)) (hcs : cells + mc ≤ R.cells ∧ slots + ms ≤ R.slots) : va_Run p l e R s m args below meth c H locs cells slots mc ms (F0 m pc ls st0) rest (zz_Q P (.ref b :: As).toArray) free :=
  zz_rV (n := 0) hE hM zm_371 zm_372 zm_373 zm_1 zm_374 (by decide +kernel) rfl rfl hrm hpre hat hn hls hst hro hdg hcs
theorem cl_La_85 (hE : zz_E p m c cc nL s args R_La D ca) (hM : Met l y_Mo_pairs w_Mo_pairs rm (zz_P D ca (.ref b :: As) Pre) (zz_Q P) mc ms free) (hrm : rm.cells = mc ∧ rm.slots = ms ∧ rm.frames + 1 ≤ R.frames ∧ 8 + (5 + 11) + rm.locals ≤ R.locals) (hpre : Pre H) (hat : va_at D zC (b, .inr (7, fs)) H) (hn : As.length = 0) (hls : ls.size = nL) (hst : st0 = As.reverse ++ .ref b :: rest) (hro : (rest.map fun v => v.category).sum ≤ 8) (hdg : decode cc pc = .ok (.invokevirtual 85, 3)) (hcs : cells + mc ≤ R.cells ∧ slots + ms ≤ R.slots) : va_Run p l e R s m args below meth c H locs cells slots mc ms (F0 m pc ls st0) rest (zz_Q P (.ref b :: As).toArray) free :=
  zz_rV (n := 0) hE hM zm_643 zm_644 zm_645 zm_5 zm_646 (by decide +kernel) rfl rfl hrm hpre hat hn hls hst hro hdg hcs
theorem cl_La_86 (hE : zz_E p m c cc nL s args R_La D ca) (hM : Met l y_RM_found w_RM_found rm (zz_P D ca (.ref b :: As) Pre) (zz_Q P) mc ms free) (hrm : rm.cells = mc ∧ rm.slots = ms ∧ rm.frames + 1 ≤ R.frames ∧ 8 + (3 + 11) + rm.locals ≤ R.locals) (hpre : Pre H) (hat : va_at D zC (b, .inr (6, fs)) H) (hn : As.length = 2) (hls : ls.size = nL) (hst : st0 = As.reverse ++ .ref b :: rest) (hro : (rest.map fun v => v.category).sum ≤ 8) (hdg : decode cc pc = .ok (.invokevirtual 86, 3)) (hcs : cells + mc ≤ R.cells ∧ slots + ms ≤ R.slots) : va_Run p l e R s m args below meth c H locs cells slots mc ms (F0 m pc ls st0) rest (zz_Q P (.ref b :: As).toArray) free :=
  zz_rV (n := 2) hE hM zm_383 zm_384 zm_385 zm_1 zm_386 (by decide +kernel) rfl rfl hrm hpre hat hn hls hst hro hdg hcs
theorem cl_La_89 (hE : zz_E p m c cc nL s args R_La D ca) (hM : Met l y_Mo_found w_Mo_found rm (zz_P D ca (.ref b :: As) Pre) (zz_Q P) mc ms free) (hrm : rm.cells = mc ∧ rm.slots = ms ∧ rm.frames + 1 ≤ R.frames ∧ 8 + (3 + 11) + rm.locals ≤ R.locals) (hpre : Pre H) (hat : va_at D zC (b, .inr (7, fs)) H) (hn : As.length = 2) (hls : ls.size = nL) (hst : st0 = As.reverse ++ .ref b :: rest) (hro : (rest.map fun v => v.category).sum ≤ 8) (hdg : decode cc pc = .ok (.invokevirtual 89, 3)) (hcs : cells + mc ≤ R.cells ∧ slots + ms ≤ R.slots) : va_Run p l e R s m args below meth c H locs cells slots mc ms (F0 m pc ls st0) rest (zz_Q P (.ref b :: As).toArray) free :=
  zz_rV (n := 2) hE hM zm_651 zm_652 zm_653 zm_5 zm_654 (by decide +kernel) rfl rfl hrm hpre hat hn hls hst hro hdg hcs
theorem cl_La_90 (hE : zz_E p m c cc nL s args R_La D ca) (hM : Met l y_RM_cluster w_RM_cluster rm (zz_P D ca (.ref b :: As) Pre) (zz_Q P) mc ms free) (hrm : rm.cells = mc ∧ rm.slots = ms ∧ rm.frames + 1 ≤ R.frames ∧ 8 + (2 + 11) + rm.locals ≤ R.locals) (hpre : Pre H) (hat : va_at D zC (b, .inr (6, fs)) H) (hn : As.length = 1) (hls : ls.size = nL) (hst : st0 = As.reverse ++ .ref b :: rest) (hro : (rest.map fun v => v.category).sum ≤ 8) (hdg : decode cc pc = .ok (.invokevirtual 90, 3)) (hcs : cells + mc ≤ R.cells ∧ slots + ms ≤ R.slots) : va_Run p l e R s m args below meth c H locs cells slots mc ms (F0 m pc ls st0) rest (zz_Q P (.ref b :: As).toArray) free :=
  zz_rV (n := 1) hE hM zm_392 zm_393 zm_394 zm_1 zm_395 (by decide +kernel) rfl rfl hrm hpre hat hn hls hst hro hdg hcs
theorem cl_La_93 (hE : zz_E p m c cc nL s args R_La D ca) (hM : Met l y_Mo_cluster w_Mo_cluster rm (zz_P D ca (.ref b :: As) Pre) (zz_Q P) mc ms free) (hrm : rm.cells = mc ∧ rm.slots = ms ∧ rm.frames + 1 ≤ R.frames ∧ 8 + (2 + 11) + rm.locals ≤ R.locals) (hpre : Pre H) (hat : va_at D zC (b, .inr (7, fs)) H) (hn : As.length = 1) (hls : ls.size = nL) (hst : st0 = As.reverse ++ .ref b :: rest) (hro : (rest.map fun v => v.category).sum ≤ 8) (hdg : decode cc pc = .ok (.invokevirtual 93, 3)) (hcs : cells + mc ≤ R.cells ∧ slots + ms ≤ R.slots) : va_Run p l e R s m args below meth c H locs cells slots mc ms (F0 m pc ls st0) rest (zz_Q P (.ref b :: As).toArray) free :=
  zz_rV (n := 1) hE hM zm_655 zm_656 zm_657 zm_5 zm_658 (by decide +kernel) rfl rfl hrm hpre hat hn hls hst hro hdg hcs
theorem cl_La_94 (hE : zz_E p m c cc nL s args R_La D ca) (hM : Met l y_RM_keep w_RM_keep rm (zz_P D ca (.ref b :: As) Pre) (zz_Q P) mc ms free) (hrm : rm.cells = mc ∧ rm.slots = ms ∧ rm.frames + 1 ≤ R.frames ∧ 8 + (3 + 11) + rm.locals ≤ R.locals) (hpre : Pre H) (hat : va_at D zC (b, .inr (6, fs)) H) (hn : As.length = 2) (hls : ls.size = nL) (hst : st0 = As.reverse ++ .ref b :: rest) (hro : (rest.map fun v => v.category).sum ≤ 8) (hdg : decode cc pc = .ok (.invokevirtual 94, 3)) (hcs : cells + mc ≤ R.cells ∧ slots + ms ≤ R.slots) : va_Run p l e R s m args below meth c H locs cells slots mc ms (F0 m pc ls st0) rest (zz_Q P (.ref b :: As).toArray) free :=
  zz_rV (n := 2) hE hM zm_406 zm_407 zm_408 zm_1 zm_409 (by decide +kernel) rfl rfl hrm hpre hat hn hls hst hro hdg hcs
theorem cl_La_97 (hE : zz_E p m c cc nL s args R_La D ca) (hM : Met l y_Mo_keep w_Mo_keep rm (zz_P D ca (.ref b :: As) Pre) (zz_Q P) mc ms free) (hrm : rm.cells = mc ∧ rm.slots = ms ∧ rm.frames + 1 ≤ R.frames ∧ 8 + (3 + 11) + rm.locals ≤ R.locals) (hpre : Pre H) (hat : va_at D zC (b, .inr (7, fs)) H) (hn : As.length = 2) (hls : ls.size = nL) (hst : st0 = As.reverse ++ .ref b :: rest) (hro : (rest.map fun v => v.category).sum ≤ 8) (hdg : decode cc pc = .ok (.invokevirtual 97, 3)) (hcs : cells + mc ≤ R.cells ∧ slots + ms ≤ R.slots) : va_Run p l e R s m args below meth c H locs cells slots mc ms (F0 m pc ls st0) rest (zz_Q P (.ref b :: As).toArray) free :=
  zz_rV (n := 2) hE hM zm_663 zm_664 zm_665 zm_5 zm_666 (by decide +kernel) rfl rfl hrm hpre hat hn hls hst hro hdg hcs
theorem cl_La_98 (hE : zz_E p m c cc nL s args R_La D ca) (hM : Met l y_RM_kept w_RM_kept rm (zz_P D ca (.ref b :: As) Pre) (zz_Q P) mc ms free) (hrm : rm.cells = mc ∧ rm.slots = ms ∧ rm.frames + 1 ≤ R.frames ∧ 8 + (3 + 11) + rm.locals ≤ R.locals) (hpre : Pre H) (hat : va_at D zC (b, .inr (6, fs)) H) (hn : As.length = 2) (hls : ls.size = nL) (hst : st0 = As.reverse ++ .ref b :: rest) (hro : (rest.map fun v => v.category).sum ≤ 8) (hdg : decode cc pc = .ok (.invokevirtual 98, 3)) (hcs : cells + mc ≤ R.cells ∧ slots + ms ≤ R.slots) : va_Run p l e R s m args below meth c H locs cells slots mc ms (F0 m pc ls st0) rest (zz_Q P (.ref b :: As).toArray) free :=
  zz_rV (n := 2) hE hM zm_410 zm_411 zm_412 zm_1 zm_413 (by decide +kernel) rfl rfl hrm hpre hat hn hls hst hro hdg hcs
theorem cl_La_101 (hE : zz_E p m c cc nL s args R_La D ca) (hM : Met l y_Mo_kept w_Mo_kept rm (zz_P D ca (.ref b :: As) Pre) (zz_Q P) mc ms free) (hrm : rm.cells = mc ∧ rm.slots = ms ∧ rm.frames + 1 ≤ R.frames ∧ 8 + (7 + 11) + rm.locals ≤ R.locals) (hpre : Pre H) (hat : va_at D zC (b, .inr (7, fs)) H) (hn : As.length = 2) (hls : ls.size = nL) (hst : st0 = As.reverse ++ .ref b :: rest) (hro : (rest.map fun v => v.category).sum ≤ 8) (hdg : decode cc pc = .ok (.invokevirtual 101, 3)) (hcs : cells + mc ≤ R.cells ∧ slots + ms ≤ R.slots) : va_Run p l e R s m args below meth c H locs cells slots mc ms (F0 m pc ls st0) rest (zz_Q P (.ref b :: As).toArray) free :=
  zz_rV (n := 2) hE hM zm_667 zm_668 zm_669 zm_5 zm_670 (by decide +kernel) rfl rfl hrm hpre hat hn hls hst hro hdg hcs
theorem cl_Mo_69 (hE : zz_E p m c cc nL s args R_Mo D ca) (hM : Met l y_Mo_isField w_Mo_isField rm (zz_P D ca (As) Pre) (zz_Q P) mc ms free) (hrm : rm.cells = mc ∧ rm.slots = ms ∧ rm.frames + 1 ≤ R.frames ∧ 8 + (1 + 11) + rm.locals ≤ R.locals) (hpre : Pre H) (hn : As.length = 1) (hls : ls.size = nL) (hst : st0 = As.reverse ++ rest) (hro : (rest.map fun v => v.category).sum ≤ 8) (hdg : decode cc pc = .ok (.invokestatic 69, 3)) (hcs : cells + mc ≤ R.cells ∧ slots + ms ≤ R.slots) : va_Run p l e R s m args below meth c H locs cells slots mc ms (F0 m pc ls st0) rest (zz_Q P (As).toArray) free :=
  zz_rS (n := 1) hE hM zm_508 zm_509 zm_5 zm_510 (by decide +kernel) hrm hpre hn hls hst hro hdg hcs
theorem cl_Mo_76 (hE : zz_E p m c cc nL s args R_Mo D ca) (hM : Met l y_Mo_letter w_Mo_letter rm (zz_P D ca (As) Pre) (zz_Q P) mc ms free) (hrm : rm.cells = mc ∧ rm.slots = ms ∧ rm.frames + 1 ≤ R.frames ∧ 8 + (1 + 11) + rm.locals ≤ R.locals) (hpre : Pre H) (hn : As.length = 1) (hls : ls.size = nL) (hst : st0 = As.reverse ++ rest) (hro : (rest.map fun v => v.category).sum ≤ 8) (hdg : decode cc pc = .ok (.invokestatic 76, 3)) (hcs : cells + mc ≤ R.cells ∧ slots + ms ≤ R.slots) : va_Run p l e R s m args below meth c H locs cells slots mc ms (F0 m pc ls st0) rest (zz_Q P (As).toArray) free :=
  zz_rS (n := 1) hE hM zm_531 zm_532 zm_5 zm_533 (by decide +kernel) hrm hpre hn hls hst hro hdg hcs
theorem cl_Mo_80 (hE : zz_E p m c cc nL s args R_Mo D ca) (hM : Met l y_Mo_at w_Mo_at rm (zz_P D ca (.ref b :: As) Pre) (zz_Q P) mc ms free) (hrm : rm.cells = mc ∧ rm.slots = ms ∧ rm.frames + 1 ≤ R.frames ∧ 8 + (3 + 11) + rm.locals ≤ R.locals) (hpre : Pre H) (hat : va_at D zC (b, .inr (7, fs)) H) (hn : As.length = 2) (hls : ls.size = nL) (hst : st0 = As.reverse ++ .ref b :: rest) (hro : (rest.map fun v => v.category).sum ≤ 8) (hdg : decode cc pc = .ok (.invokevirtual 80, 3)) (hcs : cells + mc ≤ R.cells ∧ slots + ms ≤ R.slots) : va_Run p l e R s m args below meth c H locs cells slots mc ms (F0 m pc ls st0) rest (zz_Q P (.ref b :: As).toArray) free :=
  zz_rV (n := 2) hE hM zm_542 zm_544 zp_Mo_at zm_5 zm_545 (by decide +kernel) rfl rfl hrm hpre hat hn hls hst hro hdg hcs
theorem cl_Mo_84 (hE : zz_E p m c cc nL s args R_Mo D ca) (hM : Met l y_Mo_begins w_Mo_begins rm (zz_P D ca (.ref b :: As) Pre) (zz_Q P) mc ms free) (hrm : rm.cells = mc ∧ rm.slots = ms ∧ rm.frames + 1 ≤ R.frames ∧ 8 + (3 + 11) + rm.locals ≤ R.locals) (hpre : Pre H) (hat : va_at D zC (b, .inr (7, fs)) H) (hn : As.length = 2) (hls : ls.size = nL) (hst : st0 = As.reverse ++ .ref b :: rest) (hro : (rest.map fun v => v.category).sum ≤ 8) (hdg : decode cc pc = .ok (.invokevirtual 84, 3)) (hcs : cells + mc ≤ R.cells ∧ slots + ms ≤ R.slots) : va_Run p l e R s m args below meth c H locs cells slots mc ms (F0 m pc ls st0) rest (zz_Q P (.ref b :: As).toArray) free :=
  zz_rV (n := 2) hE hM zm_538 zm_540 zp_Mo_begins zm_5 zm_541 (by decide +kernel) rfl rfl hrm hpre hat hn hls hst hro hdg hcs
theorem cl_Mo_88 (hE : zz_E p m c cc nL s args R_Mo D ca) (hM : Met l y_Mo_sameWord w_Mo_sameWord rm (zz_P D ca (.ref b :: As) Pre) (zz_Q P) mc ms free) (hrm : rm.cells = mc ∧ rm.slots = ms ∧ rm.frames + 1 ≤ R.frames ∧ 8 + (6 + 11) + rm.locals ≤ R.locals) (hpre : Pre H) (hat : va_at D zC (b, .inr (7, fs)) H) (hn : As.length = 4) (hls : ls.size = nL) (hst : st0 = As.reverse ++ .ref b :: rest) (hro : (rest.map fun v => v.category).sum ≤ 8) (hdg : decode cc pc = .ok (.invokevirtual 88, 3)) (hcs : cells + mc ≤ R.cells ∧ slots + ms ≤ R.slots) : va_Run p l e R s m args below meth c H locs cells slots mc ms (F0 m pc ls st0) rest (zz_Q P (.ref b :: As).toArray) free :=
  zz_rV (n := 4) hE hM zm_550 zm_552 zp_Mo_sameWord zm_5 zm_553 (by decide +kernel) rfl rfl hrm hpre hat hn hls hst hro hdg hcs
theorem cl_Mo_92 (hE : zz_E p m c cc nL s args R_Mo D ca) (hM : Met l y_Mo_stands w_Mo_stands rm (zz_P D ca (.ref b :: As) Pre) (zz_Q P) mc ms free) (hrm : rm.cells = mc ∧ rm.slots = ms ∧ rm.frames + 1 ≤ R.frames ∧ 8 + (7 + 11) + rm.locals ≤ R.locals) (hpre : Pre H) (hat : va_at D zC (b, .inr (7, fs)) H) (hn : As.length = 4) (hls : ls.size = nL) (hst : st0 = As.reverse ++ .ref b :: rest) (hro : (rest.map fun v => v.category).sum ≤ 8) (hdg : decode cc pc = .ok (.invokevirtual 92, 3)) (hcs : cells + mc ≤ R.cells ∧ slots + ms ≤ R.slots) : va_Run p l e R s m args below meth c H locs cells slots mc ms (F0 m pc ls st0) rest (zz_Q P (.ref b :: As).toArray) free :=
  zz_rV (n := 4) hE hM zm_546 zm_548 zp_Mo_stands zm_5 zm_549 (by decide +kernel) rfl rfl hrm hpre hat hn hls hst hro hdg hcs
theorem cl_Mo_95 (hE : zz_E p m c cc nL s args R_Mo D ca) (hM : Met l y_Mo_isRecord w_Mo_isRecord rm (zz_P D ca (.ref b :: As) Pre) (zz_Q P) mc ms free) (hrm : rm.cells = mc ∧ rm.slots = ms ∧ rm.frames + 1 ≤ R.frames ∧ 8 + (2 + 11) + rm.locals ≤ R.locals) (hpre : Pre H) (hat : va_at D zC (b, .inr (7, fs)) H) (hn : As.length = 1) (hls : ls.size = nL) (hst : st0 = As.reverse ++ .ref b :: rest) (hro : (rest.map fun v => v.category).sum ≤ 8) (hdg : decode cc pc = .ok (.invokevirtual 95, 3)) (hcs : cells + mc ≤ R.cells ∧ slots + ms ≤ R.slots) : va_Run p l e R s m args below meth c H locs cells slots mc ms (F0 m pc ls st0) rest (zz_Q P (.ref b :: As).toArray) free :=
  zz_rV (n := 1) hE hM zm_523 zm_525 zp_Mo_isRecord zm_5 zm_526 (by decide +kernel) rfl rfl hrm hpre hat hn hls hst hro hdg hcs
theorem cl_Mo_98 (hE : zz_E p m c cc nL s args R_Mo D ca) (hM : Met l y_Mo_look w_Mo_look rm (zz_P D ca (.ref b :: As) Pre) (zz_Q P) mc ms free) (hrm : rm.cells = mc ∧ rm.slots = ms ∧ rm.frames + 1 ≤ R.frames ∧ 8 + (9 + 11) + rm.locals ≤ R.locals) (hpre : Pre H) (hat : va_at D zC (b, .inr (7, fs)) H) (hn : As.length = 3) (hls : ls.size = nL) (hst : st0 = As.reverse ++ .ref b :: rest) (hro : (rest.map fun v => v.category).sum ≤ 8) (hdg : decode cc pc = .ok (.invokevirtual 98, 3)) (hcs : cells + mc ≤ R.cells ∧ slots + ms ≤ R.slots) : va_Run p l e R s m args below meth c H locs cells slots mc ms (F0 m pc ls st0) rest (zz_Q P (.ref b :: As).toArray) free :=
  zz_rV (n := 3) hE hM zm_527 zm_529 zp_Mo_look zm_5 zm_530 (by decide +kernel) rfl rfl hrm hpre hat hn hls hst hro hdg hcs
theorem cl_Mo_102 (hE : zz_E p m c cc nL s args R_Mo D ca) (hM : Met l y_Mo_inSet w_Mo_inSet rm (zz_P D ca (.ref b :: As) Pre) (zz_Q P) mc ms free) (hrm : rm.cells = mc ∧ rm.slots = ms ∧ rm.frames + 1 ≤ R.frames ∧ 8 + (7 + 11) + rm.locals ≤ R.locals) (hpre : Pre H) (hat : va_at D zC (b, .inr (7, fs)) H) (hn : As.length = 3) (hls : ls.size = nL) (hst : st0 = As.reverse ++ .ref b :: rest) (hro : (rest.map fun v => v.category).sum ≤ 8) (hdg : decode cc pc = .ok (.invokevirtual 102, 3)) (hcs : cells + mc ≤ R.cells ∧ slots + ms ≤ R.slots) : va_Run p l e R s m args below meth c H locs cells slots mc ms (F0 m pc ls st0) rest (zz_Q P (.ref b :: As).toArray) free :=
  zz_rV (n := 3) hE hM zm_534 zm_536 zp_Mo_inSet zm_5 zm_537 (by decide +kernel) rfl rfl hrm hpre hat hn hls hst hro hdg hcs
theorem cl_Mo_106 (hE : zz_E p m c cc nL s args R_Mo D ca) (hM : Met l y_Mo_length w_Mo_length rm (zz_P D ca (.ref b :: As) Pre) (zz_Q P) mc ms free) (hrm : rm.cells = mc ∧ rm.slots = ms ∧ rm.frames + 1 ≤ R.frames ∧ 8 + (3 + 11) + rm.locals ≤ R.locals) (hpre : Pre H) (hat : va_at D zC (b, .inr (7, fs)) H) (hn : As.length = 2) (hls : ls.size = nL) (hst : st0 = As.reverse ++ .ref b :: rest) (hro : (rest.map fun v => v.category).sum ≤ 8) (hdg : decode cc pc = .ok (.invokevirtual 106, 3)) (hcs : cells + mc ≤ R.cells ∧ slots + ms ≤ R.slots) : va_Run p l e R s m args below meth c H locs cells slots mc ms (F0 m pc ls st0) rest (zz_Q P (.ref b :: As).toArray) free :=
  zz_rV (n := 2) hE hM zm_562 zm_555 zm_556 zm_5 zm_557 (by decide +kernel) rfl rfl hrm hpre hat hn hls hst hro hdg hcs
theorem cl_Mo_112 (hE : zz_E p m c cc nL s args R_Mo D ca) (hM : Met l y_Mo_marks w_Mo_marks rm (zz_P D ca (.ref b :: As) Pre) (zz_Q P) mc ms free) (hrm : rm.cells = mc ∧ rm.slots = ms ∧ rm.frames + 1 ≤ R.frames ∧ 8 + (1 + 11) + rm.locals ≤ R.locals) (hpre : Pre H) (hat : va_at D zC (b, .inr (7, fs)) H) (hn : As.length = 0) (hls : ls.size = nL) (hst : st0 = As.reverse ++ .ref b :: rest) (hro : (rest.map fun v => v.category).sum ≤ 8) (hdg : decode cc pc = .ok (.invokevirtual 112, 3)) (hcs : cells + mc ≤ R.cells ∧ slots + ms ≤ R.slots) : va_Run p l e R s m args below meth c H locs cells slots mc ms (F0 m pc ls st0) rest (zz_Q P (.ref b :: As).toArray) free :=
  zz_rV (n := 0) hE hM zm_571 zm_573 zp_Mo_marks zm_5 zm_574 (by decide +kernel) rfl rfl hrm hpre hat hn hls hst hro hdg hcs
theorem cl_Mo_116 (hE : zz_E p m c cc nL s args R_Mo D ca) (hM : Met l y_Mo_mark w_Mo_mark rm (zz_P D ca (.ref b :: As) Pre) (zz_Q P) mc ms free) (hrm : rm.cells = mc ∧ rm.slots = ms ∧ rm.frames + 1 ≤ R.frames ∧ 8 + (6 + 11) + rm.locals ≤ R.locals) (hpre : Pre H) (hat : va_at D zC (b, .inr (7, fs)) H) (hn : As.length = 4) (hls : ls.size = nL) (hst : st0 = As.reverse ++ .ref b :: rest) (hro : (rest.map fun v => v.category).sum ≤ 8) (hdg : decode cc pc = .ok (.invokevirtual 116, 3)) (hcs : cells + mc ≤ R.cells ∧ slots + ms ≤ R.slots) : va_Run p l e R s m args below meth c H locs cells slots mc ms (F0 m pc ls st0) rest (zz_Q P (.ref b :: As).toArray) free :=
  zz_rV (n := 4) hE hM zm_567 zm_569 zp_Mo_mark zm_5 zm_570 (by decide +kernel) rfl rfl hrm hpre hat hn hls hst hro hdg hcs
theorem cl_Mo_120 (hE : zz_E p m c cc nL s args R_Mo D ca) (hM : Met l y_Mo_push w_Mo_push rm (zz_P D ca (.ref b :: As) Pre) (zz_Q P) mc ms free) (hrm : rm.cells = mc ∧ rm.slots = ms ∧ rm.frames + 1 ≤ R.frames ∧ 8 + (2 + 11) + rm.locals ≤ R.locals) (hpre : Pre H) (hat : va_at D zC (b, .inr (7, fs)) H) (hn : As.length = 0) (hls : ls.size = nL) (hst : st0 = As.reverse ++ .ref b :: rest) (hro : (rest.map fun v => v.category).sum ≤ 8) (hdg : decode cc pc = .ok (.invokevirtual 120, 3)) (hcs : cells + mc ≤ R.cells ∧ slots + ms ≤ R.slots) : va_Run p l e R s m args below meth c H locs cells slots mc ms (F0 m pc ls st0) rest (zz_Q P (.ref b :: As).toArray) free :=
  zz_rV (n := 0) hE hM zm_575 zm_577 zp_Mo_push zm_5 zm_578 (by decide +kernel) rfl rfl hrm hpre hat hn hls hst hro hdg hcs
theorem cl_Mo_123 (hE : zz_E p m c cc nL s args R_Mo D ca) (hM : Met l y_Mo_leaves w_Mo_leaves rm (zz_P D ca (.ref b :: As) Pre) (zz_Q P) mc ms free) (hrm : rm.cells = mc ∧ rm.slots = ms ∧ rm.frames + 1 ≤ R.frames ∧ 8 + (5 + 11) + rm.locals ≤ R.locals) (hpre : Pre H) (hat : va_at D zC (b, .inr (7, fs)) H) (hn : As.length = 2) (hls : ls.size = nL) (hst : st0 = As.reverse ++ .ref b :: rest) (hro : (rest.map fun v => v.category).sum ≤ 8) (hdg : decode cc pc = .ok (.invokevirtual 123, 3)) (hcs : cells + mc ≤ R.cells ∧ slots + ms ≤ R.slots) : va_Run p l e R s m args below meth c H locs cells slots mc ms (F0 m pc ls st0) rest (zz_Q P (.ref b :: As).toArray) free :=
  zz_rV (n := 2) hE hM zm_587 zm_589 zp_Mo_leaves zm_5 zm_590 (by decide +kernel) rfl rfl hrm hpre hat hn hls hst hro hdg hcs
theorem cl_Mo_126 (hE : zz_E p m c cc nL s args R_Mo D ca) (hM : Met l y_Mo_driven w_Mo_driven rm (zz_P D ca (.ref b :: As) Pre) (zz_Q P) mc ms free) (hrm : rm.cells = mc ∧ rm.slots = ms ∧ rm.frames + 1 ≤ R.frames ∧ 8 + (3 + 11) + rm.locals ≤ R.locals) (hpre : Pre H) (hat : va_at D zC (b, .inr (7, fs)) H) (hn : As.length = 0) (hls : ls.size = nL) (hst : st0 = As.reverse ++ .ref b :: rest) (hro : (rest.map fun v => v.category).sum ≤ 8) (hdg : decode cc pc = .ok (.invokevirtual 126, 3)) (hcs : cells + mc ≤ R.cells ∧ slots + ms ≤ R.slots) : va_Run p l e R s m args below meth c H locs cells slots mc ms (F0 m pc ls st0) rest (zz_Q P (.ref b :: As).toArray) free :=
  zz_rV (n := 0) hE hM zm_595 zm_597 zp_Mo_driven zm_5 zm_598 (by decide +kernel) rfl rfl hrm hpre hat hn hls hst hro hdg hcs
theorem cl_Mo_133 (hE : zz_E p m c cc nL s args R_Mo D ca) (hM : Met l y_Mo_distance w_Mo_distance rm (zz_P D ca (.ref b :: As) Pre) (zz_Q P) mc ms free) (hrm : rm.cells = mc ∧ rm.slots = ms ∧ rm.frames + 1 ≤ R.frames ∧ 8 + (6 + 11) + rm.locals ≤ R.locals) (hpre : Pre H) (hat : va_at D zC (b, .inr (7, fs)) H) (hn : As.length = 0) (hls : ls.size = nL) (hst : st0 = As.reverse ++ .ref b :: rest) (hro : (rest.map fun v => v.category).sum ≤ 8) (hdg : decode cc pc = .ok (.invokevirtual 133, 3)) (hcs : cells + mc ≤ R.cells ∧ slots + ms ≤ R.slots) : va_Run p l e R s m args below meth c H locs cells slots mc ms (F0 m pc ls st0) rest (zz_Q P (.ref b :: As).toArray) free :=
  zz_rV (n := 0) hE hM zm_615 zm_617 zp_Mo_distance zm_5 zm_618 (by decide +kernel) rfl rfl hrm hpre hat hn hls hst hro hdg hcs
theorem cl_Mo_136 (hE : zz_E p m c cc nL s args R_Mo D ca) (hM : Met l y_Mo_leafHolds w_Mo_leafHolds rm (zz_P D ca (.ref b :: As) Pre) (zz_Q P) mc ms free) (hrm : rm.cells = mc ∧ rm.slots = ms ∧ rm.frames + 1 ≤ R.frames ∧ 8 + (6 + 11) + rm.locals ≤ R.locals) (hpre : Pre H) (hat : va_at D zC (b, .inr (7, fs)) H) (hn : As.length = 3) (hls : ls.size = nL) (hst : st0 = As.reverse ++ .ref b :: rest) (hro : (rest.map fun v => v.category).sum ≤ 8) (hdg : decode cc pc = .ok (.invokevirtual 136, 3)) (hcs : cells + mc ≤ R.cells ∧ slots + ms ≤ R.slots) : va_Run p l e R s m args below meth c H locs cells slots mc ms (F0 m pc ls st0) rest (zz_Q P (.ref b :: As).toArray) free :=
  zz_rV (n := 3) hE hM zm_611 zm_613 zp_Mo_leafHolds zm_5 zm_614 (by decide +kernel) rfl rfl hrm hpre hat hn hls hst hro hdg hcs
theorem cl_Mo_140 (hE : zz_E p m c cc nL s args R_Mo D ca) (hM : Met l y_Mo_holds w_Mo_holds rm (zz_P D ca (.ref b :: As) Pre) (zz_Q P) mc ms free) (hrm : rm.cells = mc ∧ rm.slots = ms ∧ rm.frames + 1 ≤ R.frames ∧ 8 + (5 + 11) + rm.locals ≤ R.locals) (hpre : Pre H) (hat : va_at D zC (b, .inr (7, fs)) H) (hn : As.length = 2) (hls : ls.size = nL) (hst : st0 = As.reverse ++ .ref b :: rest) (hro : (rest.map fun v => v.category).sum ≤ 8) (hdg : decode cc pc = .ok (.invokevirtual 140, 3)) (hcs : cells + mc ≤ R.cells ∧ slots + ms ≤ R.slots) : va_Run p l e R s m args below meth c H locs cells slots mc ms (F0 m pc ls st0) rest (zz_Q P (.ref b :: As).toArray) free :=
  zz_rV (n := 2) hE hM zm_607 zm_609 zp_Mo_holds zm_5 zm_610 (by decide +kernel) rfl rfl hrm hpre hat hn hls hst hro hdg hcs
theorem cl_Mo_143 (hE : zz_E p m c cc nL s args R_Mo D ca) (hM : Met l y_Mo_tasksOf w_Mo_tasksOf rm (zz_P D ca (.ref b :: As) Pre) (zz_Q P) mc ms free) (hrm : rm.cells = mc ∧ rm.slots = ms ∧ rm.frames + 1 ≤ R.frames ∧ 8 + (4 + 11) + rm.locals ≤ R.locals) (hpre : Pre H) (hat : va_at D zC (b, .inr (7, fs)) H) (hn : As.length = 1) (hls : ls.size = nL) (hst : st0 = As.reverse ++ .ref b :: rest) (hro : (rest.map fun v => v.category).sum ≤ 8) (hdg : decode cc pc = .ok (.invokevirtual 143, 3)) (hcs : cells + mc ≤ R.cells ∧ slots + ms ≤ R.slots) : va_Run p l e R s m args below meth c H locs cells slots mc ms (F0 m pc ls st0) rest (zz_Q P (.ref b :: As).toArray) free :=
  zz_rV (n := 1) hE hM zm_631 zm_633 zp_Mo_tasksOf zm_5 zm_634 (by decide +kernel) rfl rfl hrm hpre hat hn hls hst hro hdg hcs
theorem cl_Mo_146 (hE : zz_E p m c cc nL s args R_Mo D ca) (hM : Met l y_Mo_isWorker w_Mo_isWorker rm (zz_P D ca (.ref b :: As) Pre) (zz_Q P) mc ms free) (hrm : rm.cells = mc ∧ rm.slots = ms ∧ rm.frames + 1 ≤ R.frames ∧ 8 + (2 + 11) + rm.locals ≤ R.locals) (hpre : Pre H) (hat : va_at D zC (b, .inr (7, fs)) H) (hn : As.length = 1) (hls : ls.size = nL) (hst : st0 = As.reverse ++ .ref b :: rest) (hro : (rest.map fun v => v.category).sum ≤ 8) (hdg : decode cc pc = .ok (.invokevirtual 146, 3)) (hcs : cells + mc ≤ R.cells ∧ slots + ms ≤ R.slots) : va_Run p l e R s m args below meth c H locs cells slots mc ms (F0 m pc ls st0) rest (zz_Q P (.ref b :: As).toArray) free :=
  zz_rV (n := 1) hE hM zm_627 zm_629 zp_Mo_isWorker zm_5 zm_630 (by decide +kernel) rfl rfl hrm hpre hat hn hls hst hro hdg hcs
theorem cl_Mo_149 (hE : zz_E p m c cc nL s args R_Mo D ca) (hM : Met l y_Mo_isDone w_Mo_isDone rm (zz_P D ca (.ref b :: As) Pre) (zz_Q P) mc ms free) (hrm : rm.cells = mc ∧ rm.slots = ms ∧ rm.frames + 1 ≤ R.frames ∧ 8 + (3 + 11) + rm.locals ≤ R.locals) (hpre : Pre H) (hat : va_at D zC (b, .inr (7, fs)) H) (hn : As.length = 0) (hls : ls.size = nL) (hst : st0 = As.reverse ++ .ref b :: rest) (hro : (rest.map fun v => v.category).sum ≤ 8) (hdg : decode cc pc = .ok (.invokevirtual 149, 3)) (hcs : cells + mc ≤ R.cells ∧ slots + ms ≤ R.slots) : va_Run p l e R s m args below meth c H locs cells slots mc ms (F0 m pc ls st0) rest (zz_Q P (.ref b :: As).toArray) free :=
  zz_rV (n := 0) hE hM zm_639 zm_641 zp_Mo_isDone zm_5 zm_642 (by decide +kernel) rfl rfl hrm hpre hat hn hls hst hro hdg hcs
theorem cl_Mo_152 (hE : zz_E p m c cc nL s args R_Mo D ca) (hM : Met l y_Mo_isFound w_Mo_isFound rm (zz_P D ca (.ref b :: As) Pre) (zz_Q P) mc ms free) (hrm : rm.cells = mc ∧ rm.slots = ms ∧ rm.frames + 1 ≤ R.frames ∧ 8 + (5 + 11) + rm.locals ≤ R.locals) (hpre : Pre H) (hat : va_at D zC (b, .inr (7, fs)) H) (hn : As.length = 2) (hls : ls.size = nL) (hst : st0 = As.reverse ++ .ref b :: rest) (hro : (rest.map fun v => v.category).sum ≤ 8) (hdg : decode cc pc = .ok (.invokevirtual 152, 3)) (hcs : cells + mc ≤ R.cells ∧ slots + ms ≤ R.slots) : va_Run p l e R s m args below meth c H locs cells slots mc ms (F0 m pc ls st0) rest (zz_Q P (.ref b :: As).toArray) free :=
  zz_rV (n := 2) hE hM zm_647 zm_649 zp_Mo_isFound zm_5 zm_650 (by decide +kernel) rfl rfl hrm hpre hat hn hls hst hro hdg hcs
theorem cl_Mo_155 (hE : zz_E p m c cc nL s args R_Mo D ca) (hM : Met l y_Mo_spread w_Mo_spread rm (zz_P D ca (.ref b :: As) Pre) (zz_Q P) mc ms free) (hrm : rm.cells = mc ∧ rm.slots = ms ∧ rm.frames + 1 ≤ R.frames ∧ 8 + (5 + 11) + rm.locals ≤ R.locals) (hpre : Pre H) (hat : va_at D zC (b, .inr (7, fs)) H) (hn : As.length = 0) (hls : ls.size = nL) (hst : st0 = As.reverse ++ .ref b :: rest) (hro : (rest.map fun v => v.category).sum ≤ 8) (hdg : decode cc pc = .ok (.invokevirtual 155, 3)) (hcs : cells + mc ≤ R.cells ∧ slots + ms ≤ R.slots) : va_Run p l e R s m args below meth c H locs cells slots mc ms (F0 m pc ls st0) rest (zz_Q P (.ref b :: As).toArray) free :=
  zz_rV (n := 0) hE hM zm_659 zm_661 zp_Mo_spread zm_5 zm_662 (by decide +kernel) rfl rfl hrm hpre hat hn hls hst hro hdg hcs
theorem cl_Mo_158 (hE : zz_E p m c cc nL s args R_Mo D ca) (hM : Met l y_Mo_compare w_Mo_compare rm (zz_P D ca (.ref b :: As) Pre) (zz_Q P) mc ms free) (hrm : rm.cells = mc ∧ rm.slots = ms ∧ rm.frames + 1 ≤ R.frames ∧ 8 + (7 + 11) + rm.locals ≤ R.locals) (hpre : Pre H) (hat : va_at D zC (b, .inr (7, fs)) H) (hn : As.length = 3) (hls : ls.size = nL) (hst : st0 = As.reverse ++ .ref b :: rest) (hro : (rest.map fun v => v.category).sum ≤ 8) (hdg : decode cc pc = .ok (.invokevirtual 158, 3)) (hcs : cells + mc ≤ R.cells ∧ slots + ms ≤ R.slots) : va_Run p l e R s m args below meth c H locs cells slots mc ms (F0 m pc ls st0) rest (zz_Q P (.ref b :: As).toArray) free :=
  zz_rV (n := 3) hE hM zm_679 zm_681 zp_Mo_compare zm_5 zm_682 (by decide +kernel) rfl rfl hrm hpre hat hn hls hst hro hdg hcs
theorem cl_Mo_162 (hE : zz_E p m c cc nL s args R_Mo D ca) (hM : Met l y_Mo_sizeOf w_Mo_sizeOf rm (zz_P D ca (.ref b :: As) Pre) (zz_Q P) mc ms free) (hrm : rm.cells = mc ∧ rm.slots = ms ∧ rm.frames + 1 ≤ R.frames ∧ 8 + (3 + 11) + rm.locals ≤ R.locals) (hpre : Pre H) (hat : va_at D zC (b, .inr (7, fs)) H) (hn : As.length = 2) (hls : ls.size = nL) (hst : st0 = As.reverse ++ .ref b :: rest) (hro : (rest.map fun v => v.category).sum ≤ 8) (hdg : decode cc pc = .ok (.invokevirtual 162, 3)) (hcs : cells + mc ≤ R.cells ∧ slots + ms ≤ R.slots) : va_Run p l e R s m args below meth c H locs cells slots mc ms (F0 m pc ls st0) rest (zz_Q P (.ref b :: As).toArray) free :=
  zz_rV (n := 2) hE hM zm_675 zm_677 zp_Mo_sizeOf zm_5 zm_678 (by decide +kernel) rfl rfl hrm hpre hat hn hls hst hro hdg hcs
theorem cl_Mo_165 (hE : zz_E p m c cc nL s args R_Mo D ca) (hM : Met l y_Mo_same w_Mo_same rm (zz_P D ca (.ref b :: As) Pre) (zz_Q P) mc ms free) (hrm : rm.cells = mc ∧ rm.slots = ms ∧ rm.frames + 1 ≤ R.frames ∧ 8 + (7 + 11) + rm.locals ≤ R.locals) (hpre : Pre H) (hat : va_at D zC (b, .inr (7, fs)) H) (hn : As.length = 3) (hls : ls.size = nL) (hst : st0 = As.reverse ++ .ref b :: rest) (hro : (rest.map fun v => v.category).sum ≤ 8) (hdg : decode cc pc = .ok (.invokevirtual 165, 3)) (hcs : cells + mc ≤ R.cells ∧ slots + ms ≤ R.slots) : va_Run p l e R s m args below meth c H locs cells slots mc ms (F0 m pc ls st0) rest (zz_Q P (.ref b :: As).toArray) free :=
  zz_rV (n := 3) hE hM zm_683 zm_685 zp_Mo_same zm_5 zm_686 (by decide +kernel) rfl rfl hrm hpre hat hn hls hst hro hdg hcs
theorem cl_Mo_168 (hE : zz_E p m c cc nL s args R_Mo D ca) (hM : Met l y_Mo_better w_Mo_better rm (zz_P D ca (.ref b :: As) Pre) (zz_Q P) mc ms free) (hrm : rm.cells = mc ∧ rm.slots = ms ∧ rm.frames + 1 ≤ R.frames ∧ 8 + (8 + 11) + rm.locals ≤ R.locals) (hpre : Pre H) (hat : va_at D zC (b, .inr (7, fs)) H) (hn : As.length = 4) (hls : ls.size = nL) (hst : st0 = As.reverse ++ .ref b :: rest) (hro : (rest.map fun v => v.category).sum ≤ 8) (hdg : decode cc pc = .ok (.invokevirtual 168, 3)) (hcs : cells + mc ≤ R.cells ∧ slots + ms ≤ R.slots) : va_Run p l e R s m args below meth c H locs cells slots mc ms (F0 m pc ls st0) rest (zz_Q P (.ref b :: As).toArray) free :=
  zz_rV (n := 4) hE hM zm_671 zm_673 zp_Mo_better zm_5 zm_674 (by decide +kernel) rfl rfl hrm hpre hat hn hls hst hro hdg hcs
end ZCa
end
section
/-! The reference's object and its arrays: one block of nineteen cells; what each array holds is a row of numbers. -/
def moF (r n t rs w : Nat) : List Value := [.ref (r + 1), .ref (r + 2), .int (nI n), .ref (r + 3), .ref (r + 4), .ref (r + 5), .ref (r + 6), .ref (r + 7), .ref (r + 8), .ref (r + 9), .ref (r + 10), .int (nI t), .int (nI rs), .ref (r + 11), .ref (r + 12), .ref (r + 13), .ref (r + 14), .ref (r + 15), .int (nI w), .ref (r + 16), .ref (r + 17), .ref (r + 18)]
def moL (k : Nat) : Nat := match k with
  | 1 => 312
  | 2 => 26
  | 3 => 24
  | 4 => 2
  | 5 => 169
  | 6 => 140
  | 7 => 140
  | 8 => 140
  | 9 => 140
  | 10 => 7
  | 11 => 24
  | 12 => 24
  | 13 => 24
  | 14 => 24
  | 15 => 24
  | 16 => 4
  | 17 => 2
  | 18 => 12
  | _ => 0
theorem moL_lt (k : Nat) : moL k < 2 ^ 31 := by
  unfold moL
  split <;> decide
def moC (ca : Nat → ClassId) (k : Nat) : ClassId := if k = 15 then ca 2 else ca 0
def MoAt (D : va_G) (ca : Nat → ClassId) (H : Heap) (r n t rs w : Nat) (A : Nat → Nat → Nat) : Prop := va_at D zC (r, .inr (7, moF r n t rs w)) H ∧ ∀ k, 1 ≤ k → k ≤ 18 → va_at D zC (r + k, .inl (moC ca k, moL k, .inl (fun j => nI (A k j)))) H
def up2 (A : Nat → Nat → Nat) (k i x : Nat) : Nat → Nat → Nat := fun a j => if a = k ∧ j = i then x else A a j
theorem up2_s {A : Nat → Nat → Nat} {k i x : Nat} : up2 A k i x k i = x := by simp [up2]
theorem up2_k {A : Nat → Nat → Nat} {k i x a j : Nat} (h : a ≠ k) : up2 A k i x a j = A a j := by simp [up2, h]
theorem up2_i {A : Nat → Nat → Nat} {k i x a j : Nat} (h : j ≠ i) : up2 A k i x a j = A a j := by simp [up2, h]
def moFr (r : Nat) (q : Nat) : Prop := r ≤ q ∧ q ≤ r + 18
/-- nothing outside F has changed, no cell is new -/
def zz_fr (F : Nat → Prop) (H H1 : Heap) : Prop := H1.size = H.size ∧ ∀ q : Nat, ¬ F q → H1[q]? = H[q]?
theorem zz_fr.rf {F : Nat → Prop} {H : Heap} : zz_fr F H H := ⟨rfl, fun _ _ => rfl⟩
theorem zz_fr.tr {F : Nat → Prop} {H H1 H2 : Heap} (h1 : zz_fr F H H1) (h2 : zz_fr F H1 H2) : zz_fr F H H2 := ⟨h2.1.trans h1.1, fun q hq => (h2.2 q hq).trans (h1.2 q hq)⟩
theorem zz_fr.up {F : Nat → Prop} {H H1 H2 : Heap} {a : Nat} (h1 : zz_fr F H H1) (h2 : zz_up H1 H2 a) (ha : F a) : zz_fr F H H2 := h1.tr ⟨h2.1, fun q hq => h2.2 q (fun e => hq (e ▸ ha))⟩
theorem mo_up {A : Nat → Nat → Nat} {k i x : Nat} : upd (fun j => nI (A k j)) i (nI x) = fun j => nI (up2 A k i x k j) := by
  funext j
  by_cases h : j = i
  · subst h; simp [upd, up2]
  · simp [upd, up2, h]
section MO
variable {p : Program} {l : Launch} {e : Env} {R : Room} {s : State} {m : MethodId} {args : Array Value} {below : List Frame} {meth : Method} {c : Code} {H : Heap} {locs : List Loc} {cells slots : Nat} {Q : State → Prop}
variable {cc : ByteArray} {nL pc : Nat} {ls : Array Slot} {rest st0 : List Value} {D : va_G} {ca : Nat → ClassId} {own : String} {r n t rs w : Nat} {A : Nat → Nat → Nat}
theorem mo_arr (hM : MoAt D ca H r n t rs w A) (k : Nat) (hk : 1 ≤ k ∧ k ≤ 18 ∧ k ≠ 15) : va_at D zC (r + k, .inl (ca 0, moL k, .inl (fun j => nI (A k j)))) H := by
  have h := hM.2 k hk.1 hk.2.1
  rw [show moC ca k = ca 0 from if_neg hk.2.2] at h
  exact h
theorem mo_set {H1 : Heap} (hM : MoAt D ca H r n t rs w A) {k i x : Nat} (hk : 1 ≤ k ∧ k ≤ 18) (h1 : va_at D zC (r + k, .inl (moC ca k, moL k, .inl (upd (fun j => nI (A k j)) i (nI x)))) H1) (hu : zz_up H H1 (r + k)) : MoAt D ca H1 r n t rs w (up2 A k i x) := by
  refine ⟨zz_keep hu (show r ≠ r + k by omega) hM.1, fun k2 h2 h3 => ?_⟩
  by_cases hkk : k2 = k
  · subst hkk
    rw [mo_up] at h1
    exact h1
  · have h := zz_keep hu (show r + k2 ≠ r + k by omega) (hM.2 k2 h2 h3)
    have e1 : (fun j => nI (up2 A k i x k2 j)) = fun j => nI (A k2 j) := by funext j; rw [up2_k hkk]
    rw [e1]
    exact h
theorem mo_fld {H1 : Heap} {n2 t2 rs2 w2 : Nat} (hM : MoAt D ca H r n t rs w A) (h1 : va_at D zC (r, .inr (7, moF r n2 t2 rs2 w2)) H1) (hu : zz_up H H1 r) : MoAt D ca H1 r n2 t2 rs2 w2 A :=
  ⟨h1, fun k h2 h3 => zz_keep hu (show r + k ≠ r by omega) (hM.2 k h2 h3)⟩
theorem mo_ld (hE : zz_E p m c cc nL s args own D ca) (hM : MoAt D ca H r n t rs w A) (k : Nat) (hk : 1 ≤ k ∧ k ≤ 18 ∧ k ≠ 15) {i : Nat} (hi : i < moL k) (hdg : decode cc pc = .ok (.iaload, 1)) (kk : W p l e R s m args below meth c H locs cells slots Q (F0 m (pc + 1) ls (.int (nI (A k i)) :: rest))) : W p l e R s m args below meth c H locs cells slots Q (F0 m pc ls (.int (nI i) :: .ref (r + k) :: rest)) :=
  zz_iald hE.1.1 hE.1.2.1 hE.2.1 (mo_arr hM k hk) 0 rfl hi (moL_lt k) hdg kk
theorem mo_ldz (hE : zz_E p m c cc nL s args own D ca) (hM : MoAt D ca H r n t rs w A) {i : Nat} (hi : i < 24) (hdg : decode cc pc = .ok (.baload, 1)) (kk : W p l e R s m args below meth c H locs cells slots Q (F0 m (pc + 1) ls (.int (nI (A 15 i)) :: rest))) : W p l e R s m args below meth c H locs cells slots Q (F0 m pc ls (.int (nI i) :: .ref (r + 15) :: rest)) :=
  zz_zald hE.1.1 hE.1.2.1 hE.2.1 (hM.2 15 (by decide) (by decide)) 2 rfl hi (by decide) hdg kk
theorem mo_st (hE : zz_E p m c cc nL s args own D ca) (hM : MoAt D ca H r n t rs w A) {H0 : Heap} (hS : zz_fr (moFr r) H0 H) (hL : zz_L (moFr r) locs) (k : Nat) (hk : 1 ≤ k ∧ k ≤ 18 ∧ k ≠ 15) {i x : Nat} (hi : i < moL k) (hdg : decode cc pc = .ok (.iastore, 1)) (kk : ∀ (H1 : Heap) (locs1 : List Loc), MoAt D ca H1 r n t rs w (up2 A k i x) → zz_fr (moFr r) H0 H1 → zz_L (moFr r) locs1 → W p l e R s m args below meth c H1 locs1 cells slots Q (F0 m (pc + 1) ls rest)) : W p l e R s m args below meth c H locs cells slots Q (F0 m pc ls (.int (nI x) :: .int (nI i) :: .ref (r + k) :: rest)) := by
  have hF : moFr r (r + k) := ⟨by omega, by omega⟩
  refine zz_iast hE.1.1 hE.1.2.1 hE.2.1 (mo_arr hM k hk) hL hF 0 rfl hi (moL_lt k) hdg fun H1 locs1 h1 hu hL1 => kk H1 locs1 (mo_set hM ⟨hk.1, hk.2.1⟩ ?_ hu) (hS.up hu hF) hL1
  rw [show moC ca k = ca 0 from if_neg hk.2.2]
  exact h1
theorem mo_stz (hE : zz_E p m c cc nL s args own D ca) (hM : MoAt D ca H r n t rs w A) {H0 : Heap} (hS : zz_fr (moFr r) H0 H) (hL : zz_L (moFr r) locs) {i : Nat} {b : Bool} (hi : i < 24) (hdg : decode cc pc = .ok (.bastore, 1)) (kk : ∀ (H1 : Heap) (locs1 : List Loc), MoAt D ca H1 r n t rs w (up2 A 15 i b.toNat) → zz_fr (moFr r) H0 H1 → zz_L (moFr r) locs1 → W p l e R s m args below meth c H1 locs1 cells slots Q (F0 m (pc + 1) ls rest)) : W p l e R s m args below meth c H locs cells slots Q (F0 m pc ls (.int (nI b.toNat) :: .int (nI i) :: .ref (r + 15) :: rest)) := by
  have hF : moFr r (r + 15) := ⟨by omega, by omega⟩
  exact zz_zast hE.1.1 hE.1.2.1 hE.2.1 (hM.2 15 (by decide) (by decide)) hL hF 2 rfl hi (by decide) (zz_narB b) hdg fun H1 locs1 h1 hu hL1 => kk H1 locs1 (mo_set hM ⟨by decide, by decide⟩ h1 hu) (hS.up hu hF) hL1
end MO
end
section
/-! Loops of a walk; small functions over numbers. -/
section ZLo
variable {p : Program} {l : Launch} {e : Env} {R : Room} {s : State} {m : MethodId} {args : Array Value} {below : List Frame} {meth : Method} {c : Code} {H : Heap} {locs : List Loc} {cells slots : Nat} {Q : State → Prop} {pc : Nat} {st : List Value}
theorem zz_loopP {σ : Type} (I : σ → Array Slot → Prop) (μ : σ → Nat) (body : ∀ x, (∀ x' ls', I x' ls' → μ x' < μ x → W p l e R s m args below meth c H locs cells slots Q (F0 m pc ls' st)) → ∀ ls, I x ls → W p l e R s m args below meth c H locs cells slots Q (F0 m pc ls st)) : ∀ x ls, I x ls → W p l e R s m args below meth c H locs cells slots Q (F0 m pc ls st) := by
  have key : ∀ n x, μ x < n → ∀ ls, I x ls → W p l e R s m args below meth c H locs cells slots Q (F0 m pc ls st) := by
    intro n
    induction n with
    | zero => intro x h; exact absurd h (Nat.not_lt_zero _)
    | succ n ih => intro x hx ls hI; exact body x (fun x' ls' h' hlt => ih x' (by omega) ls' h') ls hI
  exact fun x ls h => key (μ x + 1) x (Nat.lt_succ_self _) ls h
theorem zz_loopH {σ : Type} (I : σ → Array Slot → Heap → List Loc → Prop) (μ : σ → Nat) (body : ∀ x, (∀ x' ls' H' locs', I x' ls' H' locs' → μ x' < μ x → W p l e R s m args below meth c H' locs' cells slots Q (F0 m pc ls' st)) → ∀ ls H locs, I x ls H locs → W p l e R s m args below meth c H locs cells slots Q (F0 m pc ls st)) : ∀ x ls H locs, I x ls H locs → W p l e R s m args below meth c H locs cells slots Q (F0 m pc ls st) := by
  have key : ∀ n x, μ x < n → ∀ ls H locs, I x ls H locs → W p l e R s m args below meth c H locs cells slots Q (F0 m pc ls st) := by
    intro n
    induction n with
    | zero => intro x h; exact absurd h (Nat.not_lt_zero _)
    | succ n ih => intro x hx ls H locs hI; exact body x (fun x' ls' H' locs' h' hlt => ih x' (by omega) ls' H' locs' h') ls H locs hI
  exact fun x ls H locs h => key (μ x + 1) x (Nat.lt_succ_self _) ls H locs h
end ZLo
/-- how many below n -/
def zcnt (P : Nat → Bool) : Nat → Nat
  | 0 => 0
  | n + 1 => zcnt P n + (P n).toNat
/-- one below n -/
def zany (P : Nat → Bool) : Nat → Bool
  | 0 => false
  | n + 1 => zany P n || P n
theorem zcnt_le (P : Nat → Bool) : ∀ n, zcnt P n ≤ n
  | 0 => Nat.le_refl _
  | n + 1 => by
    have h := zcnt_le P n
    have h2 : (P n).toNat ≤ 1 := by cases P n <;> decide
    simp only [zcnt]
    omega
theorem zcnt_congr {P Q : Nat → Bool} : ∀ {n : Nat}, (∀ i, i < n → P i = Q i) → zcnt P n = zcnt Q n
  | 0, _ => rfl
  | n + 1, h => by simp only [zcnt]; rw [zcnt_congr (fun i hi => h i (by omega)), h n (by omega)]
theorem zany_congr {P Q : Nat → Bool} : ∀ {n : Nat}, (∀ i, i < n → P i = Q i) → zany P n = zany Q n
  | 0, _ => rfl
  | n + 1, h => by simp only [zany]; rw [zany_congr (fun i hi => h i (by omega)), h n (by omega)]
theorem zany_iff {P : Nat → Bool} : ∀ {n : Nat}, zany P n = true ↔ ∃ i, i < n ∧ P i = true
  | 0 => by simp [zany]
  | n + 1 => by
    simp only [zany, Bool.or_eq_true, zany_iff]
    constructor
    · rintro (⟨i, h1, h2⟩ | h)
      · exact ⟨i, by omega, h2⟩
      · exact ⟨n, by omega, h⟩
    · rintro ⟨i, h1, h2⟩
      by_cases hi : i = n
      · exact Or.inr (hi ▸ h2)
      · exact Or.inl ⟨i, by omega, h2⟩
def zisR (n : Nat) (x : Int32) : Bool := !(decide (x < 0)) && !(decide (nI n ≤ x))
def zisF (x : Int32) : Bool := decide (x = 0) || decide (x = 1)
/-! The reference's texts -/
def mLet (c : Nat) : Nat := if (48 ≤ c ∧ c ≤ 57) ∨ (97 ≤ c ∧ c ≤ 122) then c else if 65 ≤ c ∧ c ≤ 90 then c + 32 else 0
def mAt (A : Nat → Nat → Nat) (w i : Nat) : Nat := if i < A 4 w then A 3 (12 * w + i) else 32
def mBg (A : Nat → Nat → Nat) (w i : Nat) : Bool := decide (mAt A w i ≠ 32) && (decide (i = 0) || decide (mAt A w (i - 1) = 32))
def mSwF (A : Nat → Nat → Nat) (a i b j : Nat) : Nat → Nat → Bool
  | 0, _ => true
  | f + 1, k => if mAt A a (i + k) = mAt A b (j + k) ∧ mAt A a (i + k) ≠ 32 then mSwF A a i b j f (k + 1) else decide (mAt A a (i + k) = mAt A b (j + k))
def mSw (A : Nat → Nat → Nat) (a i b j : Nat) : Bool := mSwF A a i b j 13 0
def mSt (A : Nat → Nat → Nat) (a i b : Nat) : Nat → Bool := zany (fun j => mBg A b j && mSw A a i b j)
def mIn (A : Nat → Nat → Nat) (a b : Nat) (both : Bool) : Nat → Nat := zcnt (fun i => mBg A a i && !(mSt A a i a i) && (!both || mSt A a i b (A 4 b)))
end
section
set_option maxHeartbeats 4000000 in
set_option maxRecDepth 100000 in
theorem k_Mo_isRecord (l : Launch) (D : va_G) (ca : Nat → ClassId) (r n t rs w : Nat) (A : Nat → Nat → Nat) (x : Int32) : Met l y_Mo_isRecord w_Mo_isRecord (zr 0 0 0) (zz_P D ca [.ref r, .int x] (fun H => MoAt D ca H r n t rs w A)) (zz_Q (fun H H1 v => H1 = H ∧ v = some (.int (nI (zisR n x).toNat)))) 0 0 (fun _ => False) := by
  refine zz_met (cc := c_Mo_isRecord) (by decide) (Nat.le_of_ble_eq_true rfl) ?_
  intro p e s m below meth c ls hE hr hlk hnm hM hl
  have hx := hE.1.1
  have hb := hE.1.2.1
  have hK := hE.2
  have hl : lv_has ls 2 [(0, .ref r), (1, .int x)] := hl
  have hL : zz_L (fun _ => False) ([] : List Loc) := zz_L.nil
  refine lv_iload_n hx hb d_Mo_isRecord_0 rfl (lv_at hl 1 rfl) ?_
  refine lv_if_lt hx hb d_Mo_isRecord_1 (tgt := 16) rfl (fun hT1 => ?_) (fun hF1 => ?_)
  · refine lv_iconst (v := nI 0) hx hb d_Mo_isRecord_16 (by decide) ?_
    exact zz_iret hx hb hr hlk rfl ⟨rfl, congrArg (fun z => some (Value.int z)) (by simp [zisR, hT1])⟩ hL d_Mo_isRecord_17
  · refine lv_iload_n hx hb d_Mo_isRecord_4 rfl (lv_at hl 1 rfl) ?_
    refine lv_aload_n hx hb d_Mo_isRecord_5 rfl (lv_at hl 0 rfl) ?_
    refine fg_Mo_65 hE hM.1 rfl d_Mo_isRecord_6 ?_
    refine lv_icmp_ge hx hb d_Mo_isRecord_9 (tgt := 16) rfl (fun hT9 => ?_) (fun hF9 => ?_)
    · refine lv_iconst (v := nI 0) hx hb d_Mo_isRecord_16 (by decide) ?_
      exact zz_iret hx hb hr hlk rfl ⟨rfl, congrArg (fun z => some (Value.int z)) (by simp [zisR, hF1, hT9])⟩ hL d_Mo_isRecord_17
    · refine lv_iconst (v := nI 1) hx hb d_Mo_isRecord_12 (by decide) ?_
      refine lv_goto hx hb d_Mo_isRecord_13 (tgt := 17) rfl ?_
      exact zz_iret hx hb hr hlk rfl ⟨rfl, congrArg (fun z => some (Value.int z)) (by simp [zisR, hF1, hF9])⟩ hL d_Mo_isRecord_17

set_option maxHeartbeats 4000000 in
set_option maxRecDepth 100000 in
theorem k_Mo_isField (l : Launch) (D : va_G) (ca : Nat → ClassId) (x : Int32) : Met l y_Mo_isField w_Mo_isField (zr 0 0 0) (zz_P D ca [.int x] (fun H => True)) (zz_Q (fun H H1 v => H1 = H ∧ v = some (.int (nI (zisF x).toNat)))) 0 0 (fun _ => False) := by
  refine zz_met (cc := c_Mo_isField) (by decide) (Nat.le_of_ble_eq_true rfl) ?_
  intro p e s m below meth c ls hE hr hlk hnm hM hl
  have hx := hE.1.1
  have hb := hE.1.2.1
  have hK := hE.2
  have hl : lv_has ls 1 [(0, .int x)] := hl
  have hL : zz_L (fun _ => False) ([] : List Loc) := zz_L.nil
  refine lv_iload_n hx hb d_Mo_isField_0 rfl (lv_at hl 0 rfl) ?_
  refine lv_if_eq hx hb d_Mo_isField_1 (tgt := 9) rfl (fun hT1 => ?_) (fun hF1 => ?_)
  · refine lv_iconst (v := nI 1) hx hb d_Mo_isField_9 (by decide) ?_
    refine lv_goto hx hb d_Mo_isField_10 (tgt := 14) rfl ?_
    exact zz_iret hx hb hr hlk rfl ⟨rfl, congrArg (fun z => some (Value.int z)) (by simp_all [zisF, show nI 1 = (1 : Int32) from rfl])⟩ hL d_Mo_isField_14
  · refine lv_iload_n hx hb d_Mo_isField_4 rfl (lv_at hl 0 rfl) ?_
    refine lv_iconst (v := nI 1) hx hb d_Mo_isField_5 (by decide) ?_
    refine lv_icmp_ne hx hb d_Mo_isField_6 (tgt := 13) rfl (fun hT6 => ?_) (fun hF6 => ?_)
    · refine lv_iconst (v := nI 0) hx hb d_Mo_isField_13 (by decide) ?_
      exact zz_iret hx hb hr hlk rfl ⟨rfl, congrArg (fun z => some (Value.int z)) (by simp_all [zisF, show nI 1 = (1 : Int32) from rfl])⟩ hL d_Mo_isField_14
    · refine lv_iconst (v := nI 1) hx hb d_Mo_isField_9 (by decide) ?_
      refine lv_goto hx hb d_Mo_isField_10 (tgt := 14) rfl ?_
      exact zz_iret hx hb hr hlk rfl ⟨rfl, congrArg (fun z => some (Value.int z)) (by simp_all [zisF, show nI 1 = (1 : Int32) from rfl])⟩ hL d_Mo_isField_14

set_option maxHeartbeats 4000000 in
set_option maxRecDepth 100000 in
theorem k_Mo_letter (l : Launch) (D : va_G) (ca : Nat → ClassId) (x : Nat) (hx0 : x < 256) : Met l y_Mo_letter w_Mo_letter (zr 0 0 0) (zz_P D ca [.int (nI x)] (fun H => True)) (zz_Q (fun H H1 v => H1 = H ∧ v = some (.int (nI (mLet x))))) 0 0 (fun _ => False) := by
  refine zz_met (cc := c_Mo_letter) (by decide) (Nat.le_of_ble_eq_true rfl) ?_
  intro p e s m below meth c ls hE hr hlk hnm hM hl
  have hx := hE.1.1
  have hb := hE.1.2.1
  have hK := hE.2
  have hl : lv_has ls 1 [(0, .int (nI x))] := hl
  have hL : zz_L (fun _ => False) ([] : List Loc) := zz_L.nil
  refine lv_iload_n hx hb d_Mo_letter_0 rfl (lv_at hl 0 rfl) ?_
  refine lv_bipush (v := nI 48) hx hb d_Mo_letter_1 (by decide) ?_
  refine zz_lt hx hb (by omega) (by omega) d_Mo_letter_3 (tgt := 12) rfl (fun hT3 => ?_) (fun hF3 => ?_)
  · refine lv_iload_n hx hb d_Mo_letter_12 rfl (lv_at hl 0 rfl) ?_
    refine lv_bipush (v := nI 97) hx hb d_Mo_letter_13 (by decide) ?_
    refine zz_lt hx hb (by omega) (by omega) d_Mo_letter_15 (tgt := 28) rfl (fun hT15 => ?_) (fun hF15 => ?_)
    · refine lv_iload_n hx hb d_Mo_letter_28 rfl (lv_at hl 0 rfl) ?_
      refine lv_bipush (v := nI 65) hx hb d_Mo_letter_29 (by decide) ?_
      refine zz_lt hx hb (by omega) (by omega) d_Mo_letter_31 (tgt := 47) rfl (fun hT31 => ?_) (fun hF31 => ?_)
      · refine lv_iconst (v := nI 0) hx hb d_Mo_letter_47 (by decide) ?_
        exact zz_iret hx hb hr hlk rfl ⟨rfl, congrArg (fun z => some (Value.int z)) (congrArg nI (by unfold mLet; split <;> (try split) <;> omega : 0 = mLet x))⟩ hL d_Mo_letter_48
      · refine lv_iload_n hx hb d_Mo_letter_34 rfl (lv_at hl 0 rfl) ?_
        refine lv_bipush (v := nI 90) hx hb d_Mo_letter_35 (by decide) ?_
        refine zz_gt hx hb (by omega) (by omega) d_Mo_letter_37 (tgt := 47) rfl (fun hT37 => ?_) (fun hF37 => ?_)
        · refine lv_iconst (v := nI 0) hx hb d_Mo_letter_47 (by decide) ?_
          exact zz_iret hx hb hr hlk rfl ⟨rfl, congrArg (fun z => some (Value.int z)) (congrArg nI (by unfold mLet; split <;> (try split) <;> omega : 0 = mLet x))⟩ hL d_Mo_letter_48
        · refine lv_iload_n hx hb d_Mo_letter_40 rfl (lv_at hl 0 rfl) ?_
          refine lv_bipush (v := nI 32) hx hb d_Mo_letter_41 (by decide) ?_
          refine zz_iadd hx hb d_Mo_letter_43 ?_
          refine lv_goto hx hb d_Mo_letter_44 (tgt := 48) rfl ?_
          exact zz_iret hx hb hr hlk rfl ⟨rfl, congrArg (fun z => some (Value.int z)) (congrArg nI (by unfold mLet; split <;> (try split) <;> omega : x + 32 = mLet x))⟩ hL d_Mo_letter_48
    · refine lv_iload_n hx hb d_Mo_letter_18 rfl (lv_at hl 0 rfl) ?_
      refine lv_bipush (v := nI 122) hx hb d_Mo_letter_19 (by decide) ?_
      refine zz_gt hx hb (by omega) (by omega) d_Mo_letter_21 (tgt := 28) rfl (fun hT21 => ?_) (fun hF21 => ?_)
      · refine lv_iload_n hx hb d_Mo_letter_28 rfl (lv_at hl 0 rfl) ?_
        refine lv_bipush (v := nI 65) hx hb d_Mo_letter_29 (by decide) ?_
        refine zz_lt hx hb (by omega) (by omega) d_Mo_letter_31 (tgt := 47) rfl (fun hT31 => ?_) (fun hF31 => ?_)
        · refine lv_iconst (v := nI 0) hx hb d_Mo_letter_47 (by decide) ?_
          exact zz_iret hx hb hr hlk rfl ⟨rfl, congrArg (fun z => some (Value.int z)) (congrArg nI (by unfold mLet; split <;> (try split) <;> omega : 0 = mLet x))⟩ hL d_Mo_letter_48
        · refine lv_iload_n hx hb d_Mo_letter_34 rfl (lv_at hl 0 rfl) ?_
          refine lv_bipush (v := nI 90) hx hb d_Mo_letter_35 (by decide) ?_
          refine zz_gt hx hb (by omega) (by omega) d_Mo_letter_37 (tgt := 47) rfl (fun hT37 => ?_) (fun hF37 => ?_)
          · refine lv_iconst (v := nI 0) hx hb d_Mo_letter_47 (by decide) ?_
            exact zz_iret hx hb hr hlk rfl ⟨rfl, congrArg (fun z => some (Value.int z)) (congrArg nI (by unfold mLet; split <;> (try split) <;> omega : 0 = mLet x))⟩ hL d_Mo_letter_48
          · refine lv_iload_n hx hb d_Mo_letter_40 rfl (lv_at hl 0 rfl) ?_
            refine lv_bipush (v := nI 32) hx hb d_Mo_letter_41 (by decide) ?_
            refine zz_iadd hx hb d_Mo_letter_43 ?_
            refine lv_goto hx hb d_Mo_letter_44 (tgt := 48) rfl ?_
            exact zz_iret hx hb hr hlk rfl ⟨rfl, congrArg (fun z => some (Value.int z)) (congrArg nI (by unfold mLet; split <;> (try split) <;> omega : x + 32 = mLet x))⟩ hL d_Mo_letter_48
      · refine lv_iload_n hx hb d_Mo_letter_24 rfl (lv_at hl 0 rfl) ?_
        refine lv_goto hx hb d_Mo_letter_25 (tgt := 48) rfl ?_
        exact zz_iret hx hb hr hlk rfl ⟨rfl, congrArg (fun z => some (Value.int z)) (congrArg nI (by unfold mLet; split <;> (try split) <;> omega : x = mLet x))⟩ hL d_Mo_letter_48
  · refine lv_iload_n hx hb d_Mo_letter_6 rfl (lv_at hl 0 rfl) ?_
    refine lv_bipush (v := nI 57) hx hb d_Mo_letter_7 (by decide) ?_
    refine zz_le hx hb (by omega) (by omega) d_Mo_letter_9 (tgt := 24) rfl (fun hT9 => ?_) (fun hF9 => ?_)
    · refine lv_iload_n hx hb d_Mo_letter_24 rfl (lv_at hl 0 rfl) ?_
      refine lv_goto hx hb d_Mo_letter_25 (tgt := 48) rfl ?_
      exact zz_iret hx hb hr hlk rfl ⟨rfl, congrArg (fun z => some (Value.int z)) (congrArg nI (by unfold mLet; split <;> (try split) <;> omega : x = mLet x))⟩ hL d_Mo_letter_48
    · refine lv_iload_n hx hb d_Mo_letter_12 rfl (lv_at hl 0 rfl) ?_
      refine lv_bipush (v := nI 97) hx hb d_Mo_letter_13 (by decide) ?_
      refine zz_lt hx hb (by omega) (by omega) d_Mo_letter_15 (tgt := 28) rfl (fun hT15 => ?_) (fun hF15 => ?_)
      · refine lv_iload_n hx hb d_Mo_letter_28 rfl (lv_at hl 0 rfl) ?_
        refine lv_bipush (v := nI 65) hx hb d_Mo_letter_29 (by decide) ?_
        refine zz_lt hx hb (by omega) (by omega) d_Mo_letter_31 (tgt := 47) rfl (fun hT31 => ?_) (fun hF31 => ?_)
        · refine lv_iconst (v := nI 0) hx hb d_Mo_letter_47 (by decide) ?_
          exact zz_iret hx hb hr hlk rfl ⟨rfl, congrArg (fun z => some (Value.int z)) (congrArg nI (by unfold mLet; split <;> (try split) <;> omega : 0 = mLet x))⟩ hL d_Mo_letter_48
        · refine lv_iload_n hx hb d_Mo_letter_34 rfl (lv_at hl 0 rfl) ?_
          refine lv_bipush (v := nI 90) hx hb d_Mo_letter_35 (by decide) ?_
          refine zz_gt hx hb (by omega) (by omega) d_Mo_letter_37 (tgt := 47) rfl (fun hT37 => ?_) (fun hF37 => ?_)
          · refine lv_iconst (v := nI 0) hx hb d_Mo_letter_47 (by decide) ?_
            exact zz_iret hx hb hr hlk rfl ⟨rfl, congrArg (fun z => some (Value.int z)) (congrArg nI (by unfold mLet; split <;> (try split) <;> omega : 0 = mLet x))⟩ hL d_Mo_letter_48
          · refine lv_iload_n hx hb d_Mo_letter_40 rfl (lv_at hl 0 rfl) ?_
            refine lv_bipush (v := nI 32) hx hb d_Mo_letter_41 (by decide) ?_
            refine zz_iadd hx hb d_Mo_letter_43 ?_
            refine lv_goto hx hb d_Mo_letter_44 (tgt := 48) rfl ?_
            exact zz_iret hx hb hr hlk rfl ⟨rfl, congrArg (fun z => some (Value.int z)) (congrArg nI (by unfold mLet; split <;> (try split) <;> omega : x + 32 = mLet x))⟩ hL d_Mo_letter_48
      · refine lv_iload_n hx hb d_Mo_letter_18 rfl (lv_at hl 0 rfl) ?_
        refine lv_bipush (v := nI 122) hx hb d_Mo_letter_19 (by decide) ?_
        refine zz_gt hx hb (by omega) (by omega) d_Mo_letter_21 (tgt := 28) rfl (fun hT21 => ?_) (fun hF21 => ?_)
        · refine lv_iload_n hx hb d_Mo_letter_28 rfl (lv_at hl 0 rfl) ?_
          refine lv_bipush (v := nI 65) hx hb d_Mo_letter_29 (by decide) ?_
          refine zz_lt hx hb (by omega) (by omega) d_Mo_letter_31 (tgt := 47) rfl (fun hT31 => ?_) (fun hF31 => ?_)
          · refine lv_iconst (v := nI 0) hx hb d_Mo_letter_47 (by decide) ?_
            exact zz_iret hx hb hr hlk rfl ⟨rfl, congrArg (fun z => some (Value.int z)) (congrArg nI (by unfold mLet; split <;> (try split) <;> omega : 0 = mLet x))⟩ hL d_Mo_letter_48
          · refine lv_iload_n hx hb d_Mo_letter_34 rfl (lv_at hl 0 rfl) ?_
            refine lv_bipush (v := nI 90) hx hb d_Mo_letter_35 (by decide) ?_
            refine zz_gt hx hb (by omega) (by omega) d_Mo_letter_37 (tgt := 47) rfl (fun hT37 => ?_) (fun hF37 => ?_)
            · refine lv_iconst (v := nI 0) hx hb d_Mo_letter_47 (by decide) ?_
              exact zz_iret hx hb hr hlk rfl ⟨rfl, congrArg (fun z => some (Value.int z)) (congrArg nI (by unfold mLet; split <;> (try split) <;> omega : 0 = mLet x))⟩ hL d_Mo_letter_48
            · refine lv_iload_n hx hb d_Mo_letter_40 rfl (lv_at hl 0 rfl) ?_
              refine lv_bipush (v := nI 32) hx hb d_Mo_letter_41 (by decide) ?_
              refine zz_iadd hx hb d_Mo_letter_43 ?_
              refine lv_goto hx hb d_Mo_letter_44 (tgt := 48) rfl ?_
              exact zz_iret hx hb hr hlk rfl ⟨rfl, congrArg (fun z => some (Value.int z)) (congrArg nI (by unfold mLet; split <;> (try split) <;> omega : x + 32 = mLet x))⟩ hL d_Mo_letter_48
        · refine lv_iload_n hx hb d_Mo_letter_24 rfl (lv_at hl 0 rfl) ?_
          refine lv_goto hx hb d_Mo_letter_25 (tgt := 48) rfl ?_
          exact zz_iret hx hb hr hlk rfl ⟨rfl, congrArg (fun z => some (Value.int z)) (congrArg nI (by unfold mLet; split <;> (try split) <;> omega : x = mLet x))⟩ hL d_Mo_letter_48

set_option maxHeartbeats 4000000 in
set_option maxRecDepth 100000 in
theorem k_Mo_at (l : Launch) (D : va_G) (ca : Nat → ClassId) (r n t rs w : Nat) (A : Nat → Nat → Nat) (q i : Nat) (hq : q ≤ 1) (hs : A 4 q ≤ 12) (hi : i < 64) : Met l y_Mo_at w_Mo_at (zr 0 0 0) (zz_P D ca [.ref r, .int (nI q), .int (nI i)] (fun H => MoAt D ca H r n t rs w A)) (zz_Q (fun H H1 v => H1 = H ∧ v = some (.int (nI (mAt A q i))))) 0 0 (fun _ => False) := by
  refine zz_met (cc := c_Mo_at) (by decide) (Nat.le_of_ble_eq_true rfl) ?_
  intro p e s m below meth c ls hE hr hlk hnm hM hl
  have hx := hE.1.1
  have hb := hE.1.2.1
  have hK := hE.2
  have hl : lv_has ls 3 [(0, .ref r), (1, .int (nI q)), (2, .int (nI i))] := hl
  have hL : zz_L (fun _ => False) ([] : List Loc) := zz_L.nil
  refine lv_iload_n hx hb d_Mo_at_0 rfl (lv_at hl 2 rfl) ?_
  refine lv_if_lt hx hb d_Mo_at_1 (tgt := 28) rfl (fun hT1 => ?_) (fun hF1 => ?_)
  · exact absurd hT1 (nI_pos (by omega))
  · refine lv_iload_n hx hb d_Mo_at_4 rfl (lv_at hl 2 rfl) ?_
    refine lv_aload_n hx hb d_Mo_at_5 rfl (lv_at hl 0 rfl) ?_
    refine fg_Mo_19 hE hM.1 rfl d_Mo_at_6 ?_
    refine lv_iload_n hx hb d_Mo_at_9 rfl (lv_at hl 1 rfl) ?_
    refine mo_ld hE hM 4 (by decide) (i := q) (show q < 2 by omega) d_Mo_at_10 ?_
    refine zz_ge hx hb (by omega) (by omega) d_Mo_at_11 (tgt := 28) rfl (fun hT11 => ?_) (fun hF11 => ?_)
    · refine lv_bipush (v := nI 32) hx hb d_Mo_at_28 (by decide) ?_
      exact zz_iret hx hb hr hlk rfl ⟨rfl, congrArg (fun z => some (Value.int z)) (congrArg nI (by unfold mAt; split <;> omega : 32 = mAt A q i))⟩ hL d_Mo_at_30
    · refine lv_aload_n hx hb d_Mo_at_14 rfl (lv_at hl 0 rfl) ?_
      refine fg_Mo_16 hE hM.1 rfl d_Mo_at_15 ?_
      refine lv_bipush (v := nI 12) hx hb d_Mo_at_18 (by decide) ?_
      refine lv_iload_n hx hb d_Mo_at_20 rfl (lv_at hl 1 rfl) ?_
      refine zz_imul hx hb d_Mo_at_21 ?_
      refine lv_iload_n hx hb d_Mo_at_22 rfl (lv_at hl 2 rfl) ?_
      refine zz_iadd hx hb d_Mo_at_23 ?_
      refine mo_ld hE hM 3 (by decide) (i := (12 * q) + i) (show (12 * q) + i < 24 by omega) d_Mo_at_24 ?_
      refine lv_goto hx hb d_Mo_at_25 (tgt := 30) rfl ?_
      exact zz_iret hx hb hr hlk rfl ⟨rfl, congrArg (fun z => some (Value.int z)) (congrArg nI (by unfold mAt; split <;> omega : A 3 ((12 * q) + i) = mAt A q i))⟩ hL d_Mo_at_30

set_option maxHeartbeats 4000000 in
set_option maxRecDepth 100000 in
theorem k_Mo_atm (l : Launch) (D : va_G) (ca : Nat → ClassId) (r n t rs w : Nat) (A : Nat → Nat → Nat) (q : Nat) : Met l y_Mo_at w_Mo_at (zr 0 0 0) (zz_P D ca [.ref r, .int (nI q), .int (-1 : Int32)] (fun H => MoAt D ca H r n t rs w A)) (zz_Q (fun H H1 v => H1 = H ∧ v = some (.int (nI 32)))) 0 0 (fun _ => False) := by
  refine zz_met (cc := c_Mo_at) (by decide) (Nat.le_of_ble_eq_true rfl) ?_
  intro p e s m below meth c ls hE hr hlk hnm hM hl
  have hx := hE.1.1
  have hb := hE.1.2.1
  have hK := hE.2
  have hl : lv_has ls 3 [(0, .ref r), (1, .int (nI q)), (2, .int (-1 : Int32))] := hl
  have hL : zz_L (fun _ => False) ([] : List Loc) := zz_L.nil
  refine lv_iload_n hx hb d_Mo_at_0 rfl (lv_at hl 2 rfl) ?_
  refine lv_if_lt hx hb d_Mo_at_1 (tgt := 28) rfl (fun hT1 => ?_) (fun hF1 => ?_)
  · refine lv_bipush (v := nI 32) hx hb d_Mo_at_28 (by decide) ?_
    exact zz_iret hx hb hr hlk rfl ⟨rfl, congrArg (fun z => some (Value.int z)) (rfl)⟩ hL d_Mo_at_30
  · exact absurd (by decide) hF1

theorem mAt_lt {A : Nat → Nat → Nat} {q i : Nat} (h : ∀ j, j < 24 → A 3 j < 256) (hq : q ≤ 1) (hs : A 4 q ≤ 12) : mAt A q i < 256 := by
  unfold mAt
  split
  · exact h _ (by omega)
  · decide

set_option maxHeartbeats 4000000 in
set_option maxRecDepth 100000 in
theorem k_Mo_begins (l : Launch) (D : va_G) (ca : Nat → ClassId) (r n t rs w : Nat) (A : Nat → Nat → Nat) (q i : Nat) (hq : q ≤ 1) (hs : A 4 q ≤ 12) (hc : ∀ j, j < 24 → A 3 j < 256) (hi : i < 64) : Met l y_Mo_begins w_Mo_begins (zr 1 0 0) (zz_P D ca [.ref r, .int (nI q), .int (nI i)] (fun H => MoAt D ca H r n t rs w A)) (zz_Q (fun H H1 v => H1 = H ∧ v = some (.int (nI (mBg A q i).toNat)))) 0 0 (fun _ => False) := by
  refine zz_met (cc := c_Mo_begins) (by decide) (Nat.le_of_ble_eq_true rfl) ?_
  intro p e s m below meth c ls hE hr hlk hnm hM hl
  have hx := hE.1.1
  have hb := hE.1.2.1
  have hK := hE.2
  have hl : lv_has ls 3 [(0, .ref r), (1, .int (nI q)), (2, .int (nI i))] := hl
  have hL : zz_L (fun _ => False) ([] : List Loc) := zz_L.nil
  have hz := fun i => mAt_lt (i := i) hc hq hs
  have hz1 := hz i
  have hz2 := hz (i - 1)
  refine lv_aload_n hx hb d_Mo_begins_0 rfl (lv_at hl 0 rfl) ?_
  refine lv_iload_n hx hb d_Mo_begins_1 rfl (lv_at hl 1 rfl) ?_
  refine lv_iload_n hx hb d_Mo_begins_2 rfl (lv_at hl 2 rfl) ?_
  refine zz_callP (cl_Mo_80 (rest := []) hE (k_Mo_at l D ca r n t rs w A q i (by omega) (by omega) (by omega)) ⟨rfl, rfl, by decide, by decide⟩ hM hM.1 rfl hl.1 rfl (Nat.le_of_ble_eq_true rfl) d_Mo_begins_3 ⟨by decide, by decide⟩) ?_
  refine lv_bipush (v := nI 32) hx hb d_Mo_begins_6 (by decide) ?_
  refine zz_eq hx hb (by omega) (by omega) d_Mo_begins_8 (tgt := 28) rfl (fun hT8 => ?_) (fun hF8 => ?_)
  · refine lv_iconst (v := nI 0) hx hb d_Mo_begins_28 (by decide) ?_
    exact zz_iret hx hb hr hlk rfl ⟨rfl, congrArg (fun z => some (Value.int z)) (by simp_all [mBg])⟩ hL d_Mo_begins_29
  · refine lv_aload_n hx hb d_Mo_begins_11 rfl (lv_at hl 0 rfl) ?_
    refine lv_iload_n hx hb d_Mo_begins_12 rfl (lv_at hl 1 rfl) ?_
    refine lv_iload_n hx hb d_Mo_begins_13 rfl (lv_at hl 2 rfl) ?_
    refine lv_iconst (v := nI 1) hx hb d_Mo_begins_14 (by decide) ?_
    rcases Nat.eq_zero_or_pos i with h0 | h0
    · subst h0
      refine lv_isub hx hb d_Mo_begins_15 ?_
      refine zz_top (y := (-1 : Int32)) (by decide) ?_
      refine zz_callP (cl_Mo_80 (rest := []) hE (k_Mo_atm l D ca r n t rs w A q) ⟨rfl, rfl, by decide, by decide⟩ hM hM.1 rfl hl.1 rfl (Nat.le_of_ble_eq_true rfl) d_Mo_begins_16 ⟨by decide, by decide⟩) ?_
      refine lv_bipush (v := nI 32) hx hb d_Mo_begins_19 (by decide) ?_
      refine zz_ne hx hb (by omega) (by omega) d_Mo_begins_21 (tgt := 28) rfl (fun hT21 => ?_) (fun hF21 => ?_)
      · refine lv_iconst (v := nI 0) hx hb d_Mo_begins_28 (by decide) ?_
        exact zz_iret hx hb hr hlk rfl ⟨rfl, congrArg (fun z => some (Value.int z)) (by simp_all [mBg])⟩ hL d_Mo_begins_29
      · refine lv_iconst (v := nI 1) hx hb d_Mo_begins_24 (by decide) ?_
        refine lv_goto hx hb d_Mo_begins_25 (tgt := 29) rfl ?_
        exact zz_iret hx hb hr hlk rfl ⟨rfl, congrArg (fun z => some (Value.int z)) (by simp_all [mBg])⟩ hL d_Mo_begins_29
    · refine zz_isub (by omega) hx hb d_Mo_begins_15 ?_
      have hi0 : ¬ i = 0 := by omega
      refine zz_callP (cl_Mo_80 (rest := []) hE (k_Mo_at l D ca r n t rs w A q (i - 1) (by omega) (by omega) (by omega)) ⟨rfl, rfl, by decide, by decide⟩ hM hM.1 rfl hl.1 rfl (Nat.le_of_ble_eq_true rfl) d_Mo_begins_16 ⟨by decide, by decide⟩) ?_
      refine lv_bipush (v := nI 32) hx hb d_Mo_begins_19 (by decide) ?_
      refine zz_ne hx hb (by omega) (by omega) d_Mo_begins_21 (tgt := 28) rfl (fun hT21 => ?_) (fun hF21 => ?_)
      · refine lv_iconst (v := nI 0) hx hb d_Mo_begins_28 (by decide) ?_
        exact zz_iret hx hb hr hlk rfl ⟨rfl, congrArg (fun z => some (Value.int z)) (by simp_all [mBg])⟩ hL d_Mo_begins_29
      · refine lv_iconst (v := nI 1) hx hb d_Mo_begins_24 (by decide) ?_
        refine lv_goto hx hb d_Mo_begins_25 (tgt := 29) rfl ?_
        exact zz_iret hx hb hr hlk rfl ⟨rfl, congrArg (fun z => some (Value.int z)) (by simp_all [mBg])⟩ hL d_Mo_begins_29

set_option maxHeartbeats 4000000 in
set_option maxRecDepth 100000 in
theorem k_Mo_sameWord (l : Launch) (D : va_G) (ca : Nat → ClassId) (r n t rs w : Nat) (A : Nat → Nat → Nat) (a2 i b2 j : Nat) (ha : a2 ≤ 1) (hb2 : b2 ≤ 1) (hsa : A 4 a2 ≤ 12) (hsb : A 4 b2 ≤ 12) (hc : ∀ j, j < 24 → A 3 j < 256) (hi : i < 32) (hj : j < 32) : Met l y_Mo_sameWord w_Mo_sameWord (zr 1 0 0) (zz_P D ca [.ref r, .int (nI a2), .int (nI i), .int (nI b2), .int (nI j)] (fun H => MoAt D ca H r n t rs w A)) (zz_Q (fun H H1 v => H1 = H ∧ v = some (.int (nI (mSw A a2 i b2 j).toNat)))) 0 0 (fun _ => False) := by
  refine zz_met (cc := c_Mo_sameWord) (by decide) (Nat.le_of_ble_eq_true rfl) ?_
  intro p e s m below meth c ls hE hr hlk hnm hM hl
  have hx := hE.1.1
  have hb := hE.1.2.1
  have hK := hE.2
  have hl : lv_has ls 6 [(0, .ref r), (1, .int (nI a2)), (2, .int (nI i)), (3, .int (nI b2)), (4, .int (nI j))] := hl
  have hL : zz_L (fun _ => False) ([] : List Loc) := zz_L.nil
  have hza := fun i => mAt_lt (i := i) hc ha hsa
  have hzb := fun i => mAt_lt (i := i) hc hb2 hsb
  refine lv_iconst (v := nI 0) hx hb d_Mo_sameWord_0 (by decide) ?_
  refine lv_istore hx hb d_Mo_sameWord_1 hl (by decide) rfl (fun ls hl => ?_)
  have hl : lv_has ls 6 [(5, .int (nI 0)), (0, .ref r), (1, .int (nI a2)), (2, .int (nI i)), (3, .int (nI b2)), (4, .int (nI j))] := hl
  have hl : lv_has ls 6 [(0, .ref r), (1, .int (nI a2)), (2, .int (nI i)), (3, .int (nI b2)), (4, .int (nI j)), (5, .int (nI 0))] := lv_sub hl [1, 2, 3, 4, 5, 0] rfl
  refine zz_loopP (σ := Nat × Nat) (fun ⟨f, k⟩ ls => lv_has ls 6 [(0, .ref r), (1, .int (nI a2)), (2, .int (nI i)), (3, .int (nI b2)), (4, .int (nI j)), (5, .int (nI k))] ∧ k + f = 12 ∧ mSwF A a2 i b2 j (f + 1) k = mSw A a2 i b2 j) (fun ⟨f, k⟩ => f) ?_ (12, 0) ls ⟨hl, rfl, rfl⟩
  rintro ⟨f, k⟩ ih ls ⟨hl, hkf, hv⟩
  have hza1 := hza (i + k)
  have hzb1 := hzb (j + k)
  refine lv_aload_n hx hb d_Mo_sameWord_3 rfl (lv_at hl 0 rfl) ?_
  refine lv_iload_n hx hb d_Mo_sameWord_4 rfl (lv_at hl 1 rfl) ?_
  refine lv_iload_n hx hb d_Mo_sameWord_5 rfl (lv_at hl 2 rfl) ?_
  refine lv_iload hx hb d_Mo_sameWord_6 (lv_at hl 5 rfl) ?_
  refine zz_iadd hx hb d_Mo_sameWord_8 ?_
  refine zz_callP (cl_Mo_80 (rest := []) hE (k_Mo_at l D ca r n t rs w A a2 (i + k) (by omega) (by omega) (by omega)) ⟨rfl, rfl, by decide, by decide⟩ hM hM.1 rfl hl.1 rfl (Nat.le_of_ble_eq_true rfl) d_Mo_sameWord_9 ⟨by decide, by decide⟩) ?_
  refine lv_aload_n hx hb d_Mo_sameWord_12 rfl (lv_at hl 0 rfl) ?_
  refine lv_iload_n hx hb d_Mo_sameWord_13 rfl (lv_at hl 3 rfl) ?_
  refine lv_iload hx hb d_Mo_sameWord_14 (lv_at hl 4 rfl) ?_
  refine lv_iload hx hb d_Mo_sameWord_16 (lv_at hl 5 rfl) ?_
  refine zz_iadd hx hb d_Mo_sameWord_18 ?_
  refine zz_callP (cl_Mo_80 (rest := [.int (nI (mAt A a2 (i + k)))]) hE (k_Mo_at l D ca r n t rs w A b2 (j + k) (by omega) (by omega) (by omega)) ⟨rfl, rfl, by decide, by decide⟩ hM hM.1 rfl hl.1 rfl (Nat.le_of_ble_eq_true rfl) d_Mo_sameWord_19 ⟨by decide, by decide⟩) ?_
  refine zz_ne hx hb (by omega) (by omega) d_Mo_sameWord_22 (tgt := 45) rfl (fun hT22 => ?_) (fun hF22 => ?_)
  · refine lv_aload_n hx hb d_Mo_sameWord_45 rfl (lv_at hl 0 rfl) ?_
    refine lv_iload_n hx hb d_Mo_sameWord_46 rfl (lv_at hl 1 rfl) ?_
    refine lv_iload_n hx hb d_Mo_sameWord_47 rfl (lv_at hl 2 rfl) ?_
    refine lv_iload hx hb d_Mo_sameWord_48 (lv_at hl 5 rfl) ?_
    refine zz_iadd hx hb d_Mo_sameWord_50 ?_
    refine zz_callP (cl_Mo_80 (rest := []) hE (k_Mo_at l D ca r n t rs w A a2 (i + k) (by omega) (by omega) (by omega)) ⟨rfl, rfl, by decide, by decide⟩ hM hM.1 rfl hl.1 rfl (Nat.le_of_ble_eq_true rfl) d_Mo_sameWord_51 ⟨by decide, by decide⟩) ?_
    refine lv_aload_n hx hb d_Mo_sameWord_54 rfl (lv_at hl 0 rfl) ?_
    refine lv_iload_n hx hb d_Mo_sameWord_55 rfl (lv_at hl 3 rfl) ?_
    refine lv_iload hx hb d_Mo_sameWord_56 (lv_at hl 4 rfl) ?_
    refine lv_iload hx hb d_Mo_sameWord_58 (lv_at hl 5 rfl) ?_
    refine zz_iadd hx hb d_Mo_sameWord_60 ?_
    refine zz_callP (cl_Mo_80 (rest := [.int (nI (mAt A a2 (i + k)))]) hE (k_Mo_at l D ca r n t rs w A b2 (j + k) (by omega) (by omega) (by omega)) ⟨rfl, rfl, by decide, by decide⟩ hM hM.1 rfl hl.1 rfl (Nat.le_of_ble_eq_true rfl) d_Mo_sameWord_61 ⟨by decide, by decide⟩) ?_
    refine zz_ne hx hb (by omega) (by omega) d_Mo_sameWord_64 (tgt := 71) rfl (fun hT64 => ?_) (fun hF64 => ?_)
    · refine lv_iconst (v := nI 0) hx hb d_Mo_sameWord_71 (by decide) ?_
      exact zz_iret hx hb hr hlk rfl ⟨rfl, congrArg (fun z => some (Value.int z)) (by simp only [mSwF] at hv; rw [← hv, if_neg (by omega)]; simp [hT64])⟩ hL d_Mo_sameWord_72
    · refine lv_iconst (v := nI 1) hx hb d_Mo_sameWord_67 (by decide) ?_
      refine lv_goto hx hb d_Mo_sameWord_68 (tgt := 72) rfl ?_
      exact zz_iret hx hb hr hlk rfl ⟨rfl, congrArg (fun z => some (Value.int z)) (by simp only [mSwF] at hv; rw [← hv, if_neg (by omega)]; simp [hF64])⟩ hL d_Mo_sameWord_72
  · refine lv_aload_n hx hb d_Mo_sameWord_25 rfl (lv_at hl 0 rfl) ?_
    refine lv_iload_n hx hb d_Mo_sameWord_26 rfl (lv_at hl 1 rfl) ?_
    refine lv_iload_n hx hb d_Mo_sameWord_27 rfl (lv_at hl 2 rfl) ?_
    refine lv_iload hx hb d_Mo_sameWord_28 (lv_at hl 5 rfl) ?_
    refine zz_iadd hx hb d_Mo_sameWord_30 ?_
    refine zz_callP (cl_Mo_80 (rest := []) hE (k_Mo_at l D ca r n t rs w A a2 (i + k) (by omega) (by omega) (by omega)) ⟨rfl, rfl, by decide, by decide⟩ hM hM.1 rfl hl.1 rfl (Nat.le_of_ble_eq_true rfl) d_Mo_sameWord_31 ⟨by decide, by decide⟩) ?_
    refine lv_bipush (v := nI 32) hx hb d_Mo_sameWord_34 (by decide) ?_
    refine zz_eq hx hb (by omega) (by omega) d_Mo_sameWord_36 (tgt := 45) rfl (fun hT36 => ?_) (fun hF36 => ?_)
    · refine lv_aload_n hx hb d_Mo_sameWord_45 rfl (lv_at hl 0 rfl) ?_
      refine lv_iload_n hx hb d_Mo_sameWord_46 rfl (lv_at hl 1 rfl) ?_
      refine lv_iload_n hx hb d_Mo_sameWord_47 rfl (lv_at hl 2 rfl) ?_
      refine lv_iload hx hb d_Mo_sameWord_48 (lv_at hl 5 rfl) ?_
      refine zz_iadd hx hb d_Mo_sameWord_50 ?_
      refine zz_callP (cl_Mo_80 (rest := []) hE (k_Mo_at l D ca r n t rs w A a2 (i + k) (by omega) (by omega) (by omega)) ⟨rfl, rfl, by decide, by decide⟩ hM hM.1 rfl hl.1 rfl (Nat.le_of_ble_eq_true rfl) d_Mo_sameWord_51 ⟨by decide, by decide⟩) ?_
      refine lv_aload_n hx hb d_Mo_sameWord_54 rfl (lv_at hl 0 rfl) ?_
      refine lv_iload_n hx hb d_Mo_sameWord_55 rfl (lv_at hl 3 rfl) ?_
      refine lv_iload hx hb d_Mo_sameWord_56 (lv_at hl 4 rfl) ?_
      refine lv_iload hx hb d_Mo_sameWord_58 (lv_at hl 5 rfl) ?_
      refine zz_iadd hx hb d_Mo_sameWord_60 ?_
      refine zz_callP (cl_Mo_80 (rest := [.int (nI (mAt A a2 (i + k)))]) hE (k_Mo_at l D ca r n t rs w A b2 (j + k) (by omega) (by omega) (by omega)) ⟨rfl, rfl, by decide, by decide⟩ hM hM.1 rfl hl.1 rfl (Nat.le_of_ble_eq_true rfl) d_Mo_sameWord_61 ⟨by decide, by decide⟩) ?_
      refine zz_ne hx hb (by omega) (by omega) d_Mo_sameWord_64 (tgt := 71) rfl (fun hT64 => ?_) (fun hF64 => ?_)
      · refine lv_iconst (v := nI 0) hx hb d_Mo_sameWord_71 (by decide) ?_
        exact zz_iret hx hb hr hlk rfl ⟨rfl, congrArg (fun z => some (Value.int z)) (by simp only [mSwF] at hv; rw [← hv, if_neg (by omega)]; simp [hT64])⟩ hL d_Mo_sameWord_72
      · refine lv_iconst (v := nI 1) hx hb d_Mo_sameWord_67 (by decide) ?_
        refine lv_goto hx hb d_Mo_sameWord_68 (tgt := 72) rfl ?_
        exact zz_iret hx hb hr hlk rfl ⟨rfl, congrArg (fun z => some (Value.int z)) (by simp only [mSwF] at hv; rw [← hv, if_neg (by omega)]; simp [hF64])⟩ hL d_Mo_sameWord_72
    · refine lv_iinc (k := 5) (v := nI (k + 1)) hx hb d_Mo_sameWord_39 hl rfl (zz_inc _) (by decide) rfl (fun ls hl => ?_)
      have hl : lv_has ls 6 [(5, .int (nI (k + 1))), (0, .ref r), (1, .int (nI a2)), (2, .int (nI i)), (3, .int (nI b2)), (4, .int (nI j))] := hl
      refine lv_goto hx hb d_Mo_sameWord_42 (tgt := 3) rfl ?_
      have hk1 : i + k < A 4 a2 := by
        apply Classical.byContradiction
        intro h
        exact hF36 (by unfold mAt; rw [if_neg h])
      have hl : lv_has ls 6 [(0, .ref r), (1, .int (nI a2)), (2, .int (nI i)), (3, .int (nI b2)), (4, .int (nI j)), (5, .int (nI (k + 1)))] := lv_sub hl [1, 2, 3, 4, 5, 0] rfl
      exact ih (f - 1, k + 1) ls ⟨hl, by omega, by simp only [mSwF] at hv; rw [if_pos ⟨hF22, hF36⟩] at hv; obtain ⟨f, rfl⟩ : ∃ g, f = g + 1 := ⟨f - 1, by omega⟩; exact hv⟩ (by show f - 1 < f; omega)
end
section
/-! The reference's look: a text is made normal. -/
def nfS (c : Nat → Nat) : Nat → List Nat × Bool
  | 0 => ([], false)
  | i + 1 => if mLet (c i) = 0 then ((nfS c i).1, true) else if (nfS c i).2 = true ∧ 0 < (nfS c i).1.length then ((nfS c i).1 ++ [32, mLet (c i)], false) else ((nfS c i).1 ++ [mLet (c i)], false)
theorem nfS_len (c : Nat → Nat) : ∀ i, (nfS c i).1.length + (if (nfS c i).2 = true ∧ 0 < (nfS c i).1.length then 1 else 0) ≤ i
  | 0 => by simp [nfS]
  | i + 1 => by
    have h := nfS_len c i
    simp only [nfS]
    split
    · rename_i h1
      by_cases h2 : 0 < (nfS c i).1.length
      · simp only [h2, and_true] at h ⊢
        simp
        split at h <;> omega
      · simp [h2]
        omega
    · split
      · rename_i h1 h2
        rw [if_pos h2] at h
        simp
        omega
      · rename_i h1 h2
        rw [if_neg h2] at h
        simp
        omega
def mLook (A B : Nat → Nat → Nat) (q : Nat) (L : List Nat) : Prop := (∀ k, k ≠ 3 → k ≠ 4 → B k = A k) ∧ B 4 q = L.length ∧ (∀ j, j ≠ q → B 4 j = A 4 j) ∧ (∀ j, j < L.length → B 3 (12 * q + j) = L.getD j 0) ∧ ∀ j, (j < 12 * q ∨ 12 * q + L.length ≤ j) → B 3 j = A 3 j
/-- the buffer while it is being filled -/
def mBuf (A B : Nat → Nat → Nat) (q : Nat) (L : List Nat) : Prop := (∀ k, k ≠ 3 → B k = A k) ∧ (∀ j, j < L.length → B 3 (12 * q + j) = L.getD j 0) ∧ ∀ j, (j < 12 * q ∨ 12 * q + L.length ≤ j) → B 3 j = A 3 j
theorem mBuf_add {A B : Nat → Nat → Nat} {q x : Nat} {L : List Nat} (h : mBuf A B q L) (hl : L.length < 12) : mBuf A (up2 B 3 (12 * q + L.length) x) q (L ++ [x]) := by
  refine ⟨fun k hk => ?_, fun j hj => ?_, fun j hj => ?_⟩
  · funext j
    rw [up2_k hk, h.1 k hk]
  · simp at hj
    by_cases hjl : j = L.length
    · subst hjl
      rw [up2_s]
      simp
    · rw [up2_i (by omega), h.2.1 j (by omega)]
      simp [List.getD, List.getElem?_append_left (show j < L.length by omega)]
  · simp at hj
    rw [up2_i (by omega), h.2.2 j (by omega)]
theorem mBuf_end {A B : Nat → Nat → Nat} {q : Nat} {L : List Nat} (h : mBuf A B q L) : mLook A (up2 B 4 q L.length) q L := by
  refine ⟨fun k h3 h4 => ?_, up2_s, fun j hj => ?_, fun j hj => ?_, fun j hj => ?_⟩
  · funext j
    rw [up2_k h4, h.1 k h3]
  · rw [up2_i hj, h.1 4 (by decide)]
  · rw [up2_k (by decide), h.2.1 j hj]
  · rw [up2_k (by decide), h.2.2 j hj]
theorem mLet_lt {c : Nat} (h : c < 256) : mLet c < 256 := by
  unfold mLet
  split
  · omega
  · split <;> omega

set_option maxHeartbeats 4000000 in
set_option maxRecDepth 100000 in
theorem k_Mo_stands (l : Launch) (D : va_G) (ca : Nat → ClassId) (r n t rs w : Nat) (A : Nat → Nat → Nat) (a2 i b2 bf : Nat) (ha : a2 ≤ 1) (hb2 : b2 ≤ 1) (hsa : A 4 a2 ≤ 12) (hsb : A 4 b2 ≤ 12) (hc : ∀ j, j < 24 → A 3 j < 256) (hi : i < 32) (hbf : bf < 32) : Met l y_Mo_stands w_Mo_stands (zr 2 0 0) (zz_P D ca [.ref r, .int (nI a2), .int (nI i), .int (nI b2), .int (nI bf)] (fun H => MoAt D ca H r n t rs w A)) (zz_Q (fun H H1 v => H1 = H ∧ v = some (.int (nI (mSt A a2 i b2 bf).toNat)))) 0 0 (fun _ => False) := by
  refine zz_met (cc := c_Mo_stands) (by decide) (Nat.le_of_ble_eq_true rfl) ?_
  intro p e s m below meth c ls hE hr hlk hnm hM hl
  have hx := hE.1.1
  have hb := hE.1.2.1
  have hK := hE.2
  have hl : lv_has ls 7 [(0, .ref r), (1, .int (nI a2)), (2, .int (nI i)), (3, .int (nI b2)), (4, .int (nI bf))] := hl
  have hL : zz_L (fun _ => False) ([] : List Loc) := zz_L.nil
  refine lv_iconst (v := nI 0) hx hb d_Mo_stands_0 (by decide) ?_
  refine lv_istore hx hb d_Mo_stands_1 hl (by decide) rfl (fun ls hl => ?_)
  have hl : lv_has ls 7 [(5, .int (nI 0)), (0, .ref r), (1, .int (nI a2)), (2, .int (nI i)), (3, .int (nI b2)), (4, .int (nI bf))] := hl
  refine lv_iconst (v := nI 0) hx hb d_Mo_stands_3 (by decide) ?_
  refine lv_istore hx hb d_Mo_stands_4 hl (by decide) rfl (fun ls hl => ?_)
  have hl : lv_has ls 7 [(6, .int (nI 0)), (5, .int (nI 0)), (0, .ref r), (1, .int (nI a2)), (2, .int (nI i)), (3, .int (nI b2)), (4, .int (nI bf))] := hl
  have hl : lv_has ls 7 [(0, .ref r), (1, .int (nI a2)), (2, .int (nI i)), (3, .int (nI b2)), (4, .int (nI bf)), (5, .int (nI (mSt A a2 i b2 0).toNat)), (6, .int (nI 0))] := lv_sub hl [2, 3, 4, 5, 6, 1, 0] rfl
  refine zz_loopP (σ := Nat) (fun j ls => lv_has ls 7 [(0, .ref r), (1, .int (nI a2)), (2, .int (nI i)), (3, .int (nI b2)), (4, .int (nI bf)), (5, .int (nI (mSt A a2 i b2 j).toNat)), (6, .int (nI j))] ∧ j ≤ bf) (fun j => bf - j) ?_ 0 ls ⟨hl, Nat.zero_le _⟩
  rintro j ih ls ⟨hl, hj⟩
  refine lv_iload hx hb d_Mo_stands_6 (lv_at hl 6 rfl) ?_
  refine lv_iload hx hb d_Mo_stands_8 (lv_at hl 4 rfl) ?_
  refine zz_ge hx hb (by omega) (by omega) d_Mo_stands_10 (tgt := 53) rfl (fun hT10 => ?_) (fun hF10 => ?_)
  · refine lv_iload hx hb d_Mo_stands_53 (lv_at hl 5 rfl) ?_
    exact zz_iret hx hb hr hlk (zz_narB _) ⟨rfl, congrArg (fun z => some (Value.int z)) (by rw [show j = bf by omega])⟩ hL d_Mo_stands_55
  · refine lv_iload hx hb d_Mo_stands_13 (lv_at hl 5 rfl) ?_
    refine zz_neB hx hb d_Mo_stands_15 (tgt := 40) rfl (fun hT15 => ?_) (fun hF15 => ?_)
    · refine lv_iconst (v := nI 1) hx hb d_Mo_stands_40 (by decide) ?_
      refine lv_goto hx hb d_Mo_stands_41 (tgt := 45) rfl ?_
      refine lv_istore hx hb d_Mo_stands_45 hl (by decide) rfl (fun ls hl => ?_)
      have hl : lv_has ls 7 [(5, .int (nI 1)), (0, .ref r), (1, .int (nI a2)), (2, .int (nI i)), (3, .int (nI b2)), (4, .int (nI bf)), (6, .int (nI j))] := hl
      refine lv_iinc (k := 6) (v := nI (j + 1)) hx hb d_Mo_stands_47 hl rfl (zz_inc _) (by decide) rfl (fun ls hl => ?_)
      have hl : lv_has ls 7 [(6, .int (nI (j + 1))), (5, .int (nI 1)), (0, .ref r), (1, .int (nI a2)), (2, .int (nI i)), (3, .int (nI b2)), (4, .int (nI bf))] := hl
      refine lv_goto hx hb d_Mo_stands_50 (tgt := 6) rfl ?_
      have hl : lv_has ls 7 [(0, .ref r), (1, .int (nI a2)), (2, .int (nI i)), (3, .int (nI b2)), (4, .int (nI bf)), (5, .int (nI (mSt A a2 i b2 (j + 1)).toNat)), (6, .int (nI (j + 1)))] := (by rw [show mSt A a2 i b2 (j + 1) = true from by rw [show mSt A a2 i b2 (j + 1) = (mSt A a2 i b2 j || (mBg A b2 j && mSw A a2 i b2 j)) from rfl]; simp [hT15]]; exact lv_sub hl [2, 3, 4, 5, 6, 1, 0] rfl)
      exact ih (j + 1) ls ⟨hl, by omega⟩ (by omega)
    · refine lv_aload_n hx hb d_Mo_stands_18 rfl (lv_at hl 0 rfl) ?_
      refine lv_iload_n hx hb d_Mo_stands_19 rfl (lv_at hl 3 rfl) ?_
      refine lv_iload hx hb d_Mo_stands_20 (lv_at hl 6 rfl) ?_
      refine zz_callP (cl_Mo_84 (rest := []) hE (k_Mo_begins l D ca r n t rs w A b2 j (by omega) (by omega) hc (by omega)) ⟨rfl, rfl, by decide, by decide⟩ hM hM.1 rfl hl.1 rfl (Nat.le_of_ble_eq_true rfl) d_Mo_stands_22 ⟨by decide, by decide⟩) ?_
      refine zz_eqB hx hb d_Mo_stands_25 (tgt := 44) rfl (fun hT25 => ?_) (fun hF25 => ?_)
      · refine lv_iconst (v := nI 0) hx hb d_Mo_stands_44 (by decide) ?_
        refine lv_istore hx hb d_Mo_stands_45 hl (by decide) rfl (fun ls hl => ?_)
        have hl : lv_has ls 7 [(5, .int (nI 0)), (0, .ref r), (1, .int (nI a2)), (2, .int (nI i)), (3, .int (nI b2)), (4, .int (nI bf)), (6, .int (nI j))] := hl
        refine lv_iinc (k := 6) (v := nI (j + 1)) hx hb d_Mo_stands_47 hl rfl (zz_inc _) (by decide) rfl (fun ls hl => ?_)
        have hl : lv_has ls 7 [(6, .int (nI (j + 1))), (5, .int (nI 0)), (0, .ref r), (1, .int (nI a2)), (2, .int (nI i)), (3, .int (nI b2)), (4, .int (nI bf))] := hl
        refine lv_goto hx hb d_Mo_stands_50 (tgt := 6) rfl ?_
        have hl : lv_has ls 7 [(0, .ref r), (1, .int (nI a2)), (2, .int (nI i)), (3, .int (nI b2)), (4, .int (nI bf)), (5, .int (nI (mSt A a2 i b2 (j + 1)).toNat)), (6, .int (nI (j + 1)))] := (by rw [show mSt A a2 i b2 (j + 1) = false from by rw [show mSt A a2 i b2 (j + 1) = (mSt A a2 i b2 j || (mBg A b2 j && mSw A a2 i b2 j)) from rfl]; simp [hF15, hT25]]; exact lv_sub hl [2, 3, 4, 5, 6, 1, 0] rfl)
        exact ih (j + 1) ls ⟨hl, by omega⟩ (by omega)
      · refine lv_aload_n hx hb d_Mo_stands_28 rfl (lv_at hl 0 rfl) ?_
        refine lv_iload_n hx hb d_Mo_stands_29 rfl (lv_at hl 1 rfl) ?_
        refine lv_iload_n hx hb d_Mo_stands_30 rfl (lv_at hl 2 rfl) ?_
        refine lv_iload_n hx hb d_Mo_stands_31 rfl (lv_at hl 3 rfl) ?_
        refine lv_iload hx hb d_Mo_stands_32 (lv_at hl 6 rfl) ?_
        refine zz_callP (cl_Mo_88 (rest := []) hE (k_Mo_sameWord l D ca r n t rs w A a2 i b2 j (by omega) (by omega) (by omega) (by omega) hc (by omega) (by omega)) ⟨rfl, rfl, by decide, by decide⟩ hM hM.1 rfl hl.1 rfl (Nat.le_of_ble_eq_true rfl) d_Mo_stands_34 ⟨by decide, by decide⟩) ?_
        refine zz_eqB hx hb d_Mo_stands_37 (tgt := 44) rfl (fun hT37 => ?_) (fun hF37 => ?_)
        · refine lv_iconst (v := nI 0) hx hb d_Mo_stands_44 (by decide) ?_
          refine lv_istore hx hb d_Mo_stands_45 hl (by decide) rfl (fun ls hl => ?_)
          have hl : lv_has ls 7 [(5, .int (nI 0)), (0, .ref r), (1, .int (nI a2)), (2, .int (nI i)), (3, .int (nI b2)), (4, .int (nI bf)), (6, .int (nI j))] := hl
          refine lv_iinc (k := 6) (v := nI (j + 1)) hx hb d_Mo_stands_47 hl rfl (zz_inc _) (by decide) rfl (fun ls hl => ?_)
          have hl : lv_has ls 7 [(6, .int (nI (j + 1))), (5, .int (nI 0)), (0, .ref r), (1, .int (nI a2)), (2, .int (nI i)), (3, .int (nI b2)), (4, .int (nI bf))] := hl
          refine lv_goto hx hb d_Mo_stands_50 (tgt := 6) rfl ?_
          have hl : lv_has ls 7 [(0, .ref r), (1, .int (nI a2)), (2, .int (nI i)), (3, .int (nI b2)), (4, .int (nI bf)), (5, .int (nI (mSt A a2 i b2 (j + 1)).toNat)), (6, .int (nI (j + 1)))] := (by rw [show mSt A a2 i b2 (j + 1) = false from by rw [show mSt A a2 i b2 (j + 1) = (mSt A a2 i b2 j || (mBg A b2 j && mSw A a2 i b2 j)) from rfl]; simp [hF15, hF25, hT37]]; exact lv_sub hl [2, 3, 4, 5, 6, 1, 0] rfl)
          exact ih (j + 1) ls ⟨hl, by omega⟩ (by omega)
        · refine lv_iconst (v := nI 1) hx hb d_Mo_stands_40 (by decide) ?_
          refine lv_goto hx hb d_Mo_stands_41 (tgt := 45) rfl ?_
          refine lv_istore hx hb d_Mo_stands_45 hl (by decide) rfl (fun ls hl => ?_)
          have hl : lv_has ls 7 [(5, .int (nI 1)), (0, .ref r), (1, .int (nI a2)), (2, .int (nI i)), (3, .int (nI b2)), (4, .int (nI bf)), (6, .int (nI j))] := hl
          refine lv_iinc (k := 6) (v := nI (j + 1)) hx hb d_Mo_stands_47 hl rfl (zz_inc _) (by decide) rfl (fun ls hl => ?_)
          have hl : lv_has ls 7 [(6, .int (nI (j + 1))), (5, .int (nI 1)), (0, .ref r), (1, .int (nI a2)), (2, .int (nI i)), (3, .int (nI b2)), (4, .int (nI bf))] := hl
          refine lv_goto hx hb d_Mo_stands_50 (tgt := 6) rfl ?_
          have hl : lv_has ls 7 [(0, .ref r), (1, .int (nI a2)), (2, .int (nI i)), (3, .int (nI b2)), (4, .int (nI bf)), (5, .int (nI (mSt A a2 i b2 (j + 1)).toNat)), (6, .int (nI (j + 1)))] := (by rw [show mSt A a2 i b2 (j + 1) = true from by rw [show mSt A a2 i b2 (j + 1) = (mSt A a2 i b2 j || (mBg A b2 j && mSw A a2 i b2 j)) from rfl]; simp [hF15, hF25, hF37]]; exact lv_sub hl [2, 3, 4, 5, 6, 1, 0] rfl)
          exact ih (j + 1) ls ⟨hl, by omega⟩ (by omega)

set_option maxHeartbeats 4000000 in
set_option maxRecDepth 100000 in
theorem k_Mo_inSet (l : Launch) (D : va_G) (ca : Nat → ClassId) (r n t rs w : Nat) (A : Nat → Nat → Nat) (a2 b2 : Nat) (both : Bool) (ha : a2 ≤ 1) (hb2 : b2 ≤ 1) (hsa : A 4 a2 ≤ 12) (hsb : A 4 b2 ≤ 12) (hc : ∀ j, j < 24 → A 3 j < 256) : Met l y_Mo_inSet w_Mo_inSet (zr 3 0 0) (zz_P D ca [.ref r, .int (nI a2), .int (nI b2), .int (nI both.toNat)] (fun H => MoAt D ca H r n t rs w A)) (zz_Q (fun H H1 v => H1 = H ∧ v = some (.int (nI (mIn A a2 b2 both (A 4 a2)))))) 0 0 (fun _ => False) := by
  refine zz_met (cc := c_Mo_inSet) (by decide) (Nat.le_of_ble_eq_true rfl) ?_
  intro p e s m below meth c ls hE hr hlk hnm hM hl
  have hx := hE.1.1
  have hb := hE.1.2.1
  have hK := hE.2
  have hl : lv_has ls 7 [(0, .ref r), (1, .int (nI a2)), (2, .int (nI b2)), (3, .int (nI both.toNat))] := hl
  have hL : zz_L (fun _ => False) ([] : List Loc) := zz_L.nil
  refine lv_iconst (v := nI 0) hx hb d_Mo_inSet_0 (by decide) ?_
  refine lv_istore hx hb d_Mo_inSet_1 hl (by decide) rfl (fun ls hl => ?_)
  have hl : lv_has ls 7 [(4, .int (nI 0)), (0, .ref r), (1, .int (nI a2)), (2, .int (nI b2)), (3, .int (nI both.toNat))] := hl
  refine lv_iconst (v := nI 0) hx hb d_Mo_inSet_3 (by decide) ?_
  refine lv_istore hx hb d_Mo_inSet_4 hl (by decide) rfl (fun ls hl => ?_)
  have hl : lv_has ls 7 [(5, .int (nI 0)), (4, .int (nI 0)), (0, .ref r), (1, .int (nI a2)), (2, .int (nI b2)), (3, .int (nI both.toNat))] := hl
  have hl : lv_has ls 7 [(0, .ref r), (1, .int (nI a2)), (2, .int (nI b2)), (3, .int (nI both.toNat)), (4, .int (nI 0)), (5, .int (nI 0))] := lv_sub hl [2, 3, 4, 5, 1, 0] rfl
  refine zz_loopP (σ := Nat) (fun i ls => lv_has ls 7 [(0, .ref r), (1, .int (nI a2)), (2, .int (nI b2)), (3, .int (nI both.toNat)), (4, .int (nI (mIn A a2 b2 both i))), (5, .int (nI i))] ∧ i ≤ A 4 a2) (fun i => A 4 a2 - i) ?_ 0 ls ⟨hl, Nat.zero_le _⟩
  rintro i ih ls ⟨hl, hi⟩
  refine lv_iload hx hb d_Mo_inSet_6 (lv_at hl 5 rfl) ?_
  refine lv_aload_n hx hb d_Mo_inSet_8 rfl (lv_at hl 0 rfl) ?_
  refine fg_Mo_19 hE hM.1 rfl d_Mo_inSet_9 ?_
  refine lv_iload_n hx hb d_Mo_inSet_12 rfl (lv_at hl 1 rfl) ?_
  refine mo_ld hE hM 4 (by decide) (i := a2) (show a2 < 2 by omega) d_Mo_inSet_13 ?_
  refine zz_ge hx hb (by omega) (by omega) d_Mo_inSet_14 (tgt := 89) rfl (fun hT14 => ?_) (fun hF14 => ?_)
  · refine lv_iload hx hb d_Mo_inSet_89 (lv_at hl 4 rfl) ?_
    exact zz_iret hx hb hr hlk rfl ⟨rfl, congrArg (fun z => some (Value.int z)) (by rw [show i = A 4 a2 by omega])⟩ hL d_Mo_inSet_91
  · refine lv_aload_n hx hb d_Mo_inSet_17 rfl (lv_at hl 0 rfl) ?_
    refine lv_iload_n hx hb d_Mo_inSet_18 rfl (lv_at hl 1 rfl) ?_
    refine lv_iload hx hb d_Mo_inSet_19 (lv_at hl 5 rfl) ?_
    refine zz_callP (cl_Mo_84 (rest := []) hE (k_Mo_begins l D ca r n t rs w A a2 i (by omega) (by omega) hc (by omega)) ⟨rfl, rfl, by decide, by decide⟩ hM hM.1 rfl hl.1 rfl (Nat.le_of_ble_eq_true rfl) d_Mo_inSet_21 ⟨by decide, by decide⟩) ?_
    refine zz_eqB hx hb d_Mo_inSet_24 (tgt := 65) rfl (fun hT24 => ?_) (fun hF24 => ?_)
    · refine lv_iconst (v := nI 0) hx hb d_Mo_inSet_65 (by decide) ?_
      refine lv_istore hx hb d_Mo_inSet_66 hl (by decide) rfl (fun ls hl => ?_)
      have hl : lv_has ls 7 [(6, .int (nI 0)), (0, .ref r), (1, .int (nI a2)), (2, .int (nI b2)), (3, .int (nI both.toNat)), (4, .int (nI (mIn A a2 b2 both i))), (5, .int (nI i))] := hl
      refine lv_iload hx hb d_Mo_inSet_68 (lv_at hl 5 rfl) ?_
      refine lv_iload hx hb d_Mo_inSet_70 (lv_at hl 0 rfl) ?_
      refine zz_eq0 hx hb (by decide) d_Mo_inSet_72 (tgt := 79) rfl (fun _ => ?_) (fun h => absurd h (by decide))
      refine lv_iconst (v := nI 0) hx hb d_Mo_inSet_79 (by decide) ?_
      refine zz_iadd hx hb d_Mo_inSet_80 ?_
      refine lv_istore hx hb d_Mo_inSet_81 hl (by decide) rfl (fun ls hl => ?_)
      have hl : lv_has ls 7 [(4, .int (nI ((mIn A a2 b2 both i) + 0))), (6, .int (nI 0)), (0, .ref r), (1, .int (nI a2)), (2, .int (nI b2)), (3, .int (nI both.toNat)), (5, .int (nI i))] := hl
      refine lv_iinc (k := 6) (v := nI (i + 1)) hx hb d_Mo_inSet_83 hl rfl (zz_inc _) (by decide) rfl (fun ls hl => ?_)
      have hl : lv_has ls 7 [(5, .int (nI (i + 1))), (4, .int (nI ((mIn A a2 b2 both i) + 0))), (6, .int (nI 0)), (0, .ref r), (1, .int (nI a2)), (2, .int (nI b2)), (3, .int (nI both.toNat))] := hl
      refine lv_goto hx hb d_Mo_inSet_86 (tgt := 6) rfl ?_
      have hl : lv_has ls 7 [(0, .ref r), (1, .int (nI a2)), (2, .int (nI b2)), (3, .int (nI both.toNat)), (4, .int (nI (mIn A a2 b2 both (i + 1)))), (5, .int (nI (i + 1)))] := (by rw [show mIn A a2 b2 both (i + 1) = mIn A a2 b2 both i + 0 from by rw [show mIn A a2 b2 both (i + 1) = mIn A a2 b2 both i + (mBg A a2 i && !(mSt A a2 i a2 i) && (!both || mSt A a2 i b2 (A 4 b2))).toNat from rfl]; simp [hT24]]; exact lv_sub hl [3, 4, 5, 6, 1, 0] rfl)
      exact ih (i + 1) ls ⟨hl, by omega⟩ (by omega)
    · refine lv_aload_n hx hb d_Mo_inSet_27 rfl (lv_at hl 0 rfl) ?_
      refine lv_iload_n hx hb d_Mo_inSet_28 rfl (lv_at hl 1 rfl) ?_
      refine lv_iload hx hb d_Mo_inSet_29 (lv_at hl 5 rfl) ?_
      refine lv_iload_n hx hb d_Mo_inSet_31 rfl (lv_at hl 1 rfl) ?_
      refine lv_iload hx hb d_Mo_inSet_32 (lv_at hl 5 rfl) ?_
      refine zz_callP (cl_Mo_92 (rest := []) hE (k_Mo_stands l D ca r n t rs w A a2 i a2 i (by omega) (by omega) (by omega) (by omega) hc (by omega) (by omega)) ⟨rfl, rfl, by decide, by decide⟩ hM hM.1 rfl hl.1 rfl (Nat.le_of_ble_eq_true rfl) d_Mo_inSet_34 ⟨by decide, by decide⟩) ?_
      refine zz_neB hx hb d_Mo_inSet_37 (tgt := 65) rfl (fun hT37 => ?_) (fun hF37 => ?_)
      · refine lv_iconst (v := nI 0) hx hb d_Mo_inSet_65 (by decide) ?_
        refine lv_istore hx hb d_Mo_inSet_66 hl (by decide) rfl (fun ls hl => ?_)
        have hl : lv_has ls 7 [(6, .int (nI 0)), (0, .ref r), (1, .int (nI a2)), (2, .int (nI b2)), (3, .int (nI both.toNat)), (4, .int (nI (mIn A a2 b2 both i))), (5, .int (nI i))] := hl
        refine lv_iload hx hb d_Mo_inSet_68 (lv_at hl 5 rfl) ?_
        refine lv_iload hx hb d_Mo_inSet_70 (lv_at hl 0 rfl) ?_
        refine zz_eq0 hx hb (by decide) d_Mo_inSet_72 (tgt := 79) rfl (fun _ => ?_) (fun h => absurd h (by decide))
        refine lv_iconst (v := nI 0) hx hb d_Mo_inSet_79 (by decide) ?_
        refine zz_iadd hx hb d_Mo_inSet_80 ?_
        refine lv_istore hx hb d_Mo_inSet_81 hl (by decide) rfl (fun ls hl => ?_)
        have hl : lv_has ls 7 [(4, .int (nI ((mIn A a2 b2 both i) + 0))), (6, .int (nI 0)), (0, .ref r), (1, .int (nI a2)), (2, .int (nI b2)), (3, .int (nI both.toNat)), (5, .int (nI i))] := hl
        refine lv_iinc (k := 6) (v := nI (i + 1)) hx hb d_Mo_inSet_83 hl rfl (zz_inc _) (by decide) rfl (fun ls hl => ?_)
        have hl : lv_has ls 7 [(5, .int (nI (i + 1))), (4, .int (nI ((mIn A a2 b2 both i) + 0))), (6, .int (nI 0)), (0, .ref r), (1, .int (nI a2)), (2, .int (nI b2)), (3, .int (nI both.toNat))] := hl
        refine lv_goto hx hb d_Mo_inSet_86 (tgt := 6) rfl ?_
        have hl : lv_has ls 7 [(0, .ref r), (1, .int (nI a2)), (2, .int (nI b2)), (3, .int (nI both.toNat)), (4, .int (nI (mIn A a2 b2 both (i + 1)))), (5, .int (nI (i + 1)))] := (by rw [show mIn A a2 b2 both (i + 1) = mIn A a2 b2 both i + 0 from by rw [show mIn A a2 b2 both (i + 1) = mIn A a2 b2 both i + (mBg A a2 i && !(mSt A a2 i a2 i) && (!both || mSt A a2 i b2 (A 4 b2))).toNat from rfl]; simp [hF24, hT37]]; exact lv_sub hl [3, 4, 5, 6, 1, 0] rfl)
        exact ih (i + 1) ls ⟨hl, by omega⟩ (by omega)
      · refine lv_iload_n hx hb d_Mo_inSet_40 rfl (lv_at hl 3 rfl) ?_
        refine zz_eqB hx hb d_Mo_inSet_41 (tgt := 61) rfl (fun hT41 => ?_) (fun hF41 => ?_)
        · refine lv_iconst (v := nI 1) hx hb d_Mo_inSet_61 (by decide) ?_
          refine lv_goto hx hb d_Mo_inSet_62 (tgt := 66) rfl ?_
          refine lv_istore hx hb d_Mo_inSet_66 hl (by decide) rfl (fun ls hl => ?_)
          have hl : lv_has ls 7 [(6, .int (nI 1)), (0, .ref r), (1, .int (nI a2)), (2, .int (nI b2)), (3, .int (nI both.toNat)), (4, .int (nI (mIn A a2 b2 both i))), (5, .int (nI i))] := hl
          refine lv_iload hx hb d_Mo_inSet_68 (lv_at hl 5 rfl) ?_
          refine lv_iload hx hb d_Mo_inSet_70 (lv_at hl 0 rfl) ?_
          refine zz_eq0 hx hb (by decide) d_Mo_inSet_72 (tgt := 79) rfl (fun h => absurd h (by decide)) (fun _ => ?_)
          refine lv_iconst (v := nI 1) hx hb d_Mo_inSet_75 (by decide) ?_
          refine lv_goto hx hb d_Mo_inSet_76 (tgt := 80) rfl ?_
          refine zz_iadd hx hb d_Mo_inSet_80 ?_
          refine lv_istore hx hb d_Mo_inSet_81 hl (by decide) rfl (fun ls hl => ?_)
          have hl : lv_has ls 7 [(4, .int (nI ((mIn A a2 b2 both i) + 1))), (6, .int (nI 1)), (0, .ref r), (1, .int (nI a2)), (2, .int (nI b2)), (3, .int (nI both.toNat)), (5, .int (nI i))] := hl
          refine lv_iinc (k := 6) (v := nI (i + 1)) hx hb d_Mo_inSet_83 hl rfl (zz_inc _) (by decide) rfl (fun ls hl => ?_)
          have hl : lv_has ls 7 [(5, .int (nI (i + 1))), (4, .int (nI ((mIn A a2 b2 both i) + 1))), (6, .int (nI 1)), (0, .ref r), (1, .int (nI a2)), (2, .int (nI b2)), (3, .int (nI both.toNat))] := hl
          refine lv_goto hx hb d_Mo_inSet_86 (tgt := 6) rfl ?_
          have hl : lv_has ls 7 [(0, .ref r), (1, .int (nI a2)), (2, .int (nI b2)), (3, .int (nI both.toNat)), (4, .int (nI (mIn A a2 b2 both (i + 1)))), (5, .int (nI (i + 1)))] := (by rw [show mIn A a2 b2 both (i + 1) = mIn A a2 b2 both i + 1 from by rw [show mIn A a2 b2 both (i + 1) = mIn A a2 b2 both i + (mBg A a2 i && !(mSt A a2 i a2 i) && (!both || mSt A a2 i b2 (A 4 b2))).toNat from rfl]; simp [hF24, hF37, hT41]]; exact lv_sub hl [3, 4, 5, 6, 1, 0] rfl)
          exact ih (i + 1) ls ⟨hl, by omega⟩ (by omega)
        · refine lv_aload_n hx hb d_Mo_inSet_44 rfl (lv_at hl 0 rfl) ?_
          refine lv_iload_n hx hb d_Mo_inSet_45 rfl (lv_at hl 1 rfl) ?_
          refine lv_iload hx hb d_Mo_inSet_46 (lv_at hl 5 rfl) ?_
          refine lv_iload_n hx hb d_Mo_inSet_48 rfl (lv_at hl 2 rfl) ?_
          refine lv_aload_n hx hb d_Mo_inSet_49 rfl (lv_at hl 0 rfl) ?_
          refine fg_Mo_19 hE hM.1 rfl d_Mo_inSet_50 ?_
          refine lv_iload_n hx hb d_Mo_inSet_53 rfl (lv_at hl 2 rfl) ?_
          refine mo_ld hE hM 4 (by decide) (i := b2) (show b2 < 2 by omega) d_Mo_inSet_54 ?_
          refine zz_callP (cl_Mo_92 (rest := []) hE (k_Mo_stands l D ca r n t rs w A a2 i b2 (A 4 b2) (by omega) (by omega) (by omega) (by omega) hc (by omega) (by omega)) ⟨rfl, rfl, by decide, by decide⟩ hM hM.1 rfl hl.1 rfl (Nat.le_of_ble_eq_true rfl) d_Mo_inSet_55 ⟨by decide, by decide⟩) ?_
          refine zz_eqB hx hb d_Mo_inSet_58 (tgt := 65) rfl (fun hT58 => ?_) (fun hF58 => ?_)
          · refine lv_iconst (v := nI 0) hx hb d_Mo_inSet_65 (by decide) ?_
            refine lv_istore hx hb d_Mo_inSet_66 hl (by decide) rfl (fun ls hl => ?_)
            have hl : lv_has ls 7 [(6, .int (nI 0)), (0, .ref r), (1, .int (nI a2)), (2, .int (nI b2)), (3, .int (nI both.toNat)), (4, .int (nI (mIn A a2 b2 both i))), (5, .int (nI i))] := hl
            refine lv_iload hx hb d_Mo_inSet_68 (lv_at hl 5 rfl) ?_
            refine lv_iload hx hb d_Mo_inSet_70 (lv_at hl 0 rfl) ?_
            refine zz_eq0 hx hb (by decide) d_Mo_inSet_72 (tgt := 79) rfl (fun _ => ?_) (fun h => absurd h (by decide))
            refine lv_iconst (v := nI 0) hx hb d_Mo_inSet_79 (by decide) ?_
            refine zz_iadd hx hb d_Mo_inSet_80 ?_
            refine lv_istore hx hb d_Mo_inSet_81 hl (by decide) rfl (fun ls hl => ?_)
            have hl : lv_has ls 7 [(4, .int (nI ((mIn A a2 b2 both i) + 0))), (6, .int (nI 0)), (0, .ref r), (1, .int (nI a2)), (2, .int (nI b2)), (3, .int (nI both.toNat)), (5, .int (nI i))] := hl
            refine lv_iinc (k := 6) (v := nI (i + 1)) hx hb d_Mo_inSet_83 hl rfl (zz_inc _) (by decide) rfl (fun ls hl => ?_)
            have hl : lv_has ls 7 [(5, .int (nI (i + 1))), (4, .int (nI ((mIn A a2 b2 both i) + 0))), (6, .int (nI 0)), (0, .ref r), (1, .int (nI a2)), (2, .int (nI b2)), (3, .int (nI both.toNat))] := hl
            refine lv_goto hx hb d_Mo_inSet_86 (tgt := 6) rfl ?_
            have hl : lv_has ls 7 [(0, .ref r), (1, .int (nI a2)), (2, .int (nI b2)), (3, .int (nI both.toNat)), (4, .int (nI (mIn A a2 b2 both (i + 1)))), (5, .int (nI (i + 1)))] := (by rw [show mIn A a2 b2 both (i + 1) = mIn A a2 b2 both i + 0 from by rw [show mIn A a2 b2 both (i + 1) = mIn A a2 b2 both i + (mBg A a2 i && !(mSt A a2 i a2 i) && (!both || mSt A a2 i b2 (A 4 b2))).toNat from rfl]; simp [hF24, hF37, hF41, hT58]]; exact lv_sub hl [3, 4, 5, 6, 1, 0] rfl)
            exact ih (i + 1) ls ⟨hl, by omega⟩ (by omega)
          · refine lv_iconst (v := nI 1) hx hb d_Mo_inSet_61 (by decide) ?_
            refine lv_goto hx hb d_Mo_inSet_62 (tgt := 66) rfl ?_
            refine lv_istore hx hb d_Mo_inSet_66 hl (by decide) rfl (fun ls hl => ?_)
            have hl : lv_has ls 7 [(6, .int (nI 1)), (0, .ref r), (1, .int (nI a2)), (2, .int (nI b2)), (3, .int (nI both.toNat)), (4, .int (nI (mIn A a2 b2 both i))), (5, .int (nI i))] := hl
            refine lv_iload hx hb d_Mo_inSet_68 (lv_at hl 5 rfl) ?_
            refine lv_iload hx hb d_Mo_inSet_70 (lv_at hl 0 rfl) ?_
            refine zz_eq0 hx hb (by decide) d_Mo_inSet_72 (tgt := 79) rfl (fun h => absurd h (by decide)) (fun _ => ?_)
            refine lv_iconst (v := nI 1) hx hb d_Mo_inSet_75 (by decide) ?_
            refine lv_goto hx hb d_Mo_inSet_76 (tgt := 80) rfl ?_
            refine zz_iadd hx hb d_Mo_inSet_80 ?_
            refine lv_istore hx hb d_Mo_inSet_81 hl (by decide) rfl (fun ls hl => ?_)
            have hl : lv_has ls 7 [(4, .int (nI ((mIn A a2 b2 both i) + 1))), (6, .int (nI 1)), (0, .ref r), (1, .int (nI a2)), (2, .int (nI b2)), (3, .int (nI both.toNat)), (5, .int (nI i))] := hl
            refine lv_iinc (k := 6) (v := nI (i + 1)) hx hb d_Mo_inSet_83 hl rfl (zz_inc _) (by decide) rfl (fun ls hl => ?_)
            have hl : lv_has ls 7 [(5, .int (nI (i + 1))), (4, .int (nI ((mIn A a2 b2 both i) + 1))), (6, .int (nI 1)), (0, .ref r), (1, .int (nI a2)), (2, .int (nI b2)), (3, .int (nI both.toNat))] := hl
            refine lv_goto hx hb d_Mo_inSet_86 (tgt := 6) rfl ?_
            have hl : lv_has ls 7 [(0, .ref r), (1, .int (nI a2)), (2, .int (nI b2)), (3, .int (nI both.toNat)), (4, .int (nI (mIn A a2 b2 both (i + 1)))), (5, .int (nI (i + 1)))] := (by rw [show mIn A a2 b2 both (i + 1) = mIn A a2 b2 both i + 1 from by rw [show mIn A a2 b2 both (i + 1) = mIn A a2 b2 both i + (mBg A a2 i && !(mSt A a2 i a2 i) && (!both || mSt A a2 i b2 (A 4 b2))).toNat from rfl]; simp [hF24, hF37, hF41, hF58]]; exact lv_sub hl [3, 4, 5, 6, 1, 0] rfl)
            exact ih (i + 1) ls ⟨hl, by omega⟩ (by omega)
end
section
set_option maxHeartbeats 4000000 in
set_option maxRecDepth 100000 in
theorem k_Mo_look (l : Launch) (D : va_G) (ca : Nat → ClassId) (r n t rs w : Nat) (A : Nat → Nat → Nat) (q rr f : Nat) (hq : q ≤ 1) (hrr : rr ≤ 12) (hf : f ≤ 1) (hsz : A 2 (2 * rr + f) ≤ 12) (hraw : ∀ j, j < 312 → A 1 j < 256) : Met l y_Mo_look w_Mo_look (zr 1 0 0) (zz_P D ca [.ref r, .int (nI q), .int (nI rr), .int (nI f)] (fun H => MoAt D ca H r n t rs w A)) (zz_Q (fun H H1 v => v = none ∧ zz_fr (moFr r) H H1 ∧ ∃ B, MoAt D ca H1 r n t rs w B ∧ mLook A B q (nfS (fun i => A 1 (12 * (2 * rr + f) + i)) (A 2 (2 * rr + f))).1)) 0 0 (moFr r) := by
  refine zz_met (cc := c_Mo_look) (by decide) (Nat.le_of_ble_eq_true rfl) ?_
  intro p e s m below meth c ls hE hr hlk hnm hM hl
  have hx := hE.1.1
  have hb := hE.1.2.1
  have hK := hE.2
  have hl : lv_has ls 9 [(0, .ref r), (1, .int (nI q)), (2, .int (nI rr)), (3, .int (nI f))] := hl
  have hL : zz_L (moFr r) ([] : List Loc) := zz_L.nil
  have hS : zz_fr (moFr r) s.heap s.heap := zz_fr.rf
  refine lv_iconst (v := nI 2) hx hb d_Mo_look_0 (by decide) ?_
  refine lv_iload_n hx hb d_Mo_look_1 rfl (lv_at hl 2 rfl) ?_
  refine zz_imul hx hb d_Mo_look_2 ?_
  refine lv_iload_n hx hb d_Mo_look_3 rfl (lv_at hl 3 rfl) ?_
  refine zz_iadd hx hb d_Mo_look_4 ?_
  refine lv_istore hx hb d_Mo_look_5 hl (by decide) rfl (fun ls hl => ?_)
  have hl : lv_has ls 9 [(4, .int (nI ((2 * rr) + f))), (0, .ref r), (1, .int (nI q)), (2, .int (nI rr)), (3, .int (nI f))] := hl
  refine lv_iconst (v := nI 0) hx hb d_Mo_look_7 (by decide) ?_
  refine lv_istore hx hb d_Mo_look_8 hl (by decide) rfl (fun ls hl => ?_)
  have hl : lv_has ls 9 [(5, .int (nI 0)), (4, .int (nI ((2 * rr) + f))), (0, .ref r), (1, .int (nI q)), (2, .int (nI rr)), (3, .int (nI f))] := hl
  refine lv_iconst (v := nI 0) hx hb d_Mo_look_10 (by decide) ?_
  refine lv_istore hx hb d_Mo_look_11 hl (by decide) rfl (fun ls hl => ?_)
  have hl : lv_has ls 9 [(6, .int (nI 0)), (5, .int (nI 0)), (4, .int (nI ((2 * rr) + f))), (0, .ref r), (1, .int (nI q)), (2, .int (nI rr)), (3, .int (nI f))] := hl
  refine lv_iconst (v := nI 0) hx hb d_Mo_look_13 (by decide) ?_
  refine lv_istore hx hb d_Mo_look_14 hl (by decide) rfl (fun ls hl => ?_)
  have hl : lv_has ls 9 [(7, .int (nI 0)), (6, .int (nI 0)), (5, .int (nI 0)), (4, .int (nI ((2 * rr) + f))), (0, .ref r), (1, .int (nI q)), (2, .int (nI rr)), (3, .int (nI f))] := hl
  have hl : lv_has ls 9 [(0, .ref r), (1, .int (nI q)), (2, .int (nI rr)), (3, .int (nI f)), (4, .int (nI (2 * rr + f))), (5, .int (nI 0)), (6, .int (nI false.toNat)), (7, .int (nI 0))] := lv_sub hl [4, 5, 6, 7, 3, 2, 1, 0] rfl
  refine zz_loopH (σ := Nat × (Nat → Nat → Nat)) (fun ⟨i, B⟩ ls H locs => lv_has ls 9 [(0, .ref r), (1, .int (nI q)), (2, .int (nI rr)), (3, .int (nI f)), (4, .int (nI (2 * rr + f))), (5, .int (nI ((nfS (fun i => A 1 (12 * (2 * rr + f) + i)) i).1.length))), (6, .int (nI ((nfS (fun i => A 1 (12 * (2 * rr + f) + i)) i).2).toNat)), (7, .int (nI i))] ∧ i ≤ A 2 (2 * rr + f) ∧ MoAt D ca H r n t rs w B ∧ mBuf A B q (nfS (fun i => A 1 (12 * (2 * rr + f) + i)) i).1 ∧ zz_fr (moFr r) s.heap H ∧ zz_L (moFr r) locs) (fun ⟨i, B⟩ => A 2 (2 * rr + f) - i) ?_ (0, A) ls _ _ ⟨hl, Nat.zero_le _, hM, ⟨fun _ _ => rfl, fun j hj => absurd hj (Nat.not_lt_zero _), fun _ _ => rfl⟩, hS, hL⟩
  rintro ⟨i, B⟩ ih ls H locs ⟨hl, hi, hM, hB, hS, hL⟩
  have hB2 : B 2 (2 * rr + f) = A 2 (2 * rr + f) := congrFun (hB.1 2 (by decide)) _
  have hB1 : B 1 (12 * (2 * rr + f) + i) = A 1 (12 * (2 * rr + f) + i) := congrFun (hB.1 1 (by decide)) _
  have hlen := nfS_len (fun i => A 1 (12 * (2 * rr + f) + i)) i
  have hlen0 : (nfS (fun i => A 1 (12 * (2 * rr + f) + i)) i).1.length ≤ i := by omega
  refine lv_iload hx hb d_Mo_look_16 (lv_at hl 7 rfl) ?_
  refine lv_aload_n hx hb d_Mo_look_18 rfl (lv_at hl 0 rfl) ?_
  refine fg_Mo_13 hE hM.1 rfl d_Mo_look_19 ?_
  refine lv_iload hx hb d_Mo_look_22 (lv_at hl 4 rfl) ?_
  refine mo_ld hE hM 2 (by decide) (i := 2 * rr + f) (show 2 * rr + f < 26 by omega) d_Mo_look_24 ?_
  refine zz_ge hx hb (by omega) (by omega) d_Mo_look_25 (tgt := 110) rfl (fun hT25 => ?_) (fun hF25 => ?_)
  · refine lv_aload_n hx hb d_Mo_look_110 rfl (lv_at hl 0 rfl) ?_
    refine fg_Mo_19 hE hM.1 rfl d_Mo_look_111 ?_
    refine lv_iload_n hx hb d_Mo_look_114 rfl (lv_at hl 1 rfl) ?_
    refine lv_iload hx hb d_Mo_look_115 (lv_at hl 5 rfl) ?_
    refine mo_st hE hM hS hL 4 (by decide) (i := q) (x := (nfS (fun i => A 1 (12 * (2 * rr + f) + i)) i).1.length) (show q < 2 by omega) d_Mo_look_117 (fun H locs hM hS hL => ?_)
    have hi9 : i = A 2 (2 * rr + f) := by omega
    refine zz_vret hx hb hr hlk ⟨rfl, hS, _, hM, ?_⟩ hL d_Mo_look_118
    rw [← hi9]
    exact mBuf_end hB
  · refine lv_aload_n hx hb d_Mo_look_28 rfl (lv_at hl 0 rfl) ?_
    refine fg_Mo_7 hE hM.1 rfl d_Mo_look_29 ?_
    refine lv_bipush (v := nI 12) hx hb d_Mo_look_32 (by decide) ?_
    refine lv_iload hx hb d_Mo_look_34 (lv_at hl 4 rfl) ?_
    refine zz_imul hx hb d_Mo_look_36 ?_
    refine lv_iload hx hb d_Mo_look_37 (lv_at hl 7 rfl) ?_
    refine zz_iadd hx hb d_Mo_look_39 ?_
    refine mo_ld hE hM 1 (by decide) (i := (12 * (2 * rr + f)) + i) (show (12 * (2 * rr + f)) + i < 312 by omega) d_Mo_look_40 ?_
    have hc1 : B 1 (12 * (2 * rr + f) + i) < 256 := by rw [hB1]; exact hraw _ (by omega)
    have hc2 := mLet_lt hc1
    refine zz_callP (cl_Mo_76 (rest := []) hE (k_Mo_letter l D ca (B 1 ((12 * (2 * rr + f)) + i)) hc1) ⟨rfl, rfl, by decide, by decide⟩ trivial rfl hl.1 rfl (Nat.le_of_ble_eq_true rfl) d_Mo_look_41 ⟨by decide, by decide⟩) ?_
    refine lv_istore hx hb d_Mo_look_44 hl (by decide) rfl (fun ls hl => ?_)
    have hl : lv_has ls 9 [(8, .int (nI (mLet (B 1 ((12 * (2 * rr + f)) + i))))), (0, .ref r), (1, .int (nI q)), (2, .int (nI rr)), (3, .int (nI f)), (4, .int (nI (2 * rr + f))), (5, .int (nI ((nfS (fun i => A 1 (12 * (2 * rr + f) + i)) i).1.length))), (6, .int (nI ((nfS (fun i => A 1 (12 * (2 * rr + f) + i)) i).2).toNat)), (7, .int (nI i))] := hl
    refine lv_iload hx hb d_Mo_look_46 (lv_at hl 0 rfl) ?_
    refine zz_ne0 hx hb (by omega) d_Mo_look_48 (tgt := 57) rfl (fun hT48 => ?_) (fun hF48 => ?_)
    · have hz0 : ¬ mLet (A 1 (12 * (2 * rr + f) + i)) = 0 := by rw [← hB1]; omega
      refine lv_iload hx hb d_Mo_look_57 (lv_at hl 7 rfl) ?_
      refine zz_eqB hx hb d_Mo_look_59 (tgt := 84) rfl (fun hT59 => ?_) (fun hF59 => ?_)
      · refine lv_aload_n hx hb d_Mo_look_84 rfl (lv_at hl 1 rfl) ?_
        refine fg_Mo_16 hE hM.1 rfl d_Mo_look_85 ?_
        refine lv_bipush (v := nI 12) hx hb d_Mo_look_88 (by decide) ?_
        refine lv_iload_n hx hb d_Mo_look_90 rfl (lv_at hl 2 rfl) ?_
        refine zz_imul hx hb d_Mo_look_91 ?_
        refine lv_iload hx hb d_Mo_look_92 (lv_at hl 6 rfl) ?_
        refine zz_iadd hx hb d_Mo_look_94 ?_
        refine lv_iload hx hb d_Mo_look_95 (lv_at hl 0 rfl) ?_
        refine mo_st hE hM hS hL 3 (by decide) (i := (12 * q) + ((nfS (fun i => A 1 (12 * (2 * rr + f) + i)) i).1.length)) (x := mLet (B 1 ((12 * (2 * rr + f)) + i))) (show (12 * q) + ((nfS (fun i => A 1 (12 * (2 * rr + f) + i)) i).1.length) < 24 by omega) d_Mo_look_97 (fun H locs hM hS hL => ?_)
        refine lv_iinc (k := 6) (v := nI ((nfS (fun i => A 1 (12 * (2 * rr + f) + i)) i).1.length + 1)) hx hb d_Mo_look_98 hl rfl (zz_inc _) (by decide) rfl (fun ls hl => ?_)
        have hl : lv_has ls 9 [(5, .int (nI ((nfS (fun i => A 1 (12 * (2 * rr + f) + i)) i).1.length + 1))), (8, .int (nI (mLet (B 1 ((12 * (2 * rr + f)) + i))))), (0, .ref r), (1, .int (nI q)), (2, .int (nI rr)), (3, .int (nI f)), (4, .int (nI (2 * rr + f))), (6, .int (nI ((nfS (fun i => A 1 (12 * (2 * rr + f) + i)) i).2).toNat)), (7, .int (nI i))] := hl
        refine lv_iconst (v := nI 0) hx hb d_Mo_look_101 (by decide) ?_
        refine lv_istore hx hb d_Mo_look_102 hl (by decide) rfl (fun ls hl => ?_)
        have hl : lv_has ls 9 [(6, .int (nI 0)), (5, .int (nI ((nfS (fun i => A 1 (12 * (2 * rr + f) + i)) i).1.length + 1))), (8, .int (nI (mLet (B 1 ((12 * (2 * rr + f)) + i))))), (0, .ref r), (1, .int (nI q)), (2, .int (nI rr)), (3, .int (nI f)), (4, .int (nI (2 * rr + f))), (7, .int (nI i))] := hl
        refine lv_iinc (k := 8) (v := nI (i + 1)) hx hb d_Mo_look_104 hl rfl (zz_inc _) (by decide) rfl (fun ls hl => ?_)
        have hl : lv_has ls 9 [(7, .int (nI (i + 1))), (6, .int (nI 0)), (5, .int (nI ((nfS (fun i => A 1 (12 * (2 * rr + f) + i)) i).1.length + 1))), (8, .int (nI (mLet (B 1 ((12 * (2 * rr + f)) + i))))), (0, .ref r), (1, .int (nI q)), (2, .int (nI rr)), (3, .int (nI f)), (4, .int (nI (2 * rr + f)))] := hl
        refine lv_goto hx hb d_Mo_look_107 (tgt := 16) rfl ?_
        have hn : nfS (fun i => A 1 (12 * (2 * rr + f) + i)) (i + 1) = ((nfS (fun i => A 1 (12 * (2 * rr + f) + i)) i).1 ++ [mLet (A 1 (12 * (2 * rr + f) + i))], false) := by simp only [nfS]; rw [if_neg hz0, if_neg (fun h => by rw [hT59] at h; exact absurd h.1 (by decide))]
        have e5 : (nfS (fun i => A 1 (12 * (2 * rr + f) + i)) (i + 1)).1.length = (nfS (fun i => A 1 (12 * (2 * rr + f) + i)) i).1.length + 1 := by rw [hn]; simp
        have e6 : (nfS (fun i => A 1 (12 * (2 * rr + f) + i)) (i + 1)).2 = false := by rw [hn]
        have hB9 : mBuf A (up2 B 3 ((12 * q) + ((nfS (fun i => A 1 (12 * (2 * rr + f) + i)) i).1.length)) (mLet (B 1 ((12 * (2 * rr + f)) + i)))) q (nfS (fun i => A 1 (12 * (2 * rr + f) + i)) (i + 1)).1 := by
          rw [hn, hB1]
          exact mBuf_add hB (by omega)
        have hl : lv_has ls 9 [(0, .ref r), (1, .int (nI q)), (2, .int (nI rr)), (3, .int (nI f)), (4, .int (nI (2 * rr + f))), (5, .int (nI ((nfS (fun i => A 1 (12 * (2 * rr + f) + i)) (i + 1)).1.length))), (6, .int (nI ((nfS (fun i => A 1 (12 * (2 * rr + f) + i)) (i + 1)).2).toNat)), (7, .int (nI (i + 1)))] := (by rw [e5, e6]; exact lv_sub hl [4, 5, 6, 7, 8, 2, 1, 0] rfl)
        exact ih (i + 1, (up2 B 3 ((12 * q) + ((nfS (fun i => A 1 (12 * (2 * rr + f) + i)) i).1.length)) (mLet (B 1 ((12 * (2 * rr + f)) + i))))) ls _ _ ⟨hl, by omega, hM, hB9, hS, hL⟩ (by show _ - (i + 1) < _ - i; omega)
      · refine lv_iload hx hb d_Mo_look_62 (lv_at hl 6 rfl) ?_
        refine zz_le0 hx hb (by omega) d_Mo_look_64 (tgt := 84) rfl (fun hT64 => ?_) (fun hF64 => ?_)
        · refine lv_aload_n hx hb d_Mo_look_84 rfl (lv_at hl 1 rfl) ?_
          refine fg_Mo_16 hE hM.1 rfl d_Mo_look_85 ?_
          refine lv_bipush (v := nI 12) hx hb d_Mo_look_88 (by decide) ?_
          refine lv_iload_n hx hb d_Mo_look_90 rfl (lv_at hl 2 rfl) ?_
          refine zz_imul hx hb d_Mo_look_91 ?_
          refine lv_iload hx hb d_Mo_look_92 (lv_at hl 6 rfl) ?_
          refine zz_iadd hx hb d_Mo_look_94 ?_
          refine lv_iload hx hb d_Mo_look_95 (lv_at hl 0 rfl) ?_
          refine mo_st hE hM hS hL 3 (by decide) (i := (12 * q) + ((nfS (fun i => A 1 (12 * (2 * rr + f) + i)) i).1.length)) (x := mLet (B 1 ((12 * (2 * rr + f)) + i))) (show (12 * q) + ((nfS (fun i => A 1 (12 * (2 * rr + f) + i)) i).1.length) < 24 by omega) d_Mo_look_97 (fun H locs hM hS hL => ?_)
          refine lv_iinc (k := 6) (v := nI ((nfS (fun i => A 1 (12 * (2 * rr + f) + i)) i).1.length + 1)) hx hb d_Mo_look_98 hl rfl (zz_inc _) (by decide) rfl (fun ls hl => ?_)
          have hl : lv_has ls 9 [(5, .int (nI ((nfS (fun i => A 1 (12 * (2 * rr + f) + i)) i).1.length + 1))), (8, .int (nI (mLet (B 1 ((12 * (2 * rr + f)) + i))))), (0, .ref r), (1, .int (nI q)), (2, .int (nI rr)), (3, .int (nI f)), (4, .int (nI (2 * rr + f))), (6, .int (nI ((nfS (fun i => A 1 (12 * (2 * rr + f) + i)) i).2).toNat)), (7, .int (nI i))] := hl
          refine lv_iconst (v := nI 0) hx hb d_Mo_look_101 (by decide) ?_
          refine lv_istore hx hb d_Mo_look_102 hl (by decide) rfl (fun ls hl => ?_)
          have hl : lv_has ls 9 [(6, .int (nI 0)), (5, .int (nI ((nfS (fun i => A 1 (12 * (2 * rr + f) + i)) i).1.length + 1))), (8, .int (nI (mLet (B 1 ((12 * (2 * rr + f)) + i))))), (0, .ref r), (1, .int (nI q)), (2, .int (nI rr)), (3, .int (nI f)), (4, .int (nI (2 * rr + f))), (7, .int (nI i))] := hl
          refine lv_iinc (k := 8) (v := nI (i + 1)) hx hb d_Mo_look_104 hl rfl (zz_inc _) (by decide) rfl (fun ls hl => ?_)
          have hl : lv_has ls 9 [(7, .int (nI (i + 1))), (6, .int (nI 0)), (5, .int (nI ((nfS (fun i => A 1 (12 * (2 * rr + f) + i)) i).1.length + 1))), (8, .int (nI (mLet (B 1 ((12 * (2 * rr + f)) + i))))), (0, .ref r), (1, .int (nI q)), (2, .int (nI rr)), (3, .int (nI f)), (4, .int (nI (2 * rr + f)))] := hl
          refine lv_goto hx hb d_Mo_look_107 (tgt := 16) rfl ?_
          have hn : nfS (fun i => A 1 (12 * (2 * rr + f) + i)) (i + 1) = ((nfS (fun i => A 1 (12 * (2 * rr + f) + i)) i).1 ++ [mLet (A 1 (12 * (2 * rr + f) + i))], false) := by simp only [nfS]; rw [if_neg hz0, if_neg (fun h => by omega)]
          have e5 : (nfS (fun i => A 1 (12 * (2 * rr + f) + i)) (i + 1)).1.length = (nfS (fun i => A 1 (12 * (2 * rr + f) + i)) i).1.length + 1 := by rw [hn]; simp
          have e6 : (nfS (fun i => A 1 (12 * (2 * rr + f) + i)) (i + 1)).2 = false := by rw [hn]
          have hB9 : mBuf A (up2 B 3 ((12 * q) + ((nfS (fun i => A 1 (12 * (2 * rr + f) + i)) i).1.length)) (mLet (B 1 ((12 * (2 * rr + f)) + i)))) q (nfS (fun i => A 1 (12 * (2 * rr + f) + i)) (i + 1)).1 := by
            rw [hn, hB1]
            exact mBuf_add hB (by omega)
          have hl : lv_has ls 9 [(0, .ref r), (1, .int (nI q)), (2, .int (nI rr)), (3, .int (nI f)), (4, .int (nI (2 * rr + f))), (5, .int (nI ((nfS (fun i => A 1 (12 * (2 * rr + f) + i)) (i + 1)).1.length))), (6, .int (nI ((nfS (fun i => A 1 (12 * (2 * rr + f) + i)) (i + 1)).2).toNat)), (7, .int (nI (i + 1)))] := (by rw [e5, e6]; exact lv_sub hl [4, 5, 6, 7, 8, 2, 1, 0] rfl)
          exact ih (i + 1, (up2 B 3 ((12 * q) + ((nfS (fun i => A 1 (12 * (2 * rr + f) + i)) i).1.length)) (mLet (B 1 ((12 * (2 * rr + f)) + i))))) ls _ _ ⟨hl, by omega, hM, hB9, hS, hL⟩ (by show _ - (i + 1) < _ - i; omega)
        · rw [if_pos ⟨hF59, hF64⟩] at hlen
          refine lv_aload_n hx hb d_Mo_look_67 rfl (lv_at hl 1 rfl) ?_
          refine fg_Mo_16 hE hM.1 rfl d_Mo_look_68 ?_
          refine lv_bipush (v := nI 12) hx hb d_Mo_look_71 (by decide) ?_
          refine lv_iload_n hx hb d_Mo_look_73 rfl (lv_at hl 2 rfl) ?_
          refine zz_imul hx hb d_Mo_look_74 ?_
          refine lv_iload hx hb d_Mo_look_75 (lv_at hl 6 rfl) ?_
          refine zz_iadd hx hb d_Mo_look_77 ?_
          refine lv_bipush (v := nI 32) hx hb d_Mo_look_78 (by decide) ?_
          refine mo_st hE hM hS hL 3 (by decide) (i := (12 * q) + ((nfS (fun i => A 1 (12 * (2 * rr + f) + i)) i).1.length)) (x := 32) (show (12 * q) + ((nfS (fun i => A 1 (12 * (2 * rr + f) + i)) i).1.length) < 24 by omega) d_Mo_look_80 (fun H locs hM hS hL => ?_)
          refine lv_iinc (k := 6) (v := nI ((nfS (fun i => A 1 (12 * (2 * rr + f) + i)) i).1.length + 1)) hx hb d_Mo_look_81 hl rfl (zz_inc _) (by decide) rfl (fun ls hl => ?_)
          have hl : lv_has ls 9 [(5, .int (nI ((nfS (fun i => A 1 (12 * (2 * rr + f) + i)) i).1.length + 1))), (8, .int (nI (mLet (B 1 ((12 * (2 * rr + f)) + i))))), (0, .ref r), (1, .int (nI q)), (2, .int (nI rr)), (3, .int (nI f)), (4, .int (nI (2 * rr + f))), (6, .int (nI ((nfS (fun i => A 1 (12 * (2 * rr + f) + i)) i).2).toNat)), (7, .int (nI i))] := hl
          refine lv_aload_n hx hb d_Mo_look_84 rfl (lv_at hl 2 rfl) ?_
          refine fg_Mo_16 hE hM.1 rfl d_Mo_look_85 ?_
          refine lv_bipush (v := nI 12) hx hb d_Mo_look_88 (by decide) ?_
          refine lv_iload_n hx hb d_Mo_look_90 rfl (lv_at hl 3 rfl) ?_
          refine zz_imul hx hb d_Mo_look_91 ?_
          refine lv_iload hx hb d_Mo_look_92 (lv_at hl 0 rfl) ?_
          refine zz_iadd hx hb d_Mo_look_94 ?_
          refine lv_iload hx hb d_Mo_look_95 (lv_at hl 1 rfl) ?_
          refine mo_st hE hM hS hL 3 (by decide) (i := (12 * q) + ((nfS (fun i => A 1 (12 * (2 * rr + f) + i)) i).1.length + 1)) (x := mLet (B 1 ((12 * (2 * rr + f)) + i))) (show (12 * q) + ((nfS (fun i => A 1 (12 * (2 * rr + f) + i)) i).1.length + 1) < 24 by omega) d_Mo_look_97 (fun H locs hM hS hL => ?_)
          refine lv_iinc (k := 0) (v := nI ((nfS (fun i => A 1 (12 * (2 * rr + f) + i)) i).1.length + 1 + 1)) hx hb d_Mo_look_98 hl rfl (zz_inc _) (by decide) rfl (fun ls hl => ?_)
          have hl : lv_has ls 9 [(5, .int (nI ((nfS (fun i => A 1 (12 * (2 * rr + f) + i)) i).1.length + 1 + 1))), (8, .int (nI (mLet (B 1 ((12 * (2 * rr + f)) + i))))), (0, .ref r), (1, .int (nI q)), (2, .int (nI rr)), (3, .int (nI f)), (4, .int (nI (2 * rr + f))), (6, .int (nI ((nfS (fun i => A 1 (12 * (2 * rr + f) + i)) i).2).toNat)), (7, .int (nI i))] := hl
          refine lv_iconst (v := nI 0) hx hb d_Mo_look_101 (by decide) ?_
          refine lv_istore hx hb d_Mo_look_102 hl (by decide) rfl (fun ls hl => ?_)
          have hl : lv_has ls 9 [(6, .int (nI 0)), (5, .int (nI ((nfS (fun i => A 1 (12 * (2 * rr + f) + i)) i).1.length + 1 + 1))), (8, .int (nI (mLet (B 1 ((12 * (2 * rr + f)) + i))))), (0, .ref r), (1, .int (nI q)), (2, .int (nI rr)), (3, .int (nI f)), (4, .int (nI (2 * rr + f))), (7, .int (nI i))] := hl
          refine lv_iinc (k := 8) (v := nI (i + 1)) hx hb d_Mo_look_104 hl rfl (zz_inc _) (by decide) rfl (fun ls hl => ?_)
          have hl : lv_has ls 9 [(7, .int (nI (i + 1))), (6, .int (nI 0)), (5, .int (nI ((nfS (fun i => A 1 (12 * (2 * rr + f) + i)) i).1.length + 1 + 1))), (8, .int (nI (mLet (B 1 ((12 * (2 * rr + f)) + i))))), (0, .ref r), (1, .int (nI q)), (2, .int (nI rr)), (3, .int (nI f)), (4, .int (nI (2 * rr + f)))] := hl
          refine lv_goto hx hb d_Mo_look_107 (tgt := 16) rfl ?_
          have hn : nfS (fun i => A 1 (12 * (2 * rr + f) + i)) (i + 1) = ((nfS (fun i => A 1 (12 * (2 * rr + f) + i)) i).1 ++ [32, mLet (A 1 (12 * (2 * rr + f) + i))], false) := by simp only [nfS]; rw [if_neg hz0, if_pos ⟨hF59, hF64⟩]
          have e5 : (nfS (fun i => A 1 (12 * (2 * rr + f) + i)) (i + 1)).1.length = (nfS (fun i => A 1 (12 * (2 * rr + f) + i)) i).1.length + 1 + 1 := by rw [hn]; simp
          have e6 : (nfS (fun i => A 1 (12 * (2 * rr + f) + i)) (i + 1)).2 = false := by rw [hn]
          have hB9 : mBuf A (up2 (up2 B 3 ((12 * q) + ((nfS (fun i => A 1 (12 * (2 * rr + f) + i)) i).1.length)) 32) 3 ((12 * q) + ((nfS (fun i => A 1 (12 * (2 * rr + f) + i)) i).1.length + 1)) (mLet (B 1 ((12 * (2 * rr + f)) + i)))) q (nfS (fun i => A 1 (12 * (2 * rr + f) + i)) (i + 1)).1 := by
            rw [hn, hB1]
            have h9 := mBuf_add (x := mLet (A 1 (12 * (2 * rr + f) + i))) (mBuf_add (x := 32) hB (by omega)) (by simp; omega)
            simpa using h9
          have hl : lv_has ls 9 [(0, .ref r), (1, .int (nI q)), (2, .int (nI rr)), (3, .int (nI f)), (4, .int (nI (2 * rr + f))), (5, .int (nI ((nfS (fun i => A 1 (12 * (2 * rr + f) + i)) (i + 1)).1.length))), (6, .int (nI ((nfS (fun i => A 1 (12 * (2 * rr + f) + i)) (i + 1)).2).toNat)), (7, .int (nI (i + 1)))] := (by rw [e5, e6]; exact lv_sub hl [4, 5, 6, 7, 8, 2, 1, 0] rfl)
          exact ih (i + 1, (up2 (up2 B 3 ((12 * q) + ((nfS (fun i => A 1 (12 * (2 * rr + f) + i)) i).1.length)) 32) 3 ((12 * q) + ((nfS (fun i => A 1 (12 * (2 * rr + f) + i)) i).1.length + 1)) (mLet (B 1 ((12 * (2 * rr + f)) + i))))) ls _ _ ⟨hl, by omega, hM, hB9, hS, hL⟩ (by show _ - (i + 1) < _ - i; omega)
    · have hz0 : mLet (A 1 (12 * (2 * rr + f) + i)) = 0 := by rw [← hB1]; exact hF48
      refine lv_iconst (v := nI 1) hx hb d_Mo_look_51 (by decide) ?_
      refine lv_istore hx hb d_Mo_look_52 hl (by decide) rfl (fun ls hl => ?_)
      have hl : lv_has ls 9 [(6, .int (nI 1)), (8, .int (nI (mLet (B 1 ((12 * (2 * rr + f)) + i))))), (0, .ref r), (1, .int (nI q)), (2, .int (nI rr)), (3, .int (nI f)), (4, .int (nI (2 * rr + f))), (5, .int (nI ((nfS (fun i => A 1 (12 * (2 * rr + f) + i)) i).1.length))), (7, .int (nI i))] := hl
      refine lv_goto hx hb d_Mo_look_54 (tgt := 104) rfl ?_
      refine lv_iinc (k := 8) (v := nI (i + 1)) hx hb d_Mo_look_104 hl rfl (zz_inc _) (by decide) rfl (fun ls hl => ?_)
      have hl : lv_has ls 9 [(7, .int (nI (i + 1))), (6, .int (nI 1)), (8, .int (nI (mLet (B 1 ((12 * (2 * rr + f)) + i))))), (0, .ref r), (1, .int (nI q)), (2, .int (nI rr)), (3, .int (nI f)), (4, .int (nI (2 * rr + f))), (5, .int (nI ((nfS (fun i => A 1 (12 * (2 * rr + f) + i)) i).1.length)))] := hl
      refine lv_goto hx hb d_Mo_look_107 (tgt := 16) rfl ?_
      have hn : nfS (fun i => A 1 (12 * (2 * rr + f) + i)) (i + 1) = ((nfS (fun i => A 1 (12 * (2 * rr + f) + i)) i).1, true) := by simp only [nfS]; rw [if_pos hz0]
      have e5 : (nfS (fun i => A 1 (12 * (2 * rr + f) + i)) (i + 1)).1.length = (nfS (fun i => A 1 (12 * (2 * rr + f) + i)) i).1.length := by rw [hn]
      have e6 : (nfS (fun i => A 1 (12 * (2 * rr + f) + i)) (i + 1)).2 = true := by rw [hn]
      have hB9 : mBuf A B q (nfS (fun i => A 1 (12 * (2 * rr + f) + i)) (i + 1)).1 := by rw [hn]; exact hB
      have hl : lv_has ls 9 [(0, .ref r), (1, .int (nI q)), (2, .int (nI rr)), (3, .int (nI f)), (4, .int (nI (2 * rr + f))), (5, .int (nI ((nfS (fun i => A 1 (12 * (2 * rr + f) + i)) (i + 1)).1.length))), (6, .int (nI ((nfS (fun i => A 1 (12 * (2 * rr + f) + i)) (i + 1)).2).toNat)), (7, .int (nI (i + 1)))] := (by rw [e5, e6]; exact lv_sub hl [3, 4, 5, 6, 7, 8, 1, 0] rfl)
      exact ih (i + 1, B) ls _ _ ⟨hl, by omega, hM, hB9, hS, hL⟩ (by show _ - (i + 1) < _ - i; omega)
end
section
theorem zz_dec {i : Nat} (h : 0 < i) : nI i + Int32.ofInt (-1) = nI (i - 1) := by rw [litm1]; exact sb_m1 h
theorem zz_inc4 (i : Nat) : nI i + Int32.ofInt 4 = nI (i + 4) := by rw [lit4]; exact nI_add i 4
/-- the leaves among the marks from fr on, below k -/
def mLv (A : Nat → Nat → Nat) (fr : Nat) : Nat → Nat := zcnt (fun k => decide (fr ≤ k) && decide (A 6 k < 2))
theorem mLv_0 (A : Nat → Nat → Nat) (fr : Nat) : ∀ k, k ≤ fr → mLv A fr k = 0
  | 0, _ => rfl
  | k + 1, h => by
    show mLv A fr k + (decide (fr ≤ k) && decide (A 6 k < 2)).toNat = 0
    rw [mLv_0 A fr k (by omega), decide_eq_false (by omega : ¬ fr ≤ k)]
    rfl
theorem mLv_s (A : Nat → Nat → Nat) {fr k : Nat} (h : fr ≤ k) : mLv A fr (k + 1) = mLv A fr k + (decide (A 6 k < 2)).toNat := by
  show mLv A fr k + (decide (fr ≤ k) && decide (A 6 k < 2)).toNat = _
  rw [decide_eq_true h, Bool.true_and]
/-- how many steps make the first i of x the first j of y -/
def dst (x y : Nat → Nat) : Nat → Nat → Nat
  | 0, j => j
  | i + 1, 0 => i + 1
  | i + 1, j + 1 => min (min (dst x y i j + (if x i = y j then 0 else 1)) (dst x y i (j + 1) + 1)) (dst x y (i + 1) j + 1)
termination_by i j => (i, j)
theorem dst_0 (x y : Nat → Nat) (j : Nat) : dst x y 0 j = j := by rw [dst]
theorem dst_s0 (x y : Nat → Nat) (i : Nat) : dst x y i 0 = i := by cases i <;> rw [dst]
theorem dst_ss (x y : Nat → Nat) (i j : Nat) : dst x y (i + 1) (j + 1) = min (min (dst x y i j + (if x i = y j then 0 else 1)) (dst x y i (j + 1) + 1)) (dst x y (i + 1) j + 1) := by rw [dst]
theorem dst_le (x y : Nat → Nat) : ∀ i j, dst x y i j ≤ i + j
  | 0, j => by rw [dst_0]; omega
  | i + 1, 0 => by rw [dst_s0]; omega
  | i + 1, j + 1 => by
    have h := dst_le x y i (j + 1)
    rw [dst_ss]
    omega

set_option maxHeartbeats 4000000 in
set_option maxRecDepth 100000 in
theorem k_Mo_marks (l : Launch) (D : va_G) (ca : Nat → ClassId) (r n t rs w : Nat) (A : Nat → Nat → Nat) (ht : t ≤ 6) : Met l y_Mo_marks w_Mo_marks (zr 0 0 0) (zz_P D ca [.ref r] (fun H => MoAt D ca H r n t rs w A)) (zz_Q (fun H H1 v => H1 = H ∧ v = some (.int (nI (A 10 t))))) 0 0 (fun _ => False) := by
  refine zz_met (cc := c_Mo_marks) (by decide) (Nat.le_of_ble_eq_true rfl) ?_
  intro p e s m below meth c ls hE hr hlk hnm hM hl
  have hx := hE.1.1
  have hb := hE.1.2.1
  have hK := hE.2
  have hl : lv_has ls 1 [(0, .ref r)] := hl
  have hL : zz_L (fun _ => False) ([] : List Loc) := zz_L.nil
  refine lv_aload_n hx hb d_Mo_marks_0 rfl (lv_at hl 0 rfl) ?_
  refine fg_Mo_37 hE hM.1 rfl d_Mo_marks_1 ?_
  refine lv_aload_n hx hb d_Mo_marks_4 rfl (lv_at hl 0 rfl) ?_
  refine fg_Mo_109 hE hM.1 rfl d_Mo_marks_5 ?_
  refine mo_ld hE hM 10 (by decide) (i := t) (show t < 7 by omega) d_Mo_marks_8 ?_
  exact zz_iret hx hb hr hlk rfl ⟨rfl, congrArg (fun z => some (Value.int z)) (rfl)⟩ hL d_Mo_marks_9

set_option maxHeartbeats 4000000 in
set_option maxRecDepth 100000 in
theorem k_Mo_mark (l : Launch) (D : va_G) (ca : Nat → ClassId) (r n t rs w : Nat) (A : Nat → Nat → Nat) (k0 f0 n0 d0 : Nat) (ht : t ≤ 6) (hm : A 10 t < 140) : Met l y_Mo_mark w_Mo_mark (zr 1 0 0) (zz_P D ca [.ref r, .int (nI k0), .int (nI f0), .int (nI n0), .int (nI d0)] (fun H => MoAt D ca H r n t rs w A)) (zz_Q (fun H H1 v => v = none ∧ zz_fr (moFr r) H H1 ∧ MoAt D ca H1 r n t rs w (up2 (up2 (up2 (up2 A 6 (A 10 t) k0) 7 (A 10 t) f0) 8 (A 10 t) n0) 9 (A 10 t) d0))) 0 0 (moFr r) := by
  refine zz_met (cc := c_Mo_mark) (by decide) (Nat.le_of_ble_eq_true rfl) ?_
  intro p e s m below meth c ls hE hr hlk hnm hM hl
  have hx := hE.1.1
  have hb := hE.1.2.1
  have hK := hE.2
  have hl : lv_has ls 6 [(0, .ref r), (1, .int (nI k0)), (2, .int (nI f0)), (3, .int (nI n0)), (4, .int (nI d0))] := hl
  have hL : zz_L (moFr r) ([] : List Loc) := zz_L.nil
  have hS : zz_fr (moFr r) s.heap s.heap := zz_fr.rf
  refine lv_aload_n hx hb d_Mo_mark_0 rfl (lv_at hl 0 rfl) ?_
  refine zz_callP (cl_Mo_112 (rest := []) hE (k_Mo_marks l D ca r n t rs w A (by omega)) ⟨rfl, rfl, by decide, by decide⟩ hM hM.1 rfl hl.1 rfl (Nat.le_of_ble_eq_true rfl) d_Mo_mark_1 ⟨by decide, by decide⟩) ?_
  refine lv_istore hx hb d_Mo_mark_4 hl (by decide) rfl (fun ls hl => ?_)
  have hl : lv_has ls 6 [(5, .int (nI (A 10 t))), (0, .ref r), (1, .int (nI k0)), (2, .int (nI f0)), (3, .int (nI n0)), (4, .int (nI d0))] := hl
  refine lv_aload_n hx hb d_Mo_mark_6 rfl (lv_at hl 1 rfl) ?_
  refine fg_Mo_25 hE hM.1 rfl d_Mo_mark_7 ?_
  refine lv_iload hx hb d_Mo_mark_10 (lv_at hl 0 rfl) ?_
  refine lv_iload_n hx hb d_Mo_mark_12 rfl (lv_at hl 2 rfl) ?_
  refine mo_st hE hM hS hL 6 (by decide) (i := A 10 t) (x := k0) (show A 10 t < 140 by omega) d_Mo_mark_13 (fun H locs hM hS hL => ?_)
  refine lv_aload_n hx hb d_Mo_mark_14 rfl (lv_at hl 1 rfl) ?_
  refine fg_Mo_28 hE hM.1 rfl d_Mo_mark_15 ?_
  refine lv_iload hx hb d_Mo_mark_18 (lv_at hl 0 rfl) ?_
  refine lv_iload_n hx hb d_Mo_mark_20 rfl (lv_at hl 3 rfl) ?_
  refine mo_st hE hM hS hL 7 (by decide) (i := A 10 t) (x := f0) (show A 10 t < 140 by omega) d_Mo_mark_21 (fun H locs hM hS hL => ?_)
  refine lv_aload_n hx hb d_Mo_mark_22 rfl (lv_at hl 1 rfl) ?_
  refine fg_Mo_31 hE hM.1 rfl d_Mo_mark_23 ?_
  refine lv_iload hx hb d_Mo_mark_26 (lv_at hl 0 rfl) ?_
  refine lv_iload_n hx hb d_Mo_mark_28 rfl (lv_at hl 4 rfl) ?_
  refine mo_st hE hM hS hL 8 (by decide) (i := A 10 t) (x := n0) (show A 10 t < 140 by omega) d_Mo_mark_29 (fun H locs hM hS hL => ?_)
  refine lv_aload_n hx hb d_Mo_mark_30 rfl (lv_at hl 1 rfl) ?_
  refine fg_Mo_34 hE hM.1 rfl d_Mo_mark_31 ?_
  refine lv_iload hx hb d_Mo_mark_34 (lv_at hl 0 rfl) ?_
  refine lv_iload hx hb d_Mo_mark_36 (lv_at hl 5 rfl) ?_
  refine mo_st hE hM hS hL 9 (by decide) (i := A 10 t) (x := d0) (show A 10 t < 140 by omega) d_Mo_mark_38 (fun H locs hM hS hL => ?_)
  exact zz_vret hx hb hr hlk ⟨rfl, hS, hM⟩ hL d_Mo_mark_39

set_option maxHeartbeats 4000000 in
set_option maxRecDepth 100000 in
theorem k_Mo_push (l : Launch) (D : va_G) (ca : Nat → ClassId) (r n t rs w : Nat) (A : Nat → Nat → Nat) (ht : t ≤ 5) : Met l y_Mo_push w_Mo_push (zr 1 0 0) (zz_P D ca [.ref r] (fun H => MoAt D ca H r n t rs w A)) (zz_Q (fun H H1 v => v = none ∧ zz_fr (moFr r) H H1 ∧ MoAt D ca H1 r n (t + 1) rs w (up2 A 10 (t + 1) (A 10 t + 1)))) 0 0 (moFr r) := by
  refine zz_met (cc := c_Mo_push) (by decide) (Nat.le_of_ble_eq_true rfl) ?_
  intro p e s m below meth c ls hE hr hlk hnm hM hl
  have hx := hE.1.1
  have hb := hE.1.2.1
  have hK := hE.2
  have hl : lv_has ls 2 [(0, .ref r)] := hl
  have hL : zz_L (moFr r) ([] : List Loc) := zz_L.nil
  have hS : zz_fr (moFr r) s.heap s.heap := zz_fr.rf
  refine lv_aload_n hx hb d_Mo_push_0 rfl (lv_at hl 0 rfl) ?_
  refine zz_callP (cl_Mo_112 (rest := []) hE (k_Mo_marks l D ca r n t rs w A (by omega)) ⟨rfl, rfl, by decide, by decide⟩ hM hM.1 rfl hl.1 rfl (Nat.le_of_ble_eq_true rfl) d_Mo_push_1 ⟨by decide, by decide⟩) ?_
  refine lv_iconst (v := nI 1) hx hb d_Mo_push_4 (by decide) ?_
  refine zz_iadd hx hb d_Mo_push_5 ?_
  refine lv_istore_n hx hb d_Mo_push_6 rfl hl (by decide) rfl (fun ls hl => ?_)
  have hl : lv_has ls 2 [(1, .int (nI ((A 10 t) + 1))), (0, .ref r)] := hl
  refine lv_aload_n hx hb d_Mo_push_7 rfl (lv_at hl 1 rfl) ?_
  refine lv_dup hx hb d_Mo_push_8 rfl ?_
  refine fg_Mo_109 hE hM.1 rfl d_Mo_push_9 ?_
  refine lv_iconst (v := nI 1) hx hb d_Mo_push_12 (by decide) ?_
  refine zz_iadd hx hb d_Mo_push_13 ?_
  refine fp_Mo_109 hE hM.1 hL (show moFr r r from ⟨by omega, by omega⟩) (Nat.le_of_ble_eq_true rfl) d_Mo_push_14 (fun H locs h1 hu hL => ?_)
  have hS := hS.up hu (show moFr r r from ⟨by omega, by omega⟩)
  have hM : MoAt D ca H r n (t + 1) rs w A := mo_fld hM h1 hu
  refine lv_aload_n hx hb d_Mo_push_17 rfl (lv_at hl 1 rfl) ?_
  refine fg_Mo_37 hE hM.1 rfl d_Mo_push_18 ?_
  refine lv_aload_n hx hb d_Mo_push_21 rfl (lv_at hl 1 rfl) ?_
  refine fg_Mo_109 hE hM.1 rfl d_Mo_push_22 ?_
  refine lv_iload_n hx hb d_Mo_push_25 rfl (lv_at hl 0 rfl) ?_
  refine mo_st hE hM hS hL 10 (by decide) (i := t + 1) (x := (A 10 t) + 1) (show t + 1 < 7 by omega) d_Mo_push_26 (fun H locs hM hS hL => ?_)
  exact zz_vret hx hb hr hlk ⟨rfl, hS, hM⟩ hL d_Mo_push_27

set_option maxHeartbeats 4000000 in
set_option maxRecDepth 100000 in
theorem k_Mo_leaves (l : Launch) (D : va_G) (ca : Nat → ClassId) (r n t rs w : Nat) (A : Nat → Nat → Nat) (fr to : Nat) (hto : to ≤ 140) (hfr : fr ≤ to) (hkd : ∀ j, j < 140 → A 6 j < 4) : Met l y_Mo_leaves w_Mo_leaves (zr 0 0 0) (zz_P D ca [.ref r, .int (nI fr), .int (nI to)] (fun H => MoAt D ca H r n t rs w A)) (zz_Q (fun H H1 v => H1 = H ∧ v = some (.int (nI (mLv A fr to))))) 0 0 (fun _ => False) := by
  refine zz_met (cc := c_Mo_leaves) (by decide) (Nat.le_of_ble_eq_true rfl) ?_
  intro p e s m below meth c ls hE hr hlk hnm hM hl
  have hx := hE.1.1
  have hb := hE.1.2.1
  have hK := hE.2
  have hl : lv_has ls 5 [(0, .ref r), (1, .int (nI fr)), (2, .int (nI to))] := hl
  have hL : zz_L (fun _ => False) ([] : List Loc) := zz_L.nil
  refine lv_iconst (v := nI 0) hx hb d_Mo_leaves_0 (by decide) ?_
  refine lv_istore_n hx hb d_Mo_leaves_1 rfl hl (by decide) rfl (fun ls hl => ?_)
  have hl : lv_has ls 5 [(3, .int (nI 0)), (0, .ref r), (1, .int (nI fr)), (2, .int (nI to))] := hl
  refine lv_iload_n hx hb d_Mo_leaves_2 rfl (lv_at hl 2 rfl) ?_
  refine lv_istore hx hb d_Mo_leaves_3 hl (by decide) rfl (fun ls hl => ?_)
  have hl : lv_has ls 5 [(4, .int (nI fr)), (3, .int (nI 0)), (0, .ref r), (1, .int (nI fr)), (2, .int (nI to))] := hl
  have hl : lv_has ls 5 [(0, .ref r), (1, .int (nI fr)), (2, .int (nI to)), (3, .int (nI (mLv A fr fr))), (4, .int (nI fr))] := (by rw [mLv_0 A fr fr (Nat.le_refl _)]; exact lv_sub hl [2, 3, 4, 1, 0] rfl)
  refine zz_loopP (σ := Nat) (fun k ls => lv_has ls 5 [(0, .ref r), (1, .int (nI fr)), (2, .int (nI to)), (3, .int (nI (mLv A fr k))), (4, .int (nI k))] ∧ fr ≤ k ∧ k ≤ to) (fun k => to - k) ?_ fr ls ⟨hl, Nat.le_refl _, hfr⟩
  rintro k ih ls ⟨hl, hk1, hk2⟩
  refine lv_iload hx hb d_Mo_leaves_5 (lv_at hl 4 rfl) ?_
  refine lv_iload_n hx hb d_Mo_leaves_7 rfl (lv_at hl 2 rfl) ?_
  refine zz_ge hx hb (by omega) (by omega) d_Mo_leaves_8 (tgt := 36) rfl (fun hT8 => ?_) (fun hF8 => ?_)
  · refine lv_iload_n hx hb d_Mo_leaves_36 rfl (lv_at hl 3 rfl) ?_
    exact zz_iret hx hb hr hlk rfl ⟨rfl, congrArg (fun z => some (Value.int z)) (by rw [show k = to by omega])⟩ hL d_Mo_leaves_37
  · refine lv_iload_n hx hb d_Mo_leaves_11 rfl (lv_at hl 3 rfl) ?_
    have hkd1 := hkd k (by omega)
    refine lv_aload_n hx hb d_Mo_leaves_12 rfl (lv_at hl 0 rfl) ?_
    refine fg_Mo_25 hE hM.1 rfl d_Mo_leaves_13 ?_
    refine lv_iload hx hb d_Mo_leaves_16 (lv_at hl 4 rfl) ?_
    refine mo_ld hE hM 6 (by decide) (i := k) (show k < 140 by omega) d_Mo_leaves_18 ?_
    refine lv_iconst (v := nI 2) hx hb d_Mo_leaves_19 (by decide) ?_
    refine zz_ge hx hb (by omega) (by omega) d_Mo_leaves_20 (tgt := 27) rfl (fun hT20 => ?_) (fun hF20 => ?_)
    · refine lv_iconst (v := nI 0) hx hb d_Mo_leaves_27 (by decide) ?_
      refine zz_iadd hx hb d_Mo_leaves_28 ?_
      refine lv_istore_n hx hb d_Mo_leaves_29 rfl hl (by decide) rfl (fun ls hl => ?_)
      have hl : lv_has ls 5 [(3, .int (nI ((mLv A fr k) + 0))), (0, .ref r), (1, .int (nI fr)), (2, .int (nI to)), (4, .int (nI k))] := hl
      refine lv_iinc (k := 4) (v := nI (k + 1)) hx hb d_Mo_leaves_30 hl rfl (zz_inc _) (by decide) rfl (fun ls hl => ?_)
      have hl : lv_has ls 5 [(4, .int (nI (k + 1))), (3, .int (nI ((mLv A fr k) + 0))), (0, .ref r), (1, .int (nI fr)), (2, .int (nI to))] := hl
      refine lv_goto hx hb d_Mo_leaves_33 (tgt := 5) rfl ?_
      have hl : lv_has ls 5 [(0, .ref r), (1, .int (nI fr)), (2, .int (nI to)), (3, .int (nI (mLv A fr (k + 1)))), (4, .int (nI (k + 1)))] := (by rw [show mLv A fr (k + 1) = mLv A fr k + 0 from by rw [mLv_s A hk1]; simp; omega]; exact lv_sub hl [2, 3, 4, 1, 0] rfl)
      exact ih (k + 1) ls ⟨hl, by omega, by omega⟩ (by omega)
    · refine lv_iconst (v := nI 1) hx hb d_Mo_leaves_23 (by decide) ?_
      refine lv_goto hx hb d_Mo_leaves_24 (tgt := 28) rfl ?_
      refine zz_iadd hx hb d_Mo_leaves_28 ?_
      refine lv_istore_n hx hb d_Mo_leaves_29 rfl hl (by decide) rfl (fun ls hl => ?_)
      have hl : lv_has ls 5 [(3, .int (nI ((mLv A fr k) + 1))), (0, .ref r), (1, .int (nI fr)), (2, .int (nI to)), (4, .int (nI k))] := hl
      refine lv_iinc (k := 4) (v := nI (k + 1)) hx hb d_Mo_leaves_30 hl rfl (zz_inc _) (by decide) rfl (fun ls hl => ?_)
      have hl : lv_has ls 5 [(4, .int (nI (k + 1))), (3, .int (nI ((mLv A fr k) + 1))), (0, .ref r), (1, .int (nI fr)), (2, .int (nI to))] := hl
      refine lv_goto hx hb d_Mo_leaves_33 (tgt := 5) rfl ?_
      have hl : lv_has ls 5 [(0, .ref r), (1, .int (nI fr)), (2, .int (nI to)), (3, .int (nI (mLv A fr (k + 1)))), (4, .int (nI (k + 1)))] := (by rw [show mLv A fr (k + 1) = mLv A fr k + 1 from by rw [mLv_s A hk1]; simp; omega]; exact lv_sub hl [2, 3, 4, 1, 0] rfl)
      exact ih (k + 1) ls ⟨hl, by omega, by omega⟩ (by omega)

set_option maxHeartbeats 4000000 in
set_option maxRecDepth 100000 in
theorem k_Mo_distance (l : Launch) (D : va_G) (ca : Nat → ClassId) (r n t rs w : Nat) (A : Nat → Nat → Nat) (hs0 : A 4 0 ≤ 12) (hs1 : A 4 1 ≤ 12) (hc : ∀ j, j < 24 → A 3 j < 256) : Met l y_Mo_distance w_Mo_distance (zr 1 0 0) (zz_P D ca [.ref r] (fun H => MoAt D ca H r n t rs w A)) (zz_Q (fun H H1 v => v = some (.int (nI (dst (mAt A 0) (mAt A 1) (A 4 0) (A 4 1)))) ∧ zz_fr (moFr r) H H1 ∧ ∃ B, MoAt D ca H1 r n t rs w B ∧ (∀ k, k ≠ 5 → B k = A k))) 0 0 (moFr r) := by
  refine zz_met (cc := c_Mo_distance) (by decide) (Nat.le_of_ble_eq_true rfl) ?_
  intro p e s m below meth c ls hE hr hlk hnm hM hl
  have hx := hE.1.1
  have hb := hE.1.2.1
  have hK := hE.2
  have hl : lv_has ls 6 [(0, .ref r)] := hl
  have hL : zz_L (moFr r) ([] : List Loc) := zz_L.nil
  have hS : zz_fr (moFr r) s.heap s.heap := zz_fr.rf
  refine lv_iconst (v := nI 0) hx hb d_Mo_distance_0 (by decide) ?_
  refine lv_istore_n hx hb d_Mo_distance_1 rfl hl (by decide) rfl (fun ls hl => ?_)
  have hl : lv_has ls 6 [(1, .int (nI 0)), (0, .ref r)] := hl
  have hl : lv_has ls 6 [(0, .ref r), (1, .int (nI 0))] := lv_sub hl [1, 0] rfl
  refine zz_loopH (σ := Nat × (Nat → Nat → Nat)) (fun ⟨i, B⟩ ls H locs => lv_has ls 6 [(0, .ref r), (1, .int (nI i))] ∧ i ≤ A 4 0 + 1 ∧ MoAt D ca H r n t rs w B ∧ (∀ k, k ≠ 5 → B k = A k) ∧ (∀ a b, a < i → b ≤ A 4 1 → B 5 (13 * a + b) = dst (mAt A 0) (mAt A 1) a b) ∧ zz_fr (moFr r) s.heap H ∧ zz_L (moFr r) locs) (fun ⟨i, B⟩ => A 4 0 + 1 - i) ?_ (0, A) ls _ _ ⟨hl, Nat.zero_le _, hM, fun _ _ => rfl, fun a b ha => absurd ha (Nat.not_lt_zero _), hS, hL⟩
  rintro ⟨i, B⟩ ih ls H locs ⟨hl, hi, hM, hk, hrw, hS, hL⟩
  have iho := ih
  have hB4 : ∀ x, B 4 x = A 4 x := fun x => congrFun (hk 4 (by decide)) x
  have hB3 : ∀ x, B 3 x = A 3 x := fun x => congrFun (hk 3 (by decide)) x
  have hBm : ∀ a b, mAt B a b = mAt A a b := fun a b => by unfold mAt; rw [hB4, hB3]
  have h40 := hB4 0
  have h41 := hB4 1
  refine lv_iload_n hx hb d_Mo_distance_2 rfl (lv_at hl 1 rfl) ?_
  refine lv_aload_n hx hb d_Mo_distance_3 rfl (lv_at hl 0 rfl) ?_
  refine fg_Mo_19 hE hM.1 rfl d_Mo_distance_4 ?_
  refine lv_iconst (v := nI 0) hx hb d_Mo_distance_7 (by decide) ?_
  refine mo_ld hE hM 4 (by decide) (i := 0) (show 0 < 2 by omega) d_Mo_distance_8 ?_
  refine zz_gt hx hb (by omega) (by omega) d_Mo_distance_9 (tgt := 173) rfl (fun hT9 => ?_) (fun hF9 => ?_)
  · refine lv_aload_n hx hb d_Mo_distance_173 rfl (lv_at hl 0 rfl) ?_
    refine fg_Mo_22 hE hM.1 rfl d_Mo_distance_174 ?_
    refine lv_bipush (v := nI 13) hx hb d_Mo_distance_177 (by decide) ?_
    refine lv_aload_n hx hb d_Mo_distance_179 rfl (lv_at hl 0 rfl) ?_
    refine fg_Mo_19 hE hM.1 rfl d_Mo_distance_180 ?_
    refine lv_iconst (v := nI 0) hx hb d_Mo_distance_183 (by decide) ?_
    refine mo_ld hE hM 4 (by decide) (i := 0) (show 0 < 2 by omega) d_Mo_distance_184 ?_
    refine zz_imul hx hb d_Mo_distance_185 ?_
    refine lv_aload_n hx hb d_Mo_distance_186 rfl (lv_at hl 0 rfl) ?_
    refine fg_Mo_19 hE hM.1 rfl d_Mo_distance_187 ?_
    refine lv_iconst (v := nI 1) hx hb d_Mo_distance_190 (by decide) ?_
    refine mo_ld hE hM 4 (by decide) (i := 1) (show 1 < 2 by omega) d_Mo_distance_191 ?_
    refine zz_iadd hx hb d_Mo_distance_192 ?_
    refine mo_ld hE hM 5 (by decide) (i := (13 * (B 4 0)) + (B 4 1)) (show (13 * (B 4 0)) + (B 4 1) < 169 by omega) d_Mo_distance_193 ?_
    have hfin : B 5 (13 * B 4 0 + B 4 1) = dst (mAt A 0) (mAt A 1) (A 4 0) (A 4 1) := by rw [h40, h41]; exact hrw _ _ (by omega) (by omega)
    exact zz_iret hx hb hr hlk rfl ⟨congrArg (fun z => some (Value.int (nI z))) (by simpa using hfin), hS, _, hM, hk⟩ hL d_Mo_distance_194
  · refine lv_iconst (v := nI 0) hx hb d_Mo_distance_12 (by decide) ?_
    refine lv_istore_n hx hb d_Mo_distance_13 rfl hl (by decide) rfl (fun ls hl => ?_)
    have hl : lv_has ls 6 [(2, .int (nI 0)), (0, .ref r), (1, .int (nI i))] := hl
    have hl : lv_has ls 6 [(0, .ref r), (1, .int (nI i)), (2, .int (nI 0))] := lv_sub hl [1, 2, 0] rfl
    refine zz_loopH (σ := Nat × (Nat → Nat → Nat)) (fun ⟨j, B⟩ ls H locs => lv_has ls 6 [(0, .ref r), (1, .int (nI i)), (2, .int (nI j))] ∧ j ≤ A 4 1 + 1 ∧ MoAt D ca H r n t rs w B ∧ (∀ k, k ≠ 5 → B k = A k) ∧ (∀ a b, a < i → b ≤ A 4 1 → B 5 (13 * a + b) = dst (mAt A 0) (mAt A 1) a b) ∧ (∀ b, b < j → B 5 (13 * i + b) = dst (mAt A 0) (mAt A 1) i b) ∧ zz_fr (moFr r) s.heap H ∧ zz_L (moFr r) locs) (fun ⟨j, B⟩ => A 4 1 + 1 - j) ?_ (0, B) ls _ _ ⟨hl, Nat.zero_le _, hM, hk, hrw, fun b hb9 => absurd hb9 (Nat.not_lt_zero _), hS, hL⟩
    rintro ⟨j, B⟩ ih ls H locs ⟨hl, hj, hM, hk, hrw, hcl, hS, hL⟩
    have hB4 : ∀ x, B 4 x = A 4 x := fun x => congrFun (hk 4 (by decide)) x
    have hB3 : ∀ x, B 3 x = A 3 x := fun x => congrFun (hk 3 (by decide)) x
    have hBm : ∀ a b, mAt B a b = mAt A a b := fun a b => by unfold mAt; rw [hB4, hB3]
    have h40 := hB4 0
    have h41 := hB4 1
    refine lv_iload_n hx hb d_Mo_distance_14 rfl (lv_at hl 2 rfl) ?_
    refine lv_aload_n hx hb d_Mo_distance_15 rfl (lv_at hl 0 rfl) ?_
    refine fg_Mo_19 hE hM.1 rfl d_Mo_distance_16 ?_
    refine lv_iconst (v := nI 1) hx hb d_Mo_distance_19 (by decide) ?_
    refine mo_ld hE hM 4 (by decide) (i := 1) (show 1 < 2 by omega) d_Mo_distance_20 ?_
    refine zz_gt hx hb (by omega) (by omega) d_Mo_distance_21 (tgt := 167) rfl (fun hT21 => ?_) (fun hF21 => ?_)
    · refine lv_iinc (k := 1) (v := nI (i + 1)) hx hb d_Mo_distance_167 hl rfl (zz_inc _) (by decide) rfl (fun ls hl => ?_)
      have hl : lv_has ls 6 [(1, .int (nI (i + 1))), (0, .ref r), (2, .int (nI j))] := hl
      refine lv_goto hx hb d_Mo_distance_170 (tgt := 2) rfl ?_
      have hrw9 : (∀ a b, a < (i + 1) → b ≤ A 4 1 → B 5 (13 * a + b) = dst (mAt A 0) (mAt A 1) a b) := fun a b ha hb9 => by
        by_cases hai : a = i
        · subst hai; exact hcl b (by omega)
        · exact hrw a b (by omega) hb9
      have hl : lv_has ls 6 [(0, .ref r), (1, .int (nI (i + 1)))] := lv_sub hl [1, 0] rfl
      exact iho (i + 1, B) ls _ _ ⟨hl, by omega, hM, hk, hrw9, hS, hL⟩ (by show _ - (i + 1) < _ - i; omega)
    · refine lv_iload_n hx hb d_Mo_distance_24 rfl (lv_at hl 1 rfl) ?_
      refine zz_ne0 hx hb (by omega) d_Mo_distance_25 (tgt := 32) rfl (fun hT25 => ?_) (fun hF25 => ?_)
      · refine lv_iload_n hx hb d_Mo_distance_32 rfl (lv_at hl 2 rfl) ?_
        refine zz_ne0 hx hb (by omega) d_Mo_distance_33 (tgt := 40) rfl (fun hT33 => ?_) (fun hF33 => ?_)
        · have r1 : B 5 (13 * (i - 1) + j - 1) = dst (mAt A 0) (mAt A 1) (i - 1) (j - 1) := by rw [show 13 * (i - 1) + j - 1 = 13 * (i - 1) + (j - 1) by omega]; exact hrw _ _ (by omega) (by omega)
          have r2 : B 5 (13 * (i - 1) + j) = dst (mAt A 0) (mAt A 1) (i - 1) j := hrw _ _ (by omega) (by omega)
          have r3 : B 5 (13 * i + j - 1) = dst (mAt A 0) (mAt A 1) i (j - 1) := by rw [show 13 * i + j - 1 = 13 * i + (j - 1) by omega]; exact hcl _ (by omega)
          have q1 := dst_le (mAt A 0) (mAt A 1) (i - 1) (j - 1)
          have q2 := dst_le (mAt A 0) (mAt A 1) (i - 1) j
          have q3 := dst_le (mAt A 0) (mAt A 1) i (j - 1)
          have m1 := mAt_lt (i := i - 1) hc (show 0 ≤ 1 by decide) hs0
          have m2 := mAt_lt (i := j - 1) hc (show 1 ≤ 1 by decide) hs1
          have m3 := hBm 0 (i - 1)
          have m4 := hBm 1 (j - 1)
          have hd := dst_ss (mAt A 0) (mAt A 1) (i - 1) (j - 1)
          rw [show i - 1 + 1 = i by omega, show j - 1 + 1 = j by omega] at hd
          refine lv_aload_n hx hb d_Mo_distance_40 rfl (lv_at hl 0 rfl) ?_
          refine fg_Mo_22 hE hM.1 rfl d_Mo_distance_41 ?_
          refine lv_bipush (v := nI 13) hx hb d_Mo_distance_44 (by decide) ?_
          refine lv_iload_n hx hb d_Mo_distance_46 rfl (lv_at hl 1 rfl) ?_
          refine lv_iconst (v := nI 1) hx hb d_Mo_distance_47 (by decide) ?_
          refine zz_isub (by omega) hx hb d_Mo_distance_48 ?_
          refine zz_imul hx hb d_Mo_distance_49 ?_
          refine lv_iload_n hx hb d_Mo_distance_50 rfl (lv_at hl 2 rfl) ?_
          refine zz_iadd hx hb d_Mo_distance_51 ?_
          refine lv_iconst (v := nI 1) hx hb d_Mo_distance_52 (by decide) ?_
          refine zz_isub (by omega) hx hb d_Mo_distance_53 ?_
          refine mo_ld hE hM 5 (by decide) (i := ((13 * (i - 1)) + j) - 1) (show ((13 * (i - 1)) + j) - 1 < 169 by omega) d_Mo_distance_54 ?_
          refine lv_aload_n hx hb d_Mo_distance_55 rfl (lv_at hl 0 rfl) ?_
          refine lv_iconst (v := nI 0) hx hb d_Mo_distance_56 (by decide) ?_
          refine lv_iload_n hx hb d_Mo_distance_57 rfl (lv_at hl 1 rfl) ?_
          refine lv_iconst (v := nI 1) hx hb d_Mo_distance_58 (by decide) ?_
          refine zz_isub (by omega) hx hb d_Mo_distance_59 ?_
          refine zz_callP (cl_Mo_80 (rest := [.int (nI (B 5 (((13 * (i - 1)) + j) - 1)))]) hE (k_Mo_at l D ca r n t rs w B 0 (i - 1) (by omega) (by omega) (by omega)) ⟨rfl, rfl, by decide, by decide⟩ hM hM.1 rfl hl.1 rfl (Nat.le_of_ble_eq_true rfl) d_Mo_distance_60 ⟨by decide, by decide⟩) ?_
          refine lv_aload_n hx hb d_Mo_distance_63 rfl (lv_at hl 0 rfl) ?_
          refine lv_iconst (v := nI 1) hx hb d_Mo_distance_64 (by decide) ?_
          refine lv_iload_n hx hb d_Mo_distance_65 rfl (lv_at hl 2 rfl) ?_
          refine lv_iconst (v := nI 1) hx hb d_Mo_distance_66 (by decide) ?_
          refine zz_isub (by omega) hx hb d_Mo_distance_67 ?_
          refine zz_callP (cl_Mo_80 (rest := [.int (nI (mAt B 0 (i - 1))), .int (nI (B 5 (((13 * (i - 1)) + j) - 1)))]) hE (k_Mo_at l D ca r n t rs w B 1 (j - 1) (by omega) (by omega) (by omega)) ⟨rfl, rfl, by decide, by decide⟩ hM hM.1 rfl hl.1 rfl (Nat.le_of_ble_eq_true rfl) d_Mo_distance_68 ⟨by decide, by decide⟩) ?_
          refine zz_ne hx hb (by omega) (by omega) d_Mo_distance_71 (tgt := 78) rfl (fun hT71 => ?_) (fun hF71 => ?_)
          · refine lv_iconst (v := nI 1) hx hb d_Mo_distance_78 (by decide) ?_
            refine zz_iadd hx hb d_Mo_distance_79 ?_
            refine lv_istore_n hx hb d_Mo_distance_80 rfl hl (by decide) rfl (fun ls hl => ?_)
            have hl : lv_has ls 6 [(3, .int (nI ((B 5 (((13 * (i - 1)) + j) - 1)) + 1))), (0, .ref r), (1, .int (nI i)), (2, .int (nI j))] := hl
            refine lv_iload_n hx hb d_Mo_distance_81 rfl (lv_at hl 2 rfl) ?_
            refine zz_le0 hx hb (by omega) d_Mo_distance_82 (tgt := 149) rfl (fun hT82 => ?_) (fun hF82 => ?_)
            · refine lv_aload_n hx hb d_Mo_distance_149 rfl (lv_at hl 1 rfl) ?_
              refine fg_Mo_22 hE hM.1 rfl d_Mo_distance_150 ?_
              refine lv_bipush (v := nI 13) hx hb d_Mo_distance_153 (by decide) ?_
              refine lv_iload_n hx hb d_Mo_distance_155 rfl (lv_at hl 2 rfl) ?_
              refine zz_imul hx hb d_Mo_distance_156 ?_
              refine lv_iload_n hx hb d_Mo_distance_157 rfl (lv_at hl 3 rfl) ?_
              refine zz_iadd hx hb d_Mo_distance_158 ?_
              refine lv_iload_n hx hb d_Mo_distance_159 rfl (lv_at hl 0 rfl) ?_
              refine mo_st hE hM hS hL 5 (by decide) (i := (13 * i) + j) (x := (B 5 (((13 * (i - 1)) + j) - 1)) + 1) (show (13 * i) + j < 169 by omega) d_Mo_distance_160 (fun H locs hM hS hL => ?_)
              refine lv_iinc (k := 3) (v := nI (j + 1)) hx hb d_Mo_distance_161 hl rfl (zz_inc _) (by decide) rfl (fun ls hl => ?_)
              have hl : lv_has ls 6 [(2, .int (nI (j + 1))), (3, .int (nI ((B 5 (((13 * (i - 1)) + j) - 1)) + 1))), (0, .ref r), (1, .int (nI i))] := hl
              refine lv_goto hx hb d_Mo_distance_164 (tgt := 14) rfl ?_
              have hval : (B 5 (((13 * (i - 1)) + j) - 1)) + 1 = dst (mAt A 0) (mAt A 1) i j := by
                first
                  | (rw [show i = 0 by omega, dst_0]; done)
                  | (rw [show j = 0 by omega, dst_s0]; done)
                  | (rw [hd]; split <;> omega)
                  | omega
              have hk9 : ∀ k, k ≠ 5 → (up2 B 5 ((13 * i) + j) ((B 5 (((13 * (i - 1)) + j) - 1)) + 1)) k = A k := fun k h5 => by funext x; rw [up2_k h5, hk k h5]
              have hrw9 : (∀ a b, a < i → b ≤ A 4 1 → (up2 B 5 ((13 * i) + j) ((B 5 (((13 * (i - 1)) + j) - 1)) + 1)) 5 (13 * a + b) = dst (mAt A 0) (mAt A 1) a b) := fun a b ha hb9 => by rw [up2_i (by omega)]; exact hrw a b ha hb9
              have hcl9 : (∀ b, b < (j + 1) → (up2 B 5 ((13 * i) + j) ((B 5 (((13 * (i - 1)) + j) - 1)) + 1)) 5 (13 * i + b) = dst (mAt A 0) (mAt A 1) i b) := fun b hb9 => by
                by_cases hbj : b = j
                · subst hbj; rw [up2_s]; exact hval
                · rw [up2_i (by omega)]; exact hcl b (by omega)
              have hl : lv_has ls 6 [(0, .ref r), (1, .int (nI i)), (2, .int (nI (j + 1)))] := lv_sub hl [2, 3, 0] rfl
              exact ih (j + 1, (up2 B 5 ((13 * i) + j) ((B 5 (((13 * (i - 1)) + j) - 1)) + 1))) ls _ _ ⟨hl, by omega, hM, hk9, hrw9, hcl9, hS, hL⟩ (by show _ - (j + 1) < _ - j; omega)
            · refine lv_iload_n hx hb d_Mo_distance_85 rfl (lv_at hl 3 rfl) ?_
              refine zz_le0 hx hb (by omega) d_Mo_distance_86 (tgt := 149) rfl (fun hT86 => ?_) (fun hF86 => ?_)
              · refine lv_aload_n hx hb d_Mo_distance_149 rfl (lv_at hl 1 rfl) ?_
                refine fg_Mo_22 hE hM.1 rfl d_Mo_distance_150 ?_
                refine lv_bipush (v := nI 13) hx hb d_Mo_distance_153 (by decide) ?_
                refine lv_iload_n hx hb d_Mo_distance_155 rfl (lv_at hl 2 rfl) ?_
                refine zz_imul hx hb d_Mo_distance_156 ?_
                refine lv_iload_n hx hb d_Mo_distance_157 rfl (lv_at hl 3 rfl) ?_
                refine zz_iadd hx hb d_Mo_distance_158 ?_
                refine lv_iload_n hx hb d_Mo_distance_159 rfl (lv_at hl 0 rfl) ?_
                refine mo_st hE hM hS hL 5 (by decide) (i := (13 * i) + j) (x := (B 5 (((13 * (i - 1)) + j) - 1)) + 1) (show (13 * i) + j < 169 by omega) d_Mo_distance_160 (fun H locs hM hS hL => ?_)
                refine lv_iinc (k := 3) (v := nI (j + 1)) hx hb d_Mo_distance_161 hl rfl (zz_inc _) (by decide) rfl (fun ls hl => ?_)
                have hl : lv_has ls 6 [(2, .int (nI (j + 1))), (3, .int (nI ((B 5 (((13 * (i - 1)) + j) - 1)) + 1))), (0, .ref r), (1, .int (nI i))] := hl
                refine lv_goto hx hb d_Mo_distance_164 (tgt := 14) rfl ?_
                have hval : (B 5 (((13 * (i - 1)) + j) - 1)) + 1 = dst (mAt A 0) (mAt A 1) i j := by
                  first
                    | (rw [show i = 0 by omega, dst_0]; done)
                    | (rw [show j = 0 by omega, dst_s0]; done)
                    | (rw [hd]; split <;> omega)
                    | omega
                have hk9 : ∀ k, k ≠ 5 → (up2 B 5 ((13 * i) + j) ((B 5 (((13 * (i - 1)) + j) - 1)) + 1)) k = A k := fun k h5 => by funext x; rw [up2_k h5, hk k h5]
                have hrw9 : (∀ a b, a < i → b ≤ A 4 1 → (up2 B 5 ((13 * i) + j) ((B 5 (((13 * (i - 1)) + j) - 1)) + 1)) 5 (13 * a + b) = dst (mAt A 0) (mAt A 1) a b) := fun a b ha hb9 => by rw [up2_i (by omega)]; exact hrw a b ha hb9
                have hcl9 : (∀ b, b < (j + 1) → (up2 B 5 ((13 * i) + j) ((B 5 (((13 * (i - 1)) + j) - 1)) + 1)) 5 (13 * i + b) = dst (mAt A 0) (mAt A 1) i b) := fun b hb9 => by
                  by_cases hbj : b = j
                  · subst hbj; rw [up2_s]; exact hval
                  · rw [up2_i (by omega)]; exact hcl b (by omega)
                have hl : lv_has ls 6 [(0, .ref r), (1, .int (nI i)), (2, .int (nI (j + 1)))] := lv_sub hl [2, 3, 0] rfl
                exact ih (j + 1, (up2 B 5 ((13 * i) + j) ((B 5 (((13 * (i - 1)) + j) - 1)) + 1))) ls _ _ ⟨hl, by omega, hM, hk9, hrw9, hcl9, hS, hL⟩ (by show _ - (j + 1) < _ - j; omega)
              · refine lv_aload_n hx hb d_Mo_distance_89 rfl (lv_at hl 1 rfl) ?_
                refine fg_Mo_22 hE hM.1 rfl d_Mo_distance_90 ?_
                refine lv_bipush (v := nI 13) hx hb d_Mo_distance_93 (by decide) ?_
                refine lv_iload_n hx hb d_Mo_distance_95 rfl (lv_at hl 2 rfl) ?_
                refine lv_iconst (v := nI 1) hx hb d_Mo_distance_96 (by decide) ?_
                refine zz_isub (by omega) hx hb d_Mo_distance_97 ?_
                refine zz_imul hx hb d_Mo_distance_98 ?_
                refine lv_iload_n hx hb d_Mo_distance_99 rfl (lv_at hl 3 rfl) ?_
                refine zz_iadd hx hb d_Mo_distance_100 ?_
                refine mo_ld hE hM 5 (by decide) (i := (13 * (i - 1)) + j) (show (13 * (i - 1)) + j < 169 by omega) d_Mo_distance_101 ?_
                refine lv_iconst (v := nI 1) hx hb d_Mo_distance_102 (by decide) ?_
                refine zz_iadd hx hb d_Mo_distance_103 ?_
                refine lv_istore hx hb d_Mo_distance_104 hl (by decide) rfl (fun ls hl => ?_)
                have hl : lv_has ls 6 [(4, .int (nI ((B 5 ((13 * (i - 1)) + j)) + 1))), (3, .int (nI ((B 5 (((13 * (i - 1)) + j) - 1)) + 1))), (0, .ref r), (1, .int (nI i)), (2, .int (nI j))] := hl
                refine lv_aload_n hx hb d_Mo_distance_106 rfl (lv_at hl 2 rfl) ?_
                refine fg_Mo_22 hE hM.1 rfl d_Mo_distance_107 ?_
                refine lv_bipush (v := nI 13) hx hb d_Mo_distance_110 (by decide) ?_
                refine lv_iload_n hx hb d_Mo_distance_112 rfl (lv_at hl 3 rfl) ?_
                refine zz_imul hx hb d_Mo_distance_113 ?_
                refine lv_iload_n hx hb d_Mo_distance_114 rfl (lv_at hl 4 rfl) ?_
                refine zz_iadd hx hb d_Mo_distance_115 ?_
                refine lv_iconst (v := nI 1) hx hb d_Mo_distance_116 (by decide) ?_
                refine zz_isub (by omega) hx hb d_Mo_distance_117 ?_
                refine mo_ld hE hM 5 (by decide) (i := ((13 * i) + j) - 1) (show ((13 * i) + j) - 1 < 169 by omega) d_Mo_distance_118 ?_
                refine lv_iconst (v := nI 1) hx hb d_Mo_distance_119 (by decide) ?_
                refine zz_iadd hx hb d_Mo_distance_120 ?_
                refine lv_istore hx hb d_Mo_distance_121 hl (by decide) rfl (fun ls hl => ?_)
                have hl : lv_has ls 6 [(5, .int (nI ((B 5 (((13 * i) + j) - 1)) + 1))), (4, .int (nI ((B 5 ((13 * (i - 1)) + j)) + 1))), (3, .int (nI ((B 5 (((13 * (i - 1)) + j) - 1)) + 1))), (0, .ref r), (1, .int (nI i)), (2, .int (nI j))] := hl
                refine lv_iload hx hb d_Mo_distance_123 (lv_at hl 1 rfl) ?_
                refine lv_iload_n hx hb d_Mo_distance_125 rfl (lv_at hl 2 rfl) ?_
                refine zz_ge hx hb (by omega) (by omega) d_Mo_distance_126 (tgt := 134) rfl (fun hT126 => ?_) (fun hF126 => ?_)
                · refine lv_iload_n hx hb d_Mo_distance_134 rfl (lv_at hl 2 rfl) ?_
                  refine lv_istore_n hx hb d_Mo_distance_135 rfl hl (by decide) rfl (fun ls hl => ?_)
                  have hl : lv_has ls 6 [(3, .int (nI ((B 5 (((13 * (i - 1)) + j) - 1)) + 1))), (5, .int (nI ((B 5 (((13 * i) + j) - 1)) + 1))), (4, .int (nI ((B 5 ((13 * (i - 1)) + j)) + 1))), (0, .ref r), (1, .int (nI i)), (2, .int (nI j))] := hl
                  refine lv_iload hx hb d_Mo_distance_136 (lv_at hl 1 rfl) ?_
                  refine lv_iload_n hx hb d_Mo_distance_138 rfl (lv_at hl 0 rfl) ?_
                  refine zz_ge hx hb (by omega) (by omega) d_Mo_distance_139 (tgt := 147) rfl (fun hT139 => ?_) (fun hF139 => ?_)
                  · refine lv_iload_n hx hb d_Mo_distance_147 rfl (lv_at hl 0 rfl) ?_
                    refine lv_istore_n hx hb d_Mo_distance_148 rfl hl (by decide) rfl (fun ls hl => ?_)
                    have hl : lv_has ls 6 [(3, .int (nI ((B 5 (((13 * (i - 1)) + j) - 1)) + 1))), (5, .int (nI ((B 5 (((13 * i) + j) - 1)) + 1))), (4, .int (nI ((B 5 ((13 * (i - 1)) + j)) + 1))), (0, .ref r), (1, .int (nI i)), (2, .int (nI j))] := hl
                    refine lv_aload_n hx hb d_Mo_distance_149 rfl (lv_at hl 3 rfl) ?_
                    refine fg_Mo_22 hE hM.1 rfl d_Mo_distance_150 ?_
                    refine lv_bipush (v := nI 13) hx hb d_Mo_distance_153 (by decide) ?_
                    refine lv_iload_n hx hb d_Mo_distance_155 rfl (lv_at hl 4 rfl) ?_
                    refine zz_imul hx hb d_Mo_distance_156 ?_
                    refine lv_iload_n hx hb d_Mo_distance_157 rfl (lv_at hl 5 rfl) ?_
                    refine zz_iadd hx hb d_Mo_distance_158 ?_
                    refine lv_iload_n hx hb d_Mo_distance_159 rfl (lv_at hl 0 rfl) ?_
                    refine mo_st hE hM hS hL 5 (by decide) (i := (13 * i) + j) (x := (B 5 (((13 * (i - 1)) + j) - 1)) + 1) (show (13 * i) + j < 169 by omega) d_Mo_distance_160 (fun H locs hM hS hL => ?_)
                    refine lv_iinc (k := 5) (v := nI (j + 1)) hx hb d_Mo_distance_161 hl rfl (zz_inc _) (by decide) rfl (fun ls hl => ?_)
                    have hl : lv_has ls 6 [(2, .int (nI (j + 1))), (3, .int (nI ((B 5 (((13 * (i - 1)) + j) - 1)) + 1))), (5, .int (nI ((B 5 (((13 * i) + j) - 1)) + 1))), (4, .int (nI ((B 5 ((13 * (i - 1)) + j)) + 1))), (0, .ref r), (1, .int (nI i))] := hl
                    refine lv_goto hx hb d_Mo_distance_164 (tgt := 14) rfl ?_
                    have hval : (B 5 (((13 * (i - 1)) + j) - 1)) + 1 = dst (mAt A 0) (mAt A 1) i j := by
                      first
                        | (rw [show i = 0 by omega, dst_0]; done)
                        | (rw [show j = 0 by omega, dst_s0]; done)
                        | (rw [hd]; split <;> omega)
                        | omega
                    have hk9 : ∀ k, k ≠ 5 → (up2 B 5 ((13 * i) + j) ((B 5 (((13 * (i - 1)) + j) - 1)) + 1)) k = A k := fun k h5 => by funext x; rw [up2_k h5, hk k h5]
                    have hrw9 : (∀ a b, a < i → b ≤ A 4 1 → (up2 B 5 ((13 * i) + j) ((B 5 (((13 * (i - 1)) + j) - 1)) + 1)) 5 (13 * a + b) = dst (mAt A 0) (mAt A 1) a b) := fun a b ha hb9 => by rw [up2_i (by omega)]; exact hrw a b ha hb9
                    have hcl9 : (∀ b, b < (j + 1) → (up2 B 5 ((13 * i) + j) ((B 5 (((13 * (i - 1)) + j) - 1)) + 1)) 5 (13 * i + b) = dst (mAt A 0) (mAt A 1) i b) := fun b hb9 => by
                      by_cases hbj : b = j
                      · subst hbj; rw [up2_s]; exact hval
                      · rw [up2_i (by omega)]; exact hcl b (by omega)
                    have hl : lv_has ls 6 [(0, .ref r), (1, .int (nI i)), (2, .int (nI (j + 1)))] := lv_sub hl [4, 5, 0] rfl
                    exact ih (j + 1, (up2 B 5 ((13 * i) + j) ((B 5 (((13 * (i - 1)) + j) - 1)) + 1))) ls _ _ ⟨hl, by omega, hM, hk9, hrw9, hcl9, hS, hL⟩ (by show _ - (j + 1) < _ - j; omega)
                  · refine lv_iload hx hb d_Mo_distance_142 (lv_at hl 1 rfl) ?_
                    refine lv_goto hx hb d_Mo_distance_144 (tgt := 148) rfl ?_
                    refine lv_istore_n hx hb d_Mo_distance_148 rfl hl (by decide) rfl (fun ls hl => ?_)
                    have hl : lv_has ls 6 [(3, .int (nI ((B 5 (((13 * i) + j) - 1)) + 1))), (5, .int (nI ((B 5 (((13 * i) + j) - 1)) + 1))), (4, .int (nI ((B 5 ((13 * (i - 1)) + j)) + 1))), (0, .ref r), (1, .int (nI i)), (2, .int (nI j))] := hl
                    refine lv_aload_n hx hb d_Mo_distance_149 rfl (lv_at hl 3 rfl) ?_
                    refine fg_Mo_22 hE hM.1 rfl d_Mo_distance_150 ?_
                    refine lv_bipush (v := nI 13) hx hb d_Mo_distance_153 (by decide) ?_
                    refine lv_iload_n hx hb d_Mo_distance_155 rfl (lv_at hl 4 rfl) ?_
                    refine zz_imul hx hb d_Mo_distance_156 ?_
                    refine lv_iload_n hx hb d_Mo_distance_157 rfl (lv_at hl 5 rfl) ?_
                    refine zz_iadd hx hb d_Mo_distance_158 ?_
                    refine lv_iload_n hx hb d_Mo_distance_159 rfl (lv_at hl 0 rfl) ?_
                    refine mo_st hE hM hS hL 5 (by decide) (i := (13 * i) + j) (x := (B 5 (((13 * i) + j) - 1)) + 1) (show (13 * i) + j < 169 by omega) d_Mo_distance_160 (fun H locs hM hS hL => ?_)
                    refine lv_iinc (k := 5) (v := nI (j + 1)) hx hb d_Mo_distance_161 hl rfl (zz_inc _) (by decide) rfl (fun ls hl => ?_)
                    have hl : lv_has ls 6 [(2, .int (nI (j + 1))), (3, .int (nI ((B 5 (((13 * i) + j) - 1)) + 1))), (5, .int (nI ((B 5 (((13 * i) + j) - 1)) + 1))), (4, .int (nI ((B 5 ((13 * (i - 1)) + j)) + 1))), (0, .ref r), (1, .int (nI i))] := hl
                    refine lv_goto hx hb d_Mo_distance_164 (tgt := 14) rfl ?_
                    have hval : (B 5 (((13 * i) + j) - 1)) + 1 = dst (mAt A 0) (mAt A 1) i j := by
                      first
                        | (rw [show i = 0 by omega, dst_0]; done)
                        | (rw [show j = 0 by omega, dst_s0]; done)
                        | (rw [hd]; split <;> omega)
                        | omega
                    have hk9 : ∀ k, k ≠ 5 → (up2 B 5 ((13 * i) + j) ((B 5 (((13 * i) + j) - 1)) + 1)) k = A k := fun k h5 => by funext x; rw [up2_k h5, hk k h5]
                    have hrw9 : (∀ a b, a < i → b ≤ A 4 1 → (up2 B 5 ((13 * i) + j) ((B 5 (((13 * i) + j) - 1)) + 1)) 5 (13 * a + b) = dst (mAt A 0) (mAt A 1) a b) := fun a b ha hb9 => by rw [up2_i (by omega)]; exact hrw a b ha hb9
                    have hcl9 : (∀ b, b < (j + 1) → (up2 B 5 ((13 * i) + j) ((B 5 (((13 * i) + j) - 1)) + 1)) 5 (13 * i + b) = dst (mAt A 0) (mAt A 1) i b) := fun b hb9 => by
                      by_cases hbj : b = j
                      · subst hbj; rw [up2_s]; exact hval
                      · rw [up2_i (by omega)]; exact hcl b (by omega)
                    have hl : lv_has ls 6 [(0, .ref r), (1, .int (nI i)), (2, .int (nI (j + 1)))] := lv_sub hl [4, 5, 0] rfl
                    exact ih (j + 1, (up2 B 5 ((13 * i) + j) ((B 5 (((13 * i) + j) - 1)) + 1))) ls _ _ ⟨hl, by omega, hM, hk9, hrw9, hcl9, hS, hL⟩ (by show _ - (j + 1) < _ - j; omega)
                · refine lv_iload hx hb d_Mo_distance_129 (lv_at hl 1 rfl) ?_
                  refine lv_goto hx hb d_Mo_distance_131 (tgt := 135) rfl ?_
                  refine lv_istore_n hx hb d_Mo_distance_135 rfl hl (by decide) rfl (fun ls hl => ?_)
                  have hl : lv_has ls 6 [(3, .int (nI ((B 5 ((13 * (i - 1)) + j)) + 1))), (5, .int (nI ((B 5 (((13 * i) + j) - 1)) + 1))), (4, .int (nI ((B 5 ((13 * (i - 1)) + j)) + 1))), (0, .ref r), (1, .int (nI i)), (2, .int (nI j))] := hl
                  refine lv_iload hx hb d_Mo_distance_136 (lv_at hl 1 rfl) ?_
                  refine lv_iload_n hx hb d_Mo_distance_138 rfl (lv_at hl 0 rfl) ?_
                  refine zz_ge hx hb (by omega) (by omega) d_Mo_distance_139 (tgt := 147) rfl (fun hT139 => ?_) (fun hF139 => ?_)
                  · refine lv_iload_n hx hb d_Mo_distance_147 rfl (lv_at hl 0 rfl) ?_
                    refine lv_istore_n hx hb d_Mo_distance_148 rfl hl (by decide) rfl (fun ls hl => ?_)
                    have hl : lv_has ls 6 [(3, .int (nI ((B 5 ((13 * (i - 1)) + j)) + 1))), (5, .int (nI ((B 5 (((13 * i) + j) - 1)) + 1))), (4, .int (nI ((B 5 ((13 * (i - 1)) + j)) + 1))), (0, .ref r), (1, .int (nI i)), (2, .int (nI j))] := hl
                    refine lv_aload_n hx hb d_Mo_distance_149 rfl (lv_at hl 3 rfl) ?_
                    refine fg_Mo_22 hE hM.1 rfl d_Mo_distance_150 ?_
                    refine lv_bipush (v := nI 13) hx hb d_Mo_distance_153 (by decide) ?_
                    refine lv_iload_n hx hb d_Mo_distance_155 rfl (lv_at hl 4 rfl) ?_
                    refine zz_imul hx hb d_Mo_distance_156 ?_
                    refine lv_iload_n hx hb d_Mo_distance_157 rfl (lv_at hl 5 rfl) ?_
                    refine zz_iadd hx hb d_Mo_distance_158 ?_
                    refine lv_iload_n hx hb d_Mo_distance_159 rfl (lv_at hl 0 rfl) ?_
                    refine mo_st hE hM hS hL 5 (by decide) (i := (13 * i) + j) (x := (B 5 ((13 * (i - 1)) + j)) + 1) (show (13 * i) + j < 169 by omega) d_Mo_distance_160 (fun H locs hM hS hL => ?_)
                    refine lv_iinc (k := 5) (v := nI (j + 1)) hx hb d_Mo_distance_161 hl rfl (zz_inc _) (by decide) rfl (fun ls hl => ?_)
                    have hl : lv_has ls 6 [(2, .int (nI (j + 1))), (3, .int (nI ((B 5 ((13 * (i - 1)) + j)) + 1))), (5, .int (nI ((B 5 (((13 * i) + j) - 1)) + 1))), (4, .int (nI ((B 5 ((13 * (i - 1)) + j)) + 1))), (0, .ref r), (1, .int (nI i))] := hl
                    refine lv_goto hx hb d_Mo_distance_164 (tgt := 14) rfl ?_
                    have hval : (B 5 ((13 * (i - 1)) + j)) + 1 = dst (mAt A 0) (mAt A 1) i j := by
                      first
                        | (rw [show i = 0 by omega, dst_0]; done)
                        | (rw [show j = 0 by omega, dst_s0]; done)
                        | (rw [hd]; split <;> omega)
                        | omega
                    have hk9 : ∀ k, k ≠ 5 → (up2 B 5 ((13 * i) + j) ((B 5 ((13 * (i - 1)) + j)) + 1)) k = A k := fun k h5 => by funext x; rw [up2_k h5, hk k h5]
                    have hrw9 : (∀ a b, a < i → b ≤ A 4 1 → (up2 B 5 ((13 * i) + j) ((B 5 ((13 * (i - 1)) + j)) + 1)) 5 (13 * a + b) = dst (mAt A 0) (mAt A 1) a b) := fun a b ha hb9 => by rw [up2_i (by omega)]; exact hrw a b ha hb9
                    have hcl9 : (∀ b, b < (j + 1) → (up2 B 5 ((13 * i) + j) ((B 5 ((13 * (i - 1)) + j)) + 1)) 5 (13 * i + b) = dst (mAt A 0) (mAt A 1) i b) := fun b hb9 => by
                      by_cases hbj : b = j
                      · subst hbj; rw [up2_s]; exact hval
                      · rw [up2_i (by omega)]; exact hcl b (by omega)
                    have hl : lv_has ls 6 [(0, .ref r), (1, .int (nI i)), (2, .int (nI (j + 1)))] := lv_sub hl [4, 5, 0] rfl
                    exact ih (j + 1, (up2 B 5 ((13 * i) + j) ((B 5 ((13 * (i - 1)) + j)) + 1))) ls _ _ ⟨hl, by omega, hM, hk9, hrw9, hcl9, hS, hL⟩ (by show _ - (j + 1) < _ - j; omega)
                  · refine lv_iload hx hb d_Mo_distance_142 (lv_at hl 1 rfl) ?_
                    refine lv_goto hx hb d_Mo_distance_144 (tgt := 148) rfl ?_
                    refine lv_istore_n hx hb d_Mo_distance_148 rfl hl (by decide) rfl (fun ls hl => ?_)
                    have hl : lv_has ls 6 [(3, .int (nI ((B 5 (((13 * i) + j) - 1)) + 1))), (5, .int (nI ((B 5 (((13 * i) + j) - 1)) + 1))), (4, .int (nI ((B 5 ((13 * (i - 1)) + j)) + 1))), (0, .ref r), (1, .int (nI i)), (2, .int (nI j))] := hl
                    refine lv_aload_n hx hb d_Mo_distance_149 rfl (lv_at hl 3 rfl) ?_
                    refine fg_Mo_22 hE hM.1 rfl d_Mo_distance_150 ?_
                    refine lv_bipush (v := nI 13) hx hb d_Mo_distance_153 (by decide) ?_
                    refine lv_iload_n hx hb d_Mo_distance_155 rfl (lv_at hl 4 rfl) ?_
                    refine zz_imul hx hb d_Mo_distance_156 ?_
                    refine lv_iload_n hx hb d_Mo_distance_157 rfl (lv_at hl 5 rfl) ?_
                    refine zz_iadd hx hb d_Mo_distance_158 ?_
                    refine lv_iload_n hx hb d_Mo_distance_159 rfl (lv_at hl 0 rfl) ?_
                    refine mo_st hE hM hS hL 5 (by decide) (i := (13 * i) + j) (x := (B 5 (((13 * i) + j) - 1)) + 1) (show (13 * i) + j < 169 by omega) d_Mo_distance_160 (fun H locs hM hS hL => ?_)
                    refine lv_iinc (k := 5) (v := nI (j + 1)) hx hb d_Mo_distance_161 hl rfl (zz_inc _) (by decide) rfl (fun ls hl => ?_)
                    have hl : lv_has ls 6 [(2, .int (nI (j + 1))), (3, .int (nI ((B 5 (((13 * i) + j) - 1)) + 1))), (5, .int (nI ((B 5 (((13 * i) + j) - 1)) + 1))), (4, .int (nI ((B 5 ((13 * (i - 1)) + j)) + 1))), (0, .ref r), (1, .int (nI i))] := hl
                    refine lv_goto hx hb d_Mo_distance_164 (tgt := 14) rfl ?_
                    have hval : (B 5 (((13 * i) + j) - 1)) + 1 = dst (mAt A 0) (mAt A 1) i j := by
                      first
                        | (rw [show i = 0 by omega, dst_0]; done)
                        | (rw [show j = 0 by omega, dst_s0]; done)
                        | (rw [hd]; split <;> omega)
                        | omega
                    have hk9 : ∀ k, k ≠ 5 → (up2 B 5 ((13 * i) + j) ((B 5 (((13 * i) + j) - 1)) + 1)) k = A k := fun k h5 => by funext x; rw [up2_k h5, hk k h5]
                    have hrw9 : (∀ a b, a < i → b ≤ A 4 1 → (up2 B 5 ((13 * i) + j) ((B 5 (((13 * i) + j) - 1)) + 1)) 5 (13 * a + b) = dst (mAt A 0) (mAt A 1) a b) := fun a b ha hb9 => by rw [up2_i (by omega)]; exact hrw a b ha hb9
                    have hcl9 : (∀ b, b < (j + 1) → (up2 B 5 ((13 * i) + j) ((B 5 (((13 * i) + j) - 1)) + 1)) 5 (13 * i + b) = dst (mAt A 0) (mAt A 1) i b) := fun b hb9 => by
                      by_cases hbj : b = j
                      · subst hbj; rw [up2_s]; exact hval
                      · rw [up2_i (by omega)]; exact hcl b (by omega)
                    have hl : lv_has ls 6 [(0, .ref r), (1, .int (nI i)), (2, .int (nI (j + 1)))] := lv_sub hl [4, 5, 0] rfl
                    exact ih (j + 1, (up2 B 5 ((13 * i) + j) ((B 5 (((13 * i) + j) - 1)) + 1))) ls _ _ ⟨hl, by omega, hM, hk9, hrw9, hcl9, hS, hL⟩ (by show _ - (j + 1) < _ - j; omega)
          · refine lv_iconst (v := nI 0) hx hb d_Mo_distance_74 (by decide) ?_
            refine lv_goto hx hb d_Mo_distance_75 (tgt := 79) rfl ?_
            refine zz_iadd hx hb d_Mo_distance_79 ?_
            refine lv_istore_n hx hb d_Mo_distance_80 rfl hl (by decide) rfl (fun ls hl => ?_)
            have hl : lv_has ls 6 [(3, .int (nI ((B 5 (((13 * (i - 1)) + j) - 1)) + 0))), (0, .ref r), (1, .int (nI i)), (2, .int (nI j))] := hl
            refine lv_iload_n hx hb d_Mo_distance_81 rfl (lv_at hl 2 rfl) ?_
            refine zz_le0 hx hb (by omega) d_Mo_distance_82 (tgt := 149) rfl (fun hT82 => ?_) (fun hF82 => ?_)
            · refine lv_aload_n hx hb d_Mo_distance_149 rfl (lv_at hl 1 rfl) ?_
              refine fg_Mo_22 hE hM.1 rfl d_Mo_distance_150 ?_
              refine lv_bipush (v := nI 13) hx hb d_Mo_distance_153 (by decide) ?_
              refine lv_iload_n hx hb d_Mo_distance_155 rfl (lv_at hl 2 rfl) ?_
              refine zz_imul hx hb d_Mo_distance_156 ?_
              refine lv_iload_n hx hb d_Mo_distance_157 rfl (lv_at hl 3 rfl) ?_
              refine zz_iadd hx hb d_Mo_distance_158 ?_
              refine lv_iload_n hx hb d_Mo_distance_159 rfl (lv_at hl 0 rfl) ?_
              refine mo_st hE hM hS hL 5 (by decide) (i := (13 * i) + j) (x := (B 5 (((13 * (i - 1)) + j) - 1)) + 0) (show (13 * i) + j < 169 by omega) d_Mo_distance_160 (fun H locs hM hS hL => ?_)
              refine lv_iinc (k := 3) (v := nI (j + 1)) hx hb d_Mo_distance_161 hl rfl (zz_inc _) (by decide) rfl (fun ls hl => ?_)
              have hl : lv_has ls 6 [(2, .int (nI (j + 1))), (3, .int (nI ((B 5 (((13 * (i - 1)) + j) - 1)) + 0))), (0, .ref r), (1, .int (nI i))] := hl
              refine lv_goto hx hb d_Mo_distance_164 (tgt := 14) rfl ?_
              have hval : (B 5 (((13 * (i - 1)) + j) - 1)) + 0 = dst (mAt A 0) (mAt A 1) i j := by
                first
                  | (rw [show i = 0 by omega, dst_0]; done)
                  | (rw [show j = 0 by omega, dst_s0]; done)
                  | (rw [hd]; split <;> omega)
                  | omega
              have hk9 : ∀ k, k ≠ 5 → (up2 B 5 ((13 * i) + j) ((B 5 (((13 * (i - 1)) + j) - 1)) + 0)) k = A k := fun k h5 => by funext x; rw [up2_k h5, hk k h5]
              have hrw9 : (∀ a b, a < i → b ≤ A 4 1 → (up2 B 5 ((13 * i) + j) ((B 5 (((13 * (i - 1)) + j) - 1)) + 0)) 5 (13 * a + b) = dst (mAt A 0) (mAt A 1) a b) := fun a b ha hb9 => by rw [up2_i (by omega)]; exact hrw a b ha hb9
              have hcl9 : (∀ b, b < (j + 1) → (up2 B 5 ((13 * i) + j) ((B 5 (((13 * (i - 1)) + j) - 1)) + 0)) 5 (13 * i + b) = dst (mAt A 0) (mAt A 1) i b) := fun b hb9 => by
                by_cases hbj : b = j
                · subst hbj; rw [up2_s]; exact hval
                · rw [up2_i (by omega)]; exact hcl b (by omega)
              have hl : lv_has ls 6 [(0, .ref r), (1, .int (nI i)), (2, .int (nI (j + 1)))] := lv_sub hl [2, 3, 0] rfl
              exact ih (j + 1, (up2 B 5 ((13 * i) + j) ((B 5 (((13 * (i - 1)) + j) - 1)) + 0))) ls _ _ ⟨hl, by omega, hM, hk9, hrw9, hcl9, hS, hL⟩ (by show _ - (j + 1) < _ - j; omega)
            · refine lv_iload_n hx hb d_Mo_distance_85 rfl (lv_at hl 3 rfl) ?_
              refine zz_le0 hx hb (by omega) d_Mo_distance_86 (tgt := 149) rfl (fun hT86 => ?_) (fun hF86 => ?_)
              · refine lv_aload_n hx hb d_Mo_distance_149 rfl (lv_at hl 1 rfl) ?_
                refine fg_Mo_22 hE hM.1 rfl d_Mo_distance_150 ?_
                refine lv_bipush (v := nI 13) hx hb d_Mo_distance_153 (by decide) ?_
                refine lv_iload_n hx hb d_Mo_distance_155 rfl (lv_at hl 2 rfl) ?_
                refine zz_imul hx hb d_Mo_distance_156 ?_
                refine lv_iload_n hx hb d_Mo_distance_157 rfl (lv_at hl 3 rfl) ?_
                refine zz_iadd hx hb d_Mo_distance_158 ?_
                refine lv_iload_n hx hb d_Mo_distance_159 rfl (lv_at hl 0 rfl) ?_
                refine mo_st hE hM hS hL 5 (by decide) (i := (13 * i) + j) (x := (B 5 (((13 * (i - 1)) + j) - 1)) + 0) (show (13 * i) + j < 169 by omega) d_Mo_distance_160 (fun H locs hM hS hL => ?_)
                refine lv_iinc (k := 3) (v := nI (j + 1)) hx hb d_Mo_distance_161 hl rfl (zz_inc _) (by decide) rfl (fun ls hl => ?_)
                have hl : lv_has ls 6 [(2, .int (nI (j + 1))), (3, .int (nI ((B 5 (((13 * (i - 1)) + j) - 1)) + 0))), (0, .ref r), (1, .int (nI i))] := hl
                refine lv_goto hx hb d_Mo_distance_164 (tgt := 14) rfl ?_
                have hval : (B 5 (((13 * (i - 1)) + j) - 1)) + 0 = dst (mAt A 0) (mAt A 1) i j := by
                  first
                    | (rw [show i = 0 by omega, dst_0]; done)
                    | (rw [show j = 0 by omega, dst_s0]; done)
                    | (rw [hd]; split <;> omega)
                    | omega
                have hk9 : ∀ k, k ≠ 5 → (up2 B 5 ((13 * i) + j) ((B 5 (((13 * (i - 1)) + j) - 1)) + 0)) k = A k := fun k h5 => by funext x; rw [up2_k h5, hk k h5]
                have hrw9 : (∀ a b, a < i → b ≤ A 4 1 → (up2 B 5 ((13 * i) + j) ((B 5 (((13 * (i - 1)) + j) - 1)) + 0)) 5 (13 * a + b) = dst (mAt A 0) (mAt A 1) a b) := fun a b ha hb9 => by rw [up2_i (by omega)]; exact hrw a b ha hb9
                have hcl9 : (∀ b, b < (j + 1) → (up2 B 5 ((13 * i) + j) ((B 5 (((13 * (i - 1)) + j) - 1)) + 0)) 5 (13 * i + b) = dst (mAt A 0) (mAt A 1) i b) := fun b hb9 => by
                  by_cases hbj : b = j
                  · subst hbj; rw [up2_s]; exact hval
                  · rw [up2_i (by omega)]; exact hcl b (by omega)
                have hl : lv_has ls 6 [(0, .ref r), (1, .int (nI i)), (2, .int (nI (j + 1)))] := lv_sub hl [2, 3, 0] rfl
                exact ih (j + 1, (up2 B 5 ((13 * i) + j) ((B 5 (((13 * (i - 1)) + j) - 1)) + 0))) ls _ _ ⟨hl, by omega, hM, hk9, hrw9, hcl9, hS, hL⟩ (by show _ - (j + 1) < _ - j; omega)
              · refine lv_aload_n hx hb d_Mo_distance_89 rfl (lv_at hl 1 rfl) ?_
                refine fg_Mo_22 hE hM.1 rfl d_Mo_distance_90 ?_
                refine lv_bipush (v := nI 13) hx hb d_Mo_distance_93 (by decide) ?_
                refine lv_iload_n hx hb d_Mo_distance_95 rfl (lv_at hl 2 rfl) ?_
                refine lv_iconst (v := nI 1) hx hb d_Mo_distance_96 (by decide) ?_
                refine zz_isub (by omega) hx hb d_Mo_distance_97 ?_
                refine zz_imul hx hb d_Mo_distance_98 ?_
                refine lv_iload_n hx hb d_Mo_distance_99 rfl (lv_at hl 3 rfl) ?_
                refine zz_iadd hx hb d_Mo_distance_100 ?_
                refine mo_ld hE hM 5 (by decide) (i := (13 * (i - 1)) + j) (show (13 * (i - 1)) + j < 169 by omega) d_Mo_distance_101 ?_
                refine lv_iconst (v := nI 1) hx hb d_Mo_distance_102 (by decide) ?_
                refine zz_iadd hx hb d_Mo_distance_103 ?_
                refine lv_istore hx hb d_Mo_distance_104 hl (by decide) rfl (fun ls hl => ?_)
                have hl : lv_has ls 6 [(4, .int (nI ((B 5 ((13 * (i - 1)) + j)) + 1))), (3, .int (nI ((B 5 (((13 * (i - 1)) + j) - 1)) + 0))), (0, .ref r), (1, .int (nI i)), (2, .int (nI j))] := hl
                refine lv_aload_n hx hb d_Mo_distance_106 rfl (lv_at hl 2 rfl) ?_
                refine fg_Mo_22 hE hM.1 rfl d_Mo_distance_107 ?_
                refine lv_bipush (v := nI 13) hx hb d_Mo_distance_110 (by decide) ?_
                refine lv_iload_n hx hb d_Mo_distance_112 rfl (lv_at hl 3 rfl) ?_
                refine zz_imul hx hb d_Mo_distance_113 ?_
                refine lv_iload_n hx hb d_Mo_distance_114 rfl (lv_at hl 4 rfl) ?_
                refine zz_iadd hx hb d_Mo_distance_115 ?_
                refine lv_iconst (v := nI 1) hx hb d_Mo_distance_116 (by decide) ?_
                refine zz_isub (by omega) hx hb d_Mo_distance_117 ?_
                refine mo_ld hE hM 5 (by decide) (i := ((13 * i) + j) - 1) (show ((13 * i) + j) - 1 < 169 by omega) d_Mo_distance_118 ?_
                refine lv_iconst (v := nI 1) hx hb d_Mo_distance_119 (by decide) ?_
                refine zz_iadd hx hb d_Mo_distance_120 ?_
                refine lv_istore hx hb d_Mo_distance_121 hl (by decide) rfl (fun ls hl => ?_)
                have hl : lv_has ls 6 [(5, .int (nI ((B 5 (((13 * i) + j) - 1)) + 1))), (4, .int (nI ((B 5 ((13 * (i - 1)) + j)) + 1))), (3, .int (nI ((B 5 (((13 * (i - 1)) + j) - 1)) + 0))), (0, .ref r), (1, .int (nI i)), (2, .int (nI j))] := hl
                refine lv_iload hx hb d_Mo_distance_123 (lv_at hl 1 rfl) ?_
                refine lv_iload_n hx hb d_Mo_distance_125 rfl (lv_at hl 2 rfl) ?_
                refine zz_ge hx hb (by omega) (by omega) d_Mo_distance_126 (tgt := 134) rfl (fun hT126 => ?_) (fun hF126 => ?_)
                · refine lv_iload_n hx hb d_Mo_distance_134 rfl (lv_at hl 2 rfl) ?_
                  refine lv_istore_n hx hb d_Mo_distance_135 rfl hl (by decide) rfl (fun ls hl => ?_)
                  have hl : lv_has ls 6 [(3, .int (nI ((B 5 (((13 * (i - 1)) + j) - 1)) + 0))), (5, .int (nI ((B 5 (((13 * i) + j) - 1)) + 1))), (4, .int (nI ((B 5 ((13 * (i - 1)) + j)) + 1))), (0, .ref r), (1, .int (nI i)), (2, .int (nI j))] := hl
                  refine lv_iload hx hb d_Mo_distance_136 (lv_at hl 1 rfl) ?_
                  refine lv_iload_n hx hb d_Mo_distance_138 rfl (lv_at hl 0 rfl) ?_
                  refine zz_ge hx hb (by omega) (by omega) d_Mo_distance_139 (tgt := 147) rfl (fun hT139 => ?_) (fun hF139 => ?_)
                  · refine lv_iload_n hx hb d_Mo_distance_147 rfl (lv_at hl 0 rfl) ?_
                    refine lv_istore_n hx hb d_Mo_distance_148 rfl hl (by decide) rfl (fun ls hl => ?_)
                    have hl : lv_has ls 6 [(3, .int (nI ((B 5 (((13 * (i - 1)) + j) - 1)) + 0))), (5, .int (nI ((B 5 (((13 * i) + j) - 1)) + 1))), (4, .int (nI ((B 5 ((13 * (i - 1)) + j)) + 1))), (0, .ref r), (1, .int (nI i)), (2, .int (nI j))] := hl
                    refine lv_aload_n hx hb d_Mo_distance_149 rfl (lv_at hl 3 rfl) ?_
                    refine fg_Mo_22 hE hM.1 rfl d_Mo_distance_150 ?_
                    refine lv_bipush (v := nI 13) hx hb d_Mo_distance_153 (by decide) ?_
                    refine lv_iload_n hx hb d_Mo_distance_155 rfl (lv_at hl 4 rfl) ?_
                    refine zz_imul hx hb d_Mo_distance_156 ?_
                    refine lv_iload_n hx hb d_Mo_distance_157 rfl (lv_at hl 5 rfl) ?_
                    refine zz_iadd hx hb d_Mo_distance_158 ?_
                    refine lv_iload_n hx hb d_Mo_distance_159 rfl (lv_at hl 0 rfl) ?_
                    refine mo_st hE hM hS hL 5 (by decide) (i := (13 * i) + j) (x := (B 5 (((13 * (i - 1)) + j) - 1)) + 0) (show (13 * i) + j < 169 by omega) d_Mo_distance_160 (fun H locs hM hS hL => ?_)
                    refine lv_iinc (k := 5) (v := nI (j + 1)) hx hb d_Mo_distance_161 hl rfl (zz_inc _) (by decide) rfl (fun ls hl => ?_)
                    have hl : lv_has ls 6 [(2, .int (nI (j + 1))), (3, .int (nI ((B 5 (((13 * (i - 1)) + j) - 1)) + 0))), (5, .int (nI ((B 5 (((13 * i) + j) - 1)) + 1))), (4, .int (nI ((B 5 ((13 * (i - 1)) + j)) + 1))), (0, .ref r), (1, .int (nI i))] := hl
                    refine lv_goto hx hb d_Mo_distance_164 (tgt := 14) rfl ?_
                    have hval : (B 5 (((13 * (i - 1)) + j) - 1)) + 0 = dst (mAt A 0) (mAt A 1) i j := by
                      first
                        | (rw [show i = 0 by omega, dst_0]; done)
                        | (rw [show j = 0 by omega, dst_s0]; done)
                        | (rw [hd]; split <;> omega)
                        | omega
                    have hk9 : ∀ k, k ≠ 5 → (up2 B 5 ((13 * i) + j) ((B 5 (((13 * (i - 1)) + j) - 1)) + 0)) k = A k := fun k h5 => by funext x; rw [up2_k h5, hk k h5]
                    have hrw9 : (∀ a b, a < i → b ≤ A 4 1 → (up2 B 5 ((13 * i) + j) ((B 5 (((13 * (i - 1)) + j) - 1)) + 0)) 5 (13 * a + b) = dst (mAt A 0) (mAt A 1) a b) := fun a b ha hb9 => by rw [up2_i (by omega)]; exact hrw a b ha hb9
                    have hcl9 : (∀ b, b < (j + 1) → (up2 B 5 ((13 * i) + j) ((B 5 (((13 * (i - 1)) + j) - 1)) + 0)) 5 (13 * i + b) = dst (mAt A 0) (mAt A 1) i b) := fun b hb9 => by
                      by_cases hbj : b = j
                      · subst hbj; rw [up2_s]; exact hval
                      · rw [up2_i (by omega)]; exact hcl b (by omega)
                    have hl : lv_has ls 6 [(0, .ref r), (1, .int (nI i)), (2, .int (nI (j + 1)))] := lv_sub hl [4, 5, 0] rfl
                    exact ih (j + 1, (up2 B 5 ((13 * i) + j) ((B 5 (((13 * (i - 1)) + j) - 1)) + 0))) ls _ _ ⟨hl, by omega, hM, hk9, hrw9, hcl9, hS, hL⟩ (by show _ - (j + 1) < _ - j; omega)
                  · refine lv_iload hx hb d_Mo_distance_142 (lv_at hl 1 rfl) ?_
                    refine lv_goto hx hb d_Mo_distance_144 (tgt := 148) rfl ?_
                    refine lv_istore_n hx hb d_Mo_distance_148 rfl hl (by decide) rfl (fun ls hl => ?_)
                    have hl : lv_has ls 6 [(3, .int (nI ((B 5 (((13 * i) + j) - 1)) + 1))), (5, .int (nI ((B 5 (((13 * i) + j) - 1)) + 1))), (4, .int (nI ((B 5 ((13 * (i - 1)) + j)) + 1))), (0, .ref r), (1, .int (nI i)), (2, .int (nI j))] := hl
                    refine lv_aload_n hx hb d_Mo_distance_149 rfl (lv_at hl 3 rfl) ?_
                    refine fg_Mo_22 hE hM.1 rfl d_Mo_distance_150 ?_
                    refine lv_bipush (v := nI 13) hx hb d_Mo_distance_153 (by decide) ?_
                    refine lv_iload_n hx hb d_Mo_distance_155 rfl (lv_at hl 4 rfl) ?_
                    refine zz_imul hx hb d_Mo_distance_156 ?_
                    refine lv_iload_n hx hb d_Mo_distance_157 rfl (lv_at hl 5 rfl) ?_
                    refine zz_iadd hx hb d_Mo_distance_158 ?_
                    refine lv_iload_n hx hb d_Mo_distance_159 rfl (lv_at hl 0 rfl) ?_
                    refine mo_st hE hM hS hL 5 (by decide) (i := (13 * i) + j) (x := (B 5 (((13 * i) + j) - 1)) + 1) (show (13 * i) + j < 169 by omega) d_Mo_distance_160 (fun H locs hM hS hL => ?_)
                    refine lv_iinc (k := 5) (v := nI (j + 1)) hx hb d_Mo_distance_161 hl rfl (zz_inc _) (by decide) rfl (fun ls hl => ?_)
                    have hl : lv_has ls 6 [(2, .int (nI (j + 1))), (3, .int (nI ((B 5 (((13 * i) + j) - 1)) + 1))), (5, .int (nI ((B 5 (((13 * i) + j) - 1)) + 1))), (4, .int (nI ((B 5 ((13 * (i - 1)) + j)) + 1))), (0, .ref r), (1, .int (nI i))] := hl
                    refine lv_goto hx hb d_Mo_distance_164 (tgt := 14) rfl ?_
                    have hval : (B 5 (((13 * i) + j) - 1)) + 1 = dst (mAt A 0) (mAt A 1) i j := by
                      first
                        | (rw [show i = 0 by omega, dst_0]; done)
                        | (rw [show j = 0 by omega, dst_s0]; done)
                        | (rw [hd]; split <;> omega)
                        | omega
                    have hk9 : ∀ k, k ≠ 5 → (up2 B 5 ((13 * i) + j) ((B 5 (((13 * i) + j) - 1)) + 1)) k = A k := fun k h5 => by funext x; rw [up2_k h5, hk k h5]
                    have hrw9 : (∀ a b, a < i → b ≤ A 4 1 → (up2 B 5 ((13 * i) + j) ((B 5 (((13 * i) + j) - 1)) + 1)) 5 (13 * a + b) = dst (mAt A 0) (mAt A 1) a b) := fun a b ha hb9 => by rw [up2_i (by omega)]; exact hrw a b ha hb9
                    have hcl9 : (∀ b, b < (j + 1) → (up2 B 5 ((13 * i) + j) ((B 5 (((13 * i) + j) - 1)) + 1)) 5 (13 * i + b) = dst (mAt A 0) (mAt A 1) i b) := fun b hb9 => by
                      by_cases hbj : b = j
                      · subst hbj; rw [up2_s]; exact hval
                      · rw [up2_i (by omega)]; exact hcl b (by omega)
                    have hl : lv_has ls 6 [(0, .ref r), (1, .int (nI i)), (2, .int (nI (j + 1)))] := lv_sub hl [4, 5, 0] rfl
                    exact ih (j + 1, (up2 B 5 ((13 * i) + j) ((B 5 (((13 * i) + j) - 1)) + 1))) ls _ _ ⟨hl, by omega, hM, hk9, hrw9, hcl9, hS, hL⟩ (by show _ - (j + 1) < _ - j; omega)
                · refine lv_iload hx hb d_Mo_distance_129 (lv_at hl 1 rfl) ?_
                  refine lv_goto hx hb d_Mo_distance_131 (tgt := 135) rfl ?_
                  refine lv_istore_n hx hb d_Mo_distance_135 rfl hl (by decide) rfl (fun ls hl => ?_)
                  have hl : lv_has ls 6 [(3, .int (nI ((B 5 ((13 * (i - 1)) + j)) + 1))), (5, .int (nI ((B 5 (((13 * i) + j) - 1)) + 1))), (4, .int (nI ((B 5 ((13 * (i - 1)) + j)) + 1))), (0, .ref r), (1, .int (nI i)), (2, .int (nI j))] := hl
                  refine lv_iload hx hb d_Mo_distance_136 (lv_at hl 1 rfl) ?_
                  refine lv_iload_n hx hb d_Mo_distance_138 rfl (lv_at hl 0 rfl) ?_
                  refine zz_ge hx hb (by omega) (by omega) d_Mo_distance_139 (tgt := 147) rfl (fun hT139 => ?_) (fun hF139 => ?_)
                  · refine lv_iload_n hx hb d_Mo_distance_147 rfl (lv_at hl 0 rfl) ?_
                    refine lv_istore_n hx hb d_Mo_distance_148 rfl hl (by decide) rfl (fun ls hl => ?_)
                    have hl : lv_has ls 6 [(3, .int (nI ((B 5 ((13 * (i - 1)) + j)) + 1))), (5, .int (nI ((B 5 (((13 * i) + j) - 1)) + 1))), (4, .int (nI ((B 5 ((13 * (i - 1)) + j)) + 1))), (0, .ref r), (1, .int (nI i)), (2, .int (nI j))] := hl
                    refine lv_aload_n hx hb d_Mo_distance_149 rfl (lv_at hl 3 rfl) ?_
                    refine fg_Mo_22 hE hM.1 rfl d_Mo_distance_150 ?_
                    refine lv_bipush (v := nI 13) hx hb d_Mo_distance_153 (by decide) ?_
                    refine lv_iload_n hx hb d_Mo_distance_155 rfl (lv_at hl 4 rfl) ?_
                    refine zz_imul hx hb d_Mo_distance_156 ?_
                    refine lv_iload_n hx hb d_Mo_distance_157 rfl (lv_at hl 5 rfl) ?_
                    refine zz_iadd hx hb d_Mo_distance_158 ?_
                    refine lv_iload_n hx hb d_Mo_distance_159 rfl (lv_at hl 0 rfl) ?_
                    refine mo_st hE hM hS hL 5 (by decide) (i := (13 * i) + j) (x := (B 5 ((13 * (i - 1)) + j)) + 1) (show (13 * i) + j < 169 by omega) d_Mo_distance_160 (fun H locs hM hS hL => ?_)
                    refine lv_iinc (k := 5) (v := nI (j + 1)) hx hb d_Mo_distance_161 hl rfl (zz_inc _) (by decide) rfl (fun ls hl => ?_)
                    have hl : lv_has ls 6 [(2, .int (nI (j + 1))), (3, .int (nI ((B 5 ((13 * (i - 1)) + j)) + 1))), (5, .int (nI ((B 5 (((13 * i) + j) - 1)) + 1))), (4, .int (nI ((B 5 ((13 * (i - 1)) + j)) + 1))), (0, .ref r), (1, .int (nI i))] := hl
                    refine lv_goto hx hb d_Mo_distance_164 (tgt := 14) rfl ?_
                    have hval : (B 5 ((13 * (i - 1)) + j)) + 1 = dst (mAt A 0) (mAt A 1) i j := by
                      first
                        | (rw [show i = 0 by omega, dst_0]; done)
                        | (rw [show j = 0 by omega, dst_s0]; done)
                        | (rw [hd]; split <;> omega)
                        | omega
                    have hk9 : ∀ k, k ≠ 5 → (up2 B 5 ((13 * i) + j) ((B 5 ((13 * (i - 1)) + j)) + 1)) k = A k := fun k h5 => by funext x; rw [up2_k h5, hk k h5]
                    have hrw9 : (∀ a b, a < i → b ≤ A 4 1 → (up2 B 5 ((13 * i) + j) ((B 5 ((13 * (i - 1)) + j)) + 1)) 5 (13 * a + b) = dst (mAt A 0) (mAt A 1) a b) := fun a b ha hb9 => by rw [up2_i (by omega)]; exact hrw a b ha hb9
                    have hcl9 : (∀ b, b < (j + 1) → (up2 B 5 ((13 * i) + j) ((B 5 ((13 * (i - 1)) + j)) + 1)) 5 (13 * i + b) = dst (mAt A 0) (mAt A 1) i b) := fun b hb9 => by
                      by_cases hbj : b = j
                      · subst hbj; rw [up2_s]; exact hval
                      · rw [up2_i (by omega)]; exact hcl b (by omega)
                    have hl : lv_has ls 6 [(0, .ref r), (1, .int (nI i)), (2, .int (nI (j + 1)))] := lv_sub hl [4, 5, 0] rfl
                    exact ih (j + 1, (up2 B 5 ((13 * i) + j) ((B 5 ((13 * (i - 1)) + j)) + 1))) ls _ _ ⟨hl, by omega, hM, hk9, hrw9, hcl9, hS, hL⟩ (by show _ - (j + 1) < _ - j; omega)
                  · refine lv_iload hx hb d_Mo_distance_142 (lv_at hl 1 rfl) ?_
                    refine lv_goto hx hb d_Mo_distance_144 (tgt := 148) rfl ?_
                    refine lv_istore_n hx hb d_Mo_distance_148 rfl hl (by decide) rfl (fun ls hl => ?_)
                    have hl : lv_has ls 6 [(3, .int (nI ((B 5 (((13 * i) + j) - 1)) + 1))), (5, .int (nI ((B 5 (((13 * i) + j) - 1)) + 1))), (4, .int (nI ((B 5 ((13 * (i - 1)) + j)) + 1))), (0, .ref r), (1, .int (nI i)), (2, .int (nI j))] := hl
                    refine lv_aload_n hx hb d_Mo_distance_149 rfl (lv_at hl 3 rfl) ?_
                    refine fg_Mo_22 hE hM.1 rfl d_Mo_distance_150 ?_
                    refine lv_bipush (v := nI 13) hx hb d_Mo_distance_153 (by decide) ?_
                    refine lv_iload_n hx hb d_Mo_distance_155 rfl (lv_at hl 4 rfl) ?_
                    refine zz_imul hx hb d_Mo_distance_156 ?_
                    refine lv_iload_n hx hb d_Mo_distance_157 rfl (lv_at hl 5 rfl) ?_
                    refine zz_iadd hx hb d_Mo_distance_158 ?_
                    refine lv_iload_n hx hb d_Mo_distance_159 rfl (lv_at hl 0 rfl) ?_
                    refine mo_st hE hM hS hL 5 (by decide) (i := (13 * i) + j) (x := (B 5 (((13 * i) + j) - 1)) + 1) (show (13 * i) + j < 169 by omega) d_Mo_distance_160 (fun H locs hM hS hL => ?_)
                    refine lv_iinc (k := 5) (v := nI (j + 1)) hx hb d_Mo_distance_161 hl rfl (zz_inc _) (by decide) rfl (fun ls hl => ?_)
                    have hl : lv_has ls 6 [(2, .int (nI (j + 1))), (3, .int (nI ((B 5 (((13 * i) + j) - 1)) + 1))), (5, .int (nI ((B 5 (((13 * i) + j) - 1)) + 1))), (4, .int (nI ((B 5 ((13 * (i - 1)) + j)) + 1))), (0, .ref r), (1, .int (nI i))] := hl
                    refine lv_goto hx hb d_Mo_distance_164 (tgt := 14) rfl ?_
                    have hval : (B 5 (((13 * i) + j) - 1)) + 1 = dst (mAt A 0) (mAt A 1) i j := by
                      first
                        | (rw [show i = 0 by omega, dst_0]; done)
                        | (rw [show j = 0 by omega, dst_s0]; done)
                        | (rw [hd]; split <;> omega)
                        | omega
                    have hk9 : ∀ k, k ≠ 5 → (up2 B 5 ((13 * i) + j) ((B 5 (((13 * i) + j) - 1)) + 1)) k = A k := fun k h5 => by funext x; rw [up2_k h5, hk k h5]
                    have hrw9 : (∀ a b, a < i → b ≤ A 4 1 → (up2 B 5 ((13 * i) + j) ((B 5 (((13 * i) + j) - 1)) + 1)) 5 (13 * a + b) = dst (mAt A 0) (mAt A 1) a b) := fun a b ha hb9 => by rw [up2_i (by omega)]; exact hrw a b ha hb9
                    have hcl9 : (∀ b, b < (j + 1) → (up2 B 5 ((13 * i) + j) ((B 5 (((13 * i) + j) - 1)) + 1)) 5 (13 * i + b) = dst (mAt A 0) (mAt A 1) i b) := fun b hb9 => by
                      by_cases hbj : b = j
                      · subst hbj; rw [up2_s]; exact hval
                      · rw [up2_i (by omega)]; exact hcl b (by omega)
                    have hl : lv_has ls 6 [(0, .ref r), (1, .int (nI i)), (2, .int (nI (j + 1)))] := lv_sub hl [4, 5, 0] rfl
                    exact ih (j + 1, (up2 B 5 ((13 * i) + j) ((B 5 (((13 * i) + j) - 1)) + 1))) ls _ _ ⟨hl, by omega, hM, hk9, hrw9, hcl9, hS, hL⟩ (by show _ - (j + 1) < _ - j; omega)
        · refine lv_iload_n hx hb d_Mo_distance_36 rfl (lv_at hl 1 rfl) ?_
          refine lv_goto hx hb d_Mo_distance_37 (tgt := 80) rfl ?_
          refine lv_istore_n hx hb d_Mo_distance_80 rfl hl (by decide) rfl (fun ls hl => ?_)
          have hl : lv_has ls 6 [(3, .int (nI i)), (0, .ref r), (1, .int (nI i)), (2, .int (nI j))] := hl
          refine lv_iload_n hx hb d_Mo_distance_81 rfl (lv_at hl 2 rfl) ?_
          refine zz_le0 hx hb (by omega) d_Mo_distance_82 (tgt := 149) rfl (fun hT82 => ?_) (fun hF82 => ?_)
          · refine lv_aload_n hx hb d_Mo_distance_149 rfl (lv_at hl 1 rfl) ?_
            refine fg_Mo_22 hE hM.1 rfl d_Mo_distance_150 ?_
            refine lv_bipush (v := nI 13) hx hb d_Mo_distance_153 (by decide) ?_
            refine lv_iload_n hx hb d_Mo_distance_155 rfl (lv_at hl 2 rfl) ?_
            refine zz_imul hx hb d_Mo_distance_156 ?_
            refine lv_iload_n hx hb d_Mo_distance_157 rfl (lv_at hl 3 rfl) ?_
            refine zz_iadd hx hb d_Mo_distance_158 ?_
            refine lv_iload_n hx hb d_Mo_distance_159 rfl (lv_at hl 0 rfl) ?_
            refine mo_st hE hM hS hL 5 (by decide) (i := (13 * i) + j) (x := i) (show (13 * i) + j < 169 by omega) d_Mo_distance_160 (fun H locs hM hS hL => ?_)
            refine lv_iinc (k := 3) (v := nI (j + 1)) hx hb d_Mo_distance_161 hl rfl (zz_inc _) (by decide) rfl (fun ls hl => ?_)
            have hl : lv_has ls 6 [(2, .int (nI (j + 1))), (3, .int (nI i)), (0, .ref r), (1, .int (nI i))] := hl
            refine lv_goto hx hb d_Mo_distance_164 (tgt := 14) rfl ?_
            have hval : i = dst (mAt A 0) (mAt A 1) i j := by
              first
                | (rw [show i = 0 by omega, dst_0]; done)
                | (rw [show j = 0 by omega, dst_s0]; done)
                | (rw [hd]; split <;> omega)
                | omega
            have hk9 : ∀ k, k ≠ 5 → (up2 B 5 ((13 * i) + j) i) k = A k := fun k h5 => by funext x; rw [up2_k h5, hk k h5]
            have hrw9 : (∀ a b, a < i → b ≤ A 4 1 → (up2 B 5 ((13 * i) + j) i) 5 (13 * a + b) = dst (mAt A 0) (mAt A 1) a b) := fun a b ha hb9 => by rw [up2_i (by omega)]; exact hrw a b ha hb9
            have hcl9 : (∀ b, b < (j + 1) → (up2 B 5 ((13 * i) + j) i) 5 (13 * i + b) = dst (mAt A 0) (mAt A 1) i b) := fun b hb9 => by
              by_cases hbj : b = j
              · subst hbj; rw [up2_s]; exact hval
              · rw [up2_i (by omega)]; exact hcl b (by omega)
            have hl : lv_has ls 6 [(0, .ref r), (1, .int (nI i)), (2, .int (nI (j + 1)))] := lv_sub hl [2, 3, 0] rfl
            exact ih (j + 1, (up2 B 5 ((13 * i) + j) i)) ls _ _ ⟨hl, by omega, hM, hk9, hrw9, hcl9, hS, hL⟩ (by show _ - (j + 1) < _ - j; omega)
          · refine lv_iload_n hx hb d_Mo_distance_85 rfl (lv_at hl 3 rfl) ?_
            refine zz_le0 hx hb (by omega) d_Mo_distance_86 (tgt := 149) rfl (fun hT86 => ?_) (fun hF86 => ?_)
            · refine lv_aload_n hx hb d_Mo_distance_149 rfl (lv_at hl 1 rfl) ?_
              refine fg_Mo_22 hE hM.1 rfl d_Mo_distance_150 ?_
              refine lv_bipush (v := nI 13) hx hb d_Mo_distance_153 (by decide) ?_
              refine lv_iload_n hx hb d_Mo_distance_155 rfl (lv_at hl 2 rfl) ?_
              refine zz_imul hx hb d_Mo_distance_156 ?_
              refine lv_iload_n hx hb d_Mo_distance_157 rfl (lv_at hl 3 rfl) ?_
              refine zz_iadd hx hb d_Mo_distance_158 ?_
              refine lv_iload_n hx hb d_Mo_distance_159 rfl (lv_at hl 0 rfl) ?_
              refine mo_st hE hM hS hL 5 (by decide) (i := (13 * i) + j) (x := i) (show (13 * i) + j < 169 by omega) d_Mo_distance_160 (fun H locs hM hS hL => ?_)
              refine lv_iinc (k := 3) (v := nI (j + 1)) hx hb d_Mo_distance_161 hl rfl (zz_inc _) (by decide) rfl (fun ls hl => ?_)
              have hl : lv_has ls 6 [(2, .int (nI (j + 1))), (3, .int (nI i)), (0, .ref r), (1, .int (nI i))] := hl
              refine lv_goto hx hb d_Mo_distance_164 (tgt := 14) rfl ?_
              have hval : i = dst (mAt A 0) (mAt A 1) i j := by
                first
                  | (rw [show i = 0 by omega, dst_0]; done)
                  | (rw [show j = 0 by omega, dst_s0]; done)
                  | (rw [hd]; split <;> omega)
                  | omega
              have hk9 : ∀ k, k ≠ 5 → (up2 B 5 ((13 * i) + j) i) k = A k := fun k h5 => by funext x; rw [up2_k h5, hk k h5]
              have hrw9 : (∀ a b, a < i → b ≤ A 4 1 → (up2 B 5 ((13 * i) + j) i) 5 (13 * a + b) = dst (mAt A 0) (mAt A 1) a b) := fun a b ha hb9 => by rw [up2_i (by omega)]; exact hrw a b ha hb9
              have hcl9 : (∀ b, b < (j + 1) → (up2 B 5 ((13 * i) + j) i) 5 (13 * i + b) = dst (mAt A 0) (mAt A 1) i b) := fun b hb9 => by
                by_cases hbj : b = j
                · subst hbj; rw [up2_s]; exact hval
                · rw [up2_i (by omega)]; exact hcl b (by omega)
              have hl : lv_has ls 6 [(0, .ref r), (1, .int (nI i)), (2, .int (nI (j + 1)))] := lv_sub hl [2, 3, 0] rfl
              exact ih (j + 1, (up2 B 5 ((13 * i) + j) i)) ls _ _ ⟨hl, by omega, hM, hk9, hrw9, hcl9, hS, hL⟩ (by show _ - (j + 1) < _ - j; omega)
            · refine lv_aload_n hx hb d_Mo_distance_89 rfl (lv_at hl 1 rfl) ?_
              refine fg_Mo_22 hE hM.1 rfl d_Mo_distance_90 ?_
              refine lv_bipush (v := nI 13) hx hb d_Mo_distance_93 (by decide) ?_
              refine lv_iload_n hx hb d_Mo_distance_95 rfl (lv_at hl 2 rfl) ?_
              refine lv_iconst (v := nI 1) hx hb d_Mo_distance_96 (by decide) ?_
              refine zz_isub (by omega) hx hb d_Mo_distance_97 ?_
              refine zz_imul hx hb d_Mo_distance_98 ?_
              refine lv_iload_n hx hb d_Mo_distance_99 rfl (lv_at hl 3 rfl) ?_
              refine zz_iadd hx hb d_Mo_distance_100 ?_
              refine mo_ld hE hM 5 (by decide) (i := (13 * (i - 1)) + j) (show (13 * (i - 1)) + j < 169 by omega) d_Mo_distance_101 ?_
              refine lv_iconst (v := nI 1) hx hb d_Mo_distance_102 (by decide) ?_
              refine zz_iadd hx hb d_Mo_distance_103 ?_
              refine lv_istore hx hb d_Mo_distance_104 hl (by decide) rfl (fun ls hl => ?_)
              have hl : lv_has ls 6 [(4, .int (nI ((B 5 ((13 * (i - 1)) + j)) + 1))), (3, .int (nI i)), (0, .ref r), (1, .int (nI i)), (2, .int (nI j))] := hl
              refine lv_aload_n hx hb d_Mo_distance_106 rfl (lv_at hl 2 rfl) ?_
              refine fg_Mo_22 hE hM.1 rfl d_Mo_distance_107 ?_
              refine lv_bipush (v := nI 13) hx hb d_Mo_distance_110 (by decide) ?_
              refine lv_iload_n hx hb d_Mo_distance_112 rfl (lv_at hl 3 rfl) ?_
              refine zz_imul hx hb d_Mo_distance_113 ?_
              refine lv_iload_n hx hb d_Mo_distance_114 rfl (lv_at hl 4 rfl) ?_
              refine zz_iadd hx hb d_Mo_distance_115 ?_
              refine lv_iconst (v := nI 1) hx hb d_Mo_distance_116 (by decide) ?_
              refine zz_isub (by omega) hx hb d_Mo_distance_117 ?_
              refine mo_ld hE hM 5 (by decide) (i := ((13 * i) + j) - 1) (show ((13 * i) + j) - 1 < 169 by omega) d_Mo_distance_118 ?_
              refine lv_iconst (v := nI 1) hx hb d_Mo_distance_119 (by decide) ?_
              refine zz_iadd hx hb d_Mo_distance_120 ?_
              refine lv_istore hx hb d_Mo_distance_121 hl (by decide) rfl (fun ls hl => ?_)
              have hl : lv_has ls 6 [(5, .int (nI ((B 5 (((13 * i) + j) - 1)) + 1))), (4, .int (nI ((B 5 ((13 * (i - 1)) + j)) + 1))), (3, .int (nI i)), (0, .ref r), (1, .int (nI i)), (2, .int (nI j))] := hl
              refine lv_iload hx hb d_Mo_distance_123 (lv_at hl 1 rfl) ?_
              refine lv_iload_n hx hb d_Mo_distance_125 rfl (lv_at hl 2 rfl) ?_
              refine zz_ge hx hb (by omega) (by omega) d_Mo_distance_126 (tgt := 134) rfl (fun hT126 => ?_) (fun hF126 => ?_)
              · refine lv_iload_n hx hb d_Mo_distance_134 rfl (lv_at hl 2 rfl) ?_
                refine lv_istore_n hx hb d_Mo_distance_135 rfl hl (by decide) rfl (fun ls hl => ?_)
                have hl : lv_has ls 6 [(3, .int (nI i)), (5, .int (nI ((B 5 (((13 * i) + j) - 1)) + 1))), (4, .int (nI ((B 5 ((13 * (i - 1)) + j)) + 1))), (0, .ref r), (1, .int (nI i)), (2, .int (nI j))] := hl
                refine lv_iload hx hb d_Mo_distance_136 (lv_at hl 1 rfl) ?_
                refine lv_iload_n hx hb d_Mo_distance_138 rfl (lv_at hl 0 rfl) ?_
                refine zz_ge hx hb (by omega) (by omega) d_Mo_distance_139 (tgt := 147) rfl (fun hT139 => ?_) (fun hF139 => ?_)
                · refine lv_iload_n hx hb d_Mo_distance_147 rfl (lv_at hl 0 rfl) ?_
                  refine lv_istore_n hx hb d_Mo_distance_148 rfl hl (by decide) rfl (fun ls hl => ?_)
                  have hl : lv_has ls 6 [(3, .int (nI i)), (5, .int (nI ((B 5 (((13 * i) + j) - 1)) + 1))), (4, .int (nI ((B 5 ((13 * (i - 1)) + j)) + 1))), (0, .ref r), (1, .int (nI i)), (2, .int (nI j))] := hl
                  refine lv_aload_n hx hb d_Mo_distance_149 rfl (lv_at hl 3 rfl) ?_
                  refine fg_Mo_22 hE hM.1 rfl d_Mo_distance_150 ?_
                  refine lv_bipush (v := nI 13) hx hb d_Mo_distance_153 (by decide) ?_
                  refine lv_iload_n hx hb d_Mo_distance_155 rfl (lv_at hl 4 rfl) ?_
                  refine zz_imul hx hb d_Mo_distance_156 ?_
                  refine lv_iload_n hx hb d_Mo_distance_157 rfl (lv_at hl 5 rfl) ?_
                  refine zz_iadd hx hb d_Mo_distance_158 ?_
                  refine lv_iload_n hx hb d_Mo_distance_159 rfl (lv_at hl 0 rfl) ?_
                  refine mo_st hE hM hS hL 5 (by decide) (i := (13 * i) + j) (x := i) (show (13 * i) + j < 169 by omega) d_Mo_distance_160 (fun H locs hM hS hL => ?_)
                  refine lv_iinc (k := 5) (v := nI (j + 1)) hx hb d_Mo_distance_161 hl rfl (zz_inc _) (by decide) rfl (fun ls hl => ?_)
                  have hl : lv_has ls 6 [(2, .int (nI (j + 1))), (3, .int (nI i)), (5, .int (nI ((B 5 (((13 * i) + j) - 1)) + 1))), (4, .int (nI ((B 5 ((13 * (i - 1)) + j)) + 1))), (0, .ref r), (1, .int (nI i))] := hl
                  refine lv_goto hx hb d_Mo_distance_164 (tgt := 14) rfl ?_
                  have hval : i = dst (mAt A 0) (mAt A 1) i j := by
                    first
                      | (rw [show i = 0 by omega, dst_0]; done)
                      | (rw [show j = 0 by omega, dst_s0]; done)
                      | (rw [hd]; split <;> omega)
                      | omega
                  have hk9 : ∀ k, k ≠ 5 → (up2 B 5 ((13 * i) + j) i) k = A k := fun k h5 => by funext x; rw [up2_k h5, hk k h5]
                  have hrw9 : (∀ a b, a < i → b ≤ A 4 1 → (up2 B 5 ((13 * i) + j) i) 5 (13 * a + b) = dst (mAt A 0) (mAt A 1) a b) := fun a b ha hb9 => by rw [up2_i (by omega)]; exact hrw a b ha hb9
                  have hcl9 : (∀ b, b < (j + 1) → (up2 B 5 ((13 * i) + j) i) 5 (13 * i + b) = dst (mAt A 0) (mAt A 1) i b) := fun b hb9 => by
                    by_cases hbj : b = j
                    · subst hbj; rw [up2_s]; exact hval
                    · rw [up2_i (by omega)]; exact hcl b (by omega)
                  have hl : lv_has ls 6 [(0, .ref r), (1, .int (nI i)), (2, .int (nI (j + 1)))] := lv_sub hl [4, 5, 0] rfl
                  exact ih (j + 1, (up2 B 5 ((13 * i) + j) i)) ls _ _ ⟨hl, by omega, hM, hk9, hrw9, hcl9, hS, hL⟩ (by show _ - (j + 1) < _ - j; omega)
                · refine lv_iload hx hb d_Mo_distance_142 (lv_at hl 1 rfl) ?_
                  refine lv_goto hx hb d_Mo_distance_144 (tgt := 148) rfl ?_
                  refine lv_istore_n hx hb d_Mo_distance_148 rfl hl (by decide) rfl (fun ls hl => ?_)
                  have hl : lv_has ls 6 [(3, .int (nI ((B 5 (((13 * i) + j) - 1)) + 1))), (5, .int (nI ((B 5 (((13 * i) + j) - 1)) + 1))), (4, .int (nI ((B 5 ((13 * (i - 1)) + j)) + 1))), (0, .ref r), (1, .int (nI i)), (2, .int (nI j))] := hl
                  refine lv_aload_n hx hb d_Mo_distance_149 rfl (lv_at hl 3 rfl) ?_
                  refine fg_Mo_22 hE hM.1 rfl d_Mo_distance_150 ?_
                  refine lv_bipush (v := nI 13) hx hb d_Mo_distance_153 (by decide) ?_
                  refine lv_iload_n hx hb d_Mo_distance_155 rfl (lv_at hl 4 rfl) ?_
                  refine zz_imul hx hb d_Mo_distance_156 ?_
                  refine lv_iload_n hx hb d_Mo_distance_157 rfl (lv_at hl 5 rfl) ?_
                  refine zz_iadd hx hb d_Mo_distance_158 ?_
                  refine lv_iload_n hx hb d_Mo_distance_159 rfl (lv_at hl 0 rfl) ?_
                  refine mo_st hE hM hS hL 5 (by decide) (i := (13 * i) + j) (x := (B 5 (((13 * i) + j) - 1)) + 1) (show (13 * i) + j < 169 by omega) d_Mo_distance_160 (fun H locs hM hS hL => ?_)
                  refine lv_iinc (k := 5) (v := nI (j + 1)) hx hb d_Mo_distance_161 hl rfl (zz_inc _) (by decide) rfl (fun ls hl => ?_)
                  have hl : lv_has ls 6 [(2, .int (nI (j + 1))), (3, .int (nI ((B 5 (((13 * i) + j) - 1)) + 1))), (5, .int (nI ((B 5 (((13 * i) + j) - 1)) + 1))), (4, .int (nI ((B 5 ((13 * (i - 1)) + j)) + 1))), (0, .ref r), (1, .int (nI i))] := hl
                  refine lv_goto hx hb d_Mo_distance_164 (tgt := 14) rfl ?_
                  have hval : (B 5 (((13 * i) + j) - 1)) + 1 = dst (mAt A 0) (mAt A 1) i j := by
                    first
                      | (rw [show i = 0 by omega, dst_0]; done)
                      | (rw [show j = 0 by omega, dst_s0]; done)
                      | (rw [hd]; split <;> omega)
                      | omega
                  have hk9 : ∀ k, k ≠ 5 → (up2 B 5 ((13 * i) + j) ((B 5 (((13 * i) + j) - 1)) + 1)) k = A k := fun k h5 => by funext x; rw [up2_k h5, hk k h5]
                  have hrw9 : (∀ a b, a < i → b ≤ A 4 1 → (up2 B 5 ((13 * i) + j) ((B 5 (((13 * i) + j) - 1)) + 1)) 5 (13 * a + b) = dst (mAt A 0) (mAt A 1) a b) := fun a b ha hb9 => by rw [up2_i (by omega)]; exact hrw a b ha hb9
                  have hcl9 : (∀ b, b < (j + 1) → (up2 B 5 ((13 * i) + j) ((B 5 (((13 * i) + j) - 1)) + 1)) 5 (13 * i + b) = dst (mAt A 0) (mAt A 1) i b) := fun b hb9 => by
                    by_cases hbj : b = j
                    · subst hbj; rw [up2_s]; exact hval
                    · rw [up2_i (by omega)]; exact hcl b (by omega)
                  have hl : lv_has ls 6 [(0, .ref r), (1, .int (nI i)), (2, .int (nI (j + 1)))] := lv_sub hl [4, 5, 0] rfl
                  exact ih (j + 1, (up2 B 5 ((13 * i) + j) ((B 5 (((13 * i) + j) - 1)) + 1))) ls _ _ ⟨hl, by omega, hM, hk9, hrw9, hcl9, hS, hL⟩ (by show _ - (j + 1) < _ - j; omega)
              · refine lv_iload hx hb d_Mo_distance_129 (lv_at hl 1 rfl) ?_
                refine lv_goto hx hb d_Mo_distance_131 (tgt := 135) rfl ?_
                refine lv_istore_n hx hb d_Mo_distance_135 rfl hl (by decide) rfl (fun ls hl => ?_)
                have hl : lv_has ls 6 [(3, .int (nI ((B 5 ((13 * (i - 1)) + j)) + 1))), (5, .int (nI ((B 5 (((13 * i) + j) - 1)) + 1))), (4, .int (nI ((B 5 ((13 * (i - 1)) + j)) + 1))), (0, .ref r), (1, .int (nI i)), (2, .int (nI j))] := hl
                refine lv_iload hx hb d_Mo_distance_136 (lv_at hl 1 rfl) ?_
                refine lv_iload_n hx hb d_Mo_distance_138 rfl (lv_at hl 0 rfl) ?_
                refine zz_ge hx hb (by omega) (by omega) d_Mo_distance_139 (tgt := 147) rfl (fun hT139 => ?_) (fun hF139 => ?_)
                · refine lv_iload_n hx hb d_Mo_distance_147 rfl (lv_at hl 0 rfl) ?_
                  refine lv_istore_n hx hb d_Mo_distance_148 rfl hl (by decide) rfl (fun ls hl => ?_)
                  have hl : lv_has ls 6 [(3, .int (nI ((B 5 ((13 * (i - 1)) + j)) + 1))), (5, .int (nI ((B 5 (((13 * i) + j) - 1)) + 1))), (4, .int (nI ((B 5 ((13 * (i - 1)) + j)) + 1))), (0, .ref r), (1, .int (nI i)), (2, .int (nI j))] := hl
                  refine lv_aload_n hx hb d_Mo_distance_149 rfl (lv_at hl 3 rfl) ?_
                  refine fg_Mo_22 hE hM.1 rfl d_Mo_distance_150 ?_
                  refine lv_bipush (v := nI 13) hx hb d_Mo_distance_153 (by decide) ?_
                  refine lv_iload_n hx hb d_Mo_distance_155 rfl (lv_at hl 4 rfl) ?_
                  refine zz_imul hx hb d_Mo_distance_156 ?_
                  refine lv_iload_n hx hb d_Mo_distance_157 rfl (lv_at hl 5 rfl) ?_
                  refine zz_iadd hx hb d_Mo_distance_158 ?_
                  refine lv_iload_n hx hb d_Mo_distance_159 rfl (lv_at hl 0 rfl) ?_
                  refine mo_st hE hM hS hL 5 (by decide) (i := (13 * i) + j) (x := (B 5 ((13 * (i - 1)) + j)) + 1) (show (13 * i) + j < 169 by omega) d_Mo_distance_160 (fun H locs hM hS hL => ?_)
                  refine lv_iinc (k := 5) (v := nI (j + 1)) hx hb d_Mo_distance_161 hl rfl (zz_inc _) (by decide) rfl (fun ls hl => ?_)
                  have hl : lv_has ls 6 [(2, .int (nI (j + 1))), (3, .int (nI ((B 5 ((13 * (i - 1)) + j)) + 1))), (5, .int (nI ((B 5 (((13 * i) + j) - 1)) + 1))), (4, .int (nI ((B 5 ((13 * (i - 1)) + j)) + 1))), (0, .ref r), (1, .int (nI i))] := hl
                  refine lv_goto hx hb d_Mo_distance_164 (tgt := 14) rfl ?_
                  have hval : (B 5 ((13 * (i - 1)) + j)) + 1 = dst (mAt A 0) (mAt A 1) i j := by
                    first
                      | (rw [show i = 0 by omega, dst_0]; done)
                      | (rw [show j = 0 by omega, dst_s0]; done)
                      | (rw [hd]; split <;> omega)
                      | omega
                  have hk9 : ∀ k, k ≠ 5 → (up2 B 5 ((13 * i) + j) ((B 5 ((13 * (i - 1)) + j)) + 1)) k = A k := fun k h5 => by funext x; rw [up2_k h5, hk k h5]
                  have hrw9 : (∀ a b, a < i → b ≤ A 4 1 → (up2 B 5 ((13 * i) + j) ((B 5 ((13 * (i - 1)) + j)) + 1)) 5 (13 * a + b) = dst (mAt A 0) (mAt A 1) a b) := fun a b ha hb9 => by rw [up2_i (by omega)]; exact hrw a b ha hb9
                  have hcl9 : (∀ b, b < (j + 1) → (up2 B 5 ((13 * i) + j) ((B 5 ((13 * (i - 1)) + j)) + 1)) 5 (13 * i + b) = dst (mAt A 0) (mAt A 1) i b) := fun b hb9 => by
                    by_cases hbj : b = j
                    · subst hbj; rw [up2_s]; exact hval
                    · rw [up2_i (by omega)]; exact hcl b (by omega)
                  have hl : lv_has ls 6 [(0, .ref r), (1, .int (nI i)), (2, .int (nI (j + 1)))] := lv_sub hl [4, 5, 0] rfl
                  exact ih (j + 1, (up2 B 5 ((13 * i) + j) ((B 5 ((13 * (i - 1)) + j)) + 1))) ls _ _ ⟨hl, by omega, hM, hk9, hrw9, hcl9, hS, hL⟩ (by show _ - (j + 1) < _ - j; omega)
                · refine lv_iload hx hb d_Mo_distance_142 (lv_at hl 1 rfl) ?_
                  refine lv_goto hx hb d_Mo_distance_144 (tgt := 148) rfl ?_
                  refine lv_istore_n hx hb d_Mo_distance_148 rfl hl (by decide) rfl (fun ls hl => ?_)
                  have hl : lv_has ls 6 [(3, .int (nI ((B 5 (((13 * i) + j) - 1)) + 1))), (5, .int (nI ((B 5 (((13 * i) + j) - 1)) + 1))), (4, .int (nI ((B 5 ((13 * (i - 1)) + j)) + 1))), (0, .ref r), (1, .int (nI i)), (2, .int (nI j))] := hl
                  refine lv_aload_n hx hb d_Mo_distance_149 rfl (lv_at hl 3 rfl) ?_
                  refine fg_Mo_22 hE hM.1 rfl d_Mo_distance_150 ?_
                  refine lv_bipush (v := nI 13) hx hb d_Mo_distance_153 (by decide) ?_
                  refine lv_iload_n hx hb d_Mo_distance_155 rfl (lv_at hl 4 rfl) ?_
                  refine zz_imul hx hb d_Mo_distance_156 ?_
                  refine lv_iload_n hx hb d_Mo_distance_157 rfl (lv_at hl 5 rfl) ?_
                  refine zz_iadd hx hb d_Mo_distance_158 ?_
                  refine lv_iload_n hx hb d_Mo_distance_159 rfl (lv_at hl 0 rfl) ?_
                  refine mo_st hE hM hS hL 5 (by decide) (i := (13 * i) + j) (x := (B 5 (((13 * i) + j) - 1)) + 1) (show (13 * i) + j < 169 by omega) d_Mo_distance_160 (fun H locs hM hS hL => ?_)
                  refine lv_iinc (k := 5) (v := nI (j + 1)) hx hb d_Mo_distance_161 hl rfl (zz_inc _) (by decide) rfl (fun ls hl => ?_)
                  have hl : lv_has ls 6 [(2, .int (nI (j + 1))), (3, .int (nI ((B 5 (((13 * i) + j) - 1)) + 1))), (5, .int (nI ((B 5 (((13 * i) + j) - 1)) + 1))), (4, .int (nI ((B 5 ((13 * (i - 1)) + j)) + 1))), (0, .ref r), (1, .int (nI i))] := hl
                  refine lv_goto hx hb d_Mo_distance_164 (tgt := 14) rfl ?_
                  have hval : (B 5 (((13 * i) + j) - 1)) + 1 = dst (mAt A 0) (mAt A 1) i j := by
                    first
                      | (rw [show i = 0 by omega, dst_0]; done)
                      | (rw [show j = 0 by omega, dst_s0]; done)
                      | (rw [hd]; split <;> omega)
                      | omega
                  have hk9 : ∀ k, k ≠ 5 → (up2 B 5 ((13 * i) + j) ((B 5 (((13 * i) + j) - 1)) + 1)) k = A k := fun k h5 => by funext x; rw [up2_k h5, hk k h5]
                  have hrw9 : (∀ a b, a < i → b ≤ A 4 1 → (up2 B 5 ((13 * i) + j) ((B 5 (((13 * i) + j) - 1)) + 1)) 5 (13 * a + b) = dst (mAt A 0) (mAt A 1) a b) := fun a b ha hb9 => by rw [up2_i (by omega)]; exact hrw a b ha hb9
                  have hcl9 : (∀ b, b < (j + 1) → (up2 B 5 ((13 * i) + j) ((B 5 (((13 * i) + j) - 1)) + 1)) 5 (13 * i + b) = dst (mAt A 0) (mAt A 1) i b) := fun b hb9 => by
                    by_cases hbj : b = j
                    · subst hbj; rw [up2_s]; exact hval
                    · rw [up2_i (by omega)]; exact hcl b (by omega)
                  have hl : lv_has ls 6 [(0, .ref r), (1, .int (nI i)), (2, .int (nI (j + 1)))] := lv_sub hl [4, 5, 0] rfl
                  exact ih (j + 1, (up2 B 5 ((13 * i) + j) ((B 5 (((13 * i) + j) - 1)) + 1))) ls _ _ ⟨hl, by omega, hM, hk9, hrw9, hcl9, hS, hL⟩ (by show _ - (j + 1) < _ - j; omega)
      · refine lv_iload_n hx hb d_Mo_distance_28 rfl (lv_at hl 2 rfl) ?_
        refine lv_goto hx hb d_Mo_distance_29 (tgt := 80) rfl ?_
        refine lv_istore_n hx hb d_Mo_distance_80 rfl hl (by decide) rfl (fun ls hl => ?_)
        have hl : lv_has ls 6 [(3, .int (nI j)), (0, .ref r), (1, .int (nI i)), (2, .int (nI j))] := hl
        refine lv_iload_n hx hb d_Mo_distance_81 rfl (lv_at hl 2 rfl) ?_
        refine zz_le0 hx hb (by omega) d_Mo_distance_82 (tgt := 149) rfl (fun hT82 => ?_) (fun hF82 => ?_)
        · refine lv_aload_n hx hb d_Mo_distance_149 rfl (lv_at hl 1 rfl) ?_
          refine fg_Mo_22 hE hM.1 rfl d_Mo_distance_150 ?_
          refine lv_bipush (v := nI 13) hx hb d_Mo_distance_153 (by decide) ?_
          refine lv_iload_n hx hb d_Mo_distance_155 rfl (lv_at hl 2 rfl) ?_
          refine zz_imul hx hb d_Mo_distance_156 ?_
          refine lv_iload_n hx hb d_Mo_distance_157 rfl (lv_at hl 3 rfl) ?_
          refine zz_iadd hx hb d_Mo_distance_158 ?_
          refine lv_iload_n hx hb d_Mo_distance_159 rfl (lv_at hl 0 rfl) ?_
          refine mo_st hE hM hS hL 5 (by decide) (i := (13 * i) + j) (x := j) (show (13 * i) + j < 169 by omega) d_Mo_distance_160 (fun H locs hM hS hL => ?_)
          refine lv_iinc (k := 3) (v := nI (j + 1)) hx hb d_Mo_distance_161 hl rfl (zz_inc _) (by decide) rfl (fun ls hl => ?_)
          have hl : lv_has ls 6 [(2, .int (nI (j + 1))), (3, .int (nI j)), (0, .ref r), (1, .int (nI i))] := hl
          refine lv_goto hx hb d_Mo_distance_164 (tgt := 14) rfl ?_
          have hval : j = dst (mAt A 0) (mAt A 1) i j := by
            first
              | (rw [show i = 0 by omega, dst_0]; done)
              | (rw [show j = 0 by omega, dst_s0]; done)
              | (rw [hd]; split <;> omega)
              | omega
          have hk9 : ∀ k, k ≠ 5 → (up2 B 5 ((13 * i) + j) j) k = A k := fun k h5 => by funext x; rw [up2_k h5, hk k h5]
          have hrw9 : (∀ a b, a < i → b ≤ A 4 1 → (up2 B 5 ((13 * i) + j) j) 5 (13 * a + b) = dst (mAt A 0) (mAt A 1) a b) := fun a b ha hb9 => by rw [up2_i (by omega)]; exact hrw a b ha hb9
          have hcl9 : (∀ b, b < (j + 1) → (up2 B 5 ((13 * i) + j) j) 5 (13 * i + b) = dst (mAt A 0) (mAt A 1) i b) := fun b hb9 => by
            by_cases hbj : b = j
            · subst hbj; rw [up2_s]; exact hval
            · rw [up2_i (by omega)]; exact hcl b (by omega)
          have hl : lv_has ls 6 [(0, .ref r), (1, .int (nI i)), (2, .int (nI (j + 1)))] := lv_sub hl [2, 3, 0] rfl
          exact ih (j + 1, (up2 B 5 ((13 * i) + j) j)) ls _ _ ⟨hl, by omega, hM, hk9, hrw9, hcl9, hS, hL⟩ (by show _ - (j + 1) < _ - j; omega)
        · refine lv_iload_n hx hb d_Mo_distance_85 rfl (lv_at hl 3 rfl) ?_
          refine zz_le0 hx hb (by omega) d_Mo_distance_86 (tgt := 149) rfl (fun hT86 => ?_) (fun hF86 => ?_)
          · refine lv_aload_n hx hb d_Mo_distance_149 rfl (lv_at hl 1 rfl) ?_
            refine fg_Mo_22 hE hM.1 rfl d_Mo_distance_150 ?_
            refine lv_bipush (v := nI 13) hx hb d_Mo_distance_153 (by decide) ?_
            refine lv_iload_n hx hb d_Mo_distance_155 rfl (lv_at hl 2 rfl) ?_
            refine zz_imul hx hb d_Mo_distance_156 ?_
            refine lv_iload_n hx hb d_Mo_distance_157 rfl (lv_at hl 3 rfl) ?_
            refine zz_iadd hx hb d_Mo_distance_158 ?_
            refine lv_iload_n hx hb d_Mo_distance_159 rfl (lv_at hl 0 rfl) ?_
            refine mo_st hE hM hS hL 5 (by decide) (i := (13 * i) + j) (x := j) (show (13 * i) + j < 169 by omega) d_Mo_distance_160 (fun H locs hM hS hL => ?_)
            refine lv_iinc (k := 3) (v := nI (j + 1)) hx hb d_Mo_distance_161 hl rfl (zz_inc _) (by decide) rfl (fun ls hl => ?_)
            have hl : lv_has ls 6 [(2, .int (nI (j + 1))), (3, .int (nI j)), (0, .ref r), (1, .int (nI i))] := hl
            refine lv_goto hx hb d_Mo_distance_164 (tgt := 14) rfl ?_
            have hval : j = dst (mAt A 0) (mAt A 1) i j := by
              first
                | (rw [show i = 0 by omega, dst_0]; done)
                | (rw [show j = 0 by omega, dst_s0]; done)
                | (rw [hd]; split <;> omega)
                | omega
            have hk9 : ∀ k, k ≠ 5 → (up2 B 5 ((13 * i) + j) j) k = A k := fun k h5 => by funext x; rw [up2_k h5, hk k h5]
            have hrw9 : (∀ a b, a < i → b ≤ A 4 1 → (up2 B 5 ((13 * i) + j) j) 5 (13 * a + b) = dst (mAt A 0) (mAt A 1) a b) := fun a b ha hb9 => by rw [up2_i (by omega)]; exact hrw a b ha hb9
            have hcl9 : (∀ b, b < (j + 1) → (up2 B 5 ((13 * i) + j) j) 5 (13 * i + b) = dst (mAt A 0) (mAt A 1) i b) := fun b hb9 => by
              by_cases hbj : b = j
              · subst hbj; rw [up2_s]; exact hval
              · rw [up2_i (by omega)]; exact hcl b (by omega)
            have hl : lv_has ls 6 [(0, .ref r), (1, .int (nI i)), (2, .int (nI (j + 1)))] := lv_sub hl [2, 3, 0] rfl
            exact ih (j + 1, (up2 B 5 ((13 * i) + j) j)) ls _ _ ⟨hl, by omega, hM, hk9, hrw9, hcl9, hS, hL⟩ (by show _ - (j + 1) < _ - j; omega)
          · refine lv_aload_n hx hb d_Mo_distance_89 rfl (lv_at hl 1 rfl) ?_
            refine fg_Mo_22 hE hM.1 rfl d_Mo_distance_90 ?_
            refine lv_bipush (v := nI 13) hx hb d_Mo_distance_93 (by decide) ?_
            refine lv_iload_n hx hb d_Mo_distance_95 rfl (lv_at hl 2 rfl) ?_
            refine lv_iconst (v := nI 1) hx hb d_Mo_distance_96 (by decide) ?_
            refine zz_isub (by omega) hx hb d_Mo_distance_97 ?_
            refine zz_imul hx hb d_Mo_distance_98 ?_
            refine lv_iload_n hx hb d_Mo_distance_99 rfl (lv_at hl 3 rfl) ?_
            refine zz_iadd hx hb d_Mo_distance_100 ?_
            refine mo_ld hE hM 5 (by decide) (i := (13 * (i - 1)) + j) (show (13 * (i - 1)) + j < 169 by omega) d_Mo_distance_101 ?_
            refine lv_iconst (v := nI 1) hx hb d_Mo_distance_102 (by decide) ?_
            refine zz_iadd hx hb d_Mo_distance_103 ?_
            refine lv_istore hx hb d_Mo_distance_104 hl (by decide) rfl (fun ls hl => ?_)
            have hl : lv_has ls 6 [(4, .int (nI ((B 5 ((13 * (i - 1)) + j)) + 1))), (3, .int (nI j)), (0, .ref r), (1, .int (nI i)), (2, .int (nI j))] := hl
            refine lv_aload_n hx hb d_Mo_distance_106 rfl (lv_at hl 2 rfl) ?_
            refine fg_Mo_22 hE hM.1 rfl d_Mo_distance_107 ?_
            refine lv_bipush (v := nI 13) hx hb d_Mo_distance_110 (by decide) ?_
            refine lv_iload_n hx hb d_Mo_distance_112 rfl (lv_at hl 3 rfl) ?_
            refine zz_imul hx hb d_Mo_distance_113 ?_
            refine lv_iload_n hx hb d_Mo_distance_114 rfl (lv_at hl 4 rfl) ?_
            refine zz_iadd hx hb d_Mo_distance_115 ?_
            refine lv_iconst (v := nI 1) hx hb d_Mo_distance_116 (by decide) ?_
            refine zz_isub (by omega) hx hb d_Mo_distance_117 ?_
            refine mo_ld hE hM 5 (by decide) (i := ((13 * i) + j) - 1) (show ((13 * i) + j) - 1 < 169 by omega) d_Mo_distance_118 ?_
            refine lv_iconst (v := nI 1) hx hb d_Mo_distance_119 (by decide) ?_
            refine zz_iadd hx hb d_Mo_distance_120 ?_
            refine lv_istore hx hb d_Mo_distance_121 hl (by decide) rfl (fun ls hl => ?_)
            have hl : lv_has ls 6 [(5, .int (nI ((B 5 (((13 * i) + j) - 1)) + 1))), (4, .int (nI ((B 5 ((13 * (i - 1)) + j)) + 1))), (3, .int (nI j)), (0, .ref r), (1, .int (nI i)), (2, .int (nI j))] := hl
            refine lv_iload hx hb d_Mo_distance_123 (lv_at hl 1 rfl) ?_
            refine lv_iload_n hx hb d_Mo_distance_125 rfl (lv_at hl 2 rfl) ?_
            refine zz_ge hx hb (by omega) (by omega) d_Mo_distance_126 (tgt := 134) rfl (fun hT126 => ?_) (fun hF126 => ?_)
            · refine lv_iload_n hx hb d_Mo_distance_134 rfl (lv_at hl 2 rfl) ?_
              refine lv_istore_n hx hb d_Mo_distance_135 rfl hl (by decide) rfl (fun ls hl => ?_)
              have hl : lv_has ls 6 [(3, .int (nI j)), (5, .int (nI ((B 5 (((13 * i) + j) - 1)) + 1))), (4, .int (nI ((B 5 ((13 * (i - 1)) + j)) + 1))), (0, .ref r), (1, .int (nI i)), (2, .int (nI j))] := hl
              refine lv_iload hx hb d_Mo_distance_136 (lv_at hl 1 rfl) ?_
              refine lv_iload_n hx hb d_Mo_distance_138 rfl (lv_at hl 0 rfl) ?_
              refine zz_ge hx hb (by omega) (by omega) d_Mo_distance_139 (tgt := 147) rfl (fun hT139 => ?_) (fun hF139 => ?_)
              · refine lv_iload_n hx hb d_Mo_distance_147 rfl (lv_at hl 0 rfl) ?_
                refine lv_istore_n hx hb d_Mo_distance_148 rfl hl (by decide) rfl (fun ls hl => ?_)
                have hl : lv_has ls 6 [(3, .int (nI j)), (5, .int (nI ((B 5 (((13 * i) + j) - 1)) + 1))), (4, .int (nI ((B 5 ((13 * (i - 1)) + j)) + 1))), (0, .ref r), (1, .int (nI i)), (2, .int (nI j))] := hl
                refine lv_aload_n hx hb d_Mo_distance_149 rfl (lv_at hl 3 rfl) ?_
                refine fg_Mo_22 hE hM.1 rfl d_Mo_distance_150 ?_
                refine lv_bipush (v := nI 13) hx hb d_Mo_distance_153 (by decide) ?_
                refine lv_iload_n hx hb d_Mo_distance_155 rfl (lv_at hl 4 rfl) ?_
                refine zz_imul hx hb d_Mo_distance_156 ?_
                refine lv_iload_n hx hb d_Mo_distance_157 rfl (lv_at hl 5 rfl) ?_
                refine zz_iadd hx hb d_Mo_distance_158 ?_
                refine lv_iload_n hx hb d_Mo_distance_159 rfl (lv_at hl 0 rfl) ?_
                refine mo_st hE hM hS hL 5 (by decide) (i := (13 * i) + j) (x := j) (show (13 * i) + j < 169 by omega) d_Mo_distance_160 (fun H locs hM hS hL => ?_)
                refine lv_iinc (k := 5) (v := nI (j + 1)) hx hb d_Mo_distance_161 hl rfl (zz_inc _) (by decide) rfl (fun ls hl => ?_)
                have hl : lv_has ls 6 [(2, .int (nI (j + 1))), (3, .int (nI j)), (5, .int (nI ((B 5 (((13 * i) + j) - 1)) + 1))), (4, .int (nI ((B 5 ((13 * (i - 1)) + j)) + 1))), (0, .ref r), (1, .int (nI i))] := hl
                refine lv_goto hx hb d_Mo_distance_164 (tgt := 14) rfl ?_
                have hval : j = dst (mAt A 0) (mAt A 1) i j := by
                  first
                    | (rw [show i = 0 by omega, dst_0]; done)
                    | (rw [show j = 0 by omega, dst_s0]; done)
                    | (rw [hd]; split <;> omega)
                    | omega
                have hk9 : ∀ k, k ≠ 5 → (up2 B 5 ((13 * i) + j) j) k = A k := fun k h5 => by funext x; rw [up2_k h5, hk k h5]
                have hrw9 : (∀ a b, a < i → b ≤ A 4 1 → (up2 B 5 ((13 * i) + j) j) 5 (13 * a + b) = dst (mAt A 0) (mAt A 1) a b) := fun a b ha hb9 => by rw [up2_i (by omega)]; exact hrw a b ha hb9
                have hcl9 : (∀ b, b < (j + 1) → (up2 B 5 ((13 * i) + j) j) 5 (13 * i + b) = dst (mAt A 0) (mAt A 1) i b) := fun b hb9 => by
                  by_cases hbj : b = j
                  · subst hbj; rw [up2_s]; exact hval
                  · rw [up2_i (by omega)]; exact hcl b (by omega)
                have hl : lv_has ls 6 [(0, .ref r), (1, .int (nI i)), (2, .int (nI (j + 1)))] := lv_sub hl [4, 5, 0] rfl
                exact ih (j + 1, (up2 B 5 ((13 * i) + j) j)) ls _ _ ⟨hl, by omega, hM, hk9, hrw9, hcl9, hS, hL⟩ (by show _ - (j + 1) < _ - j; omega)
              · refine lv_iload hx hb d_Mo_distance_142 (lv_at hl 1 rfl) ?_
                refine lv_goto hx hb d_Mo_distance_144 (tgt := 148) rfl ?_
                refine lv_istore_n hx hb d_Mo_distance_148 rfl hl (by decide) rfl (fun ls hl => ?_)
                have hl : lv_has ls 6 [(3, .int (nI ((B 5 (((13 * i) + j) - 1)) + 1))), (5, .int (nI ((B 5 (((13 * i) + j) - 1)) + 1))), (4, .int (nI ((B 5 ((13 * (i - 1)) + j)) + 1))), (0, .ref r), (1, .int (nI i)), (2, .int (nI j))] := hl
                refine lv_aload_n hx hb d_Mo_distance_149 rfl (lv_at hl 3 rfl) ?_
                refine fg_Mo_22 hE hM.1 rfl d_Mo_distance_150 ?_
                refine lv_bipush (v := nI 13) hx hb d_Mo_distance_153 (by decide) ?_
                refine lv_iload_n hx hb d_Mo_distance_155 rfl (lv_at hl 4 rfl) ?_
                refine zz_imul hx hb d_Mo_distance_156 ?_
                refine lv_iload_n hx hb d_Mo_distance_157 rfl (lv_at hl 5 rfl) ?_
                refine zz_iadd hx hb d_Mo_distance_158 ?_
                refine lv_iload_n hx hb d_Mo_distance_159 rfl (lv_at hl 0 rfl) ?_
                refine mo_st hE hM hS hL 5 (by decide) (i := (13 * i) + j) (x := (B 5 (((13 * i) + j) - 1)) + 1) (show (13 * i) + j < 169 by omega) d_Mo_distance_160 (fun H locs hM hS hL => ?_)
                refine lv_iinc (k := 5) (v := nI (j + 1)) hx hb d_Mo_distance_161 hl rfl (zz_inc _) (by decide) rfl (fun ls hl => ?_)
                have hl : lv_has ls 6 [(2, .int (nI (j + 1))), (3, .int (nI ((B 5 (((13 * i) + j) - 1)) + 1))), (5, .int (nI ((B 5 (((13 * i) + j) - 1)) + 1))), (4, .int (nI ((B 5 ((13 * (i - 1)) + j)) + 1))), (0, .ref r), (1, .int (nI i))] := hl
                refine lv_goto hx hb d_Mo_distance_164 (tgt := 14) rfl ?_
                have hval : (B 5 (((13 * i) + j) - 1)) + 1 = dst (mAt A 0) (mAt A 1) i j := by
                  first
                    | (rw [show i = 0 by omega, dst_0]; done)
                    | (rw [show j = 0 by omega, dst_s0]; done)
                    | (rw [hd]; split <;> omega)
                    | omega
                have hk9 : ∀ k, k ≠ 5 → (up2 B 5 ((13 * i) + j) ((B 5 (((13 * i) + j) - 1)) + 1)) k = A k := fun k h5 => by funext x; rw [up2_k h5, hk k h5]
                have hrw9 : (∀ a b, a < i → b ≤ A 4 1 → (up2 B 5 ((13 * i) + j) ((B 5 (((13 * i) + j) - 1)) + 1)) 5 (13 * a + b) = dst (mAt A 0) (mAt A 1) a b) := fun a b ha hb9 => by rw [up2_i (by omega)]; exact hrw a b ha hb9
                have hcl9 : (∀ b, b < (j + 1) → (up2 B 5 ((13 * i) + j) ((B 5 (((13 * i) + j) - 1)) + 1)) 5 (13 * i + b) = dst (mAt A 0) (mAt A 1) i b) := fun b hb9 => by
                  by_cases hbj : b = j
                  · subst hbj; rw [up2_s]; exact hval
                  · rw [up2_i (by omega)]; exact hcl b (by omega)
                have hl : lv_has ls 6 [(0, .ref r), (1, .int (nI i)), (2, .int (nI (j + 1)))] := lv_sub hl [4, 5, 0] rfl
                exact ih (j + 1, (up2 B 5 ((13 * i) + j) ((B 5 (((13 * i) + j) - 1)) + 1))) ls _ _ ⟨hl, by omega, hM, hk9, hrw9, hcl9, hS, hL⟩ (by show _ - (j + 1) < _ - j; omega)
            · refine lv_iload hx hb d_Mo_distance_129 (lv_at hl 1 rfl) ?_
              refine lv_goto hx hb d_Mo_distance_131 (tgt := 135) rfl ?_
              refine lv_istore_n hx hb d_Mo_distance_135 rfl hl (by decide) rfl (fun ls hl => ?_)
              have hl : lv_has ls 6 [(3, .int (nI ((B 5 ((13 * (i - 1)) + j)) + 1))), (5, .int (nI ((B 5 (((13 * i) + j) - 1)) + 1))), (4, .int (nI ((B 5 ((13 * (i - 1)) + j)) + 1))), (0, .ref r), (1, .int (nI i)), (2, .int (nI j))] := hl
              refine lv_iload hx hb d_Mo_distance_136 (lv_at hl 1 rfl) ?_
              refine lv_iload_n hx hb d_Mo_distance_138 rfl (lv_at hl 0 rfl) ?_
              refine zz_ge hx hb (by omega) (by omega) d_Mo_distance_139 (tgt := 147) rfl (fun hT139 => ?_) (fun hF139 => ?_)
              · refine lv_iload_n hx hb d_Mo_distance_147 rfl (lv_at hl 0 rfl) ?_
                refine lv_istore_n hx hb d_Mo_distance_148 rfl hl (by decide) rfl (fun ls hl => ?_)
                have hl : lv_has ls 6 [(3, .int (nI ((B 5 ((13 * (i - 1)) + j)) + 1))), (5, .int (nI ((B 5 (((13 * i) + j) - 1)) + 1))), (4, .int (nI ((B 5 ((13 * (i - 1)) + j)) + 1))), (0, .ref r), (1, .int (nI i)), (2, .int (nI j))] := hl
                refine lv_aload_n hx hb d_Mo_distance_149 rfl (lv_at hl 3 rfl) ?_
                refine fg_Mo_22 hE hM.1 rfl d_Mo_distance_150 ?_
                refine lv_bipush (v := nI 13) hx hb d_Mo_distance_153 (by decide) ?_
                refine lv_iload_n hx hb d_Mo_distance_155 rfl (lv_at hl 4 rfl) ?_
                refine zz_imul hx hb d_Mo_distance_156 ?_
                refine lv_iload_n hx hb d_Mo_distance_157 rfl (lv_at hl 5 rfl) ?_
                refine zz_iadd hx hb d_Mo_distance_158 ?_
                refine lv_iload_n hx hb d_Mo_distance_159 rfl (lv_at hl 0 rfl) ?_
                refine mo_st hE hM hS hL 5 (by decide) (i := (13 * i) + j) (x := (B 5 ((13 * (i - 1)) + j)) + 1) (show (13 * i) + j < 169 by omega) d_Mo_distance_160 (fun H locs hM hS hL => ?_)
                refine lv_iinc (k := 5) (v := nI (j + 1)) hx hb d_Mo_distance_161 hl rfl (zz_inc _) (by decide) rfl (fun ls hl => ?_)
                have hl : lv_has ls 6 [(2, .int (nI (j + 1))), (3, .int (nI ((B 5 ((13 * (i - 1)) + j)) + 1))), (5, .int (nI ((B 5 (((13 * i) + j) - 1)) + 1))), (4, .int (nI ((B 5 ((13 * (i - 1)) + j)) + 1))), (0, .ref r), (1, .int (nI i))] := hl
                refine lv_goto hx hb d_Mo_distance_164 (tgt := 14) rfl ?_
                have hval : (B 5 ((13 * (i - 1)) + j)) + 1 = dst (mAt A 0) (mAt A 1) i j := by
                  first
                    | (rw [show i = 0 by omega, dst_0]; done)
                    | (rw [show j = 0 by omega, dst_s0]; done)
                    | (rw [hd]; split <;> omega)
                    | omega
                have hk9 : ∀ k, k ≠ 5 → (up2 B 5 ((13 * i) + j) ((B 5 ((13 * (i - 1)) + j)) + 1)) k = A k := fun k h5 => by funext x; rw [up2_k h5, hk k h5]
                have hrw9 : (∀ a b, a < i → b ≤ A 4 1 → (up2 B 5 ((13 * i) + j) ((B 5 ((13 * (i - 1)) + j)) + 1)) 5 (13 * a + b) = dst (mAt A 0) (mAt A 1) a b) := fun a b ha hb9 => by rw [up2_i (by omega)]; exact hrw a b ha hb9
                have hcl9 : (∀ b, b < (j + 1) → (up2 B 5 ((13 * i) + j) ((B 5 ((13 * (i - 1)) + j)) + 1)) 5 (13 * i + b) = dst (mAt A 0) (mAt A 1) i b) := fun b hb9 => by
                  by_cases hbj : b = j
                  · subst hbj; rw [up2_s]; exact hval
                  · rw [up2_i (by omega)]; exact hcl b (by omega)
                have hl : lv_has ls 6 [(0, .ref r), (1, .int (nI i)), (2, .int (nI (j + 1)))] := lv_sub hl [4, 5, 0] rfl
                exact ih (j + 1, (up2 B 5 ((13 * i) + j) ((B 5 ((13 * (i - 1)) + j)) + 1))) ls _ _ ⟨hl, by omega, hM, hk9, hrw9, hcl9, hS, hL⟩ (by show _ - (j + 1) < _ - j; omega)
              · refine lv_iload hx hb d_Mo_distance_142 (lv_at hl 1 rfl) ?_
                refine lv_goto hx hb d_Mo_distance_144 (tgt := 148) rfl ?_
                refine lv_istore_n hx hb d_Mo_distance_148 rfl hl (by decide) rfl (fun ls hl => ?_)
                have hl : lv_has ls 6 [(3, .int (nI ((B 5 (((13 * i) + j) - 1)) + 1))), (5, .int (nI ((B 5 (((13 * i) + j) - 1)) + 1))), (4, .int (nI ((B 5 ((13 * (i - 1)) + j)) + 1))), (0, .ref r), (1, .int (nI i)), (2, .int (nI j))] := hl
                refine lv_aload_n hx hb d_Mo_distance_149 rfl (lv_at hl 3 rfl) ?_
                refine fg_Mo_22 hE hM.1 rfl d_Mo_distance_150 ?_
                refine lv_bipush (v := nI 13) hx hb d_Mo_distance_153 (by decide) ?_
                refine lv_iload_n hx hb d_Mo_distance_155 rfl (lv_at hl 4 rfl) ?_
                refine zz_imul hx hb d_Mo_distance_156 ?_
                refine lv_iload_n hx hb d_Mo_distance_157 rfl (lv_at hl 5 rfl) ?_
                refine zz_iadd hx hb d_Mo_distance_158 ?_
                refine lv_iload_n hx hb d_Mo_distance_159 rfl (lv_at hl 0 rfl) ?_
                refine mo_st hE hM hS hL 5 (by decide) (i := (13 * i) + j) (x := (B 5 (((13 * i) + j) - 1)) + 1) (show (13 * i) + j < 169 by omega) d_Mo_distance_160 (fun H locs hM hS hL => ?_)
                refine lv_iinc (k := 5) (v := nI (j + 1)) hx hb d_Mo_distance_161 hl rfl (zz_inc _) (by decide) rfl (fun ls hl => ?_)
                have hl : lv_has ls 6 [(2, .int (nI (j + 1))), (3, .int (nI ((B 5 (((13 * i) + j) - 1)) + 1))), (5, .int (nI ((B 5 (((13 * i) + j) - 1)) + 1))), (4, .int (nI ((B 5 ((13 * (i - 1)) + j)) + 1))), (0, .ref r), (1, .int (nI i))] := hl
                refine lv_goto hx hb d_Mo_distance_164 (tgt := 14) rfl ?_
                have hval : (B 5 (((13 * i) + j) - 1)) + 1 = dst (mAt A 0) (mAt A 1) i j := by
                  first
                    | (rw [show i = 0 by omega, dst_0]; done)
                    | (rw [show j = 0 by omega, dst_s0]; done)
                    | (rw [hd]; split <;> omega)
                    | omega
                have hk9 : ∀ k, k ≠ 5 → (up2 B 5 ((13 * i) + j) ((B 5 (((13 * i) + j) - 1)) + 1)) k = A k := fun k h5 => by funext x; rw [up2_k h5, hk k h5]
                have hrw9 : (∀ a b, a < i → b ≤ A 4 1 → (up2 B 5 ((13 * i) + j) ((B 5 (((13 * i) + j) - 1)) + 1)) 5 (13 * a + b) = dst (mAt A 0) (mAt A 1) a b) := fun a b ha hb9 => by rw [up2_i (by omega)]; exact hrw a b ha hb9
                have hcl9 : (∀ b, b < (j + 1) → (up2 B 5 ((13 * i) + j) ((B 5 (((13 * i) + j) - 1)) + 1)) 5 (13 * i + b) = dst (mAt A 0) (mAt A 1) i b) := fun b hb9 => by
                  by_cases hbj : b = j
                  · subst hbj; rw [up2_s]; exact hval
                  · rw [up2_i (by omega)]; exact hcl b (by omega)
                have hl : lv_has ls 6 [(0, .ref r), (1, .int (nI i)), (2, .int (nI (j + 1)))] := lv_sub hl [4, 5, 0] rfl
                exact ih (j + 1, (up2 B 5 ((13 * i) + j) ((B 5 (((13 * i) + j) - 1)) + 1))) ls _ _ ⟨hl, by omega, hM, hk9, hrw9, hcl9, hS, hL⟩ (by show _ - (j + 1) < _ - j; omega)
end
section
/-! Texts as lists: what words and steps are, and that the reference's buffers say the same. -/
def tAt (L : List Nat) (i : Nat) : Nat := L.getD i 32
def lBg (L : List Nat) (i : Nat) : Bool := decide (tAt L i ≠ 32) && (decide (i = 0) || decide (tAt L (i - 1) = 32))
def lSwF (La : List Nat) (i : Nat) (Lb : List Nat) (j : Nat) : Nat → Nat → Bool
  | 0, _ => true
  | f + 1, k => if tAt La (i + k) = tAt Lb (j + k) ∧ tAt La (i + k) ≠ 32 then lSwF La i Lb j f (k + 1) else decide (tAt La (i + k) = tAt Lb (j + k))
def lSw (La : List Nat) (i : Nat) (Lb : List Nat) (j : Nat) : Bool := lSwF La i Lb j 13 0
def lSt (La : List Nat) (i : Nat) (Lb : List Nat) : Nat → Bool := zany (fun j => lBg Lb j && lSw La i Lb j)
def lIn (La Lb : List Nat) (both : Bool) : Nat := zcnt (fun i => lBg La i && !(lSt La i La i) && (!both || lSt La i Lb Lb.length)) La.length
def lEd (La Lb : List Nat) : Nat := dst (tAt La) (tAt Lb) La.length Lb.length
/-- whether a comparison holds of two texts -/
def leafV (kd nu de : Nat) (La Lb : List Nat) : Bool := if kd = 1 then decide (lEd La Lb ≤ de) else decide (0 < lIn La La false + lIn Lb Lb false - lIn La Lb true) && decide (nu * (lIn La La false + lIn Lb Lb false - lIn La Lb true) ≤ lIn La Lb true * de)
theorem mSwF_eq {A : Nat → Nat → Nat} {a b i j : Nat} {La Lb : List Nat} (ha : mAt A a = tAt La) (hb : mAt A b = tAt Lb) : ∀ f k, mSwF A a i b j f k = lSwF La i Lb j f k
  | 0, k => rfl
  | f + 1, k => by
    simp only [mSwF, lSwF]
    rw [ha, hb, mSwF_eq ha hb f (k + 1)]
theorem mSt_eq {A : Nat → Nat → Nat} {a b i : Nat} {La Lb : List Nat} (ha : mAt A a = tAt La) (hb : mAt A b = tAt Lb) (n : Nat) : mSt A a i b n = lSt La i Lb n := by
  refine zany_congr fun j _ => ?_
  simp only [mBg, mSw, lBg, lSw]
  rw [mSwF_eq ha hb, hb]
theorem mIn_eq {A : Nat → Nat → Nat} {a b : Nat} {La Lb : List Nat} {both : Bool} (ha : mAt A a = tAt La) (hb : mAt A b = tAt Lb) (h4a : A 4 a = La.length) (h4b : A 4 b = Lb.length) : mIn A a b both (A 4 a) = lIn La Lb both := by
  rw [h4a]
  refine zcnt_congr fun i _ => ?_
  rw [mSt_eq ha ha, mSt_eq ha hb, h4b]
  simp only [mBg, lBg]
  rw [ha]
theorem zcnt_mono {P Q : Nat → Bool} : ∀ {n : Nat}, (∀ i, i < n → P i = true → Q i = true) → zcnt P n ≤ zcnt Q n
  | 0, _ => Nat.le_refl _
  | n + 1, h => by
    have h1 := zcnt_mono (n := n) (fun i hi => h i (by omega))
    have h2 := h n (by omega)
    simp only [zcnt]
    cases hp : P n
    · simp; omega
    · rw [h2 hp]; simp; omega
theorem mIn_mono (A : Nat → Nat → Nat) (a b b2 n : Nat) : mIn A a b true n ≤ mIn A a b2 false n := zcnt_mono fun i _ h => by
  simp only [Bool.and_eq_true] at h
  simp [h.1.1, h.1.2]
/-- the normal text of a record's field, and of the draft's (record 12) -/
def mTx (A : Nat → Nat → Nat) (rr f : Nat) : List Nat := (nfS (fun i => A 1 (12 * (2 * rr + f) + i)) (A 2 (2 * rr + f))).1
/-- the bounds of what the arrays hold -/
def mOk (A : Nat → Nat → Nat) : Prop := (∀ j, j < 312 → A 1 j < 256) ∧ (∀ j, j < 26 → A 2 j ≤ 12) ∧ (∀ j, j < 24 → A 3 j < 256) ∧ (∀ j, j < 2 → A 4 j ≤ 12) ∧ (∀ j, j < 24 → A 15 j ≤ 1)
/-- only the scratch arrays are other -/
def mS (A B : Nat → Nat → Nat) : Prop := mOk B ∧ ∀ k, k ≠ 3 → k ≠ 4 → k ≠ 5 → k ≠ 15 → B k = A k
theorem mS.rf {A : Nat → Nat → Nat} (h : mOk A) : mS A A := ⟨h, fun _ _ _ _ _ => rfl⟩
theorem mS.tr {A B C : Nat → Nat → Nat} (h1 : mS A B) (h2 : mS B C) : mS A C := ⟨h2.1, fun k a b c d => (h2.2 k a b c d).trans (h1.2 k a b c d)⟩
theorem mS.tx {A B : Nat → Nat → Nat} (h : mS A B) (rr f : Nat) : mTx B rr f = mTx A rr f := by
  unfold mTx
  rw [h.2 1 (by decide) (by decide) (by decide) (by decide), h.2 2 (by decide) (by decide) (by decide) (by decide)]
theorem nfS_lt {c : Nat → Nat} : ∀ {i : Nat}, (∀ j, j < i → c j < 256) → ∀ x ∈ (nfS c i).1, x < 256
  | 0, _, x, hx => by simp [nfS] at hx
  | i + 1, h, x, hx => by
    have ih := nfS_lt (c := c) (i := i) (fun j hj => h j (by omega))
    have h1 := mLet_lt (h i (by omega))
    simp only [nfS] at hx
    split at hx
    · exact ih x hx
    · split at hx
      · simp at hx
        rcases hx with hx | hx | hx
        · exact ih x hx
        · omega
        · omega
      · simp at hx
        rcases hx with hx | hx
        · exact ih x hx
        · omega
theorem nfS_le (c : Nat → Nat) (i : Nat) : (nfS c i).1.length ≤ i := by
  have h := nfS_len c i
  omega
theorem mTx_lt {A : Nat → Nat → Nat} {rr f : Nat} (h : mOk A) (hr : rr ≤ 12) (hf : f ≤ 1) : (mTx A rr f).length ≤ 12 ∧ ∀ x ∈ mTx A rr f, x < 256 := by
  have h2 := h.2.1 (2 * rr + f) (by omega)
  refine ⟨Nat.le_trans (nfS_le _ _) h2, nfS_lt fun j hj => h.1 _ (by omega)⟩
theorem mLook_ok {A B : Nat → Nat → Nat} {q rr f : Nat} (h : mOk A) (hq : q ≤ 1) (hr : rr ≤ 12) (hf : f ≤ 1) (hB : mLook A B q (mTx A rr f)) : mS A B ∧ mAt B q = tAt (mTx A rr f) ∧ B 4 q = (mTx A rr f).length ∧ ∀ q2, q2 ≤ 1 → q2 ≠ q → mAt B q2 = mAt A q2 ∧ B 4 q2 = A 4 q2 := by
  obtain ⟨hl, hx⟩ := mTx_lt h hr hf
  generalize mTx A rr f = L at hB hl hx ⊢
  obtain ⟨b1, b2, b3, b4, b5⟩ := hB
  have e1 := b1 1 (by decide) (by decide)
  have e2 := b1 2 (by decide) (by decide)
  have e15 := b1 15 (by decide) (by decide)
  refine ⟨⟨⟨?_, ?_, ?_, ?_, ?_⟩, fun k k3 k4 _ _ => b1 k k3 k4⟩, ?_, b2, fun q2 hq2 hne => ⟨?_, b3 q2 hne⟩⟩
  · rw [e1]; exact h.1
  · rw [e2]; exact h.2.1
  · intro j hj
    by_cases hin : 12 * q ≤ j ∧ j < 12 * q + 12
    · by_cases hjl : j - 12 * q < L.length
      · have e := b4 (j - 12 * q) hjl
        rw [show 12 * q + (j - 12 * q) = j by omega] at e
        rw [e, List.getD_eq_getElem?_getD, List.getElem?_eq_getElem hjl]
        exact hx _ (List.getElem_mem hjl)
      · rw [b5 j (by omega)]; exact h.2.2.1 j hj
    · rw [b5 j (by omega)]; exact h.2.2.1 j hj
  · intro j hj
    by_cases hjq : j = q
    · subst hjq; rw [b2]; exact hl
    · rw [b3 j hjq]; exact h.2.2.2.1 j hj
  · rw [e15]; exact h.2.2.2.2
  · funext i
    unfold mAt tAt
    rw [b2]
    by_cases hi : i < L.length
    · rw [if_pos hi, b4 i hi, List.getD_eq_getElem?_getD, List.getD_eq_getElem?_getD, List.getElem?_eq_getElem hi]
      rfl
    · rw [if_neg hi, List.getD_eq_getElem?_getD, List.getElem?_eq_none (by omega)]
      rfl
  · funext i
    have h4 := h.2.2.2.1 q2 (by omega)
    unfold mAt
    rw [b3 q2 hne]
    by_cases hi : i < A 4 q2
    · rw [if_pos hi, if_pos hi, b5 _ (by omega)]
    · rw [if_neg hi, if_neg hi]
/-! The little machine of marks: a stack of truth values, the top first. -/
def smS (kd : Nat → Nat) (lf : Nat → Bool) (op : Nat → Bool → Bool → Bool) : Nat → List Bool
  | 0 => []
  | k + 1 => if kd k < 2 then lf k :: smS kd lf op k else match smS kd lf op k with
    | b :: a :: T => op (kd k) a b :: T
    | T => T
/-- how high the stack is -/
def smD (kd : Nat → Nat) : Nat → Nat
  | 0 => 0
  | k + 1 => if kd k < 2 then smD kd k + 1 else smD kd k - 1
/-- the marks below m are of an expression, or of a beginning of one: no value is wanting, and there are at most twelve at once -/
def smW (kd : Nat → Nat) (m : Nat) : Prop := ∀ k, k < m → kd k < 4 ∧ (2 ≤ kd k → 2 ≤ smD kd k) ∧ smD kd (k + 1) ≤ 12
theorem smS_len {kd : Nat → Nat} {lf : Nat → Bool} {op : Nat → Bool → Bool → Bool} {m : Nat} (hw : smW kd m) : ∀ k, k ≤ m → (smS kd lf op k).length = smD kd k
  | 0, _ => rfl
  | k + 1, h => by
    have ih := smS_len (lf := lf) (op := op) hw k (by omega)
    obtain ⟨-, h2, -⟩ := hw k (by omega)
    simp only [smS, smD]
    by_cases hk : kd k < 2
    · rw [if_pos hk, if_pos hk, List.length_cons, ih]
    · rw [if_neg hk, if_neg hk]
      have h3 := h2 (by omega)
      rw [← ih] at h3 ⊢
      match hS : smS kd lf op k, h3 with
      | b :: a :: T, _ => simp
theorem smS_leaf {kd : Nat → Nat} {lf : Nat → Bool} {op : Nat → Bool → Bool → Bool} {k : Nat} (h : kd k < 2) : smS kd lf op (k + 1) = lf k :: smS kd lf op k := by simp only [smS]; rw [if_pos h]
theorem smS_bin {kd : Nat → Nat} {lf : Nat → Bool} {op : Nat → Bool → Bool → Bool} {k : Nat} {a b : Bool} {T : List Bool} (h : ¬ kd k < 2) (hS : smS kd lf op k = b :: a :: T) : smS kd lf op (k + 1) = op (kd k) a b :: T := by simp only [smS]; rw [if_neg h, hS]
/-- the array holds the stack, the top last -/
def smR (g : Nat → Nat) (S : List Bool) : Prop := ∀ i, i < S.length → g i = (S.getD (S.length - 1 - i) false).toNat
theorem smR_0 (g : Nat → Nat) : smR g [] := fun i h => absurd h (Nat.not_lt_zero _)
theorem smR_push {B : Nat → Nat → Nat} {S : List Bool} {b : Bool} (h : smR (B 15) S) : smR (up2 B 15 S.length b.toNat 15) (b :: S) := by
  intro i hi
  simp only [List.length_cons] at hi ⊢
  by_cases h1 : i = S.length
  · subst h1
    rw [up2_s]
    simp
  · rw [up2_i h1, h i (by omega), show S.length + 1 - 1 - i = (S.length - 1 - i) + 1 by omega]
    simp
theorem smR_top {g : Nat → Nat} {S : List Bool} (h : smR g S) (h2 : 2 ≤ S.length) : ∃ a b T, S = b :: a :: T ∧ g (S.length - 1 - 1) = a.toNat ∧ g (S.length - 1) = b.toNat := by
  match S, h2 with
  | b :: a :: T, _ =>
    refine ⟨a, b, T, rfl, ?_, ?_⟩
    · rw [h _ (by simp only [List.length_cons]; omega)]; simp
    · rw [h _ (by simp only [List.length_cons]; omega)]; simp
theorem smR_bin {B : Nat → Nat → Nat} {a b v : Bool} {T : List Bool} (h : smR (B 15) (b :: a :: T)) : smR (up2 B 15 ((b :: a :: T).length - 1 - 1) v.toNat 15) (v :: T) := by
  intro i hi
  simp only [List.length_cons] at hi ⊢
  by_cases h1 : i = T.length
  · subst h1
    rw [show T.length + 1 + 1 - 1 - 1 = T.length by omega, up2_s]
    simp
  · rw [up2_i (by omega), h i (by simp; omega)]
    simp only [List.length_cons]
    rw [show T.length + 1 + 1 - 1 - i = (T.length - 1 - i) + 1 + 1 by omega, show T.length + 1 - 1 - i = (T.length - 1 - i) + 1 by omega]
    simp
def opH (kd : Nat) (a b : Bool) : Bool := if kd = 2 then a && b else a || b
def opD (kd : Nat) (a b : Bool) : Bool := if kd = 2 then a || b else a && b
end
section
section ZC2
variable {p : Program} {l : Launch} {e : Env} {R : Room} {s : State} {m : MethodId} {args : Array Value} {below : List Frame} {meth : Method} {c : Code} {H : Heap} {locs : List Loc} {cells slots : Nat} {Q : State → Prop}
variable {pc : Nat} {ls : Array Slot} {rest st0 : List Value} {F : Nat → Prop} {P : Heap → Heap → Prop} {mc ms : Nat} {av : Array Value} {free : Addr → Prop}
theorem zz_callN (hr : va_Run p l e R s m args below meth c H locs cells slots mc ms (F0 m pc ls st0) rest (zz_Q (fun H H1 v => v = none ∧ P H H1) av) free) (hL : zz_L F locs) (hF : ∀ q : Nat, free q → F q)
    (kk : ∀ (H1 : Heap) (locs1 : List Loc), P H H1 → zz_L F locs1 → W p l e R s m args below meth c H1 locs1 (cells + mc) (slots + ms) Q (F0 m (pc + 3) ls rest)) : W p l e R s m args below meth c H locs cells slots Q (F0 m pc ls st0) :=
  zz_call hr hL hF fun v H1 locs1 h hL1 => by
    obtain ⟨rfl, h⟩ := h
    exact kk H1 locs1 h hL1
theorem zz_callI {x : Int32} (hr : va_Run p l e R s m args below meth c H locs cells slots mc ms (F0 m pc ls st0) rest (zz_Q (fun H H1 v => v = some (.int x) ∧ P H H1) av) free) (hL : zz_L F locs) (hF : ∀ q : Nat, free q → F q)
    (kk : ∀ (H1 : Heap) (locs1 : List Loc), P H H1 → zz_L F locs1 → W p l e R s m args below meth c H1 locs1 (cells + mc) (slots + ms) Q (F0 m (pc + 3) ls (.int x :: rest))) : W p l e R s m args below meth c H locs cells slots Q (F0 m pc ls st0) :=
  zz_call hr hL hF fun v H1 locs1 h hL1 => by
    obtain ⟨rfl, h⟩ := h
    exact kk H1 locs1 h hL1
theorem zz_callA {x : Nat} (hr : va_Run p l e R s m args below meth c H locs cells slots mc ms (F0 m pc ls st0) rest (zz_Q (fun H H1 v => v = some (.ref x) ∧ P H H1) av) free) (hL : zz_L F locs) (hF : ∀ q : Nat, free q → F q)
    (kk : ∀ (H1 : Heap) (locs1 : List Loc), P H H1 → zz_L F locs1 → W p l e R s m args below meth c H1 locs1 (cells + mc) (slots + ms) Q (F0 m (pc + 3) ls (.ref x :: rest))) : W p l e R s m args below meth c H locs cells slots Q (F0 m pc ls st0) :=
  zz_call hr hL hF fun v H1 locs1 h hL1 => by
    obtain ⟨rfl, h⟩ := h
    exact kk H1 locs1 h hL1
end ZC2
theorem zmul_le {a b c d : Nat} (h1 : a ≤ c) (h2 : b ≤ d) : a * b ≤ c * d := Nat.mul_le_mul h1 h2
theorem mIn_le (A : Nat → Nat → Nat) (a b : Nat) (both : Bool) (n : Nat) : mIn A a b both n ≤ n := zcnt_le _ n

set_option maxHeartbeats 4000000 in
set_option maxRecDepth 100000 in
theorem k_Mo_leafHolds (l : Launch) (D : va_G) (ca : Nat → ClassId) (r n t rs w : Nat) (A : Nat → Nat → Nat) (k j rr : Nat) (hk : k < 24) (hj : j ≤ 12) (hrr : rr ≤ 12) (okA : mOk A) (hkd : A 11 k < 4) (hfl : A 12 k ≤ 1) (hnu : A 13 k ≤ 100) (hdn : A 14 k ≤ 100) : Met l y_Mo_leafHolds w_Mo_leafHolds (zr 4 0 0) (zz_P D ca [.ref r, .int (nI k), .int (nI j), .int (nI rr)] (fun H => MoAt D ca H r n t rs w A)) (zz_Q (fun H H1 v => v = some (.int (nI (leafV (A 11 k) (A 13 k) (A 14 k) (mTx A j (A 12 k)) (mTx A rr (A 12 k))).toNat)) ∧ zz_fr (moFr r) H H1 ∧ ∃ B, MoAt D ca H1 r n t rs w B ∧ mS A B)) 0 0 (moFr r) := by
  refine zz_met (cc := c_Mo_leafHolds) (by decide) (Nat.le_of_ble_eq_true rfl) ?_
  intro p e s m below meth c ls hE hr hlk hnm hM hl
  have hx := hE.1.1
  have hb := hE.1.2.1
  have hK := hE.2
  have hl : lv_has ls 6 [(0, .ref r), (1, .int (nI k)), (2, .int (nI j)), (3, .int (nI rr))] := hl
  have hL : zz_L (moFr r) ([] : List Loc) := zz_L.nil
  have hS : zz_fr (moFr r) s.heap s.heap := zz_fr.rf
  refine lv_aload_n hx hb d_Mo_leafHolds_0 rfl (lv_at hl 0 rfl) ?_
  refine lv_iconst (v := nI 0) hx hb d_Mo_leafHolds_1 (by decide) ?_
  refine lv_iload_n hx hb d_Mo_leafHolds_2 rfl (lv_at hl 2 rfl) ?_
  refine lv_aload_n hx hb d_Mo_leafHolds_3 rfl (lv_at hl 0 rfl) ?_
  refine fg_Mo_43 hE hM.1 rfl d_Mo_leafHolds_4 ?_
  refine lv_iload_n hx hb d_Mo_leafHolds_7 rfl (lv_at hl 1 rfl) ?_
  refine mo_ld hE hM 12 (by decide) (i := k) (show k < 24 by omega) d_Mo_leafHolds_8 ?_
  refine zz_callN (cl_Mo_98 (rest := []) hE (k_Mo_look l D ca r n t rs w A 0 j (A 12 k) (by decide) (by omega) (by omega) (okA.2.1 _ (by omega)) okA.1) ⟨rfl, rfl, by decide, by decide⟩ hM hM.1 rfl hl.1 rfl (Nat.le_of_ble_eq_true rfl) d_Mo_leafHolds_9 ⟨by decide, by decide⟩) hL (fun _ h => h) (fun H locs hpost hL => ?_)
  obtain ⟨hfrB1, B1, hM, hlkB1⟩ := hpost
  have hS := hS.tr hfrB1
  obtain ⟨msB1, atB1, lnB1, otB1⟩ := mLook_ok (q := 0) (rr := j) (f := A 12 k) okA (by decide) (by omega) (by omega) hlkB1
  have okB1 := msB1.1
  have e11B1 : B1 11 k = A 11 k := congrFun (msB1.2 11 (by decide) (by decide) (by decide) (by decide)) k
  have e12B1 : B1 12 k = A 12 k := congrFun (msB1.2 12 (by decide) (by decide) (by decide) (by decide)) k
  have e13B1 : B1 13 k = A 13 k := congrFun (msB1.2 13 (by decide) (by decide) (by decide) (by decide)) k
  have e14B1 : B1 14 k = A 14 k := congrFun (msB1.2 14 (by decide) (by decide) (by decide) (by decide)) k
  refine lv_aload_n hx hb d_Mo_leafHolds_12 rfl (lv_at hl 0 rfl) ?_
  refine lv_iconst (v := nI 1) hx hb d_Mo_leafHolds_13 (by decide) ?_
  refine lv_iload_n hx hb d_Mo_leafHolds_14 rfl (lv_at hl 3 rfl) ?_
  refine lv_aload_n hx hb d_Mo_leafHolds_15 rfl (lv_at hl 0 rfl) ?_
  refine fg_Mo_43 hE hM.1 rfl d_Mo_leafHolds_16 ?_
  refine lv_iload_n hx hb d_Mo_leafHolds_19 rfl (lv_at hl 1 rfl) ?_
  refine mo_ld hE hM 12 (by decide) (i := k) (show k < 24 by omega) d_Mo_leafHolds_20 ?_
  refine zz_callN (cl_Mo_98 (rest := []) hE (k_Mo_look l D ca r n t rs w B1 1 rr (B1 12 k) (by decide) (by omega) (by omega) (okB1.2.1 _ (by omega)) okB1.1) ⟨rfl, rfl, by decide, by decide⟩ hM hM.1 rfl hl.1 rfl (Nat.le_of_ble_eq_true rfl) d_Mo_leafHolds_21 ⟨by decide, by decide⟩) hL (fun _ h => h) (fun H locs hpost hL => ?_)
  obtain ⟨hfrB2, B2, hM, hlkB2⟩ := hpost
  have hS := hS.tr hfrB2
  obtain ⟨msB2, atB2, lnB2, otB2⟩ := mLook_ok (q := 1) (rr := rr) (f := B1 12 k) okB1 (by decide) (by omega) (by omega) hlkB2
  have okB2 := msB2.1
  have e11B2 : B2 11 k = B1 11 k := congrFun (msB2.2 11 (by decide) (by decide) (by decide) (by decide)) k
  have e12B2 : B2 12 k = B1 12 k := congrFun (msB2.2 12 (by decide) (by decide) (by decide) (by decide)) k
  have e13B2 : B2 13 k = B1 13 k := congrFun (msB2.2 13 (by decide) (by decide) (by decide) (by decide)) k
  have e14B2 : B2 14 k = B1 14 k := congrFun (msB2.2 14 (by decide) (by decide) (by decide) (by decide)) k
  have a0 : mAt B2 0 = tAt (mTx A j (A 12 k)) := by rw [(otB2 0 (by decide) (by decide)).1, atB1]
  have l0 : B2 4 0 = (mTx A j (A 12 k)).length := by rw [(otB2 0 (by decide) (by decide)).2, lnB1]
  have a1 : mAt B2 1 = tAt (mTx A rr (A 12 k)) := by rw [atB2, msB1.tx, e12B1]
  have l1 : B2 4 1 = (mTx A rr (A 12 k)).length := by rw [lnB2, msB1.tx, e12B1]
  have s0 := okB2.2.2.2.1 0 (by decide)
  have s1 := okB2.2.2.2.1 1 (by decide)
  refine lv_aload_n hx hb d_Mo_leafHolds_24 rfl (lv_at hl 0 rfl) ?_
  refine fg_Mo_40 hE hM.1 rfl d_Mo_leafHolds_25 ?_
  refine lv_iload_n hx hb d_Mo_leafHolds_28 rfl (lv_at hl 1 rfl) ?_
  refine mo_ld hE hM 11 (by decide) (i := k) (show k < 24 by omega) d_Mo_leafHolds_29 ?_
  refine lv_iconst (v := nI 1) hx hb d_Mo_leafHolds_30 (by decide) ?_
  refine zz_ne hx hb (by omega) (by omega) d_Mo_leafHolds_31 (tgt := 53) rfl (fun hT31 => ?_) (fun hF31 => ?_)
  · have i1 := mIn_eq (both := true) a0 a1 l0 l1
    have i2 := mIn_eq (both := false) a0 a0 l0 l0
    have i3 := mIn_eq (both := false) a1 a1 l1 l1
    have i4 := mIn_le B2 0 1 true (B2 4 0)
    have i5 := mIn_le B2 0 0 false (B2 4 0)
    have i6 := mIn_le B2 1 1 false (B2 4 1)
    have i7 := mIn_mono B2 0 1 0 (B2 4 0)
    refine lv_aload_n hx hb d_Mo_leafHolds_53 rfl (lv_at hl 0 rfl) ?_
    refine lv_iconst (v := nI 0) hx hb d_Mo_leafHolds_54 (by decide) ?_
    refine lv_iconst (v := nI 1) hx hb d_Mo_leafHolds_55 (by decide) ?_
    refine lv_iconst (v := nI 1) hx hb d_Mo_leafHolds_56 (by decide) ?_
    refine zz_callP (cl_Mo_102 (rest := []) hE (k_Mo_inSet l D ca r n t rs w B2 0 1 true (by decide) (by decide) s0 s1 okB2.2.2.1) ⟨rfl, rfl, by decide, by decide⟩ hM hM.1 rfl hl.1 rfl (Nat.le_of_ble_eq_true rfl) d_Mo_leafHolds_57 ⟨by decide, by decide⟩) ?_
    refine lv_istore hx hb d_Mo_leafHolds_60 hl (by decide) rfl (fun ls hl => ?_)
    have hl : lv_has ls 6 [(4, .int (nI (mIn B2 0 1 true (B2 4 0)))), (0, .ref r), (1, .int (nI k)), (2, .int (nI j)), (3, .int (nI rr))] := hl
    refine lv_aload_n hx hb d_Mo_leafHolds_62 rfl (lv_at hl 1 rfl) ?_
    refine lv_iconst (v := nI 0) hx hb d_Mo_leafHolds_63 (by decide) ?_
    refine lv_iconst (v := nI 0) hx hb d_Mo_leafHolds_64 (by decide) ?_
    refine lv_iconst (v := nI 0) hx hb d_Mo_leafHolds_65 (by decide) ?_
    refine zz_callP (cl_Mo_102 (rest := []) hE (k_Mo_inSet l D ca r n t rs w B2 0 0 false (by decide) (by decide) s0 s0 okB2.2.2.1) ⟨rfl, rfl, by decide, by decide⟩ hM hM.1 rfl hl.1 rfl (Nat.le_of_ble_eq_true rfl) d_Mo_leafHolds_66 ⟨by decide, by decide⟩) ?_
    refine lv_aload_n hx hb d_Mo_leafHolds_69 rfl (lv_at hl 1 rfl) ?_
    refine lv_iconst (v := nI 1) hx hb d_Mo_leafHolds_70 (by decide) ?_
    refine lv_iconst (v := nI 1) hx hb d_Mo_leafHolds_71 (by decide) ?_
    refine lv_iconst (v := nI 0) hx hb d_Mo_leafHolds_72 (by decide) ?_
    refine zz_callP (cl_Mo_102 (rest := [.int (nI (mIn B2 0 0 false (B2 4 0)))]) hE (k_Mo_inSet l D ca r n t rs w B2 1 1 false (by decide) (by decide) s1 s1 okB2.2.2.1) ⟨rfl, rfl, by decide, by decide⟩ hM hM.1 rfl hl.1 rfl (Nat.le_of_ble_eq_true rfl) d_Mo_leafHolds_73 ⟨by decide, by decide⟩) ?_
    refine zz_iadd hx hb d_Mo_leafHolds_76 ?_
    refine lv_iload hx hb d_Mo_leafHolds_77 (lv_at hl 0 rfl) ?_
    refine zz_isub (by omega) hx hb d_Mo_leafHolds_79 ?_
    refine lv_istore hx hb d_Mo_leafHolds_80 hl (by decide) rfl (fun ls hl => ?_)
    have hl : lv_has ls 6 [(5, .int (nI (((mIn B2 0 0 false (B2 4 0)) + (mIn B2 1 1 false (B2 4 1))) - (mIn B2 0 1 true (B2 4 0))))), (4, .int (nI (mIn B2 0 1 true (B2 4 0)))), (0, .ref r), (1, .int (nI k)), (2, .int (nI j)), (3, .int (nI rr))] := hl
    refine lv_iload hx hb d_Mo_leafHolds_82 (lv_at hl 0 rfl) ?_
    refine zz_le0 hx hb (by omega) d_Mo_leafHolds_84 (tgt := 112) rfl (fun hT84 => ?_) (fun hF84 => ?_)
    · refine lv_iconst (v := nI 0) hx hb d_Mo_leafHolds_112 (by decide) ?_
      have hval : leafV (A 11 k) (A 13 k) (A 14 k) (mTx A j (A 12 k)) (mTx A rr (A 12 k)) = false := by
          unfold leafV; rw [if_neg (by omega)]
          simp; omega
      exact zz_iret hx hb hr hlk rfl ⟨by rw [hval]; rfl, hS, _, hM, (msB1.tr msB2)⟩ hL d_Mo_leafHolds_113
    · have p1 := zmul_le i4 (show B2 14 k ≤ 100 by omega)
      have p2 := zmul_le (show B2 13 k ≤ 100 by omega) (show mIn B2 0 0 false (B2 4 0) + mIn B2 1 1 false (B2 4 1) - mIn B2 0 1 true (B2 4 0) ≤ 24 by omega)
      have p3 := zmul_le s0 (Nat.le_refl 100)
      refine lv_iload hx hb d_Mo_leafHolds_87 (lv_at hl 1 rfl) ?_
      refine lv_aload_n hx hb d_Mo_leafHolds_89 rfl (lv_at hl 2 rfl) ?_
      refine fg_Mo_49 hE hM.1 rfl d_Mo_leafHolds_90 ?_
      refine lv_iload_n hx hb d_Mo_leafHolds_93 rfl (lv_at hl 3 rfl) ?_
      refine mo_ld hE hM 14 (by decide) (i := k) (show k < 24 by omega) d_Mo_leafHolds_94 ?_
      refine zz_imul hx hb d_Mo_leafHolds_95 ?_
      refine lv_aload_n hx hb d_Mo_leafHolds_96 rfl (lv_at hl 2 rfl) ?_
      refine fg_Mo_46 hE hM.1 rfl d_Mo_leafHolds_97 ?_
      refine lv_iload_n hx hb d_Mo_leafHolds_100 rfl (lv_at hl 3 rfl) ?_
      refine mo_ld hE hM 13 (by decide) (i := k) (show k < 24 by omega) d_Mo_leafHolds_101 ?_
      refine lv_iload hx hb d_Mo_leafHolds_102 (lv_at hl 0 rfl) ?_
      refine zz_imul hx hb d_Mo_leafHolds_104 ?_
      refine zz_lt hx hb (by omega) (by omega) d_Mo_leafHolds_105 (tgt := 112) rfl (fun hT105 => ?_) (fun hF105 => ?_)
      · refine lv_iconst (v := nI 0) hx hb d_Mo_leafHolds_112 (by decide) ?_
        have hval : leafV (A 11 k) (A 13 k) (A 14 k) (mTx A j (A 12 k)) (mTx A rr (A 12 k)) = false := by
            unfold leafV; rw [if_neg (by omega)]
            have z1 : 0 < lIn (mTx A j (A 12 k)) (mTx A j (A 12 k)) false + lIn (mTx A rr (A 12 k)) (mTx A rr (A 12 k)) false - lIn (mTx A j (A 12 k)) (mTx A rr (A 12 k)) true := by omega
            rw [decide_eq_true z1, Bool.true_and]
            rw [e13B2, e13B1, e14B2, e14B1, i1, i2, i3] at hT105
            simp; omega
        exact zz_iret hx hb hr hlk rfl ⟨by rw [hval]; rfl, hS, _, hM, (msB1.tr msB2)⟩ hL d_Mo_leafHolds_113
      · refine lv_iconst (v := nI 1) hx hb d_Mo_leafHolds_108 (by decide) ?_
        refine lv_goto hx hb d_Mo_leafHolds_109 (tgt := 113) rfl ?_
        have hval : leafV (A 11 k) (A 13 k) (A 14 k) (mTx A j (A 12 k)) (mTx A rr (A 12 k)) = true := by
            unfold leafV; rw [if_neg (by omega)]
            have z1 : 0 < lIn (mTx A j (A 12 k)) (mTx A j (A 12 k)) false + lIn (mTx A rr (A 12 k)) (mTx A rr (A 12 k)) false - lIn (mTx A j (A 12 k)) (mTx A rr (A 12 k)) true := by omega
            rw [decide_eq_true z1, Bool.true_and]
            rw [e13B2, e13B1, e14B2, e14B1, i1, i2, i3] at hF105
            simp; omega
        exact zz_iret hx hb hr hlk rfl ⟨by rw [hval]; rfl, hS, _, hM, (msB1.tr msB2)⟩ hL d_Mo_leafHolds_113
  · refine lv_aload_n hx hb d_Mo_leafHolds_34 rfl (lv_at hl 0 rfl) ?_
    refine zz_callI (cl_Mo_133 (rest := []) hE (k_Mo_distance l D ca r n t rs w B2 s0 s1 okB2.2.2.1) ⟨rfl, rfl, by decide, by decide⟩ hM hM.1 rfl hl.1 rfl (Nat.le_of_ble_eq_true rfl) d_Mo_leafHolds_35 ⟨by decide, by decide⟩) hL (fun _ h => h) (fun H locs hpost hL => ?_)
    obtain ⟨hfrB3, B3, hM, hk5⟩ := hpost
    have hS := hS.tr hfrB3
    have e14B3 : B3 14 k = B2 14 k := congrFun (hk5 14 (by decide)) k
    have msB3 : mS B2 B3 := ⟨⟨by rw [hk5 1 (by decide)]; exact okB2.1, by rw [hk5 2 (by decide)]; exact okB2.2.1, by rw [hk5 3 (by decide)]; exact okB2.2.2.1, by rw [hk5 4 (by decide)]; exact okB2.2.2.2.1, by rw [hk5 15 (by decide)]; exact okB2.2.2.2.2⟩, fun k _ _ h _ => hk5 k h⟩
    have hdl := dst_le (mAt B2 0) (mAt B2 1) (B2 4 0) (B2 4 1)
    have hde : dst (mAt B2 0) (mAt B2 1) (B2 4 0) (B2 4 1) = lEd (mTx A j (A 12 k)) (mTx A rr (A 12 k)) := by rw [a0, a1, l0, l1]; rfl
    refine lv_aload_n hx hb d_Mo_leafHolds_38 rfl (lv_at hl 0 rfl) ?_
    refine fg_Mo_49 hE hM.1 rfl d_Mo_leafHolds_39 ?_
    refine lv_iload_n hx hb d_Mo_leafHolds_42 rfl (lv_at hl 1 rfl) ?_
    refine mo_ld hE hM 14 (by decide) (i := k) (show k < 24 by omega) d_Mo_leafHolds_43 ?_
    refine zz_gt hx hb (by omega) (by omega) d_Mo_leafHolds_44 (tgt := 51) rfl (fun hT44 => ?_) (fun hF44 => ?_)
    · refine lv_iconst (v := nI 0) hx hb d_Mo_leafHolds_51 (by decide) ?_
      have hval : leafV (A 11 k) (A 13 k) (A 14 k) (mTx A j (A 12 k)) (mTx A rr (A 12 k)) = false := by
          unfold leafV; rw [if_pos (by omega), ← hde]; simp; omega
      exact zz_iret hx hb hr hlk rfl ⟨by rw [hval]; rfl, hS, _, hM, (msB1.tr (msB2.tr msB3))⟩ hL d_Mo_leafHolds_52
    · refine lv_iconst (v := nI 1) hx hb d_Mo_leafHolds_47 (by decide) ?_
      refine lv_goto hx hb d_Mo_leafHolds_48 (tgt := 52) rfl ?_
      have hval : leafV (A 11 k) (A 13 k) (A 14 k) (mTx A j (A 12 k)) (mTx A rr (A 12 k)) = true := by
          unfold leafV; rw [if_pos (by omega), ← hde]; simp; omega
      exact zz_iret hx hb hr hlk rfl ⟨by rw [hval]; rfl, hS, _, hM, (msB1.tr (msB2.tr msB3))⟩ hL d_Mo_leafHolds_52
end
