-- ===== PART A: goes FIRST, ahead of the names: the tables' words, and 'selects' of the private methods out of them =====
/-- a private method of a class that the tables say can be made, by its rows of tables_1 -/
def lw_okq (q : MethodName × Nat) : Prop := (q.1.cls ≠ "java/lang/invoke/MethodHandle" ∧ q.1.cls ≠ "java/lang/invoke/VarHandle") ∧ Cond.instantiable q.1.cls q.2 ∈ tables_1 ∧ Cond.privateMethod q.1 ∈ tables_1 ∧ Cond.instanceMethod q.1 ∈ tables_1
theorem lw_p0 : lw_okq (⟨"ScaleVote$Reader", "advance", "()V"⟩, 14) := ⟨⟨by decide +kernel, by decide +kernel⟩, List.mem_of_getElem? (i := 197) (by decide +kernel), List.mem_of_getElem? (i := 526) (by decide +kernel), List.mem_of_getElem? (i := 527) (by decide +kernel)⟩
theorem lw_p1 : lw_okq (⟨"ScaleVote$Reader", "readWord", "()V"⟩, 14) := ⟨⟨by decide +kernel, by decide +kernel⟩, List.mem_of_getElem? (i := 197) (by decide +kernel), List.mem_of_getElem? (i := 533) (by decide +kernel), List.mem_of_getElem? (i := 534) (by decide +kernel)⟩
theorem lw_p2 : lw_okq (⟨"ScaleVote$Reader", "readDigits", "()V"⟩, 14) := ⟨⟨by decide +kernel, by decide +kernel⟩, List.mem_of_getElem? (i := 197) (by decide +kernel), List.mem_of_getElem? (i := 592) (by decide +kernel), List.mem_of_getElem? (i := 593) (by decide +kernel)⟩
theorem lw_p3 : lw_okq (⟨"ScaleVote$Reader", "signOf", "(I)I"⟩, 14) := ⟨⟨by decide +kernel, by decide +kernel⟩, List.mem_of_getElem? (i := 197) (by decide +kernel), List.mem_of_getElem? (i := 599) (by decide +kernel), List.mem_of_getElem? (i := 600) (by decide +kernel)⟩
theorem lw_p4 : lw_okq (⟨"ScaleVote$Reader", "takeRightBehind", "(I)Z"⟩, 14) := ⟨⟨by decide +kernel, by decide +kernel⟩, List.mem_of_getElem? (i := 197) (by decide +kernel), List.mem_of_getElem? (i := 603) (by decide +kernel), List.mem_of_getElem? (i := 604) (by decide +kernel)⟩
theorem lw_p5 : lw_okq (⟨"ScaleVote$Reader", "readRegion", "()V"⟩, 14) := ⟨⟨by decide +kernel, by decide +kernel⟩, List.mem_of_getElem? (i := 197) (by decide +kernel), List.mem_of_getElem? (i := 607) (by decide +kernel), List.mem_of_getElem? (i := 608) (by decide +kernel)⟩
theorem lw_p6 : lw_okq (⟨"ScaleVote$Reader", "fail", "(I)V"⟩, 14) := ⟨⟨by decide +kernel, by decide +kernel⟩, List.mem_of_getElem? (i := 197) (by decide +kernel), List.mem_of_getElem? (i := 611) (by decide +kernel), List.mem_of_getElem? (i := 612) (by decide +kernel)⟩
theorem lw_p7 : lw_okq (⟨"ScaleVote$Reader", "takeNewName", "(I)I"⟩, 14) := ⟨⟨by decide +kernel, by decide +kernel⟩, List.mem_of_getElem? (i := 197) (by decide +kernel), List.mem_of_getElem? (i := 619) (by decide +kernel), List.mem_of_getElem? (i := 620) (by decide +kernel)⟩
theorem lw_p8 : lw_okq (⟨"ScaleVote$Reader", "takeNumber", "(II)I"⟩, 14) := ⟨⟨by decide +kernel, by decide +kernel⟩, List.mem_of_getElem? (i := 197) (by decide +kernel), List.mem_of_getElem? (i := 623) (by decide +kernel), List.mem_of_getElem? (i := 624) (by decide +kernel)⟩
theorem lw_p9 : lw_okq (⟨"ScaleVote$Reader", "readJoin", "()V"⟩, 14) := ⟨⟨by decide +kernel, by decide +kernel⟩, List.mem_of_getElem? (i := 197) (by decide +kernel), List.mem_of_getElem? (i := 627) (by decide +kernel), List.mem_of_getElem? (i := 628) (by decide +kernel)⟩
theorem lw_p10 : lw_okq (⟨"ScaleVote$Reader", "takeToldName", "(I)I"⟩, 14) := ⟨⟨by decide +kernel, by decide +kernel⟩, List.mem_of_getElem? (i := 197) (by decide +kernel), List.mem_of_getElem? (i := 631) (by decide +kernel), List.mem_of_getElem? (i := 632) (by decide +kernel)⟩
theorem lw_p11 : lw_okq (⟨"ScaleVote$Reader", "readPerson", "()V"⟩, 14) := ⟨⟨by decide +kernel, by decide +kernel⟩, List.mem_of_getElem? (i := 197) (by decide +kernel), List.mem_of_getElem? (i := 639) (by decide +kernel), List.mem_of_getElem? (i := 640) (by decide +kernel)⟩
theorem lw_p12 : lw_okq (⟨"ScaleVote$Reader", "readDebt", "()V"⟩, 14) := ⟨⟨by decide +kernel, by decide +kernel⟩, List.mem_of_getElem? (i := 197) (by decide +kernel), List.mem_of_getElem? (i := 647) (by decide +kernel), List.mem_of_getElem? (i := 648) (by decide +kernel)⟩
theorem lw_p13 : lw_okq (⟨"ScaleVote$Reader", "readTear", "()V"⟩, 14) := ⟨⟨by decide +kernel, by decide +kernel⟩, List.mem_of_getElem? (i := 197) (by decide +kernel), List.mem_of_getElem? (i := 655) (by decide +kernel), List.mem_of_getElem? (i := 656) (by decide +kernel)⟩
theorem lw_p14 : lw_okq (⟨"ScaleVote$Reader", "readLaw", "()V"⟩, 14) := ⟨⟨by decide +kernel, by decide +kernel⟩, List.mem_of_getElem? (i := 197) (by decide +kernel), List.mem_of_getElem? (i := 659) (by decide +kernel), List.mem_of_getElem? (i := 660) (by decide +kernel)⟩
theorem lw_p15 : lw_okq (⟨"ScaleVote$Reader", "takePart", "()Z"⟩, 14) := ⟨⟨by decide +kernel, by decide +kernel⟩, List.mem_of_getElem? (i := 197) (by decide +kernel), List.mem_of_getElem? (i := 671) (by decide +kernel), List.mem_of_getElem? (i := 672) (by decide +kernel)⟩
def lw_privs_1 : List (MethodName × Nat) := [(⟨"ScaleVote$Reader", "advance", "()V"⟩, 14), (⟨"ScaleVote$Reader", "readWord", "()V"⟩, 14), (⟨"ScaleVote$Reader", "readDigits", "()V"⟩, 14), (⟨"ScaleVote$Reader", "signOf", "(I)I"⟩, 14), (⟨"ScaleVote$Reader", "takeRightBehind", "(I)Z"⟩, 14), (⟨"ScaleVote$Reader", "readRegion", "()V"⟩, 14), (⟨"ScaleVote$Reader", "fail", "(I)V"⟩, 14), (⟨"ScaleVote$Reader", "takeNewName", "(I)I"⟩, 14), (⟨"ScaleVote$Reader", "takeNumber", "(II)I"⟩, 14), (⟨"ScaleVote$Reader", "readJoin", "()V"⟩, 14), (⟨"ScaleVote$Reader", "takeToldName", "(I)I"⟩, 14), (⟨"ScaleVote$Reader", "readPerson", "()V"⟩, 14), (⟨"ScaleVote$Reader", "readDebt", "()V"⟩, 14), (⟨"ScaleVote$Reader", "readTear", "()V"⟩, 14), (⟨"ScaleVote$Reader", "readLaw", "()V"⟩, 14), (⟨"ScaleVote$Reader", "takePart", "()Z"⟩, 14)]
theorem lw_r1 : ∀ q ∈ lw_privs_1, lw_okq q := List.forall_mem_cons.mpr ⟨lw_p0, List.forall_mem_cons.mpr ⟨lw_p1, List.forall_mem_cons.mpr ⟨lw_p2, List.forall_mem_cons.mpr ⟨lw_p3, List.forall_mem_cons.mpr ⟨lw_p4, List.forall_mem_cons.mpr ⟨lw_p5, List.forall_mem_cons.mpr ⟨lw_p6, List.forall_mem_cons.mpr ⟨lw_p7, List.forall_mem_cons.mpr ⟨lw_p8, List.forall_mem_cons.mpr ⟨lw_p9, List.forall_mem_cons.mpr ⟨lw_p10, List.forall_mem_cons.mpr ⟨lw_p11, List.forall_mem_cons.mpr ⟨lw_p12, List.forall_mem_cons.mpr ⟨lw_p13, List.forall_mem_cons.mpr ⟨lw_p14, List.forall_mem_cons.mpr ⟨lw_p15, fun _ h => absurd h List.not_mem_nil⟩⟩⟩⟩⟩⟩⟩⟩⟩⟩⟩⟩⟩⟩⟩⟩
theorem lw_p16 : lw_okq (⟨"ScaleVote$Reader", "pushSign", "()V"⟩, 14) := ⟨⟨by decide +kernel, by decide +kernel⟩, List.mem_of_getElem? (i := 197) (by decide +kernel), List.mem_of_getElem? (i := 675) (by decide +kernel), List.mem_of_getElem? (i := 676) (by decide +kernel)⟩
theorem lw_p17 : lw_okq (⟨"ScaleVote$Reader", "mayNegate", "()Z"⟩, 14) := ⟨⟨by decide +kernel, by decide +kernel⟩, List.mem_of_getElem? (i := 197) (by decide +kernel), List.mem_of_getElem? (i := 679) (by decide +kernel), List.mem_of_getElem? (i := 680) (by decide +kernel)⟩
theorem lw_p18 : lw_okq (⟨"ScaleVote$Reader", "topLevel", "()I"⟩, 14) := ⟨⟨by decide +kernel, by decide +kernel⟩, List.mem_of_getElem? (i := 197) (by decide +kernel), List.mem_of_getElem? (i := 683) (by decide +kernel), List.mem_of_getElem? (i := 684) (by decide +kernel)⟩
theorem lw_p19 : lw_okq (⟨"ScaleVote$Reader", "countKnot", "()V"⟩, 14) := ⟨⟨by decide +kernel, by decide +kernel⟩, List.mem_of_getElem? (i := 197) (by decide +kernel), List.mem_of_getElem? (i := 690) (by decide +kernel), List.mem_of_getElem? (i := 691) (by decide +kernel)⟩
theorem lw_p20 : lw_okq (⟨"ScaleVote$Reader", "takeSign", "()Z"⟩, 14) := ⟨⟨by decide +kernel, by decide +kernel⟩, List.mem_of_getElem? (i := 197) (by decide +kernel), List.mem_of_getElem? (i := 698) (by decide +kernel), List.mem_of_getElem? (i := 699) (by decide +kernel)⟩
theorem lw_p21 : lw_okq (⟨"ScaleVote$Reader", "putSignsAbove", "(I)V"⟩, 14) := ⟨⟨by decide +kernel, by decide +kernel⟩, List.mem_of_getElem? (i := 197) (by decide +kernel), List.mem_of_getElem? (i := 702) (by decide +kernel), List.mem_of_getElem? (i := 703) (by decide +kernel)⟩
theorem lw_p22 : lw_okq (⟨"ScaleVote$Reader", "dropSign", "()V"⟩, 14) := ⟨⟨by decide +kernel, by decide +kernel⟩, List.mem_of_getElem? (i := 197) (by decide +kernel), List.mem_of_getElem? (i := 706) (by decide +kernel), List.mem_of_getElem? (i := 707) (by decide +kernel)⟩
theorem lw_p23 : lw_okq (⟨"ScaleVote", "isRegion", "(I)Z"⟩, 14) := ⟨⟨by decide +kernel, by decide +kernel⟩, List.mem_of_getElem? (i := 28) (by decide +kernel), List.mem_of_getElem? (i := 750) (by decide +kernel), List.mem_of_getElem? (i := 751) (by decide +kernel)⟩
theorem lw_p24 : lw_okq (⟨"ScaleVote$World", "nameRegion", "(III)V"⟩, 14) := ⟨⟨by decide +kernel, by decide +kernel⟩, List.mem_of_getElem? (i := 250) (by decide +kernel), List.mem_of_getElem? (i := 771) (by decide +kernel), List.mem_of_getElem? (i := 772) (by decide +kernel)⟩
theorem lw_p25 : lw_okq (⟨"ScaleVote", "isPerson", "(I)Z"⟩, 14) := ⟨⟨by decide +kernel, by decide +kernel⟩, List.mem_of_getElem? (i := 28) (by decide +kernel), List.mem_of_getElem? (i := 809) (by decide +kernel), List.mem_of_getElem? (i := 810) (by decide +kernel)⟩
theorem lw_p26 : lw_okq (⟨"ScaleVote$World", "nameWay", "(II)V"⟩, 14) := ⟨⟨by decide +kernel, by decide +kernel⟩, List.mem_of_getElem? (i := 250) (by decide +kernel), List.mem_of_getElem? (i := 834) (by decide +kernel), List.mem_of_getElem? (i := 835) (by decide +kernel)⟩
theorem lw_p27 : lw_okq (⟨"ScaleVote$World", "reap", "()V"⟩, 14) := ⟨⟨by decide +kernel, by decide +kernel⟩, List.mem_of_getElem? (i := 250) (by decide +kernel), List.mem_of_getElem? (i := 879) (by decide +kernel), List.mem_of_getElem? (i := 880) (by decide +kernel)⟩
theorem lw_p28 : lw_okq (⟨"ScaleVote$Ballot", "voteWith", "(LScaleVote$World;III)I"⟩, 1) := ⟨⟨by decide +kernel, by decide +kernel⟩, List.mem_of_getElem? (i := 387) (by decide +kernel), List.mem_of_getElem? (i := 935) (by decide +kernel), List.mem_of_getElem? (i := 936) (by decide +kernel)⟩
theorem lw_p29 : lw_okq (⟨"ScaleVote$Best", "fillYields", "(LScaleVote$World;I)V"⟩, 6) := ⟨⟨by decide +kernel, by decide +kernel⟩, List.mem_of_getElem? (i := 397) (by decide +kernel), List.mem_of_getElem? (i := 948) (by decide +kernel), List.mem_of_getElem? (i := 949) (by decide +kernel)⟩
theorem lw_p30 : lw_okq (⟨"ScaleVote$Best", "tryScales", "(LScaleVote$Realm;)V"⟩, 6) := ⟨⟨by decide +kernel, by decide +kernel⟩, List.mem_of_getElem? (i := 397) (by decide +kernel), List.mem_of_getElem? (i := 957) (by decide +kernel), List.mem_of_getElem? (i := 958) (by decide +kernel)⟩
theorem lw_p31 : lw_okq (⟨"ScaleVote$Best", "nextScales", "(I)V"⟩, 6) := ⟨⟨by decide +kernel, by decide +kernel⟩, List.mem_of_getElem? (i := 397) (by decide +kernel), List.mem_of_getElem? (i := 963) (by decide +kernel), List.mem_of_getElem? (i := 964) (by decide +kernel)⟩
def lw_privs_2 : List (MethodName × Nat) := [(⟨"ScaleVote$Reader", "pushSign", "()V"⟩, 14), (⟨"ScaleVote$Reader", "mayNegate", "()Z"⟩, 14), (⟨"ScaleVote$Reader", "topLevel", "()I"⟩, 14), (⟨"ScaleVote$Reader", "countKnot", "()V"⟩, 14), (⟨"ScaleVote$Reader", "takeSign", "()Z"⟩, 14), (⟨"ScaleVote$Reader", "putSignsAbove", "(I)V"⟩, 14), (⟨"ScaleVote$Reader", "dropSign", "()V"⟩, 14), (⟨"ScaleVote", "isRegion", "(I)Z"⟩, 14), (⟨"ScaleVote$World", "nameRegion", "(III)V"⟩, 14), (⟨"ScaleVote", "isPerson", "(I)Z"⟩, 14), (⟨"ScaleVote$World", "nameWay", "(II)V"⟩, 14), (⟨"ScaleVote$World", "reap", "()V"⟩, 14), (⟨"ScaleVote$Ballot", "voteWith", "(LScaleVote$World;III)I"⟩, 1), (⟨"ScaleVote$Best", "fillYields", "(LScaleVote$World;I)V"⟩, 6), (⟨"ScaleVote$Best", "tryScales", "(LScaleVote$Realm;)V"⟩, 6), (⟨"ScaleVote$Best", "nextScales", "(I)V"⟩, 6)]
theorem lw_r2 : ∀ q ∈ lw_privs_2, lw_okq q := List.forall_mem_cons.mpr ⟨lw_p16, List.forall_mem_cons.mpr ⟨lw_p17, List.forall_mem_cons.mpr ⟨lw_p18, List.forall_mem_cons.mpr ⟨lw_p19, List.forall_mem_cons.mpr ⟨lw_p20, List.forall_mem_cons.mpr ⟨lw_p21, List.forall_mem_cons.mpr ⟨lw_p22, List.forall_mem_cons.mpr ⟨lw_p23, List.forall_mem_cons.mpr ⟨lw_p24, List.forall_mem_cons.mpr ⟨lw_p25, List.forall_mem_cons.mpr ⟨lw_p26, List.forall_mem_cons.mpr ⟨lw_p27, List.forall_mem_cons.mpr ⟨lw_p28, List.forall_mem_cons.mpr ⟨lw_p29, List.forall_mem_cons.mpr ⟨lw_p30, List.forall_mem_cons.mpr ⟨lw_p31, fun _ h => absurd h List.not_mem_nil⟩⟩⟩⟩⟩⟩⟩⟩⟩⟩⟩⟩⟩⟩⟩⟩
theorem lw_p32 : lw_okq (⟨"ScaleVote$Travel", "reach", "(III)V"⟩, 1) := ⟨⟨by decide +kernel, by decide +kernel⟩, List.mem_of_getElem? (i := 424) (by decide +kernel), List.mem_of_getElem? (i := 988) (by decide +kernel), List.mem_of_getElem? (i := 989) (by decide +kernel)⟩
theorem lw_p33 : lw_okq (⟨"ScaleVote$Travel", "cross", "(LScaleVote$World;IIII)V"⟩, 1) := ⟨⟨by decide +kernel, by decide +kernel⟩, List.mem_of_getElem? (i := 424) (by decide +kernel), List.mem_of_getElem? (i := 996) (by decide +kernel), List.mem_of_getElem? (i := 997) (by decide +kernel)⟩
theorem lw_p34 : lw_okq (⟨"ScaleVote$Living", "fillShare", "(LScaleVote$World;II)V"⟩, 2) := ⟨⟨by decide +kernel, by decide +kernel⟩, List.mem_of_getElem? (i := 434) (by decide +kernel), List.mem_of_getElem? (i := 1023) (by decide +kernel), List.mem_of_getElem? (i := 1024) (by decide +kernel)⟩
theorem lw_p35 : lw_okq (⟨"ScaleVote$Living", "takeIn", "(II)V"⟩, 2) := ⟨⟨by decide +kernel, by decide +kernel⟩, List.mem_of_getElem? (i := 434) (by decide +kernel), List.mem_of_getElem? (i := 1033) (by decide +kernel), List.mem_of_getElem? (i := 1034) (by decide +kernel)⟩
theorem lw_p36 : lw_okq (⟨"ScaleVote", "owedNow", "(I)I"⟩, 14) := ⟨⟨by decide +kernel, by decide +kernel⟩, List.mem_of_getElem? (i := 28) (by decide +kernel), List.mem_of_getElem? (i := 1048) (by decide +kernel), List.mem_of_getElem? (i := 1049) (by decide +kernel)⟩
theorem lw_p37 : lw_okq (⟨"ScaleVote", "mayBargain", "(II)Z"⟩, 14) := ⟨⟨by decide +kernel, by decide +kernel⟩, List.mem_of_getElem? (i := 28) (by decide +kernel), List.mem_of_getElem? (i := 1056) (by decide +kernel), List.mem_of_getElem? (i := 1057) (by decide +kernel)⟩
theorem lw_p38 : lw_okq (⟨"ScaleVote$Ballot", "gainBy", "(LScaleVote$World;IIII)I"⟩, 1) := ⟨⟨by decide +kernel, by decide +kernel⟩, List.mem_of_getElem? (i := 387) (by decide +kernel), List.mem_of_getElem? (i := 1064) (by decide +kernel), List.mem_of_getElem? (i := 1065) (by decide +kernel)⟩
theorem lw_p39 : lw_okq (⟨"ScaleVote$Stones", "lastSeason", "()I"⟩, 7) := ⟨⟨by decide +kernel, by decide +kernel⟩, List.mem_of_getElem? (i := 357) (by decide +kernel), List.mem_of_getElem? (i := 1108) (by decide +kernel), List.mem_of_getElem? (i := 1109) (by decide +kernel)⟩
theorem lw_p40 : lw_okq (⟨"ScaleVote$Stones", "counts", "(I)Z"⟩, 7) := ⟨⟨by decide +kernel, by decide +kernel⟩, List.mem_of_getElem? (i := 357) (by decide +kernel), List.mem_of_getElem? (i := 1112) (by decide +kernel), List.mem_of_getElem? (i := 1113) (by decide +kernel)⟩
theorem lw_p41 : lw_okq (⟨"ScaleVote$Stones", "isSo", "(ILScaleVote$World;)Z"⟩, 7) := ⟨⟨by decide +kernel, by decide +kernel⟩, List.mem_of_getElem? (i := 357) (by decide +kernel), List.mem_of_getElem? (i := 1119) (by decide +kernel), List.mem_of_getElem? (i := 1120) (by decide +kernel)⟩
theorem lw_p42 : lw_okq (⟨"ScaleVote$Draws", "next", "()I"⟩, 1) := ⟨⟨by decide +kernel, by decide +kernel⟩, List.mem_of_getElem? (i := 447) (by decide +kernel), List.mem_of_getElem? (i := 1131) (by decide +kernel), List.mem_of_getElem? (i := 1132) (by decide +kernel)⟩
theorem lw_p43 : lw_okq (⟨"java/lang/Throwable", "fillInStackTrace", "(I)Ljava/lang/Throwable;"⟩, 6) := ⟨⟨by decide +kernel, by decide +kernel⟩, List.mem_of_getElem? (i := 1230) (by decide +kernel), List.mem_of_getElem? (i := 1228) (by decide +kernel), List.mem_of_getElem? (i := 1229) (by decide +kernel)⟩
theorem lw_p44 : lw_okq (⟨"ScaleVoteModel", "plain", "()V"⟩, 81) := ⟨⟨by decide +kernel, by decide +kernel⟩, List.mem_of_getElem? (i := 1276) (by decide +kernel), List.mem_of_getElem? (i := 1282) (by decide +kernel), List.mem_of_getElem? (i := 1283) (by decide +kernel)⟩
theorem lw_p45 : lw_okq (⟨"ScaleVoteModel", "keepText", "()V"⟩, 81) := ⟨⟨by decide +kernel, by decide +kernel⟩, List.mem_of_getElem? (i := 1276) (by decide +kernel), List.mem_of_getElem? (i := 1286) (by decide +kernel), List.mem_of_getElem? (i := 1287) (by decide +kernel)⟩
theorem lw_p46 : lw_okq (⟨"ScaleVoteModel", "begin", "()V"⟩, 81) := ⟨⟨by decide +kernel, by decide +kernel⟩, List.mem_of_getElem? (i := 1276) (by decide +kernel), List.mem_of_getElem? (i := 1293) (by decide +kernel), List.mem_of_getElem? (i := 1294) (by decide +kernel)⟩
theorem lw_p47 : lw_okq (⟨"ScaleVoteModel", "atFirst", "(I)V"⟩, 81) := ⟨⟨by decide +kernel, by decide +kernel⟩, List.mem_of_getElem? (i := 1276) (by decide +kernel), List.mem_of_getElem? (i := 1297) (by decide +kernel), List.mem_of_getElem? (i := 1298) (by decide +kernel)⟩
def lw_privs_3 : List (MethodName × Nat) := [(⟨"ScaleVote$Travel", "reach", "(III)V"⟩, 1), (⟨"ScaleVote$Travel", "cross", "(LScaleVote$World;IIII)V"⟩, 1), (⟨"ScaleVote$Living", "fillShare", "(LScaleVote$World;II)V"⟩, 2), (⟨"ScaleVote$Living", "takeIn", "(II)V"⟩, 2), (⟨"ScaleVote", "owedNow", "(I)I"⟩, 14), (⟨"ScaleVote", "mayBargain", "(II)Z"⟩, 14), (⟨"ScaleVote$Ballot", "gainBy", "(LScaleVote$World;IIII)I"⟩, 1), (⟨"ScaleVote$Stones", "lastSeason", "()I"⟩, 7), (⟨"ScaleVote$Stones", "counts", "(I)Z"⟩, 7), (⟨"ScaleVote$Stones", "isSo", "(ILScaleVote$World;)Z"⟩, 7), (⟨"ScaleVote$Draws", "next", "()I"⟩, 1), (⟨"java/lang/Throwable", "fillInStackTrace", "(I)Ljava/lang/Throwable;"⟩, 6), (⟨"ScaleVoteModel", "plain", "()V"⟩, 81), (⟨"ScaleVoteModel", "keepText", "()V"⟩, 81), (⟨"ScaleVoteModel", "begin", "()V"⟩, 81), (⟨"ScaleVoteModel", "atFirst", "(I)V"⟩, 81)]
theorem lw_r3 : ∀ q ∈ lw_privs_3, lw_okq q := List.forall_mem_cons.mpr ⟨lw_p32, List.forall_mem_cons.mpr ⟨lw_p33, List.forall_mem_cons.mpr ⟨lw_p34, List.forall_mem_cons.mpr ⟨lw_p35, List.forall_mem_cons.mpr ⟨lw_p36, List.forall_mem_cons.mpr ⟨lw_p37, List.forall_mem_cons.mpr ⟨lw_p38, List.forall_mem_cons.mpr ⟨lw_p39, List.forall_mem_cons.mpr ⟨lw_p40, List.forall_mem_cons.mpr ⟨lw_p41, List.forall_mem_cons.mpr ⟨lw_p42, List.forall_mem_cons.mpr ⟨lw_p43, List.forall_mem_cons.mpr ⟨lw_p44, List.forall_mem_cons.mpr ⟨lw_p45, List.forall_mem_cons.mpr ⟨lw_p46, List.forall_mem_cons.mpr ⟨lw_p47, fun _ h => absurd h List.not_mem_nil⟩⟩⟩⟩⟩⟩⟩⟩⟩⟩⟩⟩⟩⟩⟩⟩
theorem lw_p48 : lw_okq (⟨"ScaleVoteModel", "plainTried", "()V"⟩, 81) := ⟨⟨by decide +kernel, by decide +kernel⟩, List.mem_of_getElem? (i := 1276) (by decide +kernel), List.mem_of_getElem? (i := 1301) (by decide +kernel), List.mem_of_getElem? (i := 1302) (by decide +kernel)⟩
theorem lw_p49 : lw_okq (⟨"ScaleVoteModel", "token", "()V"⟩, 81) := ⟨⟨by decide +kernel, by decide +kernel⟩, List.mem_of_getElem? (i := 1276) (by decide +kernel), List.mem_of_getElem? (i := 1557) (by decide +kernel), List.mem_of_getElem? (i := 1558) (by decide +kernel)⟩
theorem lw_p50 : lw_okq (⟨"ScaleVoteModel", "isSmall", "(I)Z"⟩, 81) := ⟨⟨by decide +kernel, by decide +kernel⟩, List.mem_of_getElem? (i := 1276) (by decide +kernel), List.mem_of_getElem? (i := 1561) (by decide +kernel), List.mem_of_getElem? (i := 1562) (by decide +kernel)⟩
theorem lw_p51 : lw_okq (⟨"ScaleVoteModel", "wordAt", "(II)I"⟩, 81) := ⟨⟨by decide +kernel, by decide +kernel⟩, List.mem_of_getElem? (i := 1276) (by decide +kernel), List.mem_of_getElem? (i := 1565) (by decide +kernel), List.mem_of_getElem? (i := 1566) (by decide +kernel)⟩
theorem lw_p52 : lw_okq (⟨"ScaleVoteModel", "packed", "(II)I"⟩, 81) := ⟨⟨by decide +kernel, by decide +kernel⟩, List.mem_of_getElem? (i := 1276) (by decide +kernel), List.mem_of_getElem? (i := 1569) (by decide +kernel), List.mem_of_getElem? (i := 1570) (by decide +kernel)⟩
theorem lw_p53 : lw_okq (⟨"ScaleVoteModel", "isDigit", "(I)Z"⟩, 81) := ⟨⟨by decide +kernel, by decide +kernel⟩, List.mem_of_getElem? (i := 1276) (by decide +kernel), List.mem_of_getElem? (i := 1573) (by decide +kernel), List.mem_of_getElem? (i := 1574) (by decide +kernel)⟩
theorem lw_p54 : lw_okq (⟨"ScaleVoteModel", "signToken", "()V"⟩, 81) := ⟨⟨by decide +kernel, by decide +kernel⟩, List.mem_of_getElem? (i := 1276) (by decide +kernel), List.mem_of_getElem? (i := 1578) (by decide +kernel), List.mem_of_getElem? (i := 1579) (by decide +kernel)⟩
theorem lw_p55 : lw_okq (⟨"ScaleVoteModel", "lineRead", "()Z"⟩, 81) := ⟨⟨by decide +kernel, by decide +kernel⟩, List.mem_of_getElem? (i := 1276) (by decide +kernel), List.mem_of_getElem? (i := 1582) (by decide +kernel), List.mem_of_getElem? (i := 1583) (by decide +kernel)⟩
theorem lw_p56 : lw_okq (⟨"ScaleVoteModel", "wrong", "(I)Z"⟩, 81) := ⟨⟨by decide +kernel, by decide +kernel⟩, List.mem_of_getElem? (i := 1276) (by decide +kernel), List.mem_of_getElem? (i := 1586) (by decide +kernel), List.mem_of_getElem? (i := 1587) (by decide +kernel)⟩
theorem lw_p57 : lw_okq (⟨"ScaleVoteModel", "regionLine", "()Z"⟩, 81) := ⟨⟨by decide +kernel, by decide +kernel⟩, List.mem_of_getElem? (i := 1276) (by decide +kernel), List.mem_of_getElem? (i := 1590) (by decide +kernel), List.mem_of_getElem? (i := 1591) (by decide +kernel)⟩
theorem lw_p58 : lw_okq (⟨"ScaleVoteModel", "newName", "([III)Z"⟩, 81) := ⟨⟨by decide +kernel, by decide +kernel⟩, List.mem_of_getElem? (i := 1276) (by decide +kernel), List.mem_of_getElem? (i := 1594) (by decide +kernel), List.mem_of_getElem? (i := 1595) (by decide +kernel)⟩
theorem lw_p59 : lw_okq (⟨"ScaleVoteModel", "number", "(II)Z"⟩, 81) := ⟨⟨by decide +kernel, by decide +kernel⟩, List.mem_of_getElem? (i := 1276) (by decide +kernel), List.mem_of_getElem? (i := 1601) (by decide +kernel), List.mem_of_getElem? (i := 1602) (by decide +kernel)⟩
theorem lw_p60 : lw_okq (⟨"ScaleVoteModel", "joinLine", "()Z"⟩, 81) := ⟨⟨by decide +kernel, by decide +kernel⟩, List.mem_of_getElem? (i := 1276) (by decide +kernel), List.mem_of_getElem? (i := 1608) (by decide +kernel), List.mem_of_getElem? (i := 1609) (by decide +kernel)⟩
theorem lw_p61 : lw_okq (⟨"ScaleVoteModel", "there", "([III)Z"⟩, 81) := ⟨⟨by decide +kernel, by decide +kernel⟩, List.mem_of_getElem? (i := 1276) (by decide +kernel), List.mem_of_getElem? (i := 1612) (by decide +kernel), List.mem_of_getElem? (i := 1613) (by decide +kernel)⟩
theorem lw_p62 : lw_okq (⟨"ScaleVoteModel", "joinOf", "(IIII)I"⟩, 81) := ⟨⟨by decide +kernel, by decide +kernel⟩, List.mem_of_getElem? (i := 1276) (by decide +kernel), List.mem_of_getElem? (i := 1616) (by decide +kernel), List.mem_of_getElem? (i := 1617) (by decide +kernel)⟩
theorem lw_p63 : lw_okq (⟨"ScaleVoteModel", "personLine", "()Z"⟩, 81) := ⟨⟨by decide +kernel, by decide +kernel⟩, List.mem_of_getElem? (i := 1276) (by decide +kernel), List.mem_of_getElem? (i := 1620) (by decide +kernel), List.mem_of_getElem? (i := 1621) (by decide +kernel)⟩
def lw_privs_4 : List (MethodName × Nat) := [(⟨"ScaleVoteModel", "plainTried", "()V"⟩, 81), (⟨"ScaleVoteModel", "token", "()V"⟩, 81), (⟨"ScaleVoteModel", "isSmall", "(I)Z"⟩, 81), (⟨"ScaleVoteModel", "wordAt", "(II)I"⟩, 81), (⟨"ScaleVoteModel", "packed", "(II)I"⟩, 81), (⟨"ScaleVoteModel", "isDigit", "(I)Z"⟩, 81), (⟨"ScaleVoteModel", "signToken", "()V"⟩, 81), (⟨"ScaleVoteModel", "lineRead", "()Z"⟩, 81), (⟨"ScaleVoteModel", "wrong", "(I)Z"⟩, 81), (⟨"ScaleVoteModel", "regionLine", "()Z"⟩, 81), (⟨"ScaleVoteModel", "newName", "([III)Z"⟩, 81), (⟨"ScaleVoteModel", "number", "(II)Z"⟩, 81), (⟨"ScaleVoteModel", "joinLine", "()Z"⟩, 81), (⟨"ScaleVoteModel", "there", "([III)Z"⟩, 81), (⟨"ScaleVoteModel", "joinOf", "(IIII)I"⟩, 81), (⟨"ScaleVoteModel", "personLine", "()Z"⟩, 81)]
theorem lw_r4 : ∀ q ∈ lw_privs_4, lw_okq q := List.forall_mem_cons.mpr ⟨lw_p48, List.forall_mem_cons.mpr ⟨lw_p49, List.forall_mem_cons.mpr ⟨lw_p50, List.forall_mem_cons.mpr ⟨lw_p51, List.forall_mem_cons.mpr ⟨lw_p52, List.forall_mem_cons.mpr ⟨lw_p53, List.forall_mem_cons.mpr ⟨lw_p54, List.forall_mem_cons.mpr ⟨lw_p55, List.forall_mem_cons.mpr ⟨lw_p56, List.forall_mem_cons.mpr ⟨lw_p57, List.forall_mem_cons.mpr ⟨lw_p58, List.forall_mem_cons.mpr ⟨lw_p59, List.forall_mem_cons.mpr ⟨lw_p60, List.forall_mem_cons.mpr ⟨lw_p61, List.forall_mem_cons.mpr ⟨lw_p62, List.forall_mem_cons.mpr ⟨lw_p63, fun _ h => absurd h List.not_mem_nil⟩⟩⟩⟩⟩⟩⟩⟩⟩⟩⟩⟩⟩⟩⟩⟩
theorem lw_p64 : lw_okq (⟨"ScaleVoteModel", "debtLine", "()Z"⟩, 81) := ⟨⟨by decide +kernel, by decide +kernel⟩, List.mem_of_getElem? (i := 1276) (by decide +kernel), List.mem_of_getElem? (i := 1624) (by decide +kernel), List.mem_of_getElem? (i := 1625) (by decide +kernel)⟩
theorem lw_p65 : lw_okq (⟨"ScaleVoteModel", "isKey", "(I)Z"⟩, 81) := ⟨⟨by decide +kernel, by decide +kernel⟩, List.mem_of_getElem? (i := 1276) (by decide +kernel), List.mem_of_getElem? (i := 1628) (by decide +kernel), List.mem_of_getElem? (i := 1629) (by decide +kernel)⟩
theorem lw_p66 : lw_okq (⟨"ScaleVoteModel", "tearLine", "()Z"⟩, 81) := ⟨⟨by decide +kernel, by decide +kernel⟩, List.mem_of_getElem? (i := 1276) (by decide +kernel), List.mem_of_getElem? (i := 1632) (by decide +kernel), List.mem_of_getElem? (i := 1633) (by decide +kernel)⟩
theorem lw_p67 : lw_okq (⟨"ScaleVoteModel", "sumRead", "()Z"⟩, 81) := ⟨⟨by decide +kernel, by decide +kernel⟩, List.mem_of_getElem? (i := 1276) (by decide +kernel), List.mem_of_getElem? (i := 1636) (by decide +kernel), List.mem_of_getElem? (i := 1637) (by decide +kernel)⟩
theorem lw_p68 : lw_okq (⟨"ScaleVoteModel", "isSign", "(I)Z"⟩, 81) := ⟨⟨by decide +kernel, by decide +kernel⟩, List.mem_of_getElem? (i := 1276) (by decide +kernel), List.mem_of_getElem? (i := 1640) (by decide +kernel), List.mem_of_getElem? (i := 1641) (by decide +kernel)⟩
theorem lw_p69 : lw_okq (⟨"ScaleVoteModel", "leafRead", "()Z"⟩, 81) := ⟨⟨by decide +kernel, by decide +kernel⟩, List.mem_of_getElem? (i := 1276) (by decide +kernel), List.mem_of_getElem? (i := 1644) (by decide +kernel), List.mem_of_getElem? (i := 1645) (by decide +kernel)⟩
theorem lw_p70 : lw_okq (⟨"ScaleVoteModel", "waitsFor", "(I)V"⟩, 81) := ⟨⟨by decide +kernel, by decide +kernel⟩, List.mem_of_getElem? (i := 1276) (by decide +kernel), List.mem_of_getElem? (i := 1648) (by decide +kernel), List.mem_of_getElem? (i := 1649) (by decide +kernel)⟩
theorem lw_p71 : lw_okq (⟨"ScaleVoteModel", "isCounted", "()Z"⟩, 81) := ⟨⟨by decide +kernel, by decide +kernel⟩, List.mem_of_getElem? (i := 1276) (by decide +kernel), List.mem_of_getElem? (i := 1652) (by decide +kernel), List.mem_of_getElem? (i := 1653) (by decide +kernel)⟩
theorem lw_p72 : lw_okq (⟨"ScaleVoteModel", "nameMet", "()I"⟩, 81) := ⟨⟨by decide +kernel, by decide +kernel⟩, List.mem_of_getElem? (i := 1276) (by decide +kernel), List.mem_of_getElem? (i := 1656) (by decide +kernel), List.mem_of_getElem? (i := 1657) (by decide +kernel)⟩
theorem lw_p73 : lw_okq (⟨"ScaleVoteModel", "grown", "(III)V"⟩, 81) := ⟨⟨by decide +kernel, by decide +kernel⟩, List.mem_of_getElem? (i := 1276) (by decide +kernel), List.mem_of_getElem? (i := 1660) (by decide +kernel), List.mem_of_getElem? (i := 1661) (by decide +kernel)⟩
theorem lw_p74 : lw_okq (⟨"ScaleVoteModel", "signs", "()Z"⟩, 81) := ⟨⟨by decide +kernel, by decide +kernel⟩, List.mem_of_getElem? (i := 1276) (by decide +kernel), List.mem_of_getElem? (i := 1664) (by decide +kernel), List.mem_of_getElem? (i := 1665) (by decide +kernel)⟩
theorem lw_p75 : lw_okq (⟨"ScaleVoteModel", "bind", "(I)V"⟩, 81) := ⟨⟨by decide +kernel, by decide +kernel⟩, List.mem_of_getElem? (i := 1276) (by decide +kernel), List.mem_of_getElem? (i := 1668) (by decide +kernel), List.mem_of_getElem? (i := 1669) (by decide +kernel)⟩
theorem lw_p76 : lw_okq (⟨"ScaleVoteModel", "dropHeld", "()I"⟩, 81) := ⟨⟨by decide +kernel, by decide +kernel⟩, List.mem_of_getElem? (i := 1276) (by decide +kernel), List.mem_of_getElem? (i := 1675) (by decide +kernel), List.mem_of_getElem? (i := 1676) (by decide +kernel)⟩
theorem lw_p77 : lw_okq (⟨"ScaleVoteModel", "isPerson", "(I)Z"⟩, 81) := ⟨⟨by decide +kernel, by decide +kernel⟩, List.mem_of_getElem? (i := 1276) (by decide +kernel), List.mem_of_getElem? (i := 1691) (by decide +kernel), List.mem_of_getElem? (i := 1692) (by decide +kernel)⟩
theorem lw_p78 : lw_okq (⟨"ScaleVoteModel", "fails", "(I)I"⟩, 81) := ⟨⟨by decide +kernel, by decide +kernel⟩, List.mem_of_getElem? (i := 1276) (by decide +kernel), List.mem_of_getElem? (i := 1695) (by decide +kernel), List.mem_of_getElem? (i := 1696) (by decide +kernel)⟩
theorem lw_p79 : lw_okq (⟨"ScaleVoteModel", "voteBy", "(II)I"⟩, 81) := ⟨⟨by decide +kernel, by decide +kernel⟩, List.mem_of_getElem? (i := 1276) (by decide +kernel), List.mem_of_getElem? (i := 1699) (by decide +kernel), List.mem_of_getElem? (i := 1700) (by decide +kernel)⟩
def lw_privs_5 : List (MethodName × Nat) := [(⟨"ScaleVoteModel", "debtLine", "()Z"⟩, 81), (⟨"ScaleVoteModel", "isKey", "(I)Z"⟩, 81), (⟨"ScaleVoteModel", "tearLine", "()Z"⟩, 81), (⟨"ScaleVoteModel", "sumRead", "()Z"⟩, 81), (⟨"ScaleVoteModel", "isSign", "(I)Z"⟩, 81), (⟨"ScaleVoteModel", "leafRead", "()Z"⟩, 81), (⟨"ScaleVoteModel", "waitsFor", "(I)V"⟩, 81), (⟨"ScaleVoteModel", "isCounted", "()Z"⟩, 81), (⟨"ScaleVoteModel", "nameMet", "()I"⟩, 81), (⟨"ScaleVoteModel", "grown", "(III)V"⟩, 81), (⟨"ScaleVoteModel", "signs", "()Z"⟩, 81), (⟨"ScaleVoteModel", "bind", "(I)V"⟩, 81), (⟨"ScaleVoteModel", "dropHeld", "()I"⟩, 81), (⟨"ScaleVoteModel", "isPerson", "(I)Z"⟩, 81), (⟨"ScaleVoteModel", "fails", "(I)I"⟩, 81), (⟨"ScaleVoteModel", "voteBy", "(II)I"⟩, 81)]
theorem lw_r5 : ∀ q ∈ lw_privs_5, lw_okq q := List.forall_mem_cons.mpr ⟨lw_p64, List.forall_mem_cons.mpr ⟨lw_p65, List.forall_mem_cons.mpr ⟨lw_p66, List.forall_mem_cons.mpr ⟨lw_p67, List.forall_mem_cons.mpr ⟨lw_p68, List.forall_mem_cons.mpr ⟨lw_p69, List.forall_mem_cons.mpr ⟨lw_p70, List.forall_mem_cons.mpr ⟨lw_p71, List.forall_mem_cons.mpr ⟨lw_p72, List.forall_mem_cons.mpr ⟨lw_p73, List.forall_mem_cons.mpr ⟨lw_p74, List.forall_mem_cons.mpr ⟨lw_p75, List.forall_mem_cons.mpr ⟨lw_p76, List.forall_mem_cons.mpr ⟨lw_p77, List.forall_mem_cons.mpr ⟨lw_p78, List.forall_mem_cons.mpr ⟨lw_p79, fun _ h => absurd h List.not_mem_nil⟩⟩⟩⟩⟩⟩⟩⟩⟩⟩⟩⟩⟩⟩⟩⟩
theorem lw_p80 : lw_okq (⟨"ScaleVoteModel", "gainBy", "(III)I"⟩, 81) := ⟨⟨by decide +kernel, by decide +kernel⟩, List.mem_of_getElem? (i := 1276) (by decide +kernel), List.mem_of_getElem? (i := 1703) (by decide +kernel), List.mem_of_getElem? (i := 1704) (by decide +kernel)⟩
theorem lw_p81 : lw_okq (⟨"ScaleVoteModel", "gainIn", "(IIII)I"⟩, 81) := ⟨⟨by decide +kernel, by decide +kernel⟩, List.mem_of_getElem? (i := 1276) (by decide +kernel), List.mem_of_getElem? (i := 1707) (by decide +kernel), List.mem_of_getElem? (i := 1708) (by decide +kernel)⟩
theorem lw_p82 : lw_okq (⟨"ScaleVoteModel", "layNames", "(IIIIII)V"⟩, 81) := ⟨⟨by decide +kernel, by decide +kernel⟩, List.mem_of_getElem? (i := 1276) (by decide +kernel), List.mem_of_getElem? (i := 1711) (by decide +kernel), List.mem_of_getElem? (i := 1712) (by decide +kernel)⟩
theorem lw_p83 : lw_okq (⟨"ScaleVoteModel", "crowdIn", "(II)I"⟩, 81) := ⟨⟨by decide +kernel, by decide +kernel⟩, List.mem_of_getElem? (i := 1276) (by decide +kernel), List.mem_of_getElem? (i := 1715) (by decide +kernel), List.mem_of_getElem? (i := 1716) (by decide +kernel)⟩
theorem lw_p84 : lw_okq (⟨"ScaleVoteModel", "tornOf", "(II)I"⟩, 81) := ⟨⟨by decide +kernel, by decide +kernel⟩, List.mem_of_getElem? (i := 1276) (by decide +kernel), List.mem_of_getElem? (i := 1719) (by decide +kernel), List.mem_of_getElem? (i := 1720) (by decide +kernel)⟩
theorem lw_p85 : lw_okq (⟨"ScaleVoteModel", "isTorn", "(II)Z"⟩, 81) := ⟨⟨by decide +kernel, by decide +kernel⟩, List.mem_of_getElem? (i := 1276) (by decide +kernel), List.mem_of_getElem? (i := 1723) (by decide +kernel), List.mem_of_getElem? (i := 1724) (by decide +kernel)⟩
theorem lw_p86 : lw_okq (⟨"ScaleVoteModel", "gapOf", "(II)I"⟩, 81) := ⟨⟨by decide +kernel, by decide +kernel⟩, List.mem_of_getElem? (i := 1276) (by decide +kernel), List.mem_of_getElem? (i := 1727) (by decide +kernel), List.mem_of_getElem? (i := 1728) (by decide +kernel)⟩
theorem lw_p87 : lw_okq (⟨"ScaleVoteModel", "boundLaw", "(IIII)I"⟩, 81) := ⟨⟨by decide +kernel, by decide +kernel⟩, List.mem_of_getElem? (i := 1276) (by decide +kernel), List.mem_of_getElem? (i := 1731) (by decide +kernel), List.mem_of_getElem? (i := 1732) (by decide +kernel)⟩
theorem lw_p88 : lw_okq (⟨"ScaleVoteModel", "lawOf", "(I)J"⟩, 81) := ⟨⟨by decide +kernel, by decide +kernel⟩, List.mem_of_getElem? (i := 1276) (by decide +kernel), List.mem_of_getElem? (i := 1735) (by decide +kernel), List.mem_of_getElem? (i := 1736) (by decide +kernel)⟩
theorem lw_p89 : lw_okq (⟨"ScaleVoteModel", "valueOf", "(I)J"⟩, 81) := ⟨⟨by decide +kernel, by decide +kernel⟩, List.mem_of_getElem? (i := 1276) (by decide +kernel), List.mem_of_getElem? (i := 1739) (by decide +kernel), List.mem_of_getElem? (i := 1740) (by decide +kernel)⟩
theorem lw_p90 : lw_okq (⟨"ScaleVoteModel", "bounded", "(J)J"⟩, 81) := ⟨⟨by decide +kernel, by decide +kernel⟩, List.mem_of_getElem? (i := 1276) (by decide +kernel), List.mem_of_getElem? (i := 1743) (by decide +kernel), List.mem_of_getElem? (i := 1744) (by decide +kernel)⟩
theorem lw_p91 : lw_okq (⟨"ScaleVoteModel", "times", "(JJ)J"⟩, 81) := ⟨⟨by decide +kernel, by decide +kernel⟩, List.mem_of_getElem? (i := 1276) (by decide +kernel), List.mem_of_getElem? (i := 1749) (by decide +kernel), List.mem_of_getElem? (i := 1750) (by decide +kernel)⟩
theorem lw_p92 : lw_okq (⟨"ScaleVoteModel", "isRegion", "(I)Z"⟩, 81) := ⟨⟨by decide +kernel, by decide +kernel⟩, List.mem_of_getElem? (i := 1276) (by decide +kernel), List.mem_of_getElem? (i := 1760) (by decide +kernel), List.mem_of_getElem? (i := 1761) (by decide +kernel)⟩
theorem lw_p93 : lw_okq (⟨"ScaleVoteModel", "voteIn", "(II)I"⟩, 81) := ⟨⟨by decide +kernel, by decide +kernel⟩, List.mem_of_getElem? (i := 1276) (by decide +kernel), List.mem_of_getElem? (i := 1765) (by decide +kernel), List.mem_of_getElem? (i := 1766) (by decide +kernel)⟩
theorem lw_p94 : lw_okq (⟨"ScaleVoteModel", "weightOf", "(I)I"⟩, 81) := ⟨⟨by decide +kernel, by decide +kernel⟩, List.mem_of_getElem? (i := 1276) (by decide +kernel), List.mem_of_getElem? (i := 1769) (by decide +kernel), List.mem_of_getElem? (i := 1770) (by decide +kernel)⟩
theorem lw_p95 : lw_okq (⟨"ScaleVoteModel", "yieldIn", "(II)I"⟩, 81) := ⟨⟨by decide +kernel, by decide +kernel⟩, List.mem_of_getElem? (i := 1276) (by decide +kernel), List.mem_of_getElem? (i := 1773) (by decide +kernel), List.mem_of_getElem? (i := 1774) (by decide +kernel)⟩
def lw_privs_6 : List (MethodName × Nat) := [(⟨"ScaleVoteModel", "gainBy", "(III)I"⟩, 81), (⟨"ScaleVoteModel", "gainIn", "(IIII)I"⟩, 81), (⟨"ScaleVoteModel", "layNames", "(IIIIII)V"⟩, 81), (⟨"ScaleVoteModel", "crowdIn", "(II)I"⟩, 81), (⟨"ScaleVoteModel", "tornOf", "(II)I"⟩, 81), (⟨"ScaleVoteModel", "isTorn", "(II)Z"⟩, 81), (⟨"ScaleVoteModel", "gapOf", "(II)I"⟩, 81), (⟨"ScaleVoteModel", "boundLaw", "(IIII)I"⟩, 81), (⟨"ScaleVoteModel", "lawOf", "(I)J"⟩, 81), (⟨"ScaleVoteModel", "valueOf", "(I)J"⟩, 81), (⟨"ScaleVoteModel", "bounded", "(J)J"⟩, 81), (⟨"ScaleVoteModel", "times", "(JJ)J"⟩, 81), (⟨"ScaleVoteModel", "isRegion", "(I)Z"⟩, 81), (⟨"ScaleVoteModel", "voteIn", "(II)I"⟩, 81), (⟨"ScaleVoteModel", "weightOf", "(I)I"⟩, 81), (⟨"ScaleVoteModel", "yieldIn", "(II)I"⟩, 81)]
theorem lw_r6 : ∀ q ∈ lw_privs_6, lw_okq q := List.forall_mem_cons.mpr ⟨lw_p80, List.forall_mem_cons.mpr ⟨lw_p81, List.forall_mem_cons.mpr ⟨lw_p82, List.forall_mem_cons.mpr ⟨lw_p83, List.forall_mem_cons.mpr ⟨lw_p84, List.forall_mem_cons.mpr ⟨lw_p85, List.forall_mem_cons.mpr ⟨lw_p86, List.forall_mem_cons.mpr ⟨lw_p87, List.forall_mem_cons.mpr ⟨lw_p88, List.forall_mem_cons.mpr ⟨lw_p89, List.forall_mem_cons.mpr ⟨lw_p90, List.forall_mem_cons.mpr ⟨lw_p91, List.forall_mem_cons.mpr ⟨lw_p92, List.forall_mem_cons.mpr ⟨lw_p93, List.forall_mem_cons.mpr ⟨lw_p94, List.forall_mem_cons.mpr ⟨lw_p95, fun _ h => absurd h List.not_mem_nil⟩⟩⟩⟩⟩⟩⟩⟩⟩⟩⟩⟩⟩⟩⟩⟩
theorem lw_p96 : lw_okq (⟨"ScaleVoteModel", "remember", "()V"⟩, 81) := ⟨⟨by decide +kernel, by decide +kernel⟩, List.mem_of_getElem? (i := 1276) (by decide +kernel), List.mem_of_getElem? (i := 1794) (by decide +kernel), List.mem_of_getElem? (i := 1795) (by decide +kernel)⟩
theorem lw_p97 : lw_okq (⟨"ScaleVoteModel", "put", "([II)V"⟩, 81) := ⟨⟨by decide +kernel, by decide +kernel⟩, List.mem_of_getElem? (i := 1276) (by decide +kernel), List.mem_of_getElem? (i := 1798) (by decide +kernel), List.mem_of_getElem? (i := 1799) (by decide +kernel)⟩
theorem lw_p98 : lw_okq (⟨"ScaleVoteModel", "goOn", "(I)V"⟩, 81) := ⟨⟨by decide +kernel, by decide +kernel⟩, List.mem_of_getElem? (i := 1276) (by decide +kernel), List.mem_of_getElem? (i := 1814) (by decide +kernel), List.mem_of_getElem? (i := 1815) (by decide +kernel)⟩
theorem lw_p99 : lw_okq (⟨"ScaleVoteModel", "layTried", "()V"⟩, 81) := ⟨⟨by decide +kernel, by decide +kernel⟩, List.mem_of_getElem? (i := 1276) (by decide +kernel), List.mem_of_getElem? (i := 1825) (by decide +kernel), List.mem_of_getElem? (i := 1826) (by decide +kernel)⟩
theorem lw_p100 : lw_okq (⟨"ScaleVoteModel", "goMany", "(I)V"⟩, 81) := ⟨⟨by decide +kernel, by decide +kernel⟩, List.mem_of_getElem? (i := 1276) (by decide +kernel), List.mem_of_getElem? (i := 1829) (by decide +kernel), List.mem_of_getElem? (i := 1830) (by decide +kernel)⟩
theorem lw_p101 : lw_okq (⟨"ScaleVoteModel", "thereIn", "(I)I"⟩, 81) := ⟨⟨by decide +kernel, by decide +kernel⟩, List.mem_of_getElem? (i := 1276) (by decide +kernel), List.mem_of_getElem? (i := 1841) (by decide +kernel), List.mem_of_getElem? (i := 1842) (by decide +kernel)⟩
theorem lw_p102 : lw_okq (⟨"ScaleVoteModel", "gapsIn", "(I)I"⟩, 81) := ⟨⟨by decide +kernel, by decide +kernel⟩, List.mem_of_getElem? (i := 1276) (by decide +kernel), List.mem_of_getElem? (i := 1866) (by decide +kernel), List.mem_of_getElem? (i := 1867) (by decide +kernel)⟩
theorem lw_p103 : lw_okq (⟨"ScaleVoteModel", "wayOf", "(III)I"⟩, 81) := ⟨⟨by decide +kernel, by decide +kernel⟩, List.mem_of_getElem? (i := 1276) (by decide +kernel), List.mem_of_getElem? (i := 1878) (by decide +kernel), List.mem_of_getElem? (i := 1879) (by decide +kernel)⟩
theorem lw_p104 : lw_okq (⟨"ScaleVoteModel", "takes", "(III)I"⟩, 81) := ⟨⟨by decide +kernel, by decide +kernel⟩, List.mem_of_getElem? (i := 1276) (by decide +kernel), List.mem_of_getElem? (i := 1882) (by decide +kernel), List.mem_of_getElem? (i := 1883) (by decide +kernel)⟩
theorem lw_p105 : lw_okq (⟨"ScaleVoteModel", "layLive", "()Z"⟩, 81) := ⟨⟨by decide +kernel, by decide +kernel⟩, List.mem_of_getElem? (i := 1276) (by decide +kernel), List.mem_of_getElem? (i := 1894) (by decide +kernel), List.mem_of_getElem? (i := 1895) (by decide +kernel)⟩
theorem lw_p106 : lw_okq (⟨"ScaleVoteModel", "areTwo", "(II)Z"⟩, 81) := ⟨⟨by decide +kernel, by decide +kernel⟩, List.mem_of_getElem? (i := 1276) (by decide +kernel), List.mem_of_getElem? (i := 1906) (by decide +kernel), List.mem_of_getElem? (i := 1907) (by decide +kernel)⟩
theorem lw_p107 : lw_okq (⟨"ScaleVoteModel", "restAt", "(III)I"⟩, 81) := ⟨⟨by decide +kernel, by decide +kernel⟩, List.mem_of_getElem? (i := 1276) (by decide +kernel), List.mem_of_getElem? (i := 1910) (by decide +kernel), List.mem_of_getElem? (i := 1911) (by decide +kernel)⟩
theorem lw_p108 : lw_okq (⟨"ScaleVoteModel", "noted", "(IIII)I"⟩, 81) := ⟨⟨by decide +kernel, by decide +kernel⟩, List.mem_of_getElem? (i := 1276) (by decide +kernel), List.mem_of_getElem? (i := 1922) (by decide +kernel), List.mem_of_getElem? (i := 1923) (by decide +kernel)⟩
theorem lw_p109 : lw_okq (⟨"ScaleVoteModel", "knownBy", "()I"⟩, 81) := ⟨⟨by decide +kernel, by decide +kernel⟩, List.mem_of_getElem? (i := 1276) (by decide +kernel), List.mem_of_getElem? (i := 1938) (by decide +kernel), List.mem_of_getElem? (i := 1939) (by decide +kernel)⟩
theorem lw_p110 : lw_okq (⟨"ScaleVoteModel", "fits", "(II)Z"⟩, 81) := ⟨⟨by decide +kernel, by decide +kernel⟩, List.mem_of_getElem? (i := 1276) (by decide +kernel), List.mem_of_getElem? (i := 1942) (by decide +kernel), List.mem_of_getElem? (i := 1943) (by decide +kernel)⟩
theorem lw_p111 : lw_okq (⟨"ScaleVoteModel", "isSo", "(I)Z"⟩, 81) := ⟨⟨by decide +kernel, by decide +kernel⟩, List.mem_of_getElem? (i := 1276) (by decide +kernel), List.mem_of_getElem? (i := 1946) (by decide +kernel), List.mem_of_getElem? (i := 1947) (by decide +kernel)⟩
def lw_privs_7 : List (MethodName × Nat) := [(⟨"ScaleVoteModel", "remember", "()V"⟩, 81), (⟨"ScaleVoteModel", "put", "([II)V"⟩, 81), (⟨"ScaleVoteModel", "goOn", "(I)V"⟩, 81), (⟨"ScaleVoteModel", "layTried", "()V"⟩, 81), (⟨"ScaleVoteModel", "goMany", "(I)V"⟩, 81), (⟨"ScaleVoteModel", "thereIn", "(I)I"⟩, 81), (⟨"ScaleVoteModel", "gapsIn", "(I)I"⟩, 81), (⟨"ScaleVoteModel", "wayOf", "(III)I"⟩, 81), (⟨"ScaleVoteModel", "takes", "(III)I"⟩, 81), (⟨"ScaleVoteModel", "layLive", "()Z"⟩, 81), (⟨"ScaleVoteModel", "areTwo", "(II)Z"⟩, 81), (⟨"ScaleVoteModel", "restAt", "(III)I"⟩, 81), (⟨"ScaleVoteModel", "noted", "(IIII)I"⟩, 81), (⟨"ScaleVoteModel", "knownBy", "()I"⟩, 81), (⟨"ScaleVoteModel", "fits", "(II)Z"⟩, 81), (⟨"ScaleVoteModel", "isSo", "(I)Z"⟩, 81)]
theorem lw_r7 : ∀ q ∈ lw_privs_7, lw_okq q := List.forall_mem_cons.mpr ⟨lw_p96, List.forall_mem_cons.mpr ⟨lw_p97, List.forall_mem_cons.mpr ⟨lw_p98, List.forall_mem_cons.mpr ⟨lw_p99, List.forall_mem_cons.mpr ⟨lw_p100, List.forall_mem_cons.mpr ⟨lw_p101, List.forall_mem_cons.mpr ⟨lw_p102, List.forall_mem_cons.mpr ⟨lw_p103, List.forall_mem_cons.mpr ⟨lw_p104, List.forall_mem_cons.mpr ⟨lw_p105, List.forall_mem_cons.mpr ⟨lw_p106, List.forall_mem_cons.mpr ⟨lw_p107, List.forall_mem_cons.mpr ⟨lw_p108, List.forall_mem_cons.mpr ⟨lw_p109, List.forall_mem_cons.mpr ⟨lw_p110, List.forall_mem_cons.mpr ⟨lw_p111, fun _ h => absurd h List.not_mem_nil⟩⟩⟩⟩⟩⟩⟩⟩⟩⟩⟩⟩⟩⟩⟩⟩
theorem lw_p112 : lw_okq (⟨"ScaleVoteModel", "number1", "(I)I"⟩, 81) := ⟨⟨by decide +kernel, by decide +kernel⟩, List.mem_of_getElem? (i := 1276) (by decide +kernel), List.mem_of_getElem? (i := 1954) (by decide +kernel), List.mem_of_getElem? (i := 1955) (by decide +kernel)⟩
theorem lw_p113 : lw_okq (⟨"ScaleVoteModel", "yieldedIn", "(I)I"⟩, 81) := ⟨⟨by decide +kernel, by decide +kernel⟩, List.mem_of_getElem? (i := 1276) (by decide +kernel), List.mem_of_getElem? (i := 1966) (by decide +kernel), List.mem_of_getElem? (i := 1967) (by decide +kernel)⟩
theorem lw_p114 : lw_okq (⟨"ScaleVoteModel", "take", "([II)V"⟩, 81) := ⟨⟨by decide +kernel, by decide +kernel⟩, List.mem_of_getElem? (i := 1276) (by decide +kernel), List.mem_of_getElem? (i := 1974) (by decide +kernel), List.mem_of_getElem? (i := 1975) (by decide +kernel)⟩
def lw_privs_8 : List (MethodName × Nat) := [(⟨"ScaleVoteModel", "number1", "(I)I"⟩, 81), (⟨"ScaleVoteModel", "yieldedIn", "(I)I"⟩, 81), (⟨"ScaleVoteModel", "take", "([II)V"⟩, 81)]
theorem lw_r8 : ∀ q ∈ lw_privs_8, lw_okq q := List.forall_mem_cons.mpr ⟨lw_p112, List.forall_mem_cons.mpr ⟨lw_p113, List.forall_mem_cons.mpr ⟨lw_p114, fun _ h => absurd h List.not_mem_nil⟩⟩⟩
def lw_privs : List (MethodName × Nat) := lw_privs_1 ++ (lw_privs_2 ++ (lw_privs_3 ++ (lw_privs_4 ++ (lw_privs_5 ++ (lw_privs_6 ++ (lw_privs_7 ++ (lw_privs_8)))))))
def lw_tbl : List Cond := k2_sels lw_privs ++ tables_1
theorem lw_privs_ok : ∀ q ∈ lw_privs, lw_okq q := by
  show ∀ q ∈ lw_privs_1 ++ (lw_privs_2 ++ (lw_privs_3 ++ (lw_privs_4 ++ (lw_privs_5 ++ (lw_privs_6 ++ (lw_privs_7 ++ (lw_privs_8))))))), lw_okq q
  exact List.forall_mem_append.mpr ⟨lw_r1, List.forall_mem_append.mpr ⟨lw_r2, List.forall_mem_append.mpr ⟨lw_r3, List.forall_mem_append.mpr ⟨lw_r4, List.forall_mem_append.mpr ⟨lw_r5, List.forall_mem_append.mpr ⟨lw_r6, List.forall_mem_append.mpr ⟨lw_r7, lw_r8⟩⟩⟩⟩⟩⟩⟩

def RX0 : String := "ScaleVote$Ballot"
def TX0 : u_T := fun k => match k with
  | _ => ("ScaleVote$Ballot", "votes", "[I", true)
def tyX0 : Nat → FieldType := fun k => match k with
  | _ => .array .int
abbrev wsX00 : List Cond := u_ws RX0 TX0 1
theorem nmX0 : ∀ a, a < 1 → ∀ b, b < 1 → a ≠ b → (TX0 a).2.1 ≠ (TX0 b).2.1 := by decide +kernel
theorem tyX0_ok : ∀ k, k < 1 → parseFieldDescriptor (TX0 k).2.2.1 = some (tyX0 k) := by decide +kernel

def RX1 : String := "ScaleVote$Best"
def TX1 : u_T := fun k => match k with
  | 0 => ("ScaleVote$Best", "most", "I", false)
  | 1 => ("ScaleVote$Best", "found", "[I", true)
  | 2 => ("ScaleVote$Best", "leastSum", "I", false)
  | 3 => ("ScaleVote$Best", "scales", "[I", true)
  | 4 => ("ScaleVote$Best", "tears", "[I", true)
  | _ => ("ScaleVote$Best", "yields", "[I", true)
def tyX1 : Nat → FieldType := fun k => match k with
  | 0 => .int
  | 1 => .array .int
  | 2 => .int
  | 3 => .array .int
  | 4 => .array .int
  | _ => .array .int
abbrev wsX10 : List Cond := u_ws RX1 TX1 6
theorem nmX1 : ∀ a, a < 6 → ∀ b, b < 6 → a ≠ b → (TX1 a).2.1 ≠ (TX1 b).2.1 := by decide +kernel
theorem tyX1_ok : ∀ k, k < 6 → parseFieldDescriptor (TX1 k).2.2.1 = some (tyX1 k) := by decide +kernel

def RX2 : String := "ScaleVote$Draws"
def TX2 : u_T := fun k => match k with
  | _ => ("ScaleVote$Draws", "last", "J", false)
def tyX2 : Nat → FieldType := fun k => match k with
  | _ => .long
abbrev wsX20 : List Cond := u_ws RX2 TX2 1
theorem nmX2 : ∀ a, a < 1 → ∀ b, b < 1 → a ≠ b → (TX2 a).2.1 ≠ (TX2 b).2.1 := by decide +kernel
theorem tyX2_ok : ∀ k, k < 1 → parseFieldDescriptor (TX2 k).2.2.1 = some (tyX2 k) := by decide +kernel

def RX3 : String := "ScaleVote$Laws"
def TX3 : u_T := fun k => match k with
  | 0 => ("ScaleVote$Laws", "ops", "[I", true)
  | 1 => ("ScaleVote$Laws", "values", "[I", true)
  | 2 => ("ScaleVote$Laws", "from", "[I", true)
  | 3 => ("ScaleVote$Laws", "to", "[I", true)
  | 4 => ("ScaleVote$Laws", "stack", "[J", true)
  | 5 => ("ScaleVote$Laws", "size", "I", false)
  | _ => ("ScaleVote$Laws", "knots", "I", false)
def tyX3 : Nat → FieldType := fun k => match k with
  | 0 => .array .int
  | 1 => .array .int
  | 2 => .array .int
  | 3 => .array .int
  | 4 => .array .long
  | 5 => .int
  | _ => .int
abbrev wsX30 : List Cond := u_ws RX3 TX3 7
theorem nmX3 : ∀ a, a < 7 → ∀ b, b < 7 → a ≠ b → (TX3 a).2.1 ≠ (TX3 b).2.1 := by decide +kernel
theorem tyX3_ok : ∀ k, k < 7 → parseFieldDescriptor (TX3 k).2.2.1 = some (tyX3 k) := by decide +kernel

def RX4 : String := "ScaleVote$Living"
def TX4 : u_T := fun k => match k with
  | 0 => ("ScaleVote$Living", "most", "[J", true)
  | _ => ("ScaleVote$Living", "share", "[J", true)
def tyX4 : Nat → FieldType := fun k => match k with
  | 0 => .array .long
  | _ => .array .long
abbrev wsX40 : List Cond := u_ws RX4 TX4 2
theorem nmX4 : ∀ a, a < 2 → ∀ b, b < 2 → a ≠ b → (TX4 a).2.1 ≠ (TX4 b).2.1 := by decide +kernel
theorem tyX4_ok : ∀ k, k < 2 → parseFieldDescriptor (TX4 k).2.2.1 = some (tyX4 k) := by decide +kernel

def RX5 : String := "ScaleVote$Past"
def TX5 : u_T := fun k => match k with
  | 0 => ("ScaleVote$Past", "size", "I", false)
  | 1 => ("ScaleVote$Past", "kind", "I", false)
  | 2 => ("ScaleVote$Past", "which", "I", false)
  | 3 => ("ScaleVote$Past", "was", "I", false)
  | 4 => ("ScaleVote$Past", "kinds", "[I", true)
  | 5 => ("ScaleVote$Past", "whiches", "[I", true)
  | _ => ("ScaleVote$Past", "ahead", "[I", true)
def tyX5 : Nat → FieldType := fun k => match k with
  | 0 => .int
  | 1 => .int
  | 2 => .int
  | 3 => .int
  | 4 => .array .int
  | 5 => .array .int
  | _ => .array .int
abbrev wsX50 : List Cond := u_ws RX5 TX5 7
theorem nmX5 : ∀ a, a < 7 → ∀ b, b < 7 → a ≠ b → (TX5 a).2.1 ≠ (TX5 b).2.1 := by decide +kernel
theorem tyX5_ok : ∀ k, k < 7 → parseFieldDescriptor (TX5 k).2.2.1 = some (tyX5 k) := by decide +kernel

def RX6 : String := "ScaleVote$Reader"
def TX6 : u_T := fun k => match k with
  | 0 => ("ScaleVote$Reader", "tape", "[B", true)
  | 1 => ("ScaleVote$Reader", "fed", "I", false)
  | 2 => ("ScaleVote$Reader", "fault", "I", false)
  | 3 => ("ScaleVote$Reader", "faultPlace", "I", false)
  | 4 => ("ScaleVote$Reader", "realm", "LScaleVote$Realm;", false)
  | 5 => ("ScaleVote$Reader", "length", "I", false)
  | 6 => ("ScaleVote$Reader", "place", "I", false)
  | 7 => ("ScaleVote$Reader", "token", "I", false)
  | 8 => ("ScaleVote$Reader", "tokenPlace", "I", false)
  | 9 => ("ScaleVote$Reader", "tokenValue", "I", false)
  | 10 => ("ScaleVote$Reader", "tearTold", "Z", false)
  | 11 => ("ScaleVote$Reader", "signs", "[I", true)
  | 12 => ("ScaleVote$Reader", "signCount", "I", false)
  | _ => ("ScaleVote$Reader", "open", "I", false)
def tyX6 : Nat → FieldType := fun k => match k with
  | 0 => .array .byte
  | 1 => .int
  | 2 => .int
  | 3 => .int
  | 4 => .object "ScaleVote$Realm"
  | 5 => .int
  | 6 => .int
  | 7 => .int
  | 8 => .int
  | 9 => .int
  | 10 => .boolean
  | 11 => .array .int
  | 12 => .int
  | _ => .int
abbrev wsX60 : List Cond := u_ws RX6 TX6 14
theorem nmX6 : ∀ a, a < 14 → ∀ b, b < 14 → a ≠ b → (TX6 a).2.1 ≠ (TX6 b).2.1 := by decide +kernel
theorem tyX6_ok : ∀ k, k < 14 → parseFieldDescriptor (TX6 k).2.2.1 = some (tyX6 k) := by decide +kernel

def RX7 : String := "ScaleVote$Realm"
def TX7 : u_T := fun k => match k with
  | 0 => ("ScaleVote$Realm", "regions", "I", false)
  | 1 => ("ScaleVote$Realm", "regionName", "[I", true)
  | 2 => ("ScaleVote$Realm", "scale", "[I", true)
  | 3 => ("ScaleVote$Realm", "area", "[I", true)
  | 4 => ("ScaleVote$Realm", "homes", "[I", true)
  | 5 => ("ScaleVote$Realm", "joins", "I", false)
  | 6 => ("ScaleVote$Realm", "joinOne", "[I", true)
  | 7 => ("ScaleVote$Realm", "joinOther", "[I", true)
  | 8 => ("ScaleVote$Realm", "length", "[I", true)
  | 9 => ("ScaleVote$Realm", "people", "I", false)
  | 10 => ("ScaleVote$Realm", "personName", "[I", true)
  | 11 => ("ScaleVote$Realm", "region", "[I", true)
  | 12 => ("ScaleVote$Realm", "size", "[I", true)
  | 13 => ("ScaleVote$Realm", "weight", "[I", true)
  | 14 => ("ScaleVote$Realm", "debts", "I", false)
  | 15 => ("ScaleVote$Realm", "debtor", "[I", true)
  | 16 => ("ScaleVote$Realm", "amount", "[I", true)
  | 17 => ("ScaleVote$Realm", "byYard", "[Z", true)
  | 18 => ("ScaleVote$Realm", "tear", "I", false)
  | _ => ("ScaleVote$Realm", "laws", "LScaleVote$Laws;", true)
def tyX7 : Nat → FieldType := fun k => match k with
  | 0 => .int
  | 1 => .array .int
  | 2 => .array .int
  | 3 => .array .int
  | 4 => .array .int
  | 5 => .int
  | 6 => .array .int
  | 7 => .array .int
  | 8 => .array .int
  | 9 => .int
  | 10 => .array .int
  | 11 => .array .int
  | 12 => .array .int
  | 13 => .array .int
  | 14 => .int
  | 15 => .array .int
  | 16 => .array .int
  | 17 => .array .boolean
  | 18 => .int
  | _ => .object "ScaleVote$Laws"
abbrev wsX70 : List Cond := u_ws RX7 TX7 20
theorem nmX7 : ∀ a, a < 20 → ∀ b, b < 20 → a ≠ b → (TX7 a).2.1 ≠ (TX7 b).2.1 := by decide +kernel
theorem tyX7_ok : ∀ k, k < 20 → parseFieldDescriptor (TX7 k).2.2.1 = some (tyX7 k) := by decide +kernel

def RX8 : String := "ScaleVote$Stones"
def TX8 : u_T := fun k => match k with
  | 0 => ("ScaleVote$Stones", "size", "I", false)
  | 1 => ("ScaleVote$Stones", "knownBy", "I", false)
  | 2 => ("ScaleVote$Stones", "kinds", "[I", true)
  | 3 => ("ScaleVote$Stones", "seasons", "[I", true)
  | 4 => ("ScaleVote$Stones", "whiches", "[I", true)
  | 5 => ("ScaleVote$Stones", "scales", "[I", true)
  | _ => ("ScaleVote$Stones", "struck", "[Z", true)
def tyX8 : Nat → FieldType := fun k => match k with
  | 0 => .int
  | 1 => .int
  | 2 => .array .int
  | 3 => .array .int
  | 4 => .array .int
  | 5 => .array .int
  | _ => .array .boolean
abbrev wsX80 : List Cond := u_ws RX8 TX8 7
theorem nmX8 : ∀ a, a < 7 → ∀ b, b < 7 → a ≠ b → (TX8 a).2.1 ≠ (TX8 b).2.1 := by decide +kernel
theorem tyX8_ok : ∀ k, k < 7 → parseFieldDescriptor (TX8 k).2.2.1 = some (tyX8 k) := by decide +kernel

def RX9 : String := "ScaleVote$Travel"
def TX9 : u_T := fun k => match k with
  | _ => ("ScaleVote$Travel", "latest", "[I", true)
def tyX9 : Nat → FieldType := fun k => match k with
  | _ => .array .int
abbrev wsX90 : List Cond := u_ws RX9 TX9 1
theorem nmX9 : ∀ a, a < 1 → ∀ b, b < 1 → a ≠ b → (TX9 a).2.1 ≠ (TX9 b).2.1 := by decide +kernel
theorem tyX9_ok : ∀ k, k < 1 → parseFieldDescriptor (TX9 k).2.2.1 = some (tyX9 k) := by decide +kernel

def RX10 : String := "ScaleVote$World"
def TX10 : u_T := fun k => match k with
  | 0 => ("ScaleVote$World", "realm", "LScaleVote$Realm;", false)
  | 1 => ("ScaleVote$World", "scale", "[I", true)
  | 2 => ("ScaleVote$World", "yielded", "[I", true)
  | 3 => ("ScaleVote$World", "torn", "[I", true)
  | 4 => ("ScaleVote$World", "home", "[I", true)
  | 5 => ("ScaleVote$World", "called", "[I", true)
  | 6 => ("ScaleVote$World", "tooBig", "[I", true)
  | 7 => ("ScaleVote$World", "season", "I", false)
  | 8 => ("ScaleVote$World", "tears", "[I", true)
  | 9 => ("ScaleVote$World", "crowd", "[I", true)
  | 10 => ("ScaleVote$World", "mode", "I", false)
  | 11 => ("ScaleVote$World", "mute", "I", false)
  | 12 => ("ScaleVote$World", "votes", "[I", true)
  | _ => ("ScaleVote$World", "names", "[J", true)
def tyX10 : Nat → FieldType := fun k => match k with
  | 0 => .object "ScaleVote$Realm"
  | 1 => .array .int
  | 2 => .array .int
  | 3 => .array .int
  | 4 => .array .int
  | 5 => .array .int
  | 6 => .array .int
  | 7 => .int
  | 8 => .array .int
  | 9 => .array .int
  | 10 => .int
  | 11 => .int
  | 12 => .array .int
  | _ => .array .long
abbrev wsX100 : List Cond := u_ws RX10 TX10 14
theorem nmX10 : ∀ a, a < 14 → ∀ b, b < 14 → a ≠ b → (TX10 a).2.1 ≠ (TX10 b).2.1 := by decide +kernel
theorem tyX10_ok : ∀ k, k < 14 → parseFieldDescriptor (TX10 k).2.2.1 = some (tyX10 k) := by decide +kernel

def RX11 : String := "ScaleVote"
def TX11 : u_T := fun k => match k with
  | 0 => ("ScaleVote", "reader", "LScaleVote$Reader;", true)
  | 1 => ("ScaleVote", "told", "LScaleVote$Realm;", false)
  | 2 => ("ScaleVote", "spare", "LScaleVote$Realm;", false)
  | 3 => ("ScaleVote", "now", "LScaleVote$World;", true)
  | 4 => ("ScaleVote", "trial", "LScaleVote$World;", true)
  | 5 => ("ScaleVote", "image", "LScaleVote$World;", true)
  | 6 => ("ScaleVote", "kept", "Z", false)
  | 7 => ("ScaleVote", "past", "LScaleVote$Past;", true)
  | 8 => ("ScaleVote", "stones", "LScaleVote$Stones;", true)
  | 9 => ("ScaleVote", "ballot", "LScaleVote$Ballot;", true)
  | 10 => ("ScaleVote", "best", "LScaleVote$Best;", true)
  | 11 => ("ScaleVote", "travel", "LScaleVote$Travel;", true)
  | 12 => ("ScaleVote", "living", "LScaleVote$Living;", true)
  | _ => ("ScaleVote", "draws", "LScaleVote$Draws;", true)
def tyX11 : Nat → FieldType := fun k => match k with
  | 0 => .object "ScaleVote$Reader"
  | 1 => .object "ScaleVote$Realm"
  | 2 => .object "ScaleVote$Realm"
  | 3 => .object "ScaleVote$World"
  | 4 => .object "ScaleVote$World"
  | 5 => .object "ScaleVote$World"
  | 6 => .boolean
  | 7 => .object "ScaleVote$Past"
  | 8 => .object "ScaleVote$Stones"
  | 9 => .object "ScaleVote$Ballot"
  | 10 => .object "ScaleVote$Best"
  | 11 => .object "ScaleVote$Travel"
  | 12 => .object "ScaleVote$Living"
  | _ => .object "ScaleVote$Draws"
abbrev wsX110 : List Cond := u_ws RX11 TX11 14
theorem nmX11 : ∀ a, a < 14 → ∀ b, b < 14 → a ≠ b → (TX11 a).2.1 ≠ (TX11 b).2.1 := by decide +kernel
theorem tyX11_ok : ∀ k, k < 14 → parseFieldDescriptor (TX11 k).2.2.1 = some (tyX11 k) := by decide +kernel

def RX12 : String := "ScaleVoteModel"
def TX12 : u_T := fun k => match k with
  | 0 => ("ScaleVoteModel", "tape", "[I", true)
  | 1 => ("ScaleVoteModel", "tapeSize", "I", false)
  | 2 => ("ScaleVoteModel", "thrown", "I", false)
  | 3 => ("ScaleVoteModel", "words", "[I", true)
  | 4 => ("ScaleVoteModel", "fault", "I", false)
  | 5 => ("ScaleVoteModel", "faultPlace", "I", false)
  | 6 => ("ScaleVoteModel", "stop", "I", false)
  | 7 => ("ScaleVoteModel", "next", "I", false)
  | 8 => ("ScaleVoteModel", "kind", "I", false)
  | 9 => ("ScaleVoteModel", "which", "I", false)
  | 10 => ("ScaleVoteModel", "at", "I", false)
  | 11 => ("ScaleVoteModel", "got", "I", false)
  | 12 => ("ScaleVoteModel", "regions", "I", false)
  | 13 => ("ScaleVoteModel", "joins", "I", false)
  | 14 => ("ScaleVoteModel", "people", "I", false)
  | 15 => ("ScaleVoteModel", "debts", "I", false)
  | 16 => ("ScaleVoteModel", "knots", "I", false)
  | 17 => ("ScaleVoteModel", "regionsRead", "I", false)
  | 18 => ("ScaleVoteModel", "joinsRead", "I", false)
  | 19 => ("ScaleVoteModel", "peopleRead", "I", false)
  | 20 => ("ScaleVoteModel", "debtsRead", "I", false)
  | 21 => ("ScaleVoteModel", "knotsRead", "I", false)
  | 22 => ("ScaleVoteModel", "tearTold", "[Z", true)
  | 23 => ("ScaleVoteModel", "tear", "[I", true)
  | 24 => ("ScaleVoteModel", "regionName", "[I", true)
  | 25 => ("ScaleVoteModel", "regionScale", "[I", true)
  | 26 => ("ScaleVoteModel", "regionArea", "[I", true)
  | 27 => ("ScaleVoteModel", "regionHomes", "[I", true)
  | 28 => ("ScaleVoteModel", "joinOne", "[I", true)
  | 29 => ("ScaleVoteModel", "joinTwo", "[I", true)
  | 30 => ("ScaleVoteModel", "joinLength", "[I", true)
  | 31 => ("ScaleVoteModel", "personName", "[I", true)
  | 32 => ("ScaleVoteModel", "personAt", "[I", true)
  | 33 => ("ScaleVoteModel", "personSize", "[I", true)
  | 34 => ("ScaleVoteModel", "personWeight", "[I", true)
  | 35 => ("ScaleVoteModel", "debtWho", "[I", true)
  | 36 => ("ScaleVoteModel", "debtTold", "[I", true)
  | 37 => ("ScaleVoteModel", "debtYard", "[I", true)
  | 38 => ("ScaleVoteModel", "lawTold", "[Z", true)
  | 39 => ("ScaleVoteModel", "first", "[I", true)
  | 40 => ("ScaleVoteModel", "last", "[I", true)
  | 41 => ("ScaleVoteModel", "knot", "[I", true)
  | 42 => ("ScaleVoteModel", "part", "[I", true)
  | 43 => ("ScaleVoteModel", "other", "[I", true)
  | 44 => ("ScaleVoteModel", "wait", "[I", true)
  | 45 => ("ScaleVoteModel", "held", "[I", true)
  | 46 => ("ScaleVoteModel", "waits", "I", false)
  | 47 => ("ScaleVoteModel", "helds", "I", false)
  | 48 => ("ScaleVoteModel", "brackets", "I", false)
  | 49 => ("ScaleVoteModel", "counted", "I", false)
  | 50 => ("ScaleVoteModel", "wants", "Z", false)
  | 51 => ("ScaleVoteModel", "mayNot", "Z", false)
  | 52 => ("ScaleVoteModel", "names", "[J", true)
  | 53 => ("ScaleVoteModel", "value", "[J", true)
  | 54 => ("ScaleVoteModel", "isError", "Z", false)
  | 55 => ("ScaleVoteModel", "scale", "[I", true)
  | 56 => ("ScaleVoteModel", "yielded", "[I", true)
  | 57 => ("ScaleVoteModel", "place", "[I", true)
  | 58 => ("ScaleVoteModel", "canvassed", "[I", true)
  | 59 => ("ScaleVoteModel", "tooBig", "[I", true)
  | 60 => ("ScaleVoteModel", "season", "[I", true)
  | 61 => ("ScaleVoteModel", "votes", "[I", true)
  | 62 => ("ScaleVoteModel", "drawn", "J", false)
  | 63 => ("ScaleVoteModel", "how", "I", false)
  | 64 => ("ScaleVoteModel", "who", "I", false)
  | 65 => ("ScaleVoteModel", "there1", "[Z", true)
  | 66 => ("ScaleVoteModel", "gains", "[I", true)
  | 67 => ("ScaleVoteModel", "homeNow", "[I", true)
  | 68 => ("ScaleVoteModel", "homeBest", "[I", true)
  | 69 => ("ScaleVoteModel", "used", "[I", true)
  | 70 => ("ScaleVoteModel", "hasOne", "[I", true)
  | 71 => ("ScaleVoteModel", "hasTwo", "[I", true)
  | 72 => ("ScaleVoteModel", "stonesMany", "I", false)
  | 73 => ("ScaleVoteModel", "knownTold", "I", false)
  | 74 => ("ScaleVoteModel", "stones", "[I", true)
  | 75 => ("ScaleVoteModel", "counts", "[Z", true)
  | 76 => ("ScaleVoteModel", "undos", "I", false)
  | 77 => ("ScaleVoteModel", "undo", "[I", true)
  | 78 => ("ScaleVoteModel", "hasImage", "Z", false)
  | 79 => ("ScaleVoteModel", "image", "[I", true)
  | _ => ("ScaleVoteModel", "imageRest", "[I", true)
def tyX12 : Nat → FieldType := fun k => match k with
  | 0 => .array .int
  | 1 => .int
  | 2 => .int
  | 3 => .array .int
  | 4 => .int
  | 5 => .int
  | 6 => .int
  | 7 => .int
  | 8 => .int
  | 9 => .int
  | 10 => .int
  | 11 => .int
  | 12 => .int
  | 13 => .int
  | 14 => .int
  | 15 => .int
  | 16 => .int
  | 17 => .int
  | 18 => .int
  | 19 => .int
  | 20 => .int
  | 21 => .int
  | 22 => .array .boolean
  | 23 => .array .int
  | 24 => .array .int
  | 25 => .array .int
  | 26 => .array .int
  | 27 => .array .int
  | 28 => .array .int
  | 29 => .array .int
  | 30 => .array .int
  | 31 => .array .int
  | 32 => .array .int
  | 33 => .array .int
  | 34 => .array .int
  | 35 => .array .int
  | 36 => .array .int
  | 37 => .array .int
  | 38 => .array .boolean
  | 39 => .array .int
  | 40 => .array .int
  | 41 => .array .int
  | 42 => .array .int
  | 43 => .array .int
  | 44 => .array .int
  | 45 => .array .int
  | 46 => .int
  | 47 => .int
  | 48 => .int
  | 49 => .int
  | 50 => .boolean
  | 51 => .boolean
  | 52 => .array .long
  | 53 => .array .long
  | 54 => .boolean
  | 55 => .array .int
  | 56 => .array .int
  | 57 => .array .int
  | 58 => .array .int
  | 59 => .array .int
  | 60 => .array .int
  | 61 => .array .int
  | 62 => .long
  | 63 => .int
  | 64 => .int
  | 65 => .array .boolean
  | 66 => .array .int
  | 67 => .array .int
  | 68 => .array .int
  | 69 => .array .int
  | 70 => .array .int
  | 71 => .array .int
  | 72 => .int
  | 73 => .int
  | 74 => .array .int
  | 75 => .array .boolean
  | 76 => .int
  | 77 => .array .int
  | 78 => .boolean
  | 79 => .array .int
  | _ => .array .int
abbrev wsX120 : List Cond := u_ws RX12 TX12 81
theorem nmX12 : ∀ a, a < 81 → ∀ b, b < 81 → a ≠ b → (TX12 a).2.1 ≠ (TX12 b).2.1 := by decide +kernel
theorem tyX12_ok : ∀ k, k < 81 → parseFieldDescriptor (TX12 k).2.2.1 = some (tyX12 k) := by decide +kernel
