section
-- ===== PART A: goes FIRST, ahead of the names: the tables' words, and 'selects' of the private methods out of them =====
/-- a private method of a class that the tables say can be made, by its rows of tables_1 -/
def lw_okq (q : MethodName × Nat) : Prop := (q.1.cls ≠ "java/lang/invoke/MethodHandle" ∧ q.1.cls ≠ "java/lang/invoke/VarHandle") ∧ Cond.instantiable q.1.cls q.2 ∈ tables_1 ∧ Cond.privateMethod q.1 ∈ tables_1 ∧ Cond.instanceMethod q.1 ∈ tables_1
theorem lw_p0 : lw_okq (⟨"DrumTongue$Tails", "add", "(IIII)V"⟩, 3) := ⟨⟨by decide +kernel, by decide +kernel⟩, List.mem_of_getElem? (i := 48) (by decide +kernel), List.mem_of_getElem? (i := 56) (by decide +kernel), List.mem_of_getElem? (i := 57) (by decide +kernel)⟩
theorem lw_p1 : lw_okq (⟨"DrumTongue$Tongue", "forgetPhrases", "()V"⟩, 12) := ⟨⟨by decide +kernel, by decide +kernel⟩, List.mem_of_getElem? (i := 22) (by decide +kernel), List.mem_of_getElem? (i := 82) (by decide +kernel), List.mem_of_getElem? (i := 83) (by decide +kernel)⟩
theorem lw_p2 : lw_okq (⟨"DrumTongue$Tails", "addSingles", "(LDrumTongue$Rows;I)V"⟩, 3) := ⟨⟨by decide +kernel, by decide +kernel⟩, List.mem_of_getElem? (i := 48) (by decide +kernel), List.mem_of_getElem? (i := 263) (by decide +kernel), List.mem_of_getElem? (i := 264) (by decide +kernel)⟩
theorem lw_p3 : lw_okq (⟨"DrumTongue$Tails", "addPairs", "(LDrumTongue$Rows;I)V"⟩, 3) := ⟨⟨by decide +kernel, by decide +kernel⟩, List.mem_of_getElem? (i := 48) (by decide +kernel), List.mem_of_getElem? (i := 275) (by decide +kernel), List.mem_of_getElem? (i := 276) (by decide +kernel)⟩
theorem lw_p4 : lw_okq (⟨"DrumTongue$Tongue", "firstTailApart", "(I)I"⟩, 12) := ⟨⟨by decide +kernel, by decide +kernel⟩, List.mem_of_getElem? (i := 22) (by decide +kernel), List.mem_of_getElem? (i := 296) (by decide +kernel), List.mem_of_getElem? (i := 297) (by decide +kernel)⟩
theorem lw_p5 : lw_okq (⟨"DrumTongue$Tongue", "sizeWith", "(II)I"⟩, 12) := ⟨⟨by decide +kernel, by decide +kernel⟩, List.mem_of_getElem? (i := 22) (by decide +kernel), List.mem_of_getElem? (i := 304) (by decide +kernel), List.mem_of_getElem? (i := 305) (by decide +kernel)⟩
theorem lw_p6 : lw_okq (⟨"DrumTongue$Tongue", "numberWith", "(II)I"⟩, 12) := ⟨⟨by decide +kernel, by decide +kernel⟩, List.mem_of_getElem? (i := 22) (by decide +kernel), List.mem_of_getElem? (i := 313) (by decide +kernel), List.mem_of_getElem? (i := 314) (by decide +kernel)⟩
theorem lw_p7 : lw_okq (⟨"DrumTongue$Tongue", "give", "(II)V"⟩, 12) := ⟨⟨by decide +kernel, by decide +kernel⟩, List.mem_of_getElem? (i := 22) (by decide +kernel), List.mem_of_getElem? (i := 344) (by decide +kernel), List.mem_of_getElem? (i := 345) (by decide +kernel)⟩
theorem lw_p8 : lw_okq (⟨"DrumTongue$Tongue", "lookFrom", "(II)V"⟩, 12) := ⟨⟨by decide +kernel, by decide +kernel⟩, List.mem_of_getElem? (i := 22) (by decide +kernel), List.mem_of_getElem? (i := 357) (by decide +kernel), List.mem_of_getElem? (i := 358) (by decide +kernel)⟩
theorem lw_p9 : lw_okq (⟨"DrumTongue$Reader", "weighAllCounts", "()V"⟩, 11) := ⟨⟨by decide +kernel, by decide +kernel⟩, List.mem_of_getElem? (i := 139) (by decide +kernel), List.mem_of_getElem? (i := 467) (by decide +kernel), List.mem_of_getElem? (i := 468) (by decide +kernel)⟩
theorem lw_p10 : lw_okq (⟨"DrumTongue$Reader", "startFrom", "([I)V"⟩, 11) := ⟨⟨by decide +kernel, by decide +kernel⟩, List.mem_of_getElem? (i := 139) (by decide +kernel), List.mem_of_getElem? (i := 471) (by decide +kernel), List.mem_of_getElem? (i := 472) (by decide +kernel)⟩
theorem lw_p11 : lw_okq (⟨"DrumTongue$Reader", "copy", "([I[I)V"⟩, 11) := ⟨⟨by decide +kernel, by decide +kernel⟩, List.mem_of_getElem? (i := 139) (by decide +kernel), List.mem_of_getElem? (i := 483) (by decide +kernel), List.mem_of_getElem? (i := 484) (by decide +kernel)⟩
theorem lw_p12 : lw_okq (⟨"DrumTongue$Reader", "putInFront", "(I[I)V"⟩, 11) := ⟨⟨by decide +kernel, by decide +kernel⟩, List.mem_of_getElem? (i := 139) (by decide +kernel), List.mem_of_getElem? (i := 489) (by decide +kernel), List.mem_of_getElem? (i := 490) (by decide +kernel)⟩
theorem lw_p13 : lw_okq (⟨"DrumTongue$Reader", "putBeatInFront", "(I[I)V"⟩, 11) := ⟨⟨by decide +kernel, by decide +kernel⟩, List.mem_of_getElem? (i := 139) (by decide +kernel), List.mem_of_getElem? (i := 495) (by decide +kernel), List.mem_of_getElem? (i := 496) (by decide +kernel)⟩
theorem lw_p14 : lw_okq (⟨"DrumTongue$Reader", "takeLower", "([I[I)V"⟩, 11) := ⟨⟨by decide +kernel, by decide +kernel⟩, List.mem_of_getElem? (i := 139) (by decide +kernel), List.mem_of_getElem? (i := 503) (by decide +kernel), List.mem_of_getElem? (i := 504) (by decide +kernel)⟩
theorem lw_p15 : lw_okq (⟨"DrumTongue$Reader", "bestCount", "()I"⟩, 11) := ⟨⟨by decide +kernel, by decide +kernel⟩, List.mem_of_getElem? (i := 139) (by decide +kernel), List.mem_of_getElem? (i := 507) (by decide +kernel), List.mem_of_getElem? (i := 508) (by decide +kernel)⟩
def lw_privs_1 : List (MethodName × Nat) := [(⟨"DrumTongue$Tails", "add", "(IIII)V"⟩, 3), (⟨"DrumTongue$Tongue", "forgetPhrases", "()V"⟩, 12), (⟨"DrumTongue$Tails", "addSingles", "(LDrumTongue$Rows;I)V"⟩, 3), (⟨"DrumTongue$Tails", "addPairs", "(LDrumTongue$Rows;I)V"⟩, 3), (⟨"DrumTongue$Tongue", "firstTailApart", "(I)I"⟩, 12), (⟨"DrumTongue$Tongue", "sizeWith", "(II)I"⟩, 12), (⟨"DrumTongue$Tongue", "numberWith", "(II)I"⟩, 12), (⟨"DrumTongue$Tongue", "give", "(II)V"⟩, 12), (⟨"DrumTongue$Tongue", "lookFrom", "(II)V"⟩, 12), (⟨"DrumTongue$Reader", "weighAllCounts", "()V"⟩, 11), (⟨"DrumTongue$Reader", "startFrom", "([I)V"⟩, 11), (⟨"DrumTongue$Reader", "copy", "([I[I)V"⟩, 11), (⟨"DrumTongue$Reader", "putInFront", "(I[I)V"⟩, 11), (⟨"DrumTongue$Reader", "putBeatInFront", "(I[I)V"⟩, 11), (⟨"DrumTongue$Reader", "takeLower", "([I[I)V"⟩, 11), (⟨"DrumTongue$Reader", "bestCount", "()I"⟩, 11)]
theorem lw_r1 : ∀ q ∈ lw_privs_1, lw_okq q := List.forall_mem_cons.mpr ⟨lw_p0, List.forall_mem_cons.mpr ⟨lw_p1, List.forall_mem_cons.mpr ⟨lw_p2, List.forall_mem_cons.mpr ⟨lw_p3, List.forall_mem_cons.mpr ⟨lw_p4, List.forall_mem_cons.mpr ⟨lw_p5, List.forall_mem_cons.mpr ⟨lw_p6, List.forall_mem_cons.mpr ⟨lw_p7, List.forall_mem_cons.mpr ⟨lw_p8, List.forall_mem_cons.mpr ⟨lw_p9, List.forall_mem_cons.mpr ⟨lw_p10, List.forall_mem_cons.mpr ⟨lw_p11, List.forall_mem_cons.mpr ⟨lw_p12, List.forall_mem_cons.mpr ⟨lw_p13, List.forall_mem_cons.mpr ⟨lw_p14, List.forall_mem_cons.mpr ⟨lw_p15, fun _ h => absurd h List.not_mem_nil⟩⟩⟩⟩⟩⟩⟩⟩⟩⟩⟩⟩⟩⟩⟩⟩
theorem lw_p16 : lw_okq (⟨"DrumTongue$Reader", "spellFirstByNumbers", "()V"⟩, 11) := ⟨⟨by decide +kernel, by decide +kernel⟩, List.mem_of_getElem? (i := 139) (by decide +kernel), List.mem_of_getElem? (i := 511) (by decide +kernel), List.mem_of_getElem? (i := 512) (by decide +kernel)⟩
theorem lw_p17 : lw_okq (⟨"DrumTongue$Reader", "startUpTo", "([I)V"⟩, 11) := ⟨⟨by decide +kernel, by decide +kernel⟩, List.mem_of_getElem? (i := 139) (by decide +kernel), List.mem_of_getElem? (i := 515) (by decide +kernel), List.mem_of_getElem? (i := 516) (by decide +kernel)⟩
theorem lw_p18 : lw_okq (⟨"DrumTongue$Reader", "firstWordThatKeepsTheLeast", "(I)I"⟩, 11) := ⟨⟨by decide +kernel, by decide +kernel⟩, List.mem_of_getElem? (i := 139) (by decide +kernel), List.mem_of_getElem? (i := 519) (by decide +kernel), List.mem_of_getElem? (i := 520) (by decide +kernel)⟩
theorem lw_p19 : lw_okq (⟨"DrumTongue$Reader", "putBehind", "(I[I)V"⟩, 11) := ⟨⟨by decide +kernel, by decide +kernel⟩, List.mem_of_getElem? (i := 139) (by decide +kernel), List.mem_of_getElem? (i := 523) (by decide +kernel), List.mem_of_getElem? (i := 524) (by decide +kernel)⟩
theorem lw_p20 : lw_okq (⟨"DrumTongue$Reader", "putBeatBehind", "(I[I)V"⟩, 11) := ⟨⟨by decide +kernel, by decide +kernel⟩, List.mem_of_getElem? (i := 139) (by decide +kernel), List.mem_of_getElem? (i := 527) (by decide +kernel), List.mem_of_getElem? (i := 528) (by decide +kernel)⟩
theorem lw_p21 : lw_okq (⟨"DrumTongue$Reader", "leastTogether", "([I[I)I"⟩, 11) := ⟨⟨by decide +kernel, by decide +kernel⟩, List.mem_of_getElem? (i := 139) (by decide +kernel), List.mem_of_getElem? (i := 531) (by decide +kernel), List.mem_of_getElem? (i := 532) (by decide +kernel)⟩
theorem lw_p22 : lw_okq (⟨"DrumTongue$Reader", "weighAround", "(I)V"⟩, 11) := ⟨⟨by decide +kernel, by decide +kernel⟩, List.mem_of_getElem? (i := 139) (by decide +kernel), List.mem_of_getElem? (i := 563) (by decide +kernel), List.mem_of_getElem? (i := 564) (by decide +kernel)⟩
theorem lw_p23 : lw_okq (⟨"DrumTongue$Hills", "walk", "(IIJI)V"⟩, 10) := ⟨⟨by decide +kernel, by decide +kernel⟩, List.mem_of_getElem? (i := 181) (by decide +kernel), List.mem_of_getElem? (i := 600) (by decide +kernel), List.mem_of_getElem? (i := 601) (by decide +kernel)⟩
theorem lw_p24 : lw_okq (⟨"DrumTongue$Hills", "keepIfBetter", "(IJI)V"⟩, 10) := ⟨⟨by decide +kernel, by decide +kernel⟩, List.mem_of_getElem? (i := 181) (by decide +kernel), List.mem_of_getElem? (i := 604) (by decide +kernel), List.mem_of_getElem? (i := 605) (by decide +kernel)⟩
theorem lw_p25 : lw_okq (⟨"DrumTongue$Hills", "isOnPath", "(II)Z"⟩, 10) := ⟨⟨by decide +kernel, by decide +kernel⟩, List.mem_of_getElem? (i := 181) (by decide +kernel), List.mem_of_getElem? (i := 609) (by decide +kernel), List.mem_of_getElem? (i := 610) (by decide +kernel)⟩
theorem lw_p26 : lw_okq (⟨"DrumTongue$Hills", "tryTimes", "(IIJI)V"⟩, 10) := ⟨⟨by decide +kernel, by decide +kernel⟩, List.mem_of_getElem? (i := 181) (by decide +kernel), List.mem_of_getElem? (i := 644) (by decide +kernel), List.mem_of_getElem? (i := 645) (by decide +kernel)⟩
theorem lw_p27 : lw_okq (⟨"DrumTongue$Hills", "chanceBetween", "(II)I"⟩, 10) := ⟨⟨by decide +kernel, by decide +kernel⟩, List.mem_of_getElem? (i := 181) (by decide +kernel), List.mem_of_getElem? (i := 648) (by decide +kernel), List.mem_of_getElem? (i := 649) (by decide +kernel)⟩
theorem lw_p28 : lw_okq (⟨"DrumTongueModel", "gone", "()V"⟩, 39) := ⟨⟨by decide +kernel, by decide +kernel⟩, List.mem_of_getElem? (i := 723) (by decide +kernel), List.mem_of_getElem? (i := 859) (by decide +kernel), List.mem_of_getElem? (i := 860) (by decide +kernel)⟩
theorem lw_p29 : lw_okq (⟨"DrumTongueModel", "order", "()V"⟩, 39) := ⟨⟨by decide +kernel, by decide +kernel⟩, List.mem_of_getElem? (i := 723) (by decide +kernel), List.mem_of_getElem? (i := 876) (by decide +kernel), List.mem_of_getElem? (i := 877) (by decide +kernel)⟩
theorem lw_p30 : lw_okq (⟨"DrumTongueModel", "come", "(IIII)V"⟩, 39) := ⟨⟨by decide +kernel, by decide +kernel⟩, List.mem_of_getElem? (i := 723) (by decide +kernel), List.mem_of_getElem? (i := 880) (by decide +kernel), List.mem_of_getElem? (i := 881) (by decide +kernel)⟩
theorem lw_p31 : lw_okq (⟨"DrumTongueModel", "isLater", "(IIIII)Z"⟩, 39) := ⟨⟨by decide +kernel, by decide +kernel⟩, List.mem_of_getElem? (i := 723) (by decide +kernel), List.mem_of_getElem? (i := 884) (by decide +kernel), List.mem_of_getElem? (i := 885) (by decide +kernel)⟩
def lw_privs_2 : List (MethodName × Nat) := [(⟨"DrumTongue$Reader", "spellFirstByNumbers", "()V"⟩, 11), (⟨"DrumTongue$Reader", "startUpTo", "([I)V"⟩, 11), (⟨"DrumTongue$Reader", "firstWordThatKeepsTheLeast", "(I)I"⟩, 11), (⟨"DrumTongue$Reader", "putBehind", "(I[I)V"⟩, 11), (⟨"DrumTongue$Reader", "putBeatBehind", "(I[I)V"⟩, 11), (⟨"DrumTongue$Reader", "leastTogether", "([I[I)I"⟩, 11), (⟨"DrumTongue$Reader", "weighAround", "(I)V"⟩, 11), (⟨"DrumTongue$Hills", "walk", "(IIJI)V"⟩, 10), (⟨"DrumTongue$Hills", "keepIfBetter", "(IJI)V"⟩, 10), (⟨"DrumTongue$Hills", "isOnPath", "(II)Z"⟩, 10), (⟨"DrumTongue$Hills", "tryTimes", "(IIJI)V"⟩, 10), (⟨"DrumTongue$Hills", "chanceBetween", "(II)I"⟩, 10), (⟨"DrumTongueModel", "gone", "()V"⟩, 39), (⟨"DrumTongueModel", "order", "()V"⟩, 39), (⟨"DrumTongueModel", "come", "(IIII)V"⟩, 39), (⟨"DrumTongueModel", "isLater", "(IIIII)Z"⟩, 39)]
theorem lw_r2 : ∀ q ∈ lw_privs_2, lw_okq q := List.forall_mem_cons.mpr ⟨lw_p16, List.forall_mem_cons.mpr ⟨lw_p17, List.forall_mem_cons.mpr ⟨lw_p18, List.forall_mem_cons.mpr ⟨lw_p19, List.forall_mem_cons.mpr ⟨lw_p20, List.forall_mem_cons.mpr ⟨lw_p21, List.forall_mem_cons.mpr ⟨lw_p22, List.forall_mem_cons.mpr ⟨lw_p23, List.forall_mem_cons.mpr ⟨lw_p24, List.forall_mem_cons.mpr ⟨lw_p25, List.forall_mem_cons.mpr ⟨lw_p26, List.forall_mem_cons.mpr ⟨lw_p27, List.forall_mem_cons.mpr ⟨lw_p28, List.forall_mem_cons.mpr ⟨lw_p29, List.forall_mem_cons.mpr ⟨lw_p30, List.forall_mem_cons.mpr ⟨lw_p31, fun _ h => absurd h List.not_mem_nil⟩⟩⟩⟩⟩⟩⟩⟩⟩⟩⟩⟩⟩⟩⟩⟩
theorem lw_p32 : lw_okq (⟨"DrumTongueModel", "isFree", "(II[I)Z"⟩, 39) := ⟨⟨by decide +kernel, by decide +kernel⟩, List.mem_of_getElem? (i := 723) (by decide +kernel), List.mem_of_getElem? (i := 888) (by decide +kernel), List.mem_of_getElem? (i := 889) (by decide +kernel)⟩
theorem lw_p33 : lw_okq (⟨"DrumTongueModel", "isApart", "(IIII)Z"⟩, 39) := ⟨⟨by decide +kernel, by decide +kernel⟩, List.mem_of_getElem? (i := 723) (by decide +kernel), List.mem_of_getElem? (i := 892) (by decide +kernel), List.mem_of_getElem? (i := 893) (by decide +kernel)⟩
theorem lw_p34 : lw_okq (⟨"DrumTongueModel", "bitsOf", "(II)I"⟩, 39) := ⟨⟨by decide +kernel, by decide +kernel⟩, List.mem_of_getElem? (i := 723) (by decide +kernel), List.mem_of_getElem? (i := 896) (by decide +kernel), List.mem_of_getElem? (i := 897) (by decide +kernel)⟩
theorem lw_p35 : lw_okq (⟨"DrumTongueModel", "apart", "(IIII)I"⟩, 39) := ⟨⟨by decide +kernel, by decide +kernel⟩, List.mem_of_getElem? (i := 723) (by decide +kernel), List.mem_of_getElem? (i := 900) (by decide +kernel), List.mem_of_getElem? (i := 901) (by decide +kernel)⟩
theorem lw_p36 : lw_okq (⟨"DrumTongueModel", "phrased", "()I"⟩, 39) := ⟨⟨by decide +kernel, by decide +kernel⟩, List.mem_of_getElem? (i := 723) (by decide +kernel), List.mem_of_getElem? (i := 907) (by decide +kernel), List.mem_of_getElem? (i := 908) (by decide +kernel)⟩
theorem lw_p37 : lw_okq (⟨"DrumTongueModel", "isWord", "(I)Z"⟩, 39) := ⟨⟨by decide +kernel, by decide +kernel⟩, List.mem_of_getElem? (i := 723) (by decide +kernel), List.mem_of_getElem? (i := 920) (by decide +kernel), List.mem_of_getElem? (i := 921) (by decide +kernel)⟩
theorem lw_p38 : lw_okq (⟨"DrumTongueModel", "lengthOf", "(I)I"⟩, 39) := ⟨⟨by decide +kernel, by decide +kernel⟩, List.mem_of_getElem? (i := 723) (by decide +kernel), List.mem_of_getElem? (i := 924) (by decide +kernel), List.mem_of_getElem? (i := 925) (by decide +kernel)⟩
theorem lw_p39 : lw_okq (⟨"DrumTongueModel", "beatOf", "(II)I"⟩, 39) := ⟨⟨by decide +kernel, by decide +kernel⟩, List.mem_of_getElem? (i := 723) (by decide +kernel), List.mem_of_getElem? (i := 932) (by decide +kernel), List.mem_of_getElem? (i := 933) (by decide +kernel)⟩
theorem lw_p40 : lw_okq (⟨"DrumTongueModel", "reading", "()I"⟩, 39) := ⟨⟨by decide +kernel, by decide +kernel⟩, List.mem_of_getElem? (i := 723) (by decide +kernel), List.mem_of_getElem? (i := 966) (by decide +kernel), List.mem_of_getElem? (i := 967) (by decide +kernel)⟩
theorem lw_p41 : lw_okq (⟨"DrumTongueModel", "restFrom", "(I)V"⟩, 39) := ⟨⟨by decide +kernel, by decide +kernel⟩, List.mem_of_getElem? (i := 723) (by decide +kernel), List.mem_of_getElem? (i := 970) (by decide +kernel), List.mem_of_getElem? (i := 971) (by decide +kernel)⟩
theorem lw_p42 : lw_okq (⟨"DrumTongueModel", "ahead", "(I)V"⟩, 39) := ⟨⟨by decide +kernel, by decide +kernel⟩, List.mem_of_getElem? (i := 723) (by decide +kernel), List.mem_of_getElem? (i := 974) (by decide +kernel), List.mem_of_getElem? (i := 975) (by decide +kernel)⟩
theorem lw_p43 : lw_okq (⟨"DrumTongueModel", "off", "(II)I"⟩, 39) := ⟨⟨by decide +kernel, by decide +kernel⟩, List.mem_of_getElem? (i := 723) (by decide +kernel), List.mem_of_getElem? (i := 981) (by decide +kernel), List.mem_of_getElem? (i := 982) (by decide +kernel)⟩
theorem lw_p44 : lw_okq (⟨"DrumTongueModel", "behind", "(I)V"⟩, 39) := ⟨⟨by decide +kernel, by decide +kernel⟩, List.mem_of_getElem? (i := 723) (by decide +kernel), List.mem_of_getElem? (i := 985) (by decide +kernel), List.mem_of_getElem? (i := 986) (by decide +kernel)⟩
theorem lw_p45 : lw_okq (⟨"DrumTongueModel", "doubtOf", "(II)I"⟩, 39) := ⟨⟨by decide +kernel, by decide +kernel⟩, List.mem_of_getElem? (i := 723) (by decide +kernel), List.mem_of_getElem? (i := 997) (by decide +kernel), List.mem_of_getElem? (i := 998) (by decide +kernel)⟩
theorem lw_p46 : lw_okq (⟨"DrumTongueModel", "offWith", "(II)I"⟩, 39) := ⟨⟨by decide +kernel, by decide +kernel⟩, List.mem_of_getElem? (i := 723) (by decide +kernel), List.mem_of_getElem? (i := 1001) (by decide +kernel), List.mem_of_getElem? (i := 1002) (by decide +kernel)⟩
theorem lw_p47 : lw_okq (⟨"DrumTongueModel", "look", "(II)V"⟩, 39) := ⟨⟨by decide +kernel, by decide +kernel⟩, List.mem_of_getElem? (i := 723) (by decide +kernel), List.mem_of_getElem? (i := 1026) (by decide +kernel), List.mem_of_getElem? (i := 1027) (by decide +kernel)⟩
def lw_privs_3 : List (MethodName × Nat) := [(⟨"DrumTongueModel", "isFree", "(II[I)Z"⟩, 39), (⟨"DrumTongueModel", "isApart", "(IIII)Z"⟩, 39), (⟨"DrumTongueModel", "bitsOf", "(II)I"⟩, 39), (⟨"DrumTongueModel", "apart", "(IIII)I"⟩, 39), (⟨"DrumTongueModel", "phrased", "()I"⟩, 39), (⟨"DrumTongueModel", "isWord", "(I)Z"⟩, 39), (⟨"DrumTongueModel", "lengthOf", "(I)I"⟩, 39), (⟨"DrumTongueModel", "beatOf", "(II)I"⟩, 39), (⟨"DrumTongueModel", "reading", "()I"⟩, 39), (⟨"DrumTongueModel", "restFrom", "(I)V"⟩, 39), (⟨"DrumTongueModel", "ahead", "(I)V"⟩, 39), (⟨"DrumTongueModel", "off", "(II)I"⟩, 39), (⟨"DrumTongueModel", "behind", "(I)V"⟩, 39), (⟨"DrumTongueModel", "doubtOf", "(II)I"⟩, 39), (⟨"DrumTongueModel", "offWith", "(II)I"⟩, 39), (⟨"DrumTongueModel", "look", "(II)V"⟩, 39)]
theorem lw_r3 : ∀ q ∈ lw_privs_3, lw_okq q := List.forall_mem_cons.mpr ⟨lw_p32, List.forall_mem_cons.mpr ⟨lw_p33, List.forall_mem_cons.mpr ⟨lw_p34, List.forall_mem_cons.mpr ⟨lw_p35, List.forall_mem_cons.mpr ⟨lw_p36, List.forall_mem_cons.mpr ⟨lw_p37, List.forall_mem_cons.mpr ⟨lw_p38, List.forall_mem_cons.mpr ⟨lw_p39, List.forall_mem_cons.mpr ⟨lw_p40, List.forall_mem_cons.mpr ⟨lw_p41, List.forall_mem_cons.mpr ⟨lw_p42, List.forall_mem_cons.mpr ⟨lw_p43, List.forall_mem_cons.mpr ⟨lw_p44, List.forall_mem_cons.mpr ⟨lw_p45, List.forall_mem_cons.mpr ⟨lw_p46, List.forall_mem_cons.mpr ⟨lw_p47, fun _ h => absurd h List.not_mem_nil⟩⟩⟩⟩⟩⟩⟩⟩⟩⟩⟩⟩⟩⟩⟩⟩
theorem lw_p48 : lw_okq (⟨"DrumTongueModel", "enoughFor", "(III)I"⟩, 39) := ⟨⟨by decide +kernel, by decide +kernel⟩, List.mem_of_getElem? (i := 723) (by decide +kernel), List.mem_of_getElem? (i := 1043) (by decide +kernel), List.mem_of_getElem? (i := 1044) (by decide +kernel)⟩
def lw_privs_4 : List (MethodName × Nat) := [(⟨"DrumTongueModel", "enoughFor", "(III)I"⟩, 39)]
theorem lw_r4 : ∀ q ∈ lw_privs_4, lw_okq q := List.forall_mem_cons.mpr ⟨lw_p48, fun _ h => absurd h List.not_mem_nil⟩
def lw_privs : List (MethodName × Nat) := lw_privs_1 ++ (lw_privs_2 ++ (lw_privs_3 ++ (lw_privs_4)))
def lw_tbl : List Cond := k2_sels lw_privs ++ tables_1
theorem lw_privs_ok : ∀ q ∈ lw_privs, lw_okq q := by
  show ∀ q ∈ lw_privs_1 ++ (lw_privs_2 ++ (lw_privs_3 ++ (lw_privs_4))), lw_okq q
  exact List.forall_mem_append.mpr ⟨lw_r1, List.forall_mem_append.mpr ⟨lw_r2, List.forall_mem_append.mpr ⟨lw_r3, lw_r4⟩⟩⟩
end
section
def RX0 : String := "DrumTongue$Ear"
def TX0 : u_T := fun k => match k with
  | 0 => ("DrumTongue$Ear", "row", "[I", true)
  | _ => ("DrumTongue$Ear", "used", "I", false)
def tyX0 : Nat → FieldType := fun k => match k with
  | 0 => .array .int
  | _ => .int
abbrev wsX00 : List Cond := u_ws RX0 TX0 2
theorem nmX0 : ∀ a, a < 2 → ∀ b, b < 2 → a ≠ b → (TX0 a).2.1 ≠ (TX0 b).2.1 := by decide +kernel
theorem tyX0_ok : ∀ k, k < 2 → parseFieldDescriptor (TX0 k).2.2.1 = some (tyX0 k) := by decide +kernel
def RX1 : String := "DrumTongue$Hills"
def TX1 : u_T := fun k => match k with
  | 0 => ("DrumTongue$Hills", "chances", "[[I", true)
  | 1 => ("DrumTongue$Hills", "hoursBetween", "[[I", true)
  | 2 => ("DrumTongue$Hills", "path", "[I", true)
  | 3 => ("DrumTongue$Hills", "best", "[I", true)
  | 4 => ("DrumTongue$Hills", "bestUsed", "I", false)
  | 5 => ("DrumTongue$Hills", "bestChance", "J", false)
  | 6 => ("DrumTongue$Hills", "bestHours", "I", false)
  | 7 => ("DrumTongue$Hills", "tried", "[I", true)
  | 8 => ("DrumTongue$Hills", "enough", "[I", true)
  | _ => ("DrumTongue$Hills", "enoughSum", "I", false)
def tyX1 : Nat → FieldType := fun k => match k with
  | 0 => .array (.array .int)
  | 1 => .array (.array .int)
  | 2 => .array .int
  | 3 => .array .int
  | 4 => .int
  | 5 => .long
  | 6 => .int
  | 7 => .array .int
  | 8 => .array .int
  | _ => .int
abbrev wsX10 : List Cond := u_ws RX1 TX1 10
theorem nmX1 : ∀ a, a < 10 → ∀ b, b < 10 → a ≠ b → (TX1 a).2.1 ≠ (TX1 b).2.1 := by decide +kernel
theorem tyX1_ok : ∀ k, k < 10 → parseFieldDescriptor (TX1 k).2.2.1 = some (tyX1 k) := by decide +kernel
def RX2 : String := "DrumTongue$Reader"
def TX2 : u_T := fun k => match k with
  | 0 => ("DrumTongue$Reader", "tongue", "LDrumTongue$Tongue;", true)
  | 1 => ("DrumTongue$Reader", "ear", "LDrumTongue$Ear;", true)
  | 2 => ("DrumTongue$Reader", "last", "[I", true)
  | 3 => ("DrumTongue$Reader", "lastUsed", "I", false)
  | 4 => ("DrumTongue$Reader", "now", "[I", true)
  | 5 => ("DrumTongue$Reader", "nowUsed", "I", false)
  | 6 => ("DrumTongue$Reader", "nowOff", "I", false)
  | 7 => ("DrumTongue$Reader", "leastFrom", "[[I", true)
  | 8 => ("DrumTongue$Reader", "upTo", "[I", true)
  | 9 => ("DrumTongue$Reader", "from", "[I", true)
  | _ => ("DrumTongue$Reader", "trial", "[I", true)
def tyX2 : Nat → FieldType := fun k => match k with
  | 0 => .object "DrumTongue$Tongue"
  | 1 => .object "DrumTongue$Ear"
  | 2 => .array .int
  | 3 => .int
  | 4 => .array .int
  | 5 => .int
  | 6 => .int
  | 7 => .array (.array .int)
  | 8 => .array .int
  | 9 => .array .int
  | _ => .array .int
abbrev wsX20 : List Cond := u_ws RX2 TX2 11
theorem nmX2 : ∀ a, a < 11 → ∀ b, b < 11 → a ≠ b → (TX2 a).2.1 ≠ (TX2 b).2.1 := by decide +kernel
theorem tyX2_ok : ∀ k, k < 11 → parseFieldDescriptor (TX2 k).2.2.1 = some (tyX2 k) := by decide +kernel
def RX3 : String := "DrumTongue$Rows"
def TX3 : u_T := fun k => match k with
  | 0 => ("DrumTongue$Rows", "sizes", "[I", true)
  | 1 => ("DrumTongue$Rows", "numbers", "[I", true)
  | _ => ("DrumTongue$Rows", "used", "I", false)
def tyX3 : Nat → FieldType := fun k => match k with
  | 0 => .array .int
  | 1 => .array .int
  | _ => .int
abbrev wsX30 : List Cond := u_ws RX3 TX3 3
theorem nmX3 : ∀ a, a < 3 → ∀ b, b < 3 → a ≠ b → (TX3 a).2.1 ≠ (TX3 b).2.1 := by decide +kernel
theorem tyX3_ok : ∀ k, k < 3 → parseFieldDescriptor (TX3 k).2.2.1 = some (tyX3 k) := by decide +kernel
def RX4 : String := "DrumTongue$Tails"
def TX4 : u_T := fun k => match k with
  | 0 => ("DrumTongue$Tails", "rows", "LDrumTongue$Rows;", true)
  | 1 => ("DrumTongue$Tails", "firsts", "[I", true)
  | _ => ("DrumTongue$Tails", "seconds", "[I", true)
def tyX4 : Nat → FieldType := fun k => match k with
  | 0 => .object "DrumTongue$Rows"
  | 1 => .array .int
  | _ => .array .int
abbrev wsX40 : List Cond := u_ws RX4 TX4 3
theorem nmX4 : ∀ a, a < 3 → ∀ b, b < 3 → a ≠ b → (TX4 a).2.1 ≠ (TX4 b).2.1 := by decide +kernel
theorem tyX4_ok : ∀ k, k < 3 → parseFieldDescriptor (TX4 k).2.2.1 = some (tyX4 k) := by decide +kernel
def RX5 : String := "DrumTongue$Tongue"
def TX5 : u_T := fun k => match k with
  | 0 => ("DrumTongue$Tongue", "words", "LDrumTongue$Rows;", true)
  | 1 => ("DrumTongue$Tongue", "endings", "LDrumTongue$Rows;", true)
  | 2 => ("DrumTongue$Tongue", "tails", "LDrumTongue$Tails;", true)
  | 3 => ("DrumTongue$Tongue", "chosenTails", "[I", true)
  | 4 => ("DrumTongue$Tongue", "phraseSizes", "[I", true)
  | 5 => ("DrumTongue$Tongue", "phraseNumbers", "[I", true)
  | 6 => ("DrumTongue$Tongue", "bound", "I", false)
  | 7 => ("DrumTongue$Tongue", "ahead", "LDrumTongue$Rows;", true)
  | 8 => ("DrumTongue$Tongue", "tried", "[I", true)
  | 9 => ("DrumTongue$Tongue", "best", "[I", true)
  | 10 => ("DrumTongue$Tongue", "fewest", "I", false)
  | _ => ("DrumTongue$Tongue", "looks", "I", false)
def tyX5 : Nat → FieldType := fun k => match k with
  | 0 => .object "DrumTongue$Rows"
  | 1 => .object "DrumTongue$Rows"
  | 2 => .object "DrumTongue$Tails"
  | 3 => .array .int
  | 4 => .array .int
  | 5 => .array .int
  | 6 => .int
  | 7 => .object "DrumTongue$Rows"
  | 8 => .array .int
  | 9 => .array .int
  | 10 => .int
  | _ => .int
abbrev wsX50 : List Cond := u_ws RX5 TX5 12
theorem nmX5 : ∀ a, a < 12 → ∀ b, b < 12 → a ≠ b → (TX5 a).2.1 ≠ (TX5 b).2.1 := by decide +kernel
theorem tyX5_ok : ∀ k, k < 12 → parseFieldDescriptor (TX5 k).2.2.1 = some (tyX5 k) := by decide +kernel
def RX6 : String := "DrumTongue"
def TX6 : u_T := fun k => match k with
  | 0 => ("DrumTongue", "tongue", "LDrumTongue$Tongue;", true)
  | 1 => ("DrumTongue", "ear", "LDrumTongue$Ear;", true)
  | 2 => ("DrumTongue", "reader", "LDrumTongue$Reader;", true)
  | _ => ("DrumTongue", "hills", "LDrumTongue$Hills;", true)
def tyX6 : Nat → FieldType := fun k => match k with
  | 0 => .object "DrumTongue$Tongue"
  | 1 => .object "DrumTongue$Ear"
  | 2 => .object "DrumTongue$Reader"
  | _ => .object "DrumTongue$Hills"
abbrev wsX60 : List Cond := u_ws RX6 TX6 4
theorem nmX6 : ∀ a, a < 4 → ∀ b, b < 4 → a ≠ b → (TX6 a).2.1 ≠ (TX6 b).2.1 := by decide +kernel
theorem tyX6_ok : ∀ k, k < 4 → parseFieldDescriptor (TX6 k).2.2.1 = some (tyX6 k) := by decide +kernel
def RX7 : String := "DrumTongueModel"
def TX7 : u_T := fun k => match k with
  | 0 => ("DrumTongueModel", "words", "I", false)
  | 1 => ("DrumTongueModel", "wordSize", "[I", true)
  | 2 => ("DrumTongueModel", "wordBits", "[I", true)
  | 3 => ("DrumTongueModel", "endings", "I", false)
  | 4 => ("DrumTongueModel", "endSize", "[I", true)
  | 5 => ("DrumTongueModel", "endBits", "[I", true)
  | 6 => ("DrumTongueModel", "bound", "I", false)
  | 7 => ("DrumTongueModel", "phrases", "[I", true)
  | 8 => ("DrumTongueModel", "size", "[I", true)
  | 9 => ("DrumTongueModel", "ends", "[I", true)
  | 10 => ("DrumTongueModel", "endA", "[I", true)
  | 11 => ("DrumTongueModel", "endB", "[I", true)
  | 12 => ("DrumTongueModel", "chosen", "[I", true)
  | 13 => ("DrumTongueModel", "heard", "I", false)
  | 14 => ("DrumTongueModel", "beat", "[I", true)
  | 15 => ("DrumTongueModel", "readMany", "I", false)
  | 16 => ("DrumTongueModel", "readLast", "[I", true)
  | 17 => ("DrumTongueModel", "chance", "[I", true)
  | 18 => ("DrumTongueModel", "hours", "[I", true)
  | 19 => ("DrumTongueModel", "trying", "[I", true)
  | 20 => ("DrumTongueModel", "bestRow", "[I", true)
  | 21 => ("DrumTongueModel", "upTo", "[I", true)
  | 22 => ("DrumTongueModel", "next", "[I", true)
  | 23 => ("DrumTongueModel", "rest", "[I", true)
  | 24 => ("DrumTongueModel", "row", "[I", true)
  | 25 => ("DrumTongueModel", "row2", "[I", true)
  | 26 => ("DrumTongueModel", "read", "I", false)
  | 27 => ("DrumTongueModel", "now", "[I", true)
  | 28 => ("DrumTongueModel", "till", "[I", true)
  | 29 => ("DrumTongueModel", "steps", "I", false)
  | 30 => ("DrumTongueModel", "over", "[I", true)
  | 31 => ("DrumTongueModel", "bestChance", "I", false)
  | 32 => ("DrumTongueModel", "bestHours", "I", false)
  | 33 => ("DrumTongueModel", "going", "[I", true)
  | 34 => ("DrumTongueModel", "turn", "[I", true)
  | 35 => ("DrumTongueModel", "chances", "[J", true)
  | 36 => ("DrumTongueModel", "ages", "[I", true)
  | 37 => ("DrumTongueModel", "often", "[I", true)
  | _ => ("DrumTongueModel", "bestOften", "[I", true)
def tyX7 : Nat → FieldType := fun k => match k with
  | 0 => .int
  | 1 => .array .int
  | 2 => .array .int
  | 3 => .int
  | 4 => .array .int
  | 5 => .array .int
  | 6 => .int
  | 7 => .array .int
  | 8 => .array .int
  | 9 => .array .int
  | 10 => .array .int
  | 11 => .array .int
  | 12 => .array .int
  | 13 => .int
  | 14 => .array .int
  | 15 => .int
  | 16 => .array .int
  | 17 => .array .int
  | 18 => .array .int
  | 19 => .array .int
  | 20 => .array .int
  | 21 => .array .int
  | 22 => .array .int
  | 23 => .array .int
  | 24 => .array .int
  | 25 => .array .int
  | 26 => .int
  | 27 => .array .int
  | 28 => .array .int
  | 29 => .int
  | 30 => .array .int
  | 31 => .int
  | 32 => .int
  | 33 => .array .int
  | 34 => .array .int
  | 35 => .array .long
  | 36 => .array .int
  | 37 => .array .int
  | _ => .array .int
abbrev wsX70 : List Cond := u_ws RX7 TX7 39
theorem nmX7 : ∀ a, a < 39 → ∀ b, b < 39 → a ≠ b → (TX7 a).2.1 ≠ (TX7 b).2.1 := by decide +kernel
theorem tyX7_ok : ∀ k, k < 39 → parseFieldDescriptor (TX7 k).2.2.1 = some (tyX7 k) := by decide +kernel

abbrev y_X_init : MethodName := ⟨"DrumTongue", "<init>", "()V"⟩
abbrev y_Tongue_init : MethodName := ⟨"DrumTongue$Tongue", "<init>", "()V"⟩
abbrev y_Rows_init : MethodName := ⟨"DrumTongue$Rows", "<init>", "(I)V"⟩
abbrev y_Math_max : MethodName := ⟨"java/lang/Math", "max", "(II)I"⟩
abbrev y_Tails_init : MethodName := ⟨"DrumTongue$Tails", "<init>", "()V"⟩
abbrev y_Tails_add : MethodName := ⟨"DrumTongue$Tails", "add", "(IIII)V"⟩
abbrev y_Rows_used : MethodName := ⟨"DrumTongue$Rows", "used", "()I"⟩
abbrev y_Rows_add : MethodName := ⟨"DrumTongue$Rows", "add", "(II)V"⟩
abbrev y_Rows_isFull : MethodName := ⟨"DrumTongue$Rows", "isFull", "()Z"⟩
abbrev y_Tongue_forgetPhrases : MethodName := ⟨"DrumTongue$Tongue", "forgetPhrases", "()V"⟩
abbrev y_Arrays_fill : MethodName := ⟨"java/util/Arrays", "fill", "([II)V"⟩
abbrev y_Ear_init : MethodName := ⟨"DrumTongue$Ear", "<init>", "()V"⟩
abbrev y_Reader_init : MethodName := ⟨"DrumTongue$Reader", "<init>", "(LDrumTongue$Tongue;LDrumTongue$Ear;)V"⟩
abbrev y_Hills_init : MethodName := ⟨"DrumTongue$Hills", "<init>", "()V"⟩
abbrev y_X_word : MethodName := ⟨"DrumTongue", "word", "(II)I"⟩
abbrev y_Rows_isRow : MethodName := ⟨"DrumTongue$Rows", "isRow", "(II)Z"⟩
abbrev y_Tongue_addWord : MethodName := ⟨"DrumTongue$Tongue", "addWord", "(II)I"⟩
abbrev y_X_ending : MethodName := ⟨"DrumTongue", "ending", "(II)I"⟩
abbrev y_Tongue_addEnding : MethodName := ⟨"DrumTongue$Tongue", "addEnding", "(II)I"⟩
abbrev y_Tails_remake : MethodName := ⟨"DrumTongue$Tails", "remake", "(LDrumTongue$Rows;)V"⟩
abbrev y_Rows_dropAllBehind : MethodName := ⟨"DrumTongue$Rows", "dropAllBehind", "(I)V"⟩
abbrev y_Tails_addSingles : MethodName := ⟨"DrumTongue$Tails", "addSingles", "(LDrumTongue$Rows;I)V"⟩
abbrev y_Rows_size : MethodName := ⟨"DrumTongue$Rows", "size", "(I)I"⟩
abbrev y_Rows_number : MethodName := ⟨"DrumTongue$Rows", "number", "(I)I"⟩
abbrev y_Tails_addPairs : MethodName := ⟨"DrumTongue$Tails", "addPairs", "(LDrumTongue$Rows;I)V"⟩
abbrev y_X_bound : MethodName := ⟨"DrumTongue", "bound", "(I)I"⟩
abbrev y_Tongue_changeBound : MethodName := ⟨"DrumTongue$Tongue", "changeBound", "(I)I"⟩
abbrev y_X_choose : MethodName := ⟨"DrumTongue", "choose", "()I"⟩
abbrev y_Tongue_chooseInTurn : MethodName := ⟨"DrumTongue$Tongue", "chooseInTurn", "()I"⟩
abbrev y_Tongue_firstTailApart : MethodName := ⟨"DrumTongue$Tongue", "firstTailApart", "(I)I"⟩
abbrev y_Tails_used : MethodName := ⟨"DrumTongue$Tails", "used", "()I"⟩
abbrev y_Tongue_sizeWith : MethodName := ⟨"DrumTongue$Tongue", "sizeWith", "(II)I"⟩
abbrev y_Tails_size : MethodName := ⟨"DrumTongue$Tails", "size", "(I)I"⟩
abbrev y_Tongue_numberWith : MethodName := ⟨"DrumTongue$Tongue", "numberWith", "(II)I"⟩
abbrev y_Tails_number : MethodName := ⟨"DrumTongue$Tails", "number", "(I)I"⟩
abbrev y_Rows_allApartFrom : MethodName := ⟨"DrumTongue$Rows", "allApartFrom", "(III)Z"⟩
abbrev y_Rows_areApart : MethodName := ⟨"DrumTongue$Rows", "areApart", "(IIIII)Z"⟩
abbrev y_Rows_differing : MethodName := ⟨"DrumTongue$Rows", "differing", "(IIII)I"⟩
abbrev y_Math_min : MethodName := ⟨"java/lang/Math", "min", "(II)I"⟩
abbrev y_Integer_bitCount : MethodName := ⟨"java/lang/Integer", "bitCount", "(I)I"⟩
abbrev y_Math_abs : MethodName := ⟨"java/lang/Math", "abs", "(I)I"⟩
abbrev y_Tongue_give : MethodName := ⟨"DrumTongue$Tongue", "give", "(II)V"⟩
abbrev y_X_least : MethodName := ⟨"DrumTongue", "least", "()I"⟩
abbrev y_Tongue_chooseForTheLeast : MethodName := ⟨"DrumTongue$Tongue", "chooseForTheLeast", "()I"⟩
abbrev y_Tongue_lookFrom : MethodName := ⟨"DrumTongue$Tongue", "lookFrom", "(II)V"⟩
abbrev y_X_length : MethodName := ⟨"DrumTongue", "length", "(I)I"⟩
abbrev y_Tongue_isWord : MethodName := ⟨"DrumTongue$Tongue", "isWord", "(I)Z"⟩
abbrev y_Tongue_hasPhrase : MethodName := ⟨"DrumTongue$Tongue", "hasPhrase", "(I)Z"⟩
abbrev y_Tongue_phraseSize : MethodName := ⟨"DrumTongue$Tongue", "phraseSize", "(I)I"⟩
abbrev y_X_beat : MethodName := ⟨"DrumTongue", "beat", "(II)I"⟩
abbrev y_Tongue_phraseBeat : MethodName := ⟨"DrumTongue$Tongue", "phraseBeat", "(II)I"⟩
abbrev y_X_endingAt : MethodName := ⟨"DrumTongue", "endingAt", "(II)I"⟩
abbrev y_Tongue_phraseEnding : MethodName := ⟨"DrumTongue$Tongue", "phraseEnding", "(II)I"⟩
abbrev y_Tails_endingAt : MethodName := ⟨"DrumTongue$Tails", "endingAt", "(II)I"⟩
abbrev y_X_far : MethodName := ⟨"DrumTongue", "far", "(II)I"⟩
abbrev y_Tongue_howFar : MethodName := ⟨"DrumTongue$Tongue", "howFar", "(II)I"⟩
abbrev y_X_hear : MethodName := ⟨"DrumTongue", "hear", "(I)I"⟩
abbrev y_Ear_room : MethodName := ⟨"DrumTongue$Ear", "room", "()I"⟩
abbrev y_Ear_add : MethodName := ⟨"DrumTongue$Ear", "add", "(I)I"⟩
abbrev y_X_drum : MethodName := ⟨"DrumTongue", "drum", "(I)I"⟩
abbrev y_Ear_size : MethodName := ⟨"DrumTongue$Ear", "size", "()I"⟩
abbrev y_X_slip : MethodName := ⟨"DrumTongue", "slip", "(II)I"⟩
abbrev y_Ear_at : MethodName := ⟨"DrumTongue$Ear", "at", "(I)I"⟩
abbrev y_Ear_takeOut : MethodName := ⟨"DrumTongue$Ear", "takeOut", "(I)V"⟩
abbrev y_Ear_change : MethodName := ⟨"DrumTongue$Ear", "change", "(II)V"⟩
abbrev y_X_hush : MethodName := ⟨"DrumTongue", "hush", "()I"⟩
abbrev y_Ear_empty : MethodName := ⟨"DrumTongue$Ear", "empty", "()I"⟩
abbrev y_X_read : MethodName := ⟨"DrumTongue", "read", "()I"⟩
abbrev y_Reader_readNow : MethodName := ⟨"DrumTongue$Reader", "readNow", "()Z"⟩
abbrev y_Tongue_phraseCount : MethodName := ⟨"DrumTongue$Tongue", "phraseCount", "()I"⟩
abbrev y_Reader_weighAllCounts : MethodName := ⟨"DrumTongue$Reader", "weighAllCounts", "()V"⟩
abbrev y_Reader_startFrom : MethodName := ⟨"DrumTongue$Reader", "startFrom", "([I)V"⟩
abbrev y_Tongue_wordCount : MethodName := ⟨"DrumTongue$Tongue", "wordCount", "()I"⟩
abbrev y_Reader_copy : MethodName := ⟨"DrumTongue$Reader", "copy", "([I[I)V"⟩
abbrev y_Reader_putInFront : MethodName := ⟨"DrumTongue$Reader", "putInFront", "(I[I)V"⟩
abbrev y_Reader_putBeatInFront : MethodName := ⟨"DrumTongue$Reader", "putBeatInFront", "(I[I)V"⟩
abbrev y_Reader_costOf : MethodName := ⟨"DrumTongue$Reader", "costOf", "(II)I"⟩
abbrev y_Reader_takeLower : MethodName := ⟨"DrumTongue$Reader", "takeLower", "([I[I)V"⟩
abbrev y_Reader_bestCount : MethodName := ⟨"DrumTongue$Reader", "bestCount", "()I"⟩
abbrev y_Reader_spellFirstByNumbers : MethodName := ⟨"DrumTongue$Reader", "spellFirstByNumbers", "()V"⟩
abbrev y_Reader_startUpTo : MethodName := ⟨"DrumTongue$Reader", "startUpTo", "([I)V"⟩
abbrev y_Reader_firstWordThatKeepsTheLeast : MethodName := ⟨"DrumTongue$Reader", "firstWordThatKeepsTheLeast", "(I)I"⟩
abbrev y_Reader_putBehind : MethodName := ⟨"DrumTongue$Reader", "putBehind", "(I[I)V"⟩
abbrev y_Reader_putBeatBehind : MethodName := ⟨"DrumTongue$Reader", "putBeatBehind", "(I[I)V"⟩
abbrev y_Reader_leastTogether : MethodName := ⟨"DrumTongue$Reader", "leastTogether", "([I[I)I"⟩
abbrev y_Reader_keepAsLast : MethodName := ⟨"DrumTongue$Reader", "keepAsLast", "()V"⟩
abbrev y_Reader_offNow : MethodName := ⟨"DrumTongue$Reader", "offNow", "()I"⟩
abbrev y_X_readAt : MethodName := ⟨"DrumTongue", "readAt", "(I)I"⟩
abbrev y_Reader_lastAt : MethodName := ⟨"DrumTongue$Reader", "lastAt", "(I)I"⟩
abbrev y_X_doubt : MethodName := ⟨"DrumTongue", "doubt", "(I)I"⟩
abbrev y_Reader_sizeNow : MethodName := ⟨"DrumTongue$Reader", "sizeNow", "()I"⟩
abbrev y_Reader_doubtAt : MethodName := ⟨"DrumTongue$Reader", "doubtAt", "(I)I"⟩
abbrev y_Reader_weighAround : MethodName := ⟨"DrumTongue$Reader", "weighAround", "(I)V"⟩
abbrev y_X_most : MethodName := ⟨"DrumTongue", "most", "()I"⟩
abbrev y_Reader_mostInDoubt : MethodName := ⟨"DrumTongue$Reader", "mostInDoubt", "()I"⟩
abbrev y_X_hill : MethodName := ⟨"DrumTongue", "hill", "(IIII)I"⟩
abbrev y_Hills_arePair : MethodName := ⟨"DrumTongue$Hills", "arePair", "(II)Z"⟩
abbrev y_Hills_isHill : MethodName := ⟨"DrumTongue$Hills", "isHill", "(I)Z"⟩
abbrev y_Hills_join : MethodName := ⟨"DrumTongue$Hills", "join", "(IIII)V"⟩
abbrev y_X_way : MethodName := ⟨"DrumTongue", "way", "(II)I"⟩
abbrev y_Hills_findBest : MethodName := ⟨"DrumTongue$Hills", "findBest", "(II)Z"⟩
abbrev y_Hills_walk : MethodName := ⟨"DrumTongue$Hills", "walk", "(IIJI)V"⟩
abbrev y_Hills_keepIfBetter : MethodName := ⟨"DrumTongue$Hills", "keepIfBetter", "(IJI)V"⟩
abbrev y_Hills_isOnPath : MethodName := ⟨"DrumTongue$Hills", "isOnPath", "(II)Z"⟩
abbrev y_Hills_bestChance : MethodName := ⟨"DrumTongue$Hills", "bestChance", "()I"⟩
abbrev y_X_wayAt : MethodName := ⟨"DrumTongue", "wayAt", "(III)I"⟩
abbrev y_Hills_bestAt : MethodName := ⟨"DrumTongue$Hills", "bestAt", "(I)I"⟩
abbrev y_X_age : MethodName := ⟨"DrumTongue", "age", "(II)I"⟩
abbrev y_Hills_bestHours : MethodName := ⟨"DrumTongue$Hills", "bestHours", "()I"⟩
abbrev y_X_enough : MethodName := ⟨"DrumTongue", "enough", "(III)I"⟩
abbrev y_Hills_findEnough : MethodName := ⟨"DrumTongue$Hills", "findEnough", "(III)Z"⟩
abbrev y_Hills_tryTimes : MethodName := ⟨"DrumTongue$Hills", "tryTimes", "(IIJI)V"⟩
abbrev y_Hills_chanceBetween : MethodName := ⟨"DrumTongue$Hills", "chanceBetween", "(II)I"⟩
abbrev y_Hills_heardBy : MethodName := ⟨"DrumTongue$Hills", "heardBy", "(II)J"⟩
abbrev y_Hills_enoughSum : MethodName := ⟨"DrumTongue$Hills", "enoughSum", "()I"⟩
abbrev y_X_times : MethodName := ⟨"DrumTongue", "times", "(IIII)I"⟩
abbrev y_Hills_enoughAt : MethodName := ⟨"DrumTongue$Hills", "enoughAt", "(I)I"⟩
abbrev y_X_count : MethodName := ⟨"DrumTongue", "count", "(I)I"⟩
abbrev y_Tongue_endingCount : MethodName := ⟨"DrumTongue$Tongue", "endingCount", "()I"⟩
abbrev y_Tongue_boundNow : MethodName := ⟨"DrumTongue$Tongue", "boundNow", "()I"⟩
abbrev y_Tongue_beatsOfAllPhrases : MethodName := ⟨"DrumTongue$Tongue", "beatsOfAllPhrases", "()I"⟩
abbrev y_Ear_gaps : MethodName := ⟨"DrumTongue$Ear", "gaps", "()I"⟩
abbrev y_Reader_lastSize : MethodName := ⟨"DrumTongue$Reader", "lastSize", "()I"⟩
abbrev y_X_digest : MethodName := ⟨"DrumTongue", "digest", "()J"⟩
abbrev y_Tongue_mixInto : MethodName := ⟨"DrumTongue$Tongue", "mixInto", "(J)J"⟩
abbrev y_Ear_mixInto : MethodName := ⟨"DrumTongue$Ear", "mixInto", "(J)J"⟩
abbrev y_Reader_mixInto : MethodName := ⟨"DrumTongue$Reader", "mixInto", "(J)J"⟩
abbrev y_Hills_mixInto : MethodName := ⟨"DrumTongue$Hills", "mixInto", "(J)J"⟩
abbrev y_M_init : MethodName := ⟨"DrumTongueModel", "<init>", "()V"⟩
abbrev y_M_word : MethodName := ⟨"DrumTongueModel", "word", "(II)I"⟩
abbrev y_M_isRow : MethodName := ⟨"DrumTongueModel", "isRow", "(II)Z"⟩
abbrev y_M_in : MethodName := ⟨"DrumTongueModel", "in", "(JJJ)Z"⟩
abbrev y_M_gone : MethodName := ⟨"DrumTongueModel", "gone", "()V"⟩
abbrev y_M_ending : MethodName := ⟨"DrumTongueModel", "ending", "(II)I"⟩
abbrev y_M_bound : MethodName := ⟨"DrumTongueModel", "bound", "(I)I"⟩
abbrev y_M_choose : MethodName := ⟨"DrumTongueModel", "choose", "()I"⟩
abbrev y_M_order : MethodName := ⟨"DrumTongueModel", "order", "()V"⟩
abbrev y_M_come : MethodName := ⟨"DrumTongueModel", "come", "(IIII)V"⟩
abbrev y_M_isLater : MethodName := ⟨"DrumTongueModel", "isLater", "(IIIII)Z"⟩
abbrev y_M_isFree : MethodName := ⟨"DrumTongueModel", "isFree", "(II[I)Z"⟩
abbrev y_M_isApart : MethodName := ⟨"DrumTongueModel", "isApart", "(IIII)Z"⟩
abbrev y_M_bitsOf : MethodName := ⟨"DrumTongueModel", "bitsOf", "(II)I"⟩
abbrev y_M_apart : MethodName := ⟨"DrumTongueModel", "apart", "(IIII)I"⟩
abbrev y_M_ones : MethodName := ⟨"DrumTongueModel", "ones", "(I)I"⟩
abbrev y_M_phrased : MethodName := ⟨"DrumTongueModel", "phrased", "()I"⟩
abbrev y_M_least : MethodName := ⟨"DrumTongueModel", "least", "()I"⟩
abbrev y_M_length : MethodName := ⟨"DrumTongueModel", "length", "(I)I"⟩
abbrev y_M_isWord : MethodName := ⟨"DrumTongueModel", "isWord", "(I)Z"⟩
abbrev y_M_lengthOf : MethodName := ⟨"DrumTongueModel", "lengthOf", "(I)I"⟩
abbrev y_M_beat : MethodName := ⟨"DrumTongueModel", "beat", "(II)I"⟩
abbrev y_M_beatOf : MethodName := ⟨"DrumTongueModel", "beatOf", "(II)I"⟩
abbrev y_M_endingAt : MethodName := ⟨"DrumTongueModel", "endingAt", "(II)I"⟩
abbrev y_M_far : MethodName := ⟨"DrumTongueModel", "far", "(II)I"⟩
abbrev y_M_hear : MethodName := ⟨"DrumTongueModel", "hear", "(I)I"⟩
abbrev y_M_drum : MethodName := ⟨"DrumTongueModel", "drum", "(I)I"⟩
abbrev y_M_slip : MethodName := ⟨"DrumTongueModel", "slip", "(II)I"⟩
abbrev y_M_hush : MethodName := ⟨"DrumTongueModel", "hush", "()I"⟩
abbrev y_M_read : MethodName := ⟨"DrumTongueModel", "read", "()I"⟩
abbrev y_M_reading : MethodName := ⟨"DrumTongueModel", "reading", "()I"⟩
abbrev y_M_restFrom : MethodName := ⟨"DrumTongueModel", "restFrom", "(I)V"⟩
abbrev y_M_ahead : MethodName := ⟨"DrumTongueModel", "ahead", "(I)V"⟩
abbrev y_M_lesser : MethodName := ⟨"DrumTongueModel", "lesser", "(II)I"⟩
abbrev y_M_off : MethodName := ⟨"DrumTongueModel", "off", "(II)I"⟩
abbrev y_M_behind : MethodName := ⟨"DrumTongueModel", "behind", "(I)V"⟩
abbrev y_M_readAt : MethodName := ⟨"DrumTongueModel", "readAt", "(I)I"⟩
abbrev y_M_doubt : MethodName := ⟨"DrumTongueModel", "doubt", "(I)I"⟩
abbrev y_M_doubtOf : MethodName := ⟨"DrumTongueModel", "doubtOf", "(II)I"⟩
abbrev y_M_offWith : MethodName := ⟨"DrumTongueModel", "offWith", "(II)I"⟩
abbrev y_M_most : MethodName := ⟨"DrumTongueModel", "most", "()I"⟩
abbrev y_M_hill : MethodName := ⟨"DrumTongueModel", "hill", "(IIII)I"⟩
abbrev y_M_isHill : MethodName := ⟨"DrumTongueModel", "isHill", "(I)Z"⟩
abbrev y_M_way : MethodName := ⟨"DrumTongueModel", "way", "(II)I"⟩
abbrev y_M_areHills : MethodName := ⟨"DrumTongueModel", "areHills", "(II)Z"⟩
abbrev y_M_look : MethodName := ⟨"DrumTongueModel", "look", "(II)V"⟩
abbrev y_M_wayAt : MethodName := ⟨"DrumTongueModel", "wayAt", "(III)I"⟩
abbrev y_M_age : MethodName := ⟨"DrumTongueModel", "age", "(II)I"⟩
abbrev y_M_enough : MethodName := ⟨"DrumTongueModel", "enough", "(III)I"⟩
abbrev y_M_enoughFor : MethodName := ⟨"DrumTongueModel", "enoughFor", "(III)I"⟩
abbrev y_M_times : MethodName := ⟨"DrumTongueModel", "times", "(IIII)I"⟩
abbrev y_M_count : MethodName := ⟨"DrumTongueModel", "count", "(I)I"⟩
abbrev y_M_digest : MethodName := ⟨"DrumTongueModel", "digest", "()J"⟩
abbrev xCl : List vw_C := [(RX0, TX0, 2), (RX1, TX1, 10), (RX2, TX2, 11), (RX3, TX3, 3), (RX4, TX4, 3), (RX5, TX5, 12), (RX6, TX6, 4), (RX7, TX7, 39)]
end
section
/-! THE X MACHINE: an abstract machine over the kit's W. Values are Ints (taken modulo 2^32, 2^64) and references; addresses are counted from the law's start (0 is the script). The heap is: numbers M (address, place) of cells whose shape the table T fixes; other cells, told one by one; the next address. Owed from the names: xCl (classes), xTys (element types by kind), xTB (words) -/
abbrev xV : Type := Int ⊕ Int ⊕ Option Nat
abbrev xI (z : Int) : xV := Sum.inl z
abbrev xJ (z : Int) : xV := Sum.inr (Sum.inl z)
abbrev xR (r : Option Nat) : xV := Sum.inr (Sum.inr r)
abbrev xE : Type := (Nat × List xV) ⊕ (Nat × Nat × (Nat → xV))
abbrev xDf : Type := Option Nat ⊕ Bool
abbrev xDe : Type := (Nat × List xDf) ⊕ (Nat × Nat × Option (Nat → Option Nat))
abbrev xT : Type := Nat → Option xDe
abbrev xM : Type := Nat → Nat → Int
abbrev xH : Type := xM × (Nat → Option xE) × Nat
abbrev xG : Type := va_G × (Nat → ClassId) × Nat × Nat × Cell
abbrev xLs : Type := List (Option xV)
abbrev xMd : Type := MethodName × ByteArray × Nat × Option FieldType
abbrev xTys : List FieldType := [.int, .long, .array .int]
theorem xTy0 : xTys[0]? = some .int := rfl
theorem xTy1 : xTys[1]? = some .long := rfl
def xTB : List Cond := lw_tbl.filter goodWord
theorem xin_tb {w : Cond} (i : Nat) (h : lw_tbl[i]? = some w) (g : goodWord w = true) : w ∈ xTB := List.mem_filter.mpr ⟨List.mem_of_getElem? h, g⟩
theorem xWi : Cond.arrayClass .int ∈ xTB := xin_tb 95 (by decide +kernel) rfl
theorem xWj : Cond.arrayClass .long ∈ xTB := xin_tb 895 (by decide +kernel) rfl
def xup {α : Type} (f : Nat → α) (k : Nat) (v : α) : Nat → α := fun j => if j = k then v else f j
theorem xup_at {α : Type} (f : Nat → α) (k : Nat) (v : α) : xup f k v k = v := if_pos rfl
theorem xup_ne {α : Type} {f : Nat → α} {k j : Nat} {v : α} (h : j ≠ k) : xup f k v j = f j := if_neg h
def xad (G : xG) : Nat → Nat
  | 0 => G.2.2.2.1
  | a + 1 => G.2.2.1 + a
def xc (G : xG) : xV → Value
  | .inl z => .int (Int32.ofInt z)
  | .inr (.inl z) => .long (Int64.ofInt z)
  | .inr (.inr none) => .null
  | .inr (.inr (some a)) => .ref (xad G a)
def xdv (M : xM) (a k : Nat) : xDf → xV
  | .inl r => xR r
  | .inr true => xJ (M a k)
  | .inr false => xI (M a k)
def xdl (M : xM) (a : Nat) : Nat → List xDf → List xV
  | _, [] => []
  | k, d :: ds => xdv M a k d :: xdl M a (k + 1) ds
def xda (M : xM) (a t : Nat) : Option (Nat → Option Nat) → Nat → xV
  | some r => fun j => xR (r j)
  | none => match t with
    | 1 => fun j => xJ (M a j)
    | _ => fun j => xI (M a j)
def xde (M : xM) (a : Nat) : xDe → xE
  | .inl (ci, ds) => .inl (ci, xdl M a 0 ds)
  | .inr (t, n, r) => .inr (t, n, xda M a t r)
def xrd (T : xT) (h : xH) (a : Nat) : Option xE := match T a with
  | some d => some (xde h.1 a d)
  | none => h.2.1 a
/-- the real cell at q is the abstract one; kind 9: the script -/
def xat (G : xG) (q : Nat) (e : xE) (H : Heap) : Prop := match e with
  | .inl (ci, fs) => ∃ r : vw_C, xCl[ci]? = some r ∧ t_OB q (G.1.1 ci) r.2.2 (G.1.2 ci) H (vp_V (fs.map (xc G)))
  | .inr (t, n, f) => if t = 9 then H[q]? = some G.2.2.2.2 ∧ G.2.2.2.2.slots.size = n ∧ ∀ j, j < n → G.2.2.2.2.slots[j]? = some (xc G (f j)) else H[q]? = some (arrV (G.2.1 t) n (fun j => xc G (f j)))
theorem xat.kept {G : xG} {q : Nat} {e : xE} {H H1 : Heap} (h : xat G q e H) (hq : H1[q]? = H[q]?) : xat G q e H1 := by
  rcases e with ⟨ci, fs⟩ | ⟨t, n, f⟩
  · obtain ⟨r, h1, h2⟩ := h
    exact ⟨r, h1, h2.kept hq⟩
  · unfold xat at h ⊢
    by_cases ht : t = 9
    · simp only [ht, if_true] at h ⊢
      exact ⟨hq.trans h.1, h.2⟩
    · simp only [ht, if_false] at h ⊢
      exact hq.trans h
theorem xat.lt {G : xG} {q : Nat} {e : xE} {H : Heap} (h : xat G q e H) : q < H.size := by
  rcases e with ⟨ci, fs⟩ | ⟨t, n, f⟩
  · obtain ⟨r, h1, cell, h2, -⟩ := h
    exact (Array.getElem?_eq_some_iff.mp h2).1
  · unfold xat at h
    by_cases ht : t = 9
    · simp only [ht, if_true] at h
      exact (Array.getElem?_eq_some_iff.mp h.1).1
    · simp only [ht, if_false] at h
      exact (Array.getElem?_eq_some_iff.mp h).1
/-- the abstract heap tells the real one; the script stands below the base and is alone of kind 9 -/
def xMt (T : xT) (G : xG) (h : xH) (H : Heap) : Prop := G.2.2.2.1 < G.2.2.1 ∧ 1 ≤ h.2.2 ∧ H.size = xad G h.2.2 ∧ ∀ (a : Nat) (e : xE), xrd T h a = some e → xat G (xad G a) e H ∧ (a = 0 ↔ ∃ (n : Nat) (f : Nat → xV), e = .inr (9, n, f))
def xKn (G : xG) (U : State) : Prop := va_K G.1 xCl [] U ∧ (∀ (t : Nat) (ty : FieldType), xTys[t]? = some ty → ArrOfT U (G.2.1 t) ty ∧ va_RA U (G.2.1 t) ty) ∧ U.isArrayOf G.2.2.2.2 .int ∧ G.2.2.2.2.vm ≠ .unknown ∧ (Cond.arrayOver (.array .int)).before #[] U = true ∧ va_Nw (.methodLinkNest "DrumTongue" 18 y_Ear_init "DrumTongue") U
theorem xKn.warm {G : xG} {u U : State} (hW : u.WarmedH U.vm) (h : xKn G u) : xKn G U := ⟨va_K.moved hW.alike h.1, fun t ty ht => ⟨arrOfT_moved hW.alike (h.2.1 t ty ht).1, (h.2.1 t ty ht).2.moved hW.alike⟩, State.isArrayOf_alike hW.alike h.2.2.1, h.2.2.2.1, over_moved hW.alike h.2.2.2.2.1, va_Nw.warmM hW h.2.2.2.2.2⟩
theorem xKn.same {G : xG} {u U : State} (hvm : u.vm.Alike U.vm) (he : u.vm = U.vm) (h : xKn G u) : xKn G U := ⟨va_K.moved hvm h.1, fun t ty ht => ⟨arrOfT_moved hvm (h.2.1 t ty ht).1, (h.2.1 t ty ht).2.moved hvm⟩, State.isArrayOf_alike hvm h.2.2.1, h.2.2.2.1, over_moved hvm h.2.2.2.2.1, va_Nw.same rfl he h.2.2.2.2.2⟩
/-- the addresses that the law's walk may write: those from the base on -/
abbrev xA (G : xG) : Nat → Prop := fun q => G.2.2.1 ≤ q
theorem xad_inj {G : xG} (hb : G.2.2.2.1 < G.2.2.1) {a b : Nat} (h : xad G a = xad G b) : a = b := by
  cases a <;> cases b <;> simp [xad] at h ⊢ <;> omega
theorem xad_base {G : xG} {a : Nat} (h : a ≠ 0) : G.2.2.1 ≤ xad G a := by
  cases a with
  | zero => exact absurd rfl h
  | succ a => exact Nat.le_add_right _ _
theorem xMt.put {T : xT} {G : xG} {h h' : xH} {H H1 : Heap} {a : Nat} {e0 e : xE} (hM : xMt T G h H) (ha : xrd T h a = some e0) (ha0 : a ≠ 0) (he9 : ∀ (n : Nat) (f : Nat → xV), e ≠ .inr (9, n, f)) (z : H1.size = H.size) (oq : ∀ q : Nat, q ≠ xad G a → H1[q]? = H[q]?) (e1 : xrd T h' a = some e) (e2 : ∀ b, b ≠ a → xrd T h' b = xrd T h b) (e3 : h'.2.2 = h.2.2) (he : xat G (xad G a) e H1) : xMt T G h' H1 := by
  refine ⟨hM.1, by rw [e3]; exact hM.2.1, by rw [z, e3]; exact hM.2.2.1, fun q e' hq => ?_⟩
  by_cases hqa : q = a
  · subst hqa
    rw [e1] at hq
    cases hq
    exact ⟨he, ⟨fun q0 => absurd q0 ha0, fun ⟨n, f, q0⟩ => absurd q0 (he9 n f)⟩⟩
  · rw [e2 q hqa] at hq
    have h1 := hM.2.2.2 q e' hq
    exact ⟨h1.1.kept (oq _ fun q0 => hqa (xad_inj hM.1 q0)), h1.2⟩
theorem xMt.fresh {T : xT} {G : xG} {h : xH} {H : Heap} (hM : xMt T G h H) {a : Nat} (ha : h.2.2 ≤ a) : xrd T h a = none := by
  cases hx : xrd T h a with
  | none => rfl
  | some e =>
    have h1 := (hM.2.2.2 a e hx).1.lt
    rw [hM.2.2.1] at h1
    have h2 := hM.2.1
    obtain ⟨x, hx1⟩ : ∃ x, h.2.2 = x + 1 := ⟨h.2.2 - 1, by omega⟩
    obtain ⟨y, hy1⟩ : ∃ y, a = y + 1 := ⟨a - 1, by omega⟩
    rw [hx1, hy1] at h1
    simp only [xad] at h1
    omega
theorem xMt.freshT {T : xT} {G : xG} {h : xH} {H : Heap} (hM : xMt T G h H) {a : Nat} (ha : h.2.2 ≤ a) : T a = none := by
  have := hM.fresh ha
  unfold xrd at this
  cases hT : T a with
  | none => rfl
  | some d => rw [hT] at this; cases this
theorem xad_succ {G : xG} {a : Nat} (h : 1 ≤ a) : xad G (a + 1) = xad G a + 1 := by
  obtain ⟨x, rfl⟩ : ∃ x, a = x + 1 := ⟨a - 1, by omega⟩
  simp [xad]; omega
theorem xad_add {G : xG} {a : Nat} (h : 1 ≤ a) (k : Nat) : xad G (a + k) = xad G a + k := by
  obtain ⟨x, rfl⟩ : ∃ x, a = x + 1 := ⟨a - 1, by omega⟩
  rw [show x + 1 + k = (x + k) + 1 by omega]
  simp [xad]; omega
theorem xMt.push {T : xT} {G : xG} {h : xH} {H H1 : Heap} {e : xE} (hM : xMt T G h H) (he9 : ∀ (n : Nat) (f : Nat → xV), e ≠ .inr (9, n, f)) (z : H1.size = H.size + 1) (oq : ∀ q : Nat, q < H.size → H1[q]? = H[q]?) (he : xat G H.size e H1) : xMt T G (h.1, xup h.2.1 h.2.2 (some e), h.2.2 + 1) H1 := by
  refine ⟨hM.1, Nat.le_succ_of_le hM.2.1, by rw [z, hM.2.2.1]; exact (xad_succ hM.2.1).symm, fun q e' hq => ?_⟩
  by_cases hqa : q = h.2.2
  · subst hqa
    unfold xrd at hq
    rw [hM.freshT (Nat.le_refl _)] at hq
    simp only [xup_at] at hq
    cases hq
    rw [← hM.2.2.1]
    exact ⟨he, ⟨fun q0 => absurd hM.2.1 (by omega), fun ⟨n, f, q0⟩ => absurd q0 (he9 n f)⟩⟩
  · have hq' : xrd T h q = some e' := by
      unfold xrd at hq ⊢
      cases hT : T q with
      | none => rw [hT] at hq; simp only [xup_ne hqa] at hq; exact hq
      | some d => rw [hT] at hq; exact hq
    have h1 := hM.2.2.2 q e' hq'
    exact ⟨h1.1.kept (oq _ h1.1.lt), h1.2⟩
/-- a field written: the new heap -/
def xwf (T : xT) (h : xH) (a ci kf : Nat) (v : xV) (K : xH → Prop) : Prop := match h with
  | (M, D, nx) => match T a with
    | some (.inl (c, ds)) => cond (Nat.beq c ci) (match ds[kf]?, v with
      | some (.inr false), .inl z => K (xup M a (xup (M a) kf z), D, nx)
      | some (.inr true), .inr (.inl z) => K (xup M a (xup (M a) kf z), D, nx)
      | _, _ => False) False
    | some (.inr _) => False
    | none => match D a with
      | some (.inl (c, fs)) => cond (Nat.beq c ci && Nat.blt kf fs.length) (K (M, xup D a (some (.inl (c, fs.set kf v))), nx)) False
      | _ => False
/-- an element written -/
def xwa (T : xT) (h : xH) (a k : Nat) (v : xV) (K : xH → Prop) : Prop := match h with
  | (M, D, nx) => match T a with
    | some (.inr (t, _, none)) => match t, v with
      | 0, .inl z => K (xup M a (xup (M a) k z), D, nx)
      | 1, .inr (.inl z) => K (xup M a (xup (M a) k z), D, nx)
      | _, _ => False
    | some _ => False
    | none => match D a with
      | some (.inr (t, n, f)) => K (M, xup D a (some (.inr (t, n, xup f k v))), nx)
      | _ => False
theorem xrd_other {T : xT} {h h' : xH} {a b : Nat} (hn : b ≠ a) (h1 : h'.1 b = h.1 b) (h2 : h'.2.1 b = h.2.1 b) : xrd T h' b = xrd T h b := by
  unfold xrd
  cases T b with
  | none => exact h2
  | some d =>
    have e1 : ∀ k, h'.1 b k = h.1 b k := fun k => by rw [h1]
    have e2 : ∀ (k : Nat) (ds : List xDf), xdl h'.1 b k ds = xdl h.1 b k ds := by
      intro k ds
      induction ds generalizing k with
      | nil => rfl
      | cons d ds ih =>
        simp only [xdl, ih]
        rcases d with r | (_ | _) <;> simp [xdv, e1]
    rcases d with ⟨ci, ds⟩ | ⟨t, n, r⟩
    · simp [xde, e2]
    · simp only [xde]
      cases r with
      | some r => rfl
      | none =>
        have : xda h'.1 b t none = xda h.1 b t none := by
          unfold xda
          simp only [h1]
        rw [this]
theorem xdl_len (M : xM) (a : Nat) : ∀ (k : Nat) (ds : List xDf), (xdl M a k ds).length = ds.length
  | _, [] => rfl
  | k, _ :: ds => by simp [xdl, xdl_len M a (k + 1) ds]
theorem xdl_get (M : xM) (a : Nat) : ∀ (k : Nat) (ds : List xDf) (j : Nat), (xdl M a k ds)[j]? = ds[j]?.map (xdv M a (k + j))
  | _, [], j => by simp [xdl]
  | k, d :: ds, 0 => by simp [xdl]
  | k, d :: ds, j + 1 => by
    simp only [xdl, List.getElem?_cons_succ]
    rw [xdl_get M a (k + 1) ds j, show k + 1 + j = k + (j + 1) by omega]
theorem xdl_set (M : xM) (a : Nat) (ds : List xDf) (kf : Nat) (z : Int) (v : xV) (hd : ds[kf]?.map (xdv (xup M a (xup (M a) kf z)) a kf) = some v) : xdl (xup M a (xup (M a) kf z)) a 0 ds = (xdl M a 0 ds).set kf v := by
  apply List.ext_getElem?
  intro j
  rw [xdl_get, List.getElem?_set, xdl_len, xdl_get]
  by_cases hj : kf = j
  · subst hj
    have hlt : kf < ds.length := by
      rcases Nat.lt_or_ge kf ds.length with q | q
      · exact q
      · rw [List.getElem?_eq_none q] at hd; cases hd
    rw [if_pos rfl, if_pos hlt, Nat.zero_add]
    exact hd
  · rw [if_neg hj]
    cases ds[j]? with
    | none => rfl
    | some d =>
      simp only [Option.map_some, Nat.zero_add]
      rcases d with r | (_ | _) <;> simp [xdv, xup_at, xup_ne (Ne.symm hj)]
theorem xbeq {a b : Nat} (h : Nat.beq a b = true) : a = b := Nat.eq_of_beq_eq_true h
theorem xcond {b : Bool} {A : Prop} (h : cond b A False) : b = true ∧ A := by
  cases b with
  | true => exact ⟨rfl, h⟩
  | false => exact h.elim
theorem xwf_spec {T : xT} {h : xH} {a ci kf : Nat} {v : xV} {K : xH → Prop} (hw : xwf T h a ci kf v K) : ∃ (fs : List xV) (h' : xH), xrd T h a = some (.inl (ci, fs)) ∧ kf < fs.length ∧ xrd T h' a = some (.inl (ci, fs.set kf v)) ∧ (∀ b, b ≠ a → xrd T h' b = xrd T h b) ∧ h'.2.2 = h.2.2 ∧ K h' := by
  obtain ⟨M, D, nx⟩ := h
  simp only [xwf] at hw
  cases hT : T a with
  | some d =>
    rw [hT] at hw
    rcases d with ⟨c, ds⟩ | d
    · simp only at hw
      have hc := (xcond hw).1
      replace hw := (xcond hw).2
      obtain rfl := xbeq hc
      have hlen : ∀ {d : xDf}, ds[kf]? = some d → kf < ds.length := fun {d} q => (List.getElem?_eq_some_iff.mp q).1
      have go : ∀ (z : Int) (d : xDf), ds[kf]? = some d → xdv (xup M a (xup (M a) kf z)) a kf d = v → K (xup M a (xup (M a) kf z), D, nx) → ∃ (fs : List xV) (h' : xH), xrd T (M, D, nx) a = some (.inl (c, fs)) ∧ kf < fs.length ∧ xrd T h' a = some (.inl (c, fs.set kf v)) ∧ (∀ b, b ≠ a → xrd T h' b = xrd T (M, D, nx) b) ∧ h'.2.2 = nx ∧ K h' := by
        intro z d hd hv hk
        refine ⟨xdl M a 0 ds, (xup M a (xup (M a) kf z), D, nx), ?_, ?_, ?_, ?_, rfl, hk⟩
        · simp [xrd, hT, xde]
        · rw [xdl_len]; exact hlen hd
        · simp only [xrd, hT, xde]
          rw [xdl_set M a ds kf z v (by rw [hd, Option.map_some, hv])]
        · intro b hb
          exact xrd_other hb (xup_ne hb) rfl
      cases hd : ds[kf]? with
      | none => rw [hd] at hw; exact hw.elim
      | some d =>
        rw [hd] at hw
        rcases d with r | (_ | _) <;> rcases v with z | z | r2 <;> simp only at hw
        · exact go z _ hd (by simp [xdv, xup_at]) hw
        · exact go z _ hd (by simp [xdv, xup_at]) hw
    · exact hw.elim
  | none =>
    rw [hT] at hw
    simp only at hw
    cases hD : D a with
    | none => rw [hD] at hw; exact hw.elim
    | some e =>
      rw [hD] at hw
      rcases e with ⟨c, fs⟩ | e
      · simp only at hw
        have hc := (xcond hw).1
        replace hw := (xcond hw).2
        rw [Bool.and_eq_true] at hc
        obtain rfl := xbeq hc.1
        refine ⟨fs, (M, xup D a (some (.inl (c, fs.set kf v))), nx), ?_, by simpa [Nat.blt_eq] using hc.2, ?_, ?_, rfl, hw⟩
        · simp [xrd, hT, hD]
        · simp [xrd, hT, xup_at]
        · intro b hb
          exact xrd_other hb rfl (xup_ne hb)
      · exact hw.elim
theorem xwa_spec {T : xT} {h : xH} {a k : Nat} {v : xV} {K : xH → Prop} {t n : Nat} {f : Nat → xV} (ha : xrd T h a = some (.inr (t, n, f))) (hw : xwa T h a k v K) : ∃ h' : xH, xrd T h' a = some (.inr (t, n, xup f k v)) ∧ (∀ b, b ≠ a → xrd T h' b = xrd T h b) ∧ h'.2.2 = h.2.2 ∧ K h' := by
  obtain ⟨M, D, nx⟩ := h
  simp only [xwa] at hw
  cases hT : T a with
  | some d =>
    rw [hT] at hw
    rcases d with d | ⟨t1, n1, r⟩
    · exact hw.elim
    · cases r with
      | some r => exact hw.elim
      | none =>
        simp only at hw
        have hf : t1 = t ∧ n1 = n ∧ xda M a t1 none = f := by
          simp only [xrd, hT, xde] at ha
          have := Option.some.inj ha
          have := Sum.inr.inj this
          simp only [Prod.mk.injEq] at this
          exact this
        obtain ⟨rfl, rfl, rfl⟩ := hf
        rcases t1 with _ | _ | t1 <;> rcases v with z | z | r2 <;> simp only at hw
        · refine ⟨(xup M a (xup (M a) k z), D, nx), ?_, fun b hb => xrd_other hb (xup_ne hb) rfl, rfl, hw⟩
          simp only [xrd, hT, xde]
          refine congrArg (fun f : Nat → xV => (some (Sum.inr (0, n1, f)) : Option xE)) (funext fun j => ?_)
          simp only [xda, xup_at]
          by_cases hj : j = k <;> simp [xup, hj]
        · refine ⟨(xup M a (xup (M a) k z), D, nx), ?_, fun b hb => xrd_other hb (xup_ne hb) rfl, rfl, hw⟩
          simp only [xrd, hT, xde]
          refine congrArg (fun f : Nat → xV => (some (Sum.inr (1, n1, f)) : Option xE)) (funext fun j => ?_)
          simp only [xda, xup_at]
          by_cases hj : j = k <;> simp [xup, hj]
  | none =>
    rw [hT] at hw
    simp only at hw
    have hD : D a = some (.inr (t, n, f)) := by
      simp only [xrd, hT] at ha
      exact ha
    rw [hD] at hw
    simp only at hw
    refine ⟨(M, xup D a (some (.inr (t, n, xup f k v))), nx), ?_, fun b hb => xrd_other hb rfl (xup_ne hb), rfl, hw⟩
    simp [xrd, hT, xup_at]
/-! locals -/
def xls (G : xG) : Nat → xLs → List (Nat × Value)
  | _, [] => []
  | i, none :: L => xls G (i + 1) L
  | i, some v :: L => (i, xc G v) :: xls G (i + 1) L
theorem xls_mem {G : xG} : ∀ {L : xLs} {i : Nat} {q : Nat × Value}, q ∈ xls G i L ↔ ∃ (j : Nat) (v : xV), L[j]? = some (some v) ∧ q = (i + j, xc G v)
  | [], i, q => by simp [xls]
  | none :: L, i, q => by
    rw [xls, xls_mem]
    constructor
    · rintro ⟨j, v, h1, rfl⟩
      exact ⟨j + 1, v, by simpa using h1, by rw [show i + 1 + j = i + (j + 1) by omega]⟩
    · rintro ⟨j, v, h1, rfl⟩
      cases j with
      | zero => simp at h1
      | succ j => exact ⟨j, v, by simpa using h1, by rw [show i + (j + 1) = i + 1 + j by omega]⟩
  | some w :: L, i, q => by
    rw [xls, List.mem_cons, xls_mem]
    constructor
    · rintro (rfl | ⟨j, v, h1, rfl⟩)
      · exact ⟨0, w, rfl, rfl⟩
      · exact ⟨j + 1, v, by simpa using h1, by rw [show i + 1 + j = i + (j + 1) by omega]⟩
    · rintro ⟨j, v, h1, rfl⟩
      cases j with
      | zero =>
        simp at h1
        subst h1
        exact Or.inl rfl
      | succ j => exact Or.inr ⟨j, v, by simpa using h1, by rw [show i + (j + 1) = i + 1 + j by omega]⟩
/-- a local of one word is written: the new list goes to K, spelled out; a long is gone when its second half is written over -/
def xst : xLs → Nat → xV → (xLs → Prop) → Prop
  | [], _, _, _ => False
  | _ :: L, 0, v, K => K (some v :: L)
  | a :: L, i + 1, v, K => match i, a with
    | 0, some (.inr (.inl _)) => xst L 0 v fun L' => K (none :: L')
    | _, _ => xst L i v fun L' => K (a :: L')
/-- a long is written -/
def xst2 : xLs → Nat → Int → (xLs → Prop) → Prop
  | [], _, _, _ => False
  | [_], _, _, _ => False
  | _ :: _ :: L, 0, z, K => K (some (xJ z) :: none :: L)
  | a :: b :: L, i + 1, z, K => match i, a with
    | 0, some (.inr (.inl _)) => xst2 (b :: L) 0 z fun L' => K (none :: L')
    | _, _ => xst2 (b :: L) i z fun L' => K (a :: L')
theorem xst_spec : ∀ {L : xLs} {i : Nat} {v : xV} {K : xLs → Prop}, xst L i v K → i < L.length ∧ ∃ L' : xLs, K L' ∧ L'.length = L.length ∧ ∀ (j : Nat) (w : xV), L'[j]? = some (some w) → (j = i ∧ w = v) ∨ (j ≠ i ∧ L[j]? = some (some w) ∧ (j + 1 = i → ∀ z, w ≠ xJ z))
  | [], i, v, K, h => h.elim
  | a :: L, 0, v, K, h => by
    refine ⟨by simp, _, h, by simp, fun j w hj => ?_⟩
    cases j with
    | zero => simp at hj; exact Or.inl ⟨rfl, hj.symm⟩
    | succ j => exact Or.inr ⟨by omega, by simpa using hj, fun q => by omega⟩
  | a :: L, i + 1, v, K, h => by
    have go : ∀ (a' : Option xV), (a' = none ∨ (a' = a ∧ (i = 0 → ∀ z, a ≠ some (xJ z)))) → xst L i v (fun L' => K (a' :: L')) → i + 1 < (a :: L).length ∧ ∃ L' : xLs, K L' ∧ L'.length = (a :: L).length ∧ ∀ (j : Nat) (w : xV), L'[j]? = some (some w) → (j = i + 1 ∧ w = v) ∨ (j ≠ i + 1 ∧ (a :: L)[j]? = some (some w) ∧ (j + 1 = i + 1 → ∀ z, w ≠ xJ z)) := by
      intro a' ha' h
      obtain ⟨h1, L', h2, h3, h4⟩ := xst_spec (L := L) h
      refine ⟨by simp; omega, _, h2, by simp [h3], fun j w hj => ?_⟩
      cases j with
      | zero =>
        simp at hj
        rcases ha' with ha' | ⟨ha', hz⟩
        · subst ha'; cases hj
        · subst ha'
          subst hj
          exact Or.inr ⟨by omega, rfl, fun q z e => hz (by omega) z (by rw [e])⟩
      | succ j =>
        have hj' : L'[j]? = some (some w) := by simpa using hj
        rcases h4 j w hj' with ⟨q1, q2⟩ | ⟨q1, q2, q3⟩
        · exact Or.inl ⟨by omega, q2⟩
        · exact Or.inr ⟨by omega, by simpa using q2, fun q => q3 (by omega)⟩
    unfold xst at h
    split at h
    · exact go none (Or.inl rfl) h
    · rename_i hne
      refine go a (Or.inr ⟨rfl, fun hi z e => ?_⟩) h
      subst hi
      exact hne z rfl e
theorem xst2_spec : ∀ {L : xLs} {i : Nat} {z : Int} {K : xLs → Prop}, xst2 L i z K → i + 1 < L.length ∧ ∃ L' : xLs, K L' ∧ L'.length = L.length ∧ ∀ (j : Nat) (w : xV), L'[j]? = some (some w) → (j = i ∧ w = xJ z) ∨ (j ≠ i ∧ j ≠ i + 1 ∧ L[j]? = some (some w) ∧ (j + 1 = i → ∀ z, w ≠ xJ z))
  | [], i, z, K, h => by cases i <;> exact h.elim
  | [a], i, z, K, h => by
    rcases i with _ | i <;> exact h.elim
  | a :: b :: L, 0, z, K, h => by
    refine ⟨by simp, _, h, by simp, fun j w hj => ?_⟩
    match j, hj with
    | 0, hj => simp at hj; exact Or.inl ⟨rfl, hj.symm⟩
    | 1, hj => simp at hj
    | j + 2, hj => exact Or.inr ⟨by omega, by omega, by simpa using hj, fun q => by omega⟩
  | a :: b :: L, i + 1, z, K, h => by
    have go : ∀ (a' : Option xV), (a' = none ∨ (a' = a ∧ (i = 0 → ∀ z, a ≠ some (xJ z)))) → xst2 (b :: L) i z (fun L' => K (a' :: L')) → i + 1 + 1 < (a :: b :: L).length ∧ ∃ L' : xLs, K L' ∧ L'.length = (a :: b :: L).length ∧ ∀ (j : Nat) (w : xV), L'[j]? = some (some w) → (j = i + 1 ∧ w = xJ z) ∨ (j ≠ i + 1 ∧ j ≠ i + 1 + 1 ∧ (a :: b :: L)[j]? = some (some w) ∧ (j + 1 = i + 1 → ∀ z, w ≠ xJ z)) := by
      intro a' ha' h
      obtain ⟨h1, L', h2, h3, h4⟩ := xst2_spec (L := b :: L) h
      refine ⟨by simp at h1 ⊢; omega, _, h2, by simp [h3], fun j w hj => ?_⟩
      cases j with
      | zero =>
        simp at hj
        rcases ha' with ha' | ⟨ha', hz⟩
        · subst ha'; cases hj
        · subst ha'
          subst hj
          exact Or.inr ⟨by omega, by omega, rfl, fun q z e => hz (by omega) z (by rw [e])⟩
      | succ j =>
        have hj' : L'[j]? = some (some w) := by simpa using hj
        rcases h4 j w hj' with ⟨q1, q2⟩ | ⟨q1, q2, q3, q4⟩
        · exact Or.inl ⟨by omega, q2⟩
        · exact Or.inr ⟨by omega, by omega, by simpa using q3, fun q => q4 (by omega)⟩
    unfold xst2 at h
    split at h
    · exact go none (Or.inl rfl) h
    · rename_i hne
      refine go a (Or.inr ⟨rfl, fun hi z e => ?_⟩) h
      subst hi
      exact hne z rfl e
theorem xl_get {G : xG} {ls : Array Slot} {nL : Nat} {L : xLs} (hl : lv_has ls nL (xls G 0 L)) {i : Nat} {v : xV} (h : L[i]? = some (some v)) : ls[i]? = some (.val (xc G v)) :=
  hl.2.2 (i, xc G v) (xls_mem.mpr ⟨i, v, h, by rw [Nat.zero_add]⟩)
theorem xcat1 {G : xG} {v : xV} (h : ∀ z, v ≠ xJ z) : (xc G v).category = 1 := by
  rcases v with z | z | z
  · rfl
  · exact absurd rfl (h z)
  · cases z <;> rfl
theorem xl_st {G : xG} {ls : Array Slot} {nL : Nat} {L L' : xLs} {i : Nat} {v : xV} (hL : ∀ (j : Nat) (w : xV), L'[j]? = some (some w) → (j = i ∧ w = v) ∨ (j ≠ i ∧ L[j]? = some (some w) ∧ (j + 1 = i → ∀ z, w ≠ xJ z))) (h : lv_has ls nL ((i, xc G v) :: (xls G 0 L).filter (fun q => !(q.1 == i) && !(q.1 + 1 == i && q.2.category == 2)))) : lv_has ls nL (xls G 0 L') := by
  refine ⟨h.1, h.2.1, fun q hq => h.2.2 q ?_⟩
  obtain ⟨j, w, h1, rfl⟩ := xls_mem.mp hq
  rw [Nat.zero_add]
  rcases hL j w h1 with ⟨rfl, rfl⟩ | ⟨q1, q2, q3⟩
  · exact List.mem_cons_self
  · refine List.mem_cons_of_mem _ (List.mem_filter.mpr ⟨xls_mem.mpr ⟨j, w, q2, by rw [Nat.zero_add]⟩, ?_⟩)
    simp only [Bool.and_eq_true, Bool.not_eq_true', beq_eq_false_iff_ne, ne_eq, Bool.and_eq_false_iff]
    refine ⟨q1, ?_⟩
    by_cases hj : j + 1 = i
    · exact Or.inr (by rw [xcat1 (q3 hj)]; decide)
    · exact Or.inl hj
theorem xl_st2 {G : xG} {ls : Array Slot} {nL : Nat} {L L' : xLs} {i : Nat} {z : Int} (hL : ∀ (j : Nat) (w : xV), L'[j]? = some (some w) → (j = i ∧ w = xJ z) ∨ (j ≠ i ∧ j ≠ i + 1 ∧ L[j]? = some (some w) ∧ (j + 1 = i → ∀ z, w ≠ xJ z))) (h : lv_has ls nL ((i, xc G (xJ z)) :: (xls G 0 L).filter (fun q => !(q.1 == i) && (!(q.1 == i + 1) && !(q.1 + 1 == i && q.2.category == 2))))) : lv_has ls nL (xls G 0 L') := by
  refine ⟨h.1, h.2.1, fun q hq => h.2.2 q ?_⟩
  obtain ⟨j, w, h1, rfl⟩ := xls_mem.mp hq
  rw [Nat.zero_add]
  rcases hL j w h1 with ⟨rfl, rfl⟩ | ⟨q1, q2, q3, q4⟩
  · exact List.mem_cons_self
  · refine List.mem_cons_of_mem _ (List.mem_filter.mpr ⟨xls_mem.mpr ⟨j, w, q3, by rw [Nat.zero_add]⟩, ?_⟩)
    simp only [Bool.and_eq_true, Bool.not_eq_true', beq_eq_false_iff_ne, ne_eq, Bool.and_eq_false_iff]
    refine ⟨q1, q2, ?_⟩
    by_cases hj : j + 1 = i
    · exact Or.inr (by rw [xcat1 (q4 hj)]; decide)
    · exact Or.inl hj
end
section
/-! one lemma an instruction: the X machine's step is the real one's -/
abbrev xrg (z : Int) : Prop := -2147483648 ≤ z ∧ z < 2147483648
abbrev xrl (z : Int) : Prop := -9223372036854775808 ≤ z ∧ z < 9223372036854775808
theorem xi_ti {z : Int} (h : xrg z) : (Int32.ofInt z).toInt = z := Int32.toInt_ofInt_of_le (by omega) (by omega)
theorem xj_ti {z : Int} (h : xrl z) : (Int64.ofInt z).toInt = z := Int64.toInt_ofInt_of_le (by omega) (by omega)
theorem xi_lt {x y : Int} (hx : xrg x) (hy : xrg y) : Int32.ofInt x < Int32.ofInt y ↔ x < y := by rw [Int32.lt_iff_toInt_lt, xi_ti hx, xi_ti hy]
theorem xi_le {x y : Int} (hx : xrg x) (hy : xrg y) : Int32.ofInt x ≤ Int32.ofInt y ↔ x ≤ y := by rw [Int32.le_iff_toInt_le, xi_ti hx, xi_ti hy]
theorem xi_eq {x y : Int} (hx : xrg x) (hy : xrg y) : Int32.ofInt x = Int32.ofInt y ↔ x = y := by rw [← Int32.toInt_inj, xi_ti hx, xi_ti hy]
theorem xj_lt {x y : Int} (hx : xrl x) (hy : xrl y) : Int64.ofInt x < Int64.ofInt y ↔ x < y := by rw [Int64.lt_iff_toInt_lt, xj_ti hx, xj_ti hy]
theorem xj_eq {x y : Int} (hx : xrl x) (hy : xrl y) : Int64.ofInt x = Int64.ofInt y ↔ x = y := by rw [← Int64.toInt_inj, xj_ti hx, xj_ti hy]
theorem xrg0 : xrg 0 := by decide
theorem xi_0 : (0 : Int32) = Int32.ofInt 0 := rfl
theorem xi_cl {z : Int} (h0 : 0 ≤ z) (h : z < 2147483648) : (Int32.ofInt z).toNatClampNeg = z.toNat := by
  show (Int32.ofInt z).toInt.toNat = z.toNat
  rw [xi_ti ⟨by omega, h⟩]
theorem xi_in {z : Int} {n : Nat} (h0 : 0 ≤ z) (h : z < n) (hb : z < 2147483648) : ¬ (Int32.ofInt z < 0 ∨ n ≤ (Int32.ofInt z).toNatClampNeg) := by
  rw [xi_cl h0 hb, xi_0, xi_lt ⟨by omega, hb⟩ ⟨by omega, by omega⟩]
  omega
theorem xi_nn {z : Int} (h0 : 0 ≤ z) (hb : z < 2147483648) : ¬ Int32.ofInt z < 0 := by
  rw [xi_0, xi_lt ⟨by omega, hb⟩ ⟨by omega, by omega⟩]
  omega
def x_iand (x y : Int) : Int := (Int32.ofInt x &&& Int32.ofInt y).toInt
def x_ior (x y : Int) : Int := (Int32.ofInt x ||| Int32.ofInt y).toInt
def x_ixor (x y : Int) : Int := (Int32.ofInt x ^^^ Int32.ofInt y).toInt
def x_ishl (x y : Int) : Int := (Int32.ofInt x <<< (Int32.ofInt y &&& 31)).toInt
def x_ishr (x y : Int) : Int := (Int32.ofInt x >>> (Int32.ofInt y &&& 31)).toInt
def x_iushr (x y : Int) : Int := ((Int32.ofInt x).toUInt32 >>> ((Int32.ofInt y).toUInt32 &&& Int32.toUInt32 31)).toInt32.toInt
def x_lcmp (x y : Int) : Int := if x < y then -1 else if x = y then 0 else 1
section XROWS
variable {T : xT} {p : Program} {l : Launch} {e : Env} {R : Room} {s : State} {m : MethodId} {args : Array Value} {below : List Frame} {meth : Method} {c : Code} {Q : State → Prop} {cc : ByteArray} {G : xG} {nL : Nat} {pc : Nat} {L : xLs} {st : List xV} {h : xH} {k n : Nat}
def xW (T : xT) (p : Program) (l : Launch) (e : Env) (R : Room) (s : State) (m : MethodId) (args : Array Value) (below : List Frame) (meth : Method) (c : Code) (Q : State → Prop) (G : xG) (nL : Nat) (pc : Nat) (L : xLs) (st : List xV) (h : xH) (k n : Nat) : Prop :=
  ∀ (H : Heap) (locs : List Loc) (ls : Array Slot), xMt T G h H → va_S (xA G) s.heap H locs → L.length = nL → lv_has ls nL (xls G 0 L) → W p l e R s m args below meth c H locs k n Q (F0 m pc ls (st.map (xc G)))
theorem xw_iconst (hx : p.tables.exec = Jvm.exec) (hb : c.code = cc) {z : Int} (hd : decode cc pc = .ok (.iconst z, 1)) (kk : xW T p l e R s m args below meth c Q G nL (pc + 1) L (xI z :: st) h k n) : xW T p l e R s m args below meth c Q G nL pc L st h k n :=
  fun H locs ls hM hS hL hl => lv_iconst hx hb hd rfl (kk H locs ls hM hS hL hl)
theorem xw_bipush (hx : p.tables.exec = Jvm.exec) (hb : c.code = cc) {z : Int} (hd : decode cc pc = .ok (.bipush z, 2)) (hz : (Int8.ofInt z).toInt32 = Int32.ofInt z) (kk : xW T p l e R s m args below meth c Q G nL (pc + 2) L (xI z :: st) h k n) : xW T p l e R s m args below meth c Q G nL pc L st h k n :=
  fun H locs ls hM hS hL hl => lv_bipush hx hb hd hz (kk H locs ls hM hS hL hl)
theorem xw_sipush (hx : p.tables.exec = Jvm.exec) (hb : c.code = cc) {z : Int} (hd : decode cc pc = .ok (.sipush z, 3)) (hz : (Int16.ofInt z).toInt32 = Int32.ofInt z) (kk : xW T p l e R s m args below meth c Q G nL (pc + 3) L (xI z :: st) h k n) : xW T p l e R s m args below meth c Q G nL pc L st h k n :=
  fun H locs ls hM hS hL hl => lv_sipush hx hb hd hz (kk H locs ls hM hS hL hl)
theorem xw_lconst (hx : p.tables.exec = Jvm.exec) (hb : c.code = cc) {z : Fin 2} (hd : decode cc pc = .ok (.lconst z, 1)) (kk : xW T p l e R s m args below meth c Q G nL (pc + 1) L (xJ ((z : Nat) : Int) :: st) h k n) : xW T p l e R s m args below meth c Q G nL pc L st h k n :=
  fun H locs ls hM hS hL hl => lv_lconst hx hb hd Int64.ofInt_eq_ofNat.symm (kk H locs ls hM hS hL hl)
theorem xw_ldc (hx : p.tables.exec = Jvm.exec) (hb : c.code = cc) {own : String} {i : Nat} {z : Int} (hown : s.vm.findClass own = some m.cls) (hc : (Cond.constant own i (Int32.ofInt z)).before args s = true) (hd : decode cc pc = .ok (.ldc i, 2)) (kk : xW T p l e R s m args below meth c Q G nL (pc + 2) L (xI z :: st) h k n) : xW T p l e R s m args below meth c Q G nL pc L st h k n :=
  fun H locs ls hM hS hL hl => lv_ldc hx hb hown hc hd (kk H locs ls hM hS hL hl)
theorem xw_ldcw (hx : p.tables.exec = Jvm.exec) (hb : c.code = cc) {own : String} {i : Nat} {z : Int} (hown : s.vm.findClass own = some m.cls) (hc : (Cond.constant own i (Int32.ofInt z)).before args s = true) (hd : decode cc pc = .ok (.ldc_w i, 3)) (kk : xW T p l e R s m args below meth c Q G nL (pc + 3) L (xI z :: st) h k n) : xW T p l e R s m args below meth c Q G nL pc L st h k n :=
  fun H locs ls hM hS hL hl => lv_ldcw hx hb hown hc hd (kk H locs ls hM hS hL hl)
theorem xw_ldc2 (hx : p.tables.exec = Jvm.exec) (hb : c.code = cc) {own : String} {i : Nat} {z : Int} (hown : s.vm.findClass own = some m.cls) (hc : (Cond.constantLong own i (Int64.ofInt z)).before args s = true) (hd : decode cc pc = .ok (.ldc2_w i, 3)) (kk : xW T p l e R s m args below meth c Q G nL (pc + 3) L (xJ z :: st) h k n) : xW T p l e R s m args below meth c Q G nL pc L st h k n :=
  fun H locs ls hM hS hL hl => lv_ldc2 hx hb hown hc hd (kk H locs ls hM hS hL hl)
theorem xw_null (hx : p.tables.exec = Jvm.exec) (hb : c.code = cc) (hd : decode cc pc = .ok (.aconst_null, 1)) (kk : xW T p l e R s m args below meth c Q G nL (pc + 1) L (xR none :: st) h k n) : xW T p l e R s m args below meth c Q G nL pc L st h k n :=
  fun H locs ls hM hS hL hl => lv_null hx hb hd (kk H locs ls hM hS hL hl)
theorem xw_iload_n (hx : p.tables.exec = Jvm.exec) (hb : c.code = cc) {i : Fin 4} {z : Int} (hd : decode cc pc = .ok (.iload_n i, 1)) (hi : L[(i : Nat)]? = some (some (xI z))) (kk : xW T p l e R s m args below meth c Q G nL (pc + 1) L (xI z :: st) h k n) : xW T p l e R s m args below meth c Q G nL pc L st h k n :=
  fun H locs ls hM hS hL hl => lv_iload_n hx hb hd rfl (xl_get hl hi) (kk H locs ls hM hS hL hl)
theorem xw_iload (hx : p.tables.exec = Jvm.exec) (hb : c.code = cc) {i : Nat} {z : Int} (hd : decode cc pc = .ok (.iload i, 2)) (hi : L[i]? = some (some (xI z))) (kk : xW T p l e R s m args below meth c Q G nL (pc + 2) L (xI z :: st) h k n) : xW T p l e R s m args below meth c Q G nL pc L st h k n :=
  fun H locs ls hM hS hL hl => lv_iload hx hb hd (xl_get hl hi) (kk H locs ls hM hS hL hl)
theorem xw_lload_n (hx : p.tables.exec = Jvm.exec) (hb : c.code = cc) {i : Fin 4} {z : Int} (hd : decode cc pc = .ok (.lload_n i, 1)) (hi : L[(i : Nat)]? = some (some (xJ z))) (kk : xW T p l e R s m args below meth c Q G nL (pc + 1) L (xJ z :: st) h k n) : xW T p l e R s m args below meth c Q G nL pc L st h k n :=
  fun H locs ls hM hS hL hl => lv_lload_n hx hb hd rfl (xl_get hl hi) (kk H locs ls hM hS hL hl)
theorem xw_lload (hx : p.tables.exec = Jvm.exec) (hb : c.code = cc) {i : Nat} {z : Int} (hd : decode cc pc = .ok (.lload i, 2)) (hi : L[i]? = some (some (xJ z))) (kk : xW T p l e R s m args below meth c Q G nL (pc + 2) L (xJ z :: st) h k n) : xW T p l e R s m args below meth c Q G nL pc L st h k n :=
  fun H locs ls hM hS hL hl => lv_lload hx hb hd (xl_get hl hi) (kk H locs ls hM hS hL hl)
theorem xw_aload_n (hx : p.tables.exec = Jvm.exec) (hb : c.code = cc) {i : Fin 4} {r : Option Nat} (hd : decode cc pc = .ok (.aload_n i, 1)) (hi : L[(i : Nat)]? = some (some (xR r))) (kk : xW T p l e R s m args below meth c Q G nL (pc + 1) L (xR r :: st) h k n) : xW T p l e R s m args below meth c Q G nL pc L st h k n := by
  intro H locs ls hM hS hL hl
  cases r with
  | none => exact lv_aload_nN hx hb hd rfl (xl_get hl hi) (kk H locs ls hM hS hL hl)
  | some a => exact lv_aload_n hx hb hd rfl (xl_get hl hi) (kk H locs ls hM hS hL hl)
theorem xw_aload (hx : p.tables.exec = Jvm.exec) (hb : c.code = cc) {i : Nat} {r : Option Nat} (hd : decode cc pc = .ok (.aload i, 2)) (hi : L[i]? = some (some (xR r))) (kk : xW T p l e R s m args below meth c Q G nL (pc + 2) L (xR r :: st) h k n) : xW T p l e R s m args below meth c Q G nL pc L st h k n := by
  intro H locs ls hM hS hL hl
  cases r with
  | none => exact lv_aloadN hx hb hd (xl_get hl hi) (kk H locs ls hM hS hL hl)
  | some a => exact lv_aload hx hb hd (xl_get hl hi) (kk H locs ls hM hS hL hl)
theorem xw_istore_n (hx : p.tables.exec = Jvm.exec) (hb : c.code = cc) {i : Fin 4} {z : Int} (hd : decode cc pc = .ok (.istore_n i, 1)) (kk : xst L i (xI z) fun L' => xW T p l e R s m args below meth c Q G nL (pc + 1) L' st h k n) : xW T p l e R s m args below meth c Q G nL pc L (xI z :: st) h k n := by
  intro H locs ls hM hS hL hl
  obtain ⟨hi, L', kk, hL', hg⟩ := xst_spec kk
  exact lv_istore_n hx hb hd rfl hl (hL ▸ hi) rfl fun ls' hl' => kk H locs ls' hM hS (hL'.trans hL) (xl_st hg hl')
theorem xw_istore (hx : p.tables.exec = Jvm.exec) (hb : c.code = cc) {i : Nat} {z : Int} (hd : decode cc pc = .ok (.istore i, 2)) (kk : xst L i (xI z) fun L' => xW T p l e R s m args below meth c Q G nL (pc + 2) L' st h k n) : xW T p l e R s m args below meth c Q G nL pc L (xI z :: st) h k n := by
  intro H locs ls hM hS hL hl
  obtain ⟨hi, L', kk, hL', hg⟩ := xst_spec kk
  exact lv_istore hx hb hd hl (hL ▸ hi) rfl fun ls' hl' => kk H locs ls' hM hS (hL'.trans hL) (xl_st hg hl')
theorem xw_lstore_n (hx : p.tables.exec = Jvm.exec) (hb : c.code = cc) {i : Fin 4} {z : Int} (hd : decode cc pc = .ok (.lstore_n i, 1)) (kk : xst2 L i z fun L' => xW T p l e R s m args below meth c Q G nL (pc + 1) L' st h k n) : xW T p l e R s m args below meth c Q G nL pc L (xJ z :: st) h k n := by
  intro H locs ls hM hS hL hl
  obtain ⟨hi, L', kk, hL', hg⟩ := xst2_spec kk
  exact lv_lstore_n hx hb hd rfl hl (hL ▸ hi) rfl fun ls' hl' => kk H locs ls' hM hS (hL'.trans hL) (xl_st2 hg hl')
theorem xw_lstore (hx : p.tables.exec = Jvm.exec) (hb : c.code = cc) {i : Nat} {z : Int} (hd : decode cc pc = .ok (.lstore i, 2)) (kk : xst2 L i z fun L' => xW T p l e R s m args below meth c Q G nL (pc + 2) L' st h k n) : xW T p l e R s m args below meth c Q G nL pc L (xJ z :: st) h k n := by
  intro H locs ls hM hS hL hl
  obtain ⟨hi, L', kk, hL', hg⟩ := xst2_spec kk
  exact lv_lstore hx hb hd hl (hL ▸ hi) rfl fun ls' hl' => kk H locs ls' hM hS (hL'.trans hL) (xl_st2 hg hl')
theorem xw_astore_n (hx : p.tables.exec = Jvm.exec) (hb : c.code = cc) {i : Fin 4} {r : Option Nat} (hd : decode cc pc = .ok (.astore_n i, 1)) (kk : xst L i (xR r) fun L' => xW T p l e R s m args below meth c Q G nL (pc + 1) L' st h k n) : xW T p l e R s m args below meth c Q G nL pc L (xR r :: st) h k n := by
  intro H locs ls hM hS hL hl
  obtain ⟨hi, L', k2, hL', hg⟩ := xst_spec kk
  cases r with
  | none => exact lv_astore_nN hx hb hd rfl hl (hL ▸ hi) rfl fun ls' hl' => k2 H locs ls' hM hS (hL'.trans hL) (xl_st hg hl')
  | some a => exact lv_astore_n hx hb hd rfl hl (hL ▸ hi) rfl fun ls' hl' => k2 H locs ls' hM hS (hL'.trans hL) (xl_st hg hl')
theorem xw_astore (hx : p.tables.exec = Jvm.exec) (hb : c.code = cc) {i : Nat} {r : Option Nat} (hd : decode cc pc = .ok (.astore i, 2)) (kk : xst L i (xR r) fun L' => xW T p l e R s m args below meth c Q G nL (pc + 2) L' st h k n) : xW T p l e R s m args below meth c Q G nL pc L (xR r :: st) h k n := by
  intro H locs ls hM hS hL hl
  obtain ⟨hi, L', k2, hL', hg⟩ := xst_spec kk
  cases r with
  | none => exact lv_astoreN hx hb hd hl (hL ▸ hi) rfl fun ls' hl' => k2 H locs ls' hM hS (hL'.trans hL) (xl_st hg hl')
  | some a => exact lv_astore hx hb hd hl (hL ▸ hi) rfl fun ls' hl' => k2 H locs ls' hM hS (hL'.trans hL) (xl_st hg hl')
theorem xw_iinc (hx : p.tables.exec = Jvm.exec) (hb : c.code = cc) {i : Nat} {q z : Int} (hd : decode cc pc = .ok (.iinc i q, 3)) (hi : L[i]? = some (some (xI z))) (kk : xst L i (xI (z + q)) fun L' => xW T p l e R s m args below meth c Q G nL (pc + 3) L' st h k n) : xW T p l e R s m args below meth c Q G nL pc L st h k n := by
  intro H locs ls hM hS hL hl
  obtain ⟨hin, L', kk, hL', hg⟩ := xst_spec kk
  obtain ⟨j, hj⟩ := List.getElem?_of_mem (xls_mem (G := G) (L := L) (i := 0) (q := (i, xc G (xI z))).mpr ⟨i, xI z, hi, by rw [Nat.zero_add]⟩)
  exact lv_iinc (v := Int32.ofInt (z + q)) hx hb hd hl hj (Int32.ofInt_add z q).symm (hL ▸ hin) rfl fun ls' hl' => kk H locs ls' hM hS (hL'.trans hL) (xl_st hg hl')
theorem xw_iadd (hx : p.tables.exec = Jvm.exec) (hb : c.code = cc) {x y : Int} (hd : decode cc pc = .ok (.iadd, 1)) (kk : xW T p l e R s m args below meth c Q G nL (pc + 1) L (xI (x + y) :: st) h k n) : xW T p l e R s m args below meth c Q G nL pc L (xI y :: xI x :: st) h k n :=
  fun H locs ls hM hS hL hl => lv_iadd hx hb hd (by rw [← Int32.ofInt_add]; exact kk H locs ls hM hS hL hl)
theorem xw_isub (hx : p.tables.exec = Jvm.exec) (hb : c.code = cc) {x y : Int} (hd : decode cc pc = .ok (.isub, 1)) (kk : xW T p l e R s m args below meth c Q G nL (pc + 1) L (xI (x - y) :: st) h k n) : xW T p l e R s m args below meth c Q G nL pc L (xI y :: xI x :: st) h k n :=
  fun H locs ls hM hS hL hl => lv_isub hx hb hd (by rw [← Int32.ofInt_sub]; exact kk H locs ls hM hS hL hl)
theorem xw_imul (hx : p.tables.exec = Jvm.exec) (hb : c.code = cc) {x y : Int} (hd : decode cc pc = .ok (.imul, 1)) (kk : xW T p l e R s m args below meth c Q G nL (pc + 1) L (xI (x * y) :: st) h k n) : xW T p l e R s m args below meth c Q G nL pc L (xI y :: xI x :: st) h k n :=
  fun H locs ls hM hS hL hl => lv_imul hx hb hd (by rw [← Int32.ofInt_mul]; exact kk H locs ls hM hS hL hl)
theorem xw_ineg (hx : p.tables.exec = Jvm.exec) (hb : c.code = cc) {x : Int} (hd : decode cc pc = .ok (.ineg, 1)) (kk : xW T p l e R s m args below meth c Q G nL (pc + 1) L (xI (-x) :: st) h k n) : xW T p l e R s m args below meth c Q G nL pc L (xI x :: st) h k n := by
  intro H locs ls hM hS hL hl
  refine lv_ineg hx hb hd ?_
  have h1 := kk H locs ls hM hS hL hl
  rw [List.map_cons, show xc G (xI (-x)) = .int (-(Int32.ofInt x)) from congrArg Value.int (by first | exact Int32.ofInt_neg x | exact (Int32.ofInt_neg x).symm | simp)] at h1
  first | exact h1 | simpa using h1
theorem xw_ladd (hx : p.tables.exec = Jvm.exec) (hb : c.code = cc) {x y : Int} (hd : decode cc pc = .ok (.ladd, 1)) (kk : xW T p l e R s m args below meth c Q G nL (pc + 1) L (xJ (x + y) :: st) h k n) : xW T p l e R s m args below meth c Q G nL pc L (xJ y :: xJ x :: st) h k n :=
  fun H locs ls hM hS hL hl => lv_ladd hx hb hd (by rw [← Int64.ofInt_add]; exact kk H locs ls hM hS hL hl)
theorem xw_lsub (hx : p.tables.exec = Jvm.exec) (hb : c.code = cc) {x y : Int} (hd : decode cc pc = .ok (.lsub, 1)) (kk : xW T p l e R s m args below meth c Q G nL (pc + 1) L (xJ (x - y) :: st) h k n) : xW T p l e R s m args below meth c Q G nL pc L (xJ y :: xJ x :: st) h k n :=
  fun H locs ls hM hS hL hl => lv_lsub hx hb hd (by rw [← Int64.ofInt_sub]; exact kk H locs ls hM hS hL hl)
theorem xw_lmul (hx : p.tables.exec = Jvm.exec) (hb : c.code = cc) {x y : Int} (hd : decode cc pc = .ok (.lmul, 1)) (kk : xW T p l e R s m args below meth c Q G nL (pc + 1) L (xJ (x * y) :: st) h k n) : xW T p l e R s m args below meth c Q G nL pc L (xJ y :: xJ x :: st) h k n :=
  fun H locs ls hM hS hL hl => lv_lmul hx hb hd (by rw [← Int64.ofInt_mul]; exact kk H locs ls hM hS hL hl)
theorem xc_i {v : Int32} : xc G (xI v.toInt) = .int v := congrArg Value.int (Int32.ofInt_toInt _)
theorem xc_j {v : Int64} : xc G (xJ v.toInt) = .long v := congrArg Value.long (Int64.ofInt_toInt _)
theorem xw_iand (hx : p.tables.exec = Jvm.exec) (hb : c.code = cc) {x y : Int} (hd : decode cc pc = .ok (.iand, 1)) (kk : xW T p l e R s m args below meth c Q G nL (pc + 1) L (xI (x_iand x y) :: st) h k n) : xW T p l e R s m args below meth c Q G nL pc L (xI y :: xI x :: st) h k n := by
  intro H locs ls hM hS hL hl
  have h1 := kk H locs ls hM hS hL hl
  rw [List.map_cons, x_iand, xc_i] at h1
  exact lv_iand hx hb hd h1
theorem xw_ior (hx : p.tables.exec = Jvm.exec) (hb : c.code = cc) {x y : Int} (hd : decode cc pc = .ok (.ior, 1)) (kk : xW T p l e R s m args below meth c Q G nL (pc + 1) L (xI (x_ior x y) :: st) h k n) : xW T p l e R s m args below meth c Q G nL pc L (xI y :: xI x :: st) h k n := by
  intro H locs ls hM hS hL hl
  have h1 := kk H locs ls hM hS hL hl
  rw [List.map_cons, x_ior, xc_i] at h1
  exact lv_ior hx hb hd h1
theorem xw_ixor (hx : p.tables.exec = Jvm.exec) (hb : c.code = cc) {x y : Int} (hd : decode cc pc = .ok (.ixor, 1)) (kk : xW T p l e R s m args below meth c Q G nL (pc + 1) L (xI (x_ixor x y) :: st) h k n) : xW T p l e R s m args below meth c Q G nL pc L (xI y :: xI x :: st) h k n := by
  intro H locs ls hM hS hL hl
  have h1 := kk H locs ls hM hS hL hl
  rw [List.map_cons, x_ixor, xc_i] at h1
  exact lv_ixor hx hb hd h1
theorem xw_ishl (hx : p.tables.exec = Jvm.exec) (hb : c.code = cc) {x y : Int} (hd : decode cc pc = .ok (.ishl, 1)) (kk : xW T p l e R s m args below meth c Q G nL (pc + 1) L (xI (x_ishl x y) :: st) h k n) : xW T p l e R s m args below meth c Q G nL pc L (xI y :: xI x :: st) h k n := by
  intro H locs ls hM hS hL hl
  have h1 := kk H locs ls hM hS hL hl
  rw [List.map_cons, x_ishl, xc_i] at h1
  exact lv_ishl hx hb hd h1
theorem xw_ishr (hx : p.tables.exec = Jvm.exec) (hb : c.code = cc) {x y : Int} (hd : decode cc pc = .ok (.ishr, 1)) (kk : xW T p l e R s m args below meth c Q G nL (pc + 1) L (xI (x_ishr x y) :: st) h k n) : xW T p l e R s m args below meth c Q G nL pc L (xI y :: xI x :: st) h k n := by
  intro H locs ls hM hS hL hl
  have h1 := kk H locs ls hM hS hL hl
  rw [List.map_cons, x_ishr, xc_i] at h1
  exact lv_ishr hx hb hd h1
theorem xw_iushr (hx : p.tables.exec = Jvm.exec) (hb : c.code = cc) {x y : Int} (hd : decode cc pc = .ok (.iushr, 1)) (kk : xW T p l e R s m args below meth c Q G nL (pc + 1) L (xI (x_iushr x y) :: st) h k n) : xW T p l e R s m args below meth c Q G nL pc L (xI y :: xI x :: st) h k n := by
  intro H locs ls hM hS hL hl
  have h1 := kk H locs ls hM hS hL hl
  rw [List.map_cons, x_iushr, xc_i] at h1
  exact lv_iushr hx hb hd rfl h1
theorem xi_div {x y : Int} (hrx : xrg x) (hy : 0 < y) (hry : xrg y) : Int32.ofInt x / Int32.ofInt y = Int32.ofInt (x.tdiv y) := by
  have hne : ¬ Int32.ofInt y = 0 := by rw [xi_0, xi_eq hry xrg0]; omega
  have hb : xrg (x.tdiv y) := by
    have h1 : (x.tdiv y).natAbs ≤ x.natAbs := by rw [Int.natAbs_tdiv]; exact Nat.div_le_self _ _
    have h2 := hrx.1
    have h3 := hrx.2
    by_cases h4 : x = -2147483648
    · subst h4
      have h5 : (-2147483648 : Int).tdiv y ≤ 0 := by
        rw [show (-2147483648 : Int) = -(2147483648) from rfl, Int.neg_tdiv]
        have := Int.tdiv_nonneg (a := 2147483648) (b := y) (by omega) (by omega)
        omega
      constructor <;> omega
    · constructor <;> omega
  rw [← Int32.toInt_inj, xi_ti hb, Int32.toInt_div_of_ne_right _ _ (by rw [show (-1 : Int32) = Int32.ofInt (-1) from rfl]; intro q; have := (xi_eq hry (by decide)).mp q; omega), xi_ti hrx, xi_ti hry]
theorem xw_idiv (hx : p.tables.exec = Jvm.exec) (hb : c.code = cc) {x y : Int} (hd : decode cc pc = .ok (.idiv, 1)) (hrx : xrg x) (hy : 0 < y) (hry : xrg y) (kk : xW T p l e R s m args below meth c Q G nL (pc + 1) L (xI (x.tdiv y) :: st) h k n) : xW T p l e R s m args below meth c Q G nL pc L (xI y :: xI x :: st) h k n := by
  intro H locs ls hM hS hL hl
  have hne : ¬ Int32.ofInt y = 0 := by rw [xi_0, xi_eq hry xrg0]; omega
  refine lv_idiv hx hb hd hne ?_
  rw [xi_div hrx hy hry]
  exact kk H locs ls hM hS hL hl
theorem xw_irem (hx : p.tables.exec = Jvm.exec) (hb : c.code = cc) {x y : Int} (hd : decode cc pc = .ok (.irem, 1)) (hrx : xrg x) (hy : 0 < y) (hry : xrg y) (kk : xW T p l e R s m args below meth c Q G nL (pc + 1) L (xI (x.tmod y) :: st) h k n) : xW T p l e R s m args below meth c Q G nL pc L (xI y :: xI x :: st) h k n := by
  intro H locs ls hM hS hL hl
  have hne : ¬ Int32.ofInt y = 0 := by rw [xi_0, xi_eq hry xrg0]; omega
  refine lv_irem hx hb hd hne ?_
  rw [xi_div hrx hy hry, ← Int32.ofInt_mul, ← Int32.ofInt_sub, show x - x.tdiv y * y = x.tmod y by rw [Int.tmod_def, Int.mul_comm]]
  exact kk H locs ls hM hS hL hl
theorem xj_div {x y : Int} (hrx : xrl x) (hy : 0 < y) (hry : xrl y) : Int64.ofInt x / Int64.ofInt y = Int64.ofInt (x.tdiv y) := by
  have hb : xrl (x.tdiv y) := by
    have h1 : (x.tdiv y).natAbs ≤ x.natAbs := by rw [Int.natAbs_tdiv]; exact Nat.div_le_self _ _
    have h2 := hrx.1
    have h3 := hrx.2
    by_cases h4 : x = -9223372036854775808
    · subst h4
      have h5 : (-9223372036854775808 : Int).tdiv y ≤ 0 := by
        rw [show (-9223372036854775808 : Int) = -(9223372036854775808) from rfl, Int.neg_tdiv]
        have := Int.tdiv_nonneg (a := 9223372036854775808) (b := y) (by omega) (by omega)
        omega
      constructor <;> omega
    · constructor <;> omega
  rw [← Int64.toInt_inj, xj_ti hb, Int64.toInt_div_of_ne_right _ _ (by rw [show (-1 : Int64) = Int64.ofInt (-1) from rfl]; intro q; have := (xj_eq hry (by decide)).mp q; omega), xj_ti hrx, xj_ti hry]
theorem xw_ldiv (hx : p.tables.exec = Jvm.exec) (hb : c.code = cc) {x y : Int} (hd : decode cc pc = .ok (.ldiv, 1)) (hrx : xrl x) (hy : 0 < y) (hry : xrl y) (kk : xW T p l e R s m args below meth c Q G nL (pc + 1) L (xJ (x.tdiv y) :: st) h k n) : xW T p l e R s m args below meth c Q G nL pc L (xJ y :: xJ x :: st) h k n := by
  intro H locs ls hM hS hL hl
  have hne : ¬ Int64.ofInt y = 0 := by rw [show (0 : Int64) = Int64.ofInt 0 from rfl, xj_eq hry (by decide)]; omega
  refine lv_ldiv hx hb hd hne ?_
  rw [xj_div hrx hy hry]
  exact kk H locs ls hM hS hL hl
theorem xj_cmp {x y : Int} (hrx : xrl x) (hry : xrl y) : lg_cmp (Int64.ofInt x) (Int64.ofInt y) = Int32.ofInt (x_lcmp x y) := by
  unfold lg_cmp x_lcmp
  simp only [xj_lt hry hrx, xj_eq hrx hry]
  by_cases h1 : y < x
  · rw [if_pos h1, if_neg (by omega), if_neg (by omega)]; rfl
  · by_cases h2 : x = y
    · rw [if_neg h1, if_pos h2, if_neg (by omega), if_pos h2]; rfl
    · rw [if_neg h1, if_neg h2, if_pos (by omega)]; rfl
theorem xw_lcmp (hx : p.tables.exec = Jvm.exec) (hb : c.code = cc) {x y : Int} (hd : decode cc pc = .ok (.lcmp, 1)) (hrx : xrl x) (hry : xrl y) (kk : xW T p l e R s m args below meth c Q G nL (pc + 1) L (xI (x_lcmp x y) :: st) h k n) : xW T p l e R s m args below meth c Q G nL pc L (xJ y :: xJ x :: st) h k n := by
  intro H locs ls hM hS hL hl
  refine W.lcmp hx hb hd ?_
  rw [xj_cmp hrx hry]
  exact kk H locs ls hM hS hL hl
theorem xw_i2l (hx : p.tables.exec = Jvm.exec) (hb : c.code = cc) {x : Int} (hd : decode cc pc = .ok (.i2l, 1)) (hr : xrg x) (kk : xW T p l e R s m args below meth c Q G nL (pc + 1) L (xJ x :: st) h k n) : xW T p l e R s m args below meth c Q G nL pc L (xI x :: st) h k n := by
  intro H locs ls hM hS hL hl
  refine lv_i2l hx hb hd ?_ (kk H locs ls hM hS hL hl)
  apply Int64.toInt_inj.mp
  rw [Int32.toInt_toInt64, xi_ti hr, xj_ti ⟨by omega, by omega⟩]
theorem xw_l2i (hx : p.tables.exec = Jvm.exec) (hb : c.code = cc) {x : Int} (hd : decode cc pc = .ok (.l2i, 1)) (kk : xW T p l e R s m args below meth c Q G nL (pc + 1) L (xI x :: st) h k n) : xW T p l e R s m args below meth c Q G nL pc L (xJ x :: st) h k n :=
  fun H locs ls hM hS hL hl => lv_l2i hx hb hd Int64.toInt32_ofInt (kk H locs ls hM hS hL hl)
theorem xw_dup (hx : p.tables.exec = Jvm.exec) (hb : c.code = cc) {v : xV} (hd : decode cc pc = .ok (.dup, 1)) (hv : ∀ z, v ≠ xJ z) (kk : xW T p l e R s m args below meth c Q G nL (pc + 1) L (v :: v :: st) h k n) : xW T p l e R s m args below meth c Q G nL pc L (v :: st) h k n :=
  fun H locs ls hM hS hL hl => lv_dup hx hb hd (xcat1 hv) (kk H locs ls hM hS hL hl)
theorem xw_pop (hx : p.tables.exec = Jvm.exec) (hb : c.code = cc) {v : xV} (hd : decode cc pc = .ok (.pop, 1)) (hv : ∀ z, v ≠ xJ z) (kk : xW T p l e R s m args below meth c Q G nL (pc + 1) L st h k n) : xW T p l e R s m args below meth c Q G nL pc L (v :: st) h k n :=
  fun H locs ls hM hS hL hl => lv_pop hx hb hd (xcat1 hv) (kk H locs ls hM hS hL hl)
theorem xw_dup_x1 (hx : p.tables.exec = Jvm.exec) (hb : c.code = cc) {v w : xV} (hd : decode cc pc = .ok (.dup_x1, 1)) (hv : ∀ z, v ≠ xJ z) (hw : ∀ z, w ≠ xJ z) (kk : xW T p l e R s m args below meth c Q G nL (pc + 1) L (v :: w :: v :: st) h k n) : xW T p l e R s m args below meth c Q G nL pc L (v :: w :: st) h k n :=
  fun H locs ls hM hS hL hl => lv_dup_x1 hx hb hd (xcat1 hv) (xcat1 hw) (kk H locs ls hM hS hL hl)
theorem xw_dup_x2 (hx : p.tables.exec = Jvm.exec) (hb : c.code = cc) {v w u : xV} (hd : decode cc pc = .ok (.dup_x2, 1)) (hv : ∀ z, v ≠ xJ z) (hw : ∀ z, w ≠ xJ z) (hu : ∀ z, u ≠ xJ z) (kk : xW T p l e R s m args below meth c Q G nL (pc + 1) L (v :: w :: u :: v :: st) h k n) : xW T p l e R s m args below meth c Q G nL pc L (v :: w :: u :: st) h k n :=
  fun H locs ls hM hS hL hl => lv_dup_x2 hx hb hd (xcat1 hv) (xcat1 hw) (xcat1 hu) (kk H locs ls hM hS hL hl)
theorem xw_dup2 (hx : p.tables.exec = Jvm.exec) (hb : c.code = cc) {v w : xV} (hd : decode cc pc = .ok (.dup2, 1)) (hv : ∀ z, v ≠ xJ z) (hw : ∀ z, w ≠ xJ z) (kk : xW T p l e R s m args below meth c Q G nL (pc + 1) L (v :: w :: v :: w :: st) h k n) : xW T p l e R s m args below meth c Q G nL pc L (v :: w :: st) h k n :=
  fun H locs ls hM hS hL hl => lv_dup2_11 hx hb hd (xcat1 hv) (xcat1 hw) (kk H locs ls hM hS hL hl)
theorem xw_icmp_lt (hx : p.tables.exec = Jvm.exec) (hb : c.code = cc) {x y off : Int} {tgt : Nat} (hd : decode cc pc = .ok (.if_icmp .lt off, 3)) (ht : (pc : Int) + off = (tgt : Int)) (hrx : xrg x) (hry : xrg y) (kt : x < y → xW T p l e R s m args below meth c Q G nL tgt L st h k n) (kf : y ≤ x → xW T p l e R s m args below meth c Q G nL (pc + 3) L st h k n) : xW T p l e R s m args below meth c Q G nL pc L (xI y :: xI x :: st) h k n :=
  fun H locs ls hM hS hL hl => lv_icmp_lt hx hb hd ht (fun q => kt ((xi_lt hrx hry).mp q) H locs ls hM hS hL hl) (fun q => kf (by have := mt (xi_lt hrx hry).mpr q; omega) H locs ls hM hS hL hl)
theorem xw_icmp_ge (hx : p.tables.exec = Jvm.exec) (hb : c.code = cc) {x y off : Int} {tgt : Nat} (hd : decode cc pc = .ok (.if_icmp .ge off, 3)) (ht : (pc : Int) + off = (tgt : Int)) (hrx : xrg x) (hry : xrg y) (kt : y ≤ x → xW T p l e R s m args below meth c Q G nL tgt L st h k n) (kf : x < y → xW T p l e R s m args below meth c Q G nL (pc + 3) L st h k n) : xW T p l e R s m args below meth c Q G nL pc L (xI y :: xI x :: st) h k n :=
  fun H locs ls hM hS hL hl => lv_icmp_ge hx hb hd ht (fun q => kt ((xi_le hry hrx).mp q) H locs ls hM hS hL hl) (fun q => kf (by have := mt (xi_le hry hrx).mpr q; omega) H locs ls hM hS hL hl)
theorem xw_icmp_gt (hx : p.tables.exec = Jvm.exec) (hb : c.code = cc) {x y off : Int} {tgt : Nat} (hd : decode cc pc = .ok (.if_icmp .gt off, 3)) (ht : (pc : Int) + off = (tgt : Int)) (hrx : xrg x) (hry : xrg y) (kt : y < x → xW T p l e R s m args below meth c Q G nL tgt L st h k n) (kf : x ≤ y → xW T p l e R s m args below meth c Q G nL (pc + 3) L st h k n) : xW T p l e R s m args below meth c Q G nL pc L (xI y :: xI x :: st) h k n :=
  fun H locs ls hM hS hL hl => lv_icmp_gt hx hb hd ht (fun q => kt ((xi_lt hry hrx).mp q) H locs ls hM hS hL hl) (fun q => kf (by have := mt (xi_lt hry hrx).mpr q; omega) H locs ls hM hS hL hl)
theorem xw_icmp_le (hx : p.tables.exec = Jvm.exec) (hb : c.code = cc) {x y off : Int} {tgt : Nat} (hd : decode cc pc = .ok (.if_icmp .le off, 3)) (ht : (pc : Int) + off = (tgt : Int)) (hrx : xrg x) (hry : xrg y) (kt : x ≤ y → xW T p l e R s m args below meth c Q G nL tgt L st h k n) (kf : y < x → xW T p l e R s m args below meth c Q G nL (pc + 3) L st h k n) : xW T p l e R s m args below meth c Q G nL pc L (xI y :: xI x :: st) h k n :=
  fun H locs ls hM hS hL hl => lv_icmp_le hx hb hd ht (fun q => kt ((xi_le hrx hry).mp q) H locs ls hM hS hL hl) (fun q => kf (by have := mt (xi_le hrx hry).mpr q; omega) H locs ls hM hS hL hl)
theorem xw_icmp_eq (hx : p.tables.exec = Jvm.exec) (hb : c.code = cc) {x y off : Int} {tgt : Nat} (hd : decode cc pc = .ok (.if_icmp .eq off, 3)) (ht : (pc : Int) + off = (tgt : Int)) (hrx : xrg x) (hry : xrg y) (kt : x = y → xW T p l e R s m args below meth c Q G nL tgt L st h k n) (kf : x ≠ y → xW T p l e R s m args below meth c Q G nL (pc + 3) L st h k n) : xW T p l e R s m args below meth c Q G nL pc L (xI y :: xI x :: st) h k n :=
  fun H locs ls hM hS hL hl => lv_icmp_eq hx hb hd ht (fun q => kt ((xi_eq hrx hry).mp q) H locs ls hM hS hL hl) (fun q => kf (by have := mt (xi_eq hrx hry).mpr q; omega) H locs ls hM hS hL hl)
theorem xw_icmp_ne (hx : p.tables.exec = Jvm.exec) (hb : c.code = cc) {x y off : Int} {tgt : Nat} (hd : decode cc pc = .ok (.if_icmp .ne off, 3)) (ht : (pc : Int) + off = (tgt : Int)) (hrx : xrg x) (hry : xrg y) (kt : x ≠ y → xW T p l e R s m args below meth c Q G nL tgt L st h k n) (kf : x = y → xW T p l e R s m args below meth c Q G nL (pc + 3) L st h k n) : xW T p l e R s m args below meth c Q G nL pc L (xI y :: xI x :: st) h k n :=
  fun H locs ls hM hS hL hl => lv_icmp_ne hx hb hd ht (fun q => kt (mt (xi_eq hrx hry).mpr q) H locs ls hM hS hL hl) (fun q => kf ((xi_eq hrx hry).mp q) H locs ls hM hS hL hl)
theorem xw_if_lt (hx : p.tables.exec = Jvm.exec) (hb : c.code = cc) {x off : Int} {tgt : Nat} (hd : decode cc pc = .ok (.ifCond .lt off, 3)) (ht : (pc : Int) + off = (tgt : Int)) (hrx : xrg x) (kt : x < 0 → xW T p l e R s m args below meth c Q G nL tgt L st h k n) (kf : 0 ≤ x → xW T p l e R s m args below meth c Q G nL (pc + 3) L st h k n) : xW T p l e R s m args below meth c Q G nL pc L (xI x :: st) h k n :=
  fun H locs ls hM hS hL hl => lv_if_lt hx hb hd ht (fun q => kt ((xi_lt hrx xrg0).mp q) H locs ls hM hS hL hl) (fun q => kf (by have := mt (xi_lt hrx xrg0).mpr q; omega) H locs ls hM hS hL hl)
theorem xw_if_ge (hx : p.tables.exec = Jvm.exec) (hb : c.code = cc) {x off : Int} {tgt : Nat} (hd : decode cc pc = .ok (.ifCond .ge off, 3)) (ht : (pc : Int) + off = (tgt : Int)) (hrx : xrg x) (kt : 0 ≤ x → xW T p l e R s m args below meth c Q G nL tgt L st h k n) (kf : x < 0 → xW T p l e R s m args below meth c Q G nL (pc + 3) L st h k n) : xW T p l e R s m args below meth c Q G nL pc L (xI x :: st) h k n :=
  fun H locs ls hM hS hL hl => lv_if_ge hx hb hd ht (fun q => kt ((xi_le xrg0 hrx).mp q) H locs ls hM hS hL hl) (fun q => kf (by have := mt (xi_le xrg0 hrx).mpr q; omega) H locs ls hM hS hL hl)
theorem xw_if_gt (hx : p.tables.exec = Jvm.exec) (hb : c.code = cc) {x off : Int} {tgt : Nat} (hd : decode cc pc = .ok (.ifCond .gt off, 3)) (ht : (pc : Int) + off = (tgt : Int)) (hrx : xrg x) (kt : 0 < x → xW T p l e R s m args below meth c Q G nL tgt L st h k n) (kf : x ≤ 0 → xW T p l e R s m args below meth c Q G nL (pc + 3) L st h k n) : xW T p l e R s m args below meth c Q G nL pc L (xI x :: st) h k n :=
  fun H locs ls hM hS hL hl => lv_if_gt hx hb hd ht (fun q => kt ((xi_lt xrg0 hrx).mp q) H locs ls hM hS hL hl) (fun q => kf (by have := mt (xi_lt xrg0 hrx).mpr q; omega) H locs ls hM hS hL hl)
theorem xw_if_le (hx : p.tables.exec = Jvm.exec) (hb : c.code = cc) {x off : Int} {tgt : Nat} (hd : decode cc pc = .ok (.ifCond .le off, 3)) (ht : (pc : Int) + off = (tgt : Int)) (hrx : xrg x) (kt : x ≤ 0 → xW T p l e R s m args below meth c Q G nL tgt L st h k n) (kf : 0 < x → xW T p l e R s m args below meth c Q G nL (pc + 3) L st h k n) : xW T p l e R s m args below meth c Q G nL pc L (xI x :: st) h k n :=
  fun H locs ls hM hS hL hl => lv_if_le hx hb hd ht (fun q => kt ((xi_le hrx xrg0).mp q) H locs ls hM hS hL hl) (fun q => kf (by have := mt (xi_le hrx xrg0).mpr q; omega) H locs ls hM hS hL hl)
theorem xw_if_eq (hx : p.tables.exec = Jvm.exec) (hb : c.code = cc) {x off : Int} {tgt : Nat} (hd : decode cc pc = .ok (.ifCond .eq off, 3)) (ht : (pc : Int) + off = (tgt : Int)) (hrx : xrg x) (kt : x = 0 → xW T p l e R s m args below meth c Q G nL tgt L st h k n) (kf : x ≠ 0 → xW T p l e R s m args below meth c Q G nL (pc + 3) L st h k n) : xW T p l e R s m args below meth c Q G nL pc L (xI x :: st) h k n :=
  fun H locs ls hM hS hL hl => lv_if_eq hx hb hd ht (fun q => kt ((xi_eq hrx xrg0).mp q) H locs ls hM hS hL hl) (fun q => kf (by have := mt (xi_eq hrx xrg0).mpr q; omega) H locs ls hM hS hL hl)
theorem xw_if_ne (hx : p.tables.exec = Jvm.exec) (hb : c.code = cc) {x off : Int} {tgt : Nat} (hd : decode cc pc = .ok (.ifCond .ne off, 3)) (ht : (pc : Int) + off = (tgt : Int)) (hrx : xrg x) (kt : x ≠ 0 → xW T p l e R s m args below meth c Q G nL tgt L st h k n) (kf : x = 0 → xW T p l e R s m args below meth c Q G nL (pc + 3) L st h k n) : xW T p l e R s m args below meth c Q G nL pc L (xI x :: st) h k n :=
  fun H locs ls hM hS hL hl => lv_if_ne hx hb hd ht (fun q => kt (mt (xi_eq hrx xrg0).mpr q) H locs ls hM hS hL hl) (fun q => kf ((xi_eq hrx xrg0).mp q) H locs ls hM hS hL hl)
theorem xw_goto (hx : p.tables.exec = Jvm.exec) (hb : c.code = cc) {off : Int} {tgt : Nat} (hd : decode cc pc = .ok (.goto off, 3)) (ht : (pc : Int) + off = (tgt : Int)) (kk : xW T p l e R s m args below meth c Q G nL tgt L st h k n) : xW T p l e R s m args below meth c Q G nL pc L st h k n :=
  fun H locs ls hM hS hL hl => lv_goto hx hb hd ht (kk H locs ls hM hS hL hl)
theorem xw_tableOut (hx : p.tables.exec = Jvm.exec) (hb : c.code = cc) {dflt lo hi x : Int} {offs : Array Int} {len tgt : Nat} (hd : decode cc pc = .ok (.tableswitch dflt lo hi offs, len)) (hrx : xrg x) (hxo : x < lo ∨ hi < x) (ht : (pc : Int) + dflt = (tgt : Int)) (kk : xW T p l e R s m args below meth c Q G nL tgt L st h k n) : xW T p l e R s m args below meth c Q G nL pc L (xI x :: st) h k n :=
  fun H locs ls hM hS hL hl => lv_tableOut hx hb hd (by rw [xi_ti hrx]; exact hxo) ht (kk H locs ls hM hS hL hl)
theorem xw_tableIn (hx : p.tables.exec = Jvm.exec) (hb : c.code = cc) {dflt lo hi x off : Int} {offs : Array Int} {len tgt : Nat} (hd : decode cc pc = .ok (.tableswitch dflt lo hi offs, len)) (hrx : xrg x) (h1 : lo ≤ x) (h2 : x ≤ hi) (ho : offs[(x - lo).toNat]? = some off) (ht : (pc : Int) + off = (tgt : Int)) (kk : xW T p l e R s m args below meth c Q G nL tgt L st h k n) : xW T p l e R s m args below meth c Q G nL pc L (xI x :: st) h k n :=
  fun H locs ls hM hS hL hl => lv_tableIn hx hb hd (by rw [xi_ti hrx]; omega) (by rw [xi_ti hrx]; omega) (by rw [xi_ti hrx]; exact ho) ht (kk H locs ls hM hS hL hl)
/-! the heap -/
/-- a field reference of the class own: the kf-th field of class ci; of a nest mate, or not -/
def xFld (own : String) (idx ci kf : Nat) (ty : FieldType) (fin nest : Bool) : Prop := ∃ (C : String) (F : u_T) (N : Nat) (tys : Nat → FieldType), xCl[ci]? = some (C, F, N) ∧ kf < N ∧ (∀ w ∈ u_ws C F N, w ∈ xTB) ∧ (∀ k, k < N → parseFieldDescriptor (F k).2.2.1 = some (tys k)) ∧ (∀ a, a < N → ∀ b, b < N → a ≠ b → (F a).2.1 ≠ (F b).2.1) ∧ tys kf = ty ∧ (F kf).2.2.2 = fin ∧ (nest = false → Cond.fieldLink own idx (F kf).1 (F kf).2.1 (F kf).2.2.1 ∈ xTB ∧ (fin = true → (F kf).1 = own)) ∧ (nest = true → ∃ host : String, Cond.fieldLinkNest own idx (F kf).1 (F kf).2.1 (F kf).2.2.1 host ∈ xTB)
/-- a value of a field's type -/
def xfit : FieldType → xV → Bool
  | .int, .inl _ => true
  | .long, .inr (.inl _) => true
  | .object _, .inr (.inr _) => true
  | .array _, .inr (.inr _) => true
  | _, _ => false
theorem xfit_ok {G : xG} {ty : FieldType} {v : xV} (h : xfit ty v = true) : narrow ty (xc G v) = xc G v ∧ fits ty (xc G v) = true := by
  rcases v with z | z | z <;> cases ty <;> simp [xfit] at h
  · exact ⟨rfl, rfl⟩
  · exact ⟨rfl, rfl⟩
  · cases z <;> exact ⟨rfl, rfl⟩
  · cases z <;> exact ⟨rfl, rfl⟩
theorem xmt_P {H : Heap} (hM : xMt T G h H) {a ci : Nat} {fs : List xV} (ha : xrd T h a = some (.inl (ci, fs))) : va_P G.1 xCl [(xad G a, .inr (ci, fs.map (xc G)))] H := by
  intro j q hj
  have hz : j < 1 := (List.getElem?_eq_some_iff.mp hj).1
  rw [show j = 0 by omega] at hj
  cases hj
  exact (hM.2.2.2 a _ ha).1
theorem xw_get (hx : p.tables.exec = Jvm.exec) (hb : c.code = cc) (hts : ∀ w ∈ xTB, w.before args s = true) {own : String} (hown : s.vm.findClass own = some m.cls) (hK : xKn G s) {idx ci kf : Nat} {ty : FieldType} {fin nest : Bool} (hF : xFld own idx ci kf ty fin nest) (hd : decode cc pc = .ok (.getfield idx, 3)) {a : Nat} {fs : List xV} {v : xV} (ha : xrd T h a = some (.inl (ci, fs))) (hv : fs[kf]? = some v) (kk : xW T p l e R s m args below meth c Q G nL (pc + 3) L (v :: st) h k n) : xW T p l e R s m args below meth c Q G nL pc L (xR (some a) :: st) h k n := by
  intro H locs ls hM hS hL hl
  have hv' : (fs.map (xc G))[kf]? = some (xc G v) := by simp [hv]
  obtain ⟨C, F, N, tys, hc, hk, hin, -, -, -, -, hl1, hl2⟩ := hF
  cases nest with
  | false => exact va_get (D := G.1) hx hb hts hin hown hK.1 (xmt_P hM ha) 0 rfl hc kf hk (hts _ (hl1 rfl).1) (fun _ q => q) hv' hd (kk H locs ls hM hS hL hl)
  | true =>
    obtain ⟨host, hlink⟩ := hl2 rfl
    exact va_getN (D := G.1) hx hb hts hin hown hK.1 (xmt_P hM ha) 0 rfl hc kf hk (hts _ hlink) (fun _ q => q) hv' hd (kk H locs ls hM hS hL hl)
theorem xat_set {C : String} {F : u_T} {N q ci kf : Nat} {fs : List xV} {v : xV} {H1 : Heap} {cell : Cell} (hc : xCl[ci]? = some (C, F, N)) (hap : ∀ x y, x < N → y < N → x ≠ y → (G.1.2 ci) x ≠ (G.1.2 ci) y) (hk : kf < N) (hlen : kf < fs.length) (q2 : cell.cls = G.1.1 ci) (q3 : cell.vm = .none) (q4 : ∀ k, k < N → cell.slots[G.1.2 ci k]? = some (vp_V (fs.map (xc G)) k)) (e1 : H1[q]? = some (cell.setSlot (G.1.2 ci kf) (xc G v))) : xat G q (.inl (ci, fs.set kf v)) H1 := by
  refine ⟨_, hc, t_OB.to (V := updV (vp_V (fs.map (xc G))) kf (xc G v)) ⟨_, e1, q2, q3, t_set q4 hap hk _⟩ (fun j _ => ?_)⟩
  rw [vp_updV_set (by rw [List.length_map]; exact hlen), List.map_set]
theorem xw_put (hx : p.tables.exec = Jvm.exec) (hb : c.code = cc) (hts : ∀ w ∈ xTB, w.before args s = true) {own : String} (hown : s.vm.findClass own = some m.cls) (hK : xKn G s) {idx ci kf : Nat} {ty : FieldType} {fin nest : Bool} (hF : xFld own idx ci kf ty fin nest) (hnest : fin = true → meth.name = "<init>" ∧ nest = false) {v : xV} (hfit : xfit ty v = true) (hd : decode cc pc = .ok (.putfield idx, 3)) {a : Nat} (kk : xwf T h a ci kf v fun h' => xW T p l e R s m args below meth c Q G nL (pc + 3) L st h' k n) : xW T p l e R s m args below meth c Q G nL pc L (v :: xR (some a) :: st) h k n := by
  intro H locs ls hM hS hL hl
  obtain ⟨fs, h', ha, hlen, e1', e2', e3', kk⟩ := xwf_spec kk
  obtain ⟨C, F, N, tys, hc, hk, hin, hty0, hnm, hty, hfin, hl1, hl2⟩ := hF
  have hap := va_apart (D := G.1) (own := own) hts hin tys hty0 hnm hK.1 hc
  obtain ⟨r, h1, cell, q1, q2, q3, q4⟩ := (hM.2.2.2 a _ ha).1
  have hr : r = (C, F, N) := Option.some.inj (h1.symm.trans hc)
  subst hr
  have ha0 : a ≠ 0 := fun q => by
    obtain ⟨n', f', q'⟩ := (hM.2.2.2 a _ ha).2.mp q
    cases q'
  have hbase := xad_base (G := G) ha0
  obtain ⟨hS1, hfc, kC, hkC, hkind⟩ := hK.1.1 ci _ hc
  obtain ⟨cf, kf', fi, f, hi, hsl⟩ := hS1 kf hk
  have hlay := hts _ (hin _ (u_in_lay hk))
  unfold u_lay at hlay
  have hst := (u_facts hfc hkC (u_lays hts hin hk) hi).1
  obtain ⟨n1, n2⟩ := xfit_ok (G := G) hfit
  have hd1 : parseFieldDescriptor (F kf).2.2.1 = some ty := by rw [hty0 kf hk, hty]
  have put : ∀ H' : Heap, H'[xad G a]? = some (cell.setSlot (G.1.2 ci kf) (xc G v)) → H'.size = H.size → (∀ q, q ≠ xad G a → H'[q]? = H[q]?) → xMt T G h' H' := fun H' e1 e2 e3 => hM.put ha ha0 (fun n f q => by cases q) e2 e3 e1' e2' e3' (xat_set hc hap hk hlen q2 q3 q4 e1)
  cases fin with
  | false =>
    rw [if_neg (by rw [hfin]; decide)] at hlay
    have h6 := u_store hfc hkC hkind hlay hi hd1 n1 n2
    cases nest with
    | false =>
      refine W.putK hx hb (f := f) ⟨hown, hts _ (hl1 rfl).1, ⟨_, _, _, hi⟩, hst⟩ (by rw [q2]; exact h6) q1 q3 (by rw [hsl]; exact k2_hasslot (q4 kf hk)) rfl rfl hd fun H' e1 e2 e3 => ?_
      rw [hsl] at e1 ⊢
      exact kk H' _ ls (put H' e1 e2 e3) (hS.put e2 e3 hbase) hL hl
    | true =>
      obtain ⟨host, hlink⟩ := hl2 rfl
      refine va_WputK hx hb (f := f) hown (hts _ hlink) hi hst (by rw [q2]; exact h6) q1 q3 (by rw [hsl]; exact k2_hasslot (q4 kf hk)) rfl rfl hd fun H' e1 e2 e3 => ?_
      rw [hsl] at e1 ⊢
      exact kk H' _ ls (put H' e1 e2 e3) (hS.put e2 e3 hbase) hL hl
  | true =>
    rw [if_pos hfin] at hlay
    obtain ⟨hnm1, rfl⟩ := hnest rfl
    obtain ⟨hlink, hown2⟩ := hl1 rfl
    have hcf : m.cls = cf := by
      obtain ⟨_, _, c', _, _, _, -, -, hf', -, -, -, hown3, -⟩ := Cond.laysFinal_spec hlay
      have e1 : c' = cf := by have := hi.symm.trans hf'; simp at this; exact this.1.symm
      rw [hown2 rfl] at hown3
      rw [← e1]; exact Option.some.inj (hown.symm.trans hown3)
    have h6 := u_fits hfc hkC hkind (Or.inr hlay) hi hd1 n1 n2
    refine W.putFinK hx hb hown (hts _ hlink) hi hst hcf hnm1 (by rw [q2]; exact h6) q1 q3 (by rw [hsl]; exact k2_hasslot (q4 kf hk)) rfl rfl hd fun H' e1 e2 e3 => ?_
    rw [hsl] at e1 ⊢
    exact kk H' _ ls (put H' e1 e2 e3) (hS.put e2 e3 hbase) hL hl
end XROWS
end
section
/-! arrays, makings, returns -/
section XHEAP
variable {T : xT} {p : Program} {l : Launch} {e : Env} {R : Room} {s : State} {m : MethodId} {args : Array Value} {below : List Frame} {meth : Method} {c : Code} {Q : State → Prop} {cc : ByteArray} {G : xG} {nL : Nat} {pc : Nat} {L : xLs} {st : List xV} {h : xH} {k n : Nat}
/-- what the machine must know of an array's cell -/
theorem xarr {H : Heap} (hK : xKn G s) (hM : xMt T G h H) {a t N : Nat} {f : Nat → xV} {ty : FieldType} (ha : xrd T h a = some (.inr (t, N, f))) (ht : (t = 9 ∧ ty = .int) ∨ (t ≠ 9 ∧ xTys[t]? = some ty)) : ∃ cell : Cell, H[xad G a]? = some cell ∧ s.isArrayOf cell ty ∧ cell.vm ≠ .unknown ∧ cell.slots.size = N ∧ (∀ j, j < N → cell.slots[j]? = some (xc G (f j))) ∧ (t ≠ 9 → cell = arrV (G.2.1 t) N (fun j => xc G (f j))) := by
  have h1 := (hM.2.2.2 a _ ha).1
  unfold xat at h1
  rcases ht with ⟨rfl, rfl⟩ | ⟨h9, ht⟩
  · simp only [if_true] at h1
    exact ⟨_, h1.1, hK.2.2.1, hK.2.2.2.1, h1.2.1, h1.2.2, fun q => absurd rfl q⟩
  · simp only [if_neg h9] at h1
    exact ⟨_, h1, (hK.2.1 t _ ht).1 N _, fun q => (by cases q), arrV_size _ _ _, fun j hj => arrV_read _ _ hj, fun _ => rfl⟩
theorem xw_alen (hx : p.tables.exec = Jvm.exec) (hb : c.code = cc) (hK : xKn G s) (hd : decode cc pc = .ok (.arraylength, 1)) {a t N : Nat} {f : Nat → xV} {ty : FieldType} (ha : xrd T h a = some (.inr (t, N, f))) (ht : (t = 9 ∧ ty = .int) ∨ (t ≠ 9 ∧ xTys[t]? = some ty)) (kk : xW T p l e R s m args below meth c Q G nL (pc + 1) L (xI (N : Int) :: st) h k n) : xW T p l e R s m args below meth c Q G nL pc L (xR (some a) :: st) h k n := by
  intro H locs ls hM hS hL hl
  obtain ⟨cell, q1, q2, q3, q4, -, -⟩ := xarr hK hM ha ht
  exact W.alen (n := Int32.ofInt N) hx hb q1 q2 (by rw [q4]; rfl) rfl rfl hd (kk H locs ls hM hS hL hl)
theorem xw_iald (hx : p.tables.exec = Jvm.exec) (hb : c.code = cc) (hK : xKn G s) (hd : decode cc pc = .ok (.iaload, 1)) {a t N : Nat} {f : Nat → xV} {z : Int} (ha : xrd T h a = some (.inr (t, N, f))) (ht : (t = 9 ∧ FieldType.int = .int) ∨ (t ≠ 9 ∧ xTys[t]? = some .int)) (h0 : 0 ≤ z) (h1 : z < N) (h2 : z < 2147483648) (kk : xW T p l e R s m args below meth c Q G nL (pc + 1) L (f z.toNat :: st) h k n) : xW T p l e R s m args below meth c Q G nL pc L (xI z :: xR (some a) :: st) h k n := by
  intro H locs ls hM hS hL hl
  obtain ⟨cell, q1, q2, q3, q4, q5, -⟩ := xarr hK hM ha ht
  refine W.iald (v := xc G (f z.toNat)) hx hb q1 q2 q3 (by rw [q4]; exact xi_in h0 h1 h2) ?_ rfl rfl hd (kk H locs ls hM hS hL hl)
  rw [xi_cl h0 h2]; exact q5 _ (by omega)
theorem xw_lald (hx : p.tables.exec = Jvm.exec) (hb : c.code = cc) (hK : xKn G s) (hd : decode cc pc = .ok (.laload, 1)) {a t N : Nat} {f : Nat → xV} {z : Int} (ha : xrd T h a = some (.inr (t, N, f))) (ht : (t = 9 ∧ FieldType.long = .int) ∨ (t ≠ 9 ∧ xTys[t]? = some .long)) (h0 : 0 ≤ z) (h1 : z < N) (h2 : z < 2147483648) (kk : xW T p l e R s m args below meth c Q G nL (pc + 1) L (f z.toNat :: st) h k n) : xW T p l e R s m args below meth c Q G nL pc L (xI z :: xR (some a) :: st) h k n := by
  intro H locs ls hM hS hL hl
  obtain ⟨cell, q1, q2, q3, q4, q5, -⟩ := xarr hK hM ha ht
  refine W.lald (v := xc G (f z.toNat)) hx hb q1 q2 q3 (by rw [q4]; exact xi_in h0 h1 h2) ?_ rfl rfl hd (kk H locs ls hM hS hL hl)
  rw [xi_cl h0 h2]; exact q5 _ (by omega)
theorem xw_aald (hx : p.tables.exec = Jvm.exec) (hb : c.code = cc) (hK : xKn G s) (hd : decode cc pc = .ok (.aaload, 1)) {a t N : Nat} {f : Nat → xV} {ty : FieldType} {z : Int} (ha : xrd T h a = some (.inr (t, N, f))) (ht : (t = 9 ∧ ty = .int) ∨ (t ≠ 9 ∧ xTys[t]? = some ty)) (href : ty.isReference = true) (h0 : 0 ≤ z) (h1 : z < N) (h2 : z < 2147483648) (kk : xW T p l e R s m args below meth c Q G nL (pc + 1) L (f z.toNat :: st) h k n) : xW T p l e R s m args below meth c Q G nL pc L (xI z :: xR (some a) :: st) h k n := by
  intro H locs ls hM hS hL hl
  obtain ⟨cell, q1, q2, q3, q4, q5, -⟩ := xarr hK hM ha ht
  refine W.aald (v := xc G (f z.toNat)) (ty := ty) hx hb q1 q2 href q3 (by rw [q4]; exact xi_in h0 h1 h2) ?_ rfl rfl hd (kk H locs ls hM hS hL hl)
  rw [xi_cl h0 h2]; exact q5 _ (by omega)
theorem xat_ast {q t N i : Nat} {f : Nat → xV} {v : xV} {H1 : Heap} (ht : t ≠ 9) (e : H1[q]? = some ((arrV (G.2.1 t) N (fun j => xc G (f j))).setSlot i (xc G v))) : xat G q (.inr (t, N, xup f i v)) H1 := by
  unfold xat
  simp only [if_neg ht]
  rw [e, arrV_store]
  congr 2
  funext q
  by_cases hq : q = i
  · subst hq; simp [updV, xup]
  · simp [updV, xup, hq]
theorem xMt.ne0 {H : Heap} (hM : xMt T G h H) {a t N : Nat} {f : Nat → xV} (ha : xrd T h a = some (.inr (t, N, f))) (ht : t ≠ 9) : a ≠ 0 := fun q => by
  obtain ⟨n', f', q'⟩ := (hM.2.2.2 a _ ha).2.mp q
  cases q'
  exact ht rfl
theorem xw_iast (hx : p.tables.exec = Jvm.exec) (hb : c.code = cc) (hK : xKn G s) (hd : decode cc pc = .ok (.iastore, 1)) {a t N : Nat} {f : Nat → xV} {z v : Int} (ha : xrd T h a = some (.inr (t, N, f))) (h9 : t ≠ 9) (ht : xTys[t]? = some .int) (h0 : 0 ≤ z) (h1 : z < N) (h2 : z < 2147483648) (kk : xwa T h a z.toNat (xI v) fun h' => xW T p l e R s m args below meth c Q G nL (pc + 1) L st h' k n) : xW T p l e R s m args below meth c Q G nL pc L (xI v :: xI z :: xR (some a) :: st) h k n := by
  intro H locs ls hM hS hL hl
  obtain ⟨cell, q1, q2, q3, q4, q5, q6⟩ := xarr hK hM ha (Or.inr ⟨h9, ht⟩)
  obtain ⟨h', e1', e2', e3', kk⟩ := xwa_spec ha kk
  have ha0 := hM.ne0 ha h9
  refine W.iast hx hb q1 q2 q3 (by rw [q4]; exact xi_in h0 h1 h2) rfl rfl hd fun H1 e1 z1 oq => ?_
  rw [xi_cl h0 h2] at e1
  rw [q6 h9] at e1
  exact kk H1 _ ls (hM.put ha ha0 (fun n f q => by cases q; exact h9 rfl) z1 oq e1' e2' e3' (xat_ast h9 e1)) (hS.put z1 oq (xad_base ha0)) hL hl
theorem xw_last (hx : p.tables.exec = Jvm.exec) (hb : c.code = cc) (hK : xKn G s) (hd : decode cc pc = .ok (.lastore, 1)) {a t N : Nat} {f : Nat → xV} {z v : Int} (ha : xrd T h a = some (.inr (t, N, f))) (h9 : t ≠ 9) (ht : xTys[t]? = some .long) (h0 : 0 ≤ z) (h1 : z < N) (h2 : z < 2147483648) (kk : xwa T h a z.toNat (xJ v) fun h' => xW T p l e R s m args below meth c Q G nL (pc + 1) L st h' k n) : xW T p l e R s m args below meth c Q G nL pc L (xJ v :: xI z :: xR (some a) :: st) h k n := by
  intro H locs ls hM hS hL hl
  obtain ⟨cell, q1, q2, q3, q4, q5, q6⟩ := xarr hK hM ha (Or.inr ⟨h9, ht⟩)
  obtain ⟨h', e1', e2', e3', kk⟩ := xwa_spec ha kk
  have ha0 := hM.ne0 ha h9
  refine W.last hx hb q1 q2 q3 (by rw [q4]; exact xi_in h0 h1 h2) rfl rfl hd fun H1 e1 z1 oq => ?_
  rw [xi_cl h0 h2] at e1
  rw [q6 h9] at e1
  exact kk H1 _ ls (hM.put ha ha0 (fun n f q => by cases q; exact h9 rfl) z1 oq e1' e2' e3' (xat_ast h9 e1)) (hS.put z1 oq (xad_base ha0)) hL hl
/-- a class that is made: its number of fields, and what they hold at first -/
def xNw (own : String) (idx ci : Nat) (fs : List xV) : Prop := ∃ (C : String) (F : u_T) (N : Nat) (tys : Nat → FieldType), xCl[ci]? = some (C, F, N) ∧ (∀ w ∈ u_ws C F N, w ∈ xTB) ∧ (∀ k, k < N → parseFieldDescriptor (F k).2.2.1 = some (tys k)) ∧ Cond.classLink own idx C ∈ xTB ∧ Cond.instantiable C N ∈ xTB ∧ Cond.initialized C ∈ xTB ∧ fs.length = N ∧ ∀ (G : xG) (j : Nat), j < N → defaultValue (tys j) = vp_V (fs.map (xc G)) j
theorem xw_new (hx : p.tables.exec = Jvm.exec) (hb : c.code = cc) (hts : ∀ w ∈ xTB, w.before args s = true) {own : String} (hown : s.vm.findClass own = some m.cls) (hK : xKn G s) (hbase : G.2.2.1 ≤ s.heap.size) {idx ci : Nat} {fs : List xV} (hN : xNw own idx ci fs) (hd : decode cc pc = .ok (.new idx, 3)) (hcells : k + 1 ≤ R.cells) (hslots : n + fs.length ≤ R.slots) (kk : xW T p l e R s m args below meth c Q G nL (pc + 3) L (xR (some h.2.2) :: st) (h.1, xup h.2.1 h.2.2 (some (.inl (ci, fs))), h.2.2 + 1) (k + 1) (n + fs.length)) : xW T p l e R s m args below meth c Q G nL pc L st h k n := by
  intro H locs ls hM hS hL hl
  obtain ⟨C, F, N, tys, hc, hin, hty, w1, w2, w3, hlen, hfs⟩ := hN
  subst hlen
  have hKn := hK.1.1 ci _ hc
  refine W.newcK hx hb hown (hts _ w1) (hts _ w2) (hts _ w3) rfl hd hcells hslots hKn.2.1 rfl fun H1 kC hkC e1 z1 o1 => ?_
  have hat : xat G H.size (.inl (ci, fs)) H1 := ⟨_, hc, (u_born tys hts hin hKn hkC e1 hty).to (hfs G)⟩
  have := kk H1 locs ls (hM.push (fun n f q => by cases q) z1 o1 hat) ⟨Nat.le_trans hS.1 (by omega), fun q h1 h2 => (o1 q (Nat.lt_of_lt_of_le h1 hS.1)).trans (hS.2.1 q h1 h2), hS.2.2⟩ hL hl
  rw [List.map_cons, show xc G (xR (some h.2.2)) = .ref H.size from congrArg Value.ref hM.2.2.1.symm] at this
  exact this
theorem xw_newa (hx : p.tables.exec = Jvm.exec) (hb : c.code = cc) (hts : ∀ w ∈ xTB, w.before args s = true) (hK : xKn G s) {at_ : ArrayType} {t : Nat} {z : Int} {v0 : xV} (h9 : t ≠ 9) (ht : xTys[t]? = some (newarray.typeOf at_)) (hra : ∀ cA : ClassId, va_RA s cA (newarray.typeOf at_) → s.vm.findClass ("[" ++ (newarray.typeOf at_).toString) = some cA) (hw : Cond.arrayClass (newarray.typeOf at_) ∈ xTB) (hv0 : xc G v0 = defaultValue (newarray.typeOf at_)) (hd : decode cc pc = .ok (.newarray at_, 2)) (h0 : 0 ≤ z) (h1 : z.toNat * componentBytes (newarray.typeOf at_) ≤ 536870912) (h2 : z < 2147483648) (hcells : k + 1 ≤ R.cells) (hslots : n + z.toNat ≤ R.slots) (kk : xW T p l e R s m args below meth c Q G nL (pc + 2) L (xR (some h.2.2) :: st) (h.1, xup h.2.1 h.2.2 (some (.inr (t, z.toNat, fun _ => v0))), h.2.2 + 1) (k + 1) (n + z.toNat)) : xW T p l e R s m args below meth c Q G nL pc L (xI z :: st) h k n := by
  intro H locs ls hM hS hL hl
  refine va_newaK hx hb (hts _ hw) rfl hd rfl (xi_nn h0 h2) (xi_cl h0 h2) h1 hcells hslots rfl fun H1 cA e1 z1 o1 hAr hNm => ?_
  have hcA : cA = G.2.1 t := Option.some.inj (hNm.symm.trans (hra _ (hK.2.1 t _ ht).2))
  subst hcA
  have hat : xat G H.size (.inr (t, z.toNat, fun _ => v0)) H1 := by
    unfold xat
    simp only [if_neg h9, hv0]
    exact e1
  have := kk H1 locs ls (hM.push (fun n f q => by cases q; exact h9 rfl) z1 o1 hat) ⟨Nat.le_trans hS.1 (by omega), fun q h1 h2 => (o1 q (Nat.lt_of_lt_of_le h1 hS.1)).trans (hS.2.1 q h1 h2), hS.2.2⟩ hL hl
  rw [List.map_cons, show xc G (xR (some h.2.2)) = .ref H.size from congrArg Value.ref hM.2.2.1.symm] at this
  exact this
theorem xat_arr {q t N : Nat} {f : Nat → xV} {H : Heap} (ht : t ≠ 9) (h : H[q]? = some (arrV (G.2.1 t) N (fun j => xc G (f j)))) : xat G q (.inr (t, N, f)) H := by
  unfold xat
  simp only [if_neg ht]
  exact h
theorem arrV_congr {cI : ClassId} {N : Nat} {f g : Nat → Value} (h : ∀ j, j < N → f j = g j) : arrV cI N f = arrV cI N g := by
  unfold arrV
  have : (fun j : Fin N => f j.val) = fun j : Fin N => g j.val := funext fun j => h j.val j.isLt
  rw [this]
theorem xouter (c : ClassId) (N h0 : Nat) : ∀ i : Nat, Jvm.Free.Multi.outerC c N h0 i = arrV c N (fun j => if j < i then .ref (h0 + 1 + j) else .null)
  | 0 => by
    show ({ cls := c, slots := Array.replicate N .null, vm := .none } : Cell) = _
    rw [arrV_new]
    refine congrArg (arrV c N) (funext fun j => ?_)
    simp
  | i + 1 => by
    show (Jvm.Free.Multi.outerC c N h0 i).setSlot i (.ref (h0 + 1 + i)) = _
    rw [xouter c N h0 i, arrV_store]
    refine congrArg (arrV c N) (funext fun j => ?_)
    by_cases e : j = i
    · subst e
      simp [updV]
    · by_cases h : j < i
      · simp [updV, e, h, Nat.lt_succ_of_lt h]
      · simp [updV, e, h, show ¬ j < i + 1 by omega]
/-- y new arrays of z ints behind an array of them -/
def xgrid (D : Nat → Option xE) (a y z : Nat) : Nat → Option xE := fun b => if b = a then some (.inr (2, y, fun j => xR (some (a + 1 + j)))) else if a < b ∧ b < a + 1 + y then some (.inr (0, z, fun _ => xI 0)) else D b
theorem xw_mna (hx : p.tables.exec = Jvm.exec) (hb : c.code = cc) (hts : ∀ w ∈ xTB, w.before args s = true) {own : String} (hown : s.vm.findClass own = some m.cls) (hK : xKn G s) {idx : Nat} (w1 : Cond.classLink own idx "[[I" ∈ xTB) (w3 : Cond.arrayClass .int ∈ xTB) {y z : Int} (hd : decode cc pc = .ok (.multianewarray idx 2, 4)) (h0 : 0 ≤ y) (h1 : y ≤ 10000) (h2 : 0 ≤ z) (h3 : z ≤ 10000) (hcells : k + (1 + y.toNat) ≤ R.cells) (hslots : n + (y.toNat + y.toNat * z.toNat) ≤ R.slots) (kk : xW T p l e R s m args below meth c Q G nL (pc + 4) L (xR (some h.2.2) :: st) (h.1, xgrid h.2.1 h.2.2 y.toNat z.toNat, h.2.2 + 1 + y.toNat) (k + (1 + y.toNat)) (n + (y.toNat + y.toNat * z.toNat))) : xW T p l e R s m args below meth c Q G nL pc L (xI z :: xI y :: st) h k n := by
  intro H locs ls hM hS hL hl T0 hT Xs
  have iy := xi_cl h0 (show y < 2147483648 by omega)
  have iz := xi_cl h2 (show z < 2147483648 by omega)
  obtain ⟨vm₁, cA, comp, -, fA, fC, -, -, X', step⟩ := Xs.multianewarray2F (ty := .int) hx hown (hts _ w1) hK.2.2.2.2.1 (hts _ w3) (g := F0 m pc ls ((xI z :: xI y :: st).map (xc G))) rfl (by rw [hb]; exact hd) (n := Int32.ofInt y) (k := Int32.ofInt z) (rest := st.map (xc G)) rfl (xi_nn h0 (by omega)) (xi_nn h2 (by omega)) (by rw [iy]; omega) (by rw [iz]; show z.toNat * 4 ≤ _; omega) (by rw [iz]; omega) rfl rfl (by rw [iy]; exact hcells) (by rw [iy, iz]; exact hslots)
  rw [iy, iz] at X' step
  obtain rfl : cA = G.2.1 2 := Option.some.inj (fA.symm.trans (hK.2.1 2 _ rfl).2)
  obtain rfl : comp = G.2.1 0 := Option.some.inj (fC.symm.trans (hK.2.1 0 _ rfl).2)
  generalize hF : Jvm.Free.Multi.fill (T0.setVm vm₁) (G.2.1 2) (G.2.1 0) y.toNat z.toNat (defaultValue .int) y.toNat = F at X' step
  have hTh : (T0.setVm vm₁).heap = H := hT
  obtain ⟨f1, f2, -, -⟩ := Jvm.Free.Multi.fill_facts (T0.setVm vm₁) (G.2.1 2) (G.2.1 0) y.toNat z.toNat (defaultValue .int) y.toNat
  rw [hF, hTh] at f1 f2
  have hold : ∀ x : Nat, x < H.size → F.heap[x]? = H[x]? := fun x hx => by
    have := Jvm.Free.Multi.fill_old (T0.setVm vm₁) (G.2.1 2) (G.2.1 0) y.toNat z.toNat (defaultValue .int) (a := x) (by rw [hTh]; exact hx) y.toNat
    rw [hF, hTh] at this
    exact this
  have hrow : ∀ j : Nat, j < y.toNat → F.heap[H.size + 1 + j]? = some (arrV (G.2.1 0) z.toNat (fun _ => .int 0)) := fun j hj => by
    have := Jvm.Free.Multi.fill_inner (T0.setVm vm₁) (G.2.1 2) (G.2.1 0) y.toNat z.toNat (defaultValue .int) y.toNat j hj
    rw [hF, hTh] at this
    rw [this]
    exact congrArg some (arrV_new _ _ _)
  rw [xouter] at f2
  have hsz := hM.2.2.1
  have hpos := hM.2.1
  have hMt : xMt T G (h.1, xgrid h.2.1 h.2.2 y.toNat z.toNat, h.2.2 + 1 + y.toNat) F.heap := by
    refine ⟨hM.1, by show 1 ≤ h.2.2 + 1 + y.toNat; omega, ?_, fun q e' hq => ?_⟩
    · rw [f1, hsz]
      show xad G h.2.2 + 1 + y.toNat = xad G (h.2.2 + 1 + y.toNat)
      rw [show h.2.2 + 1 + y.toNat = h.2.2 + (1 + y.toNat) by omega, xad_add hpos]
      omega
    · by_cases hqn : q < h.2.2
      · have hq' : xrd T h q = some e' := by
          unfold xrd at hq ⊢
          cases hTq : T q with
          | none =>
            rw [hTq] at hq
            simp only [xgrid, if_neg (show ¬ q = h.2.2 by omega), if_neg (show ¬ (h.2.2 < q ∧ q < h.2.2 + 1 + y.toNat) by omega)] at hq
            exact hq
          | some d => rw [hTq] at hq; exact hq
        have h4 := hM.2.2.2 q e' hq'
        exact ⟨h4.1.kept (hold _ h4.1.lt), h4.2⟩
      · have hTq := hM.freshT (a := q) (by omega)
        unfold xrd at hq
        rw [hTq] at hq
        simp only [xgrid] at hq
        by_cases hqa : q = h.2.2
        · subst hqa
          rw [if_pos rfl] at hq
          cases hq
          refine ⟨?_, fun q0 => absurd q0 (by omega), fun ⟨n', f', q0⟩ => by cases q0⟩
          refine xat_arr (by decide) ?_
          rw [← hsz, f2]
          refine congrArg some (arrV_congr fun j hj => ?_)
          rw [if_pos hj]
          show Value.ref (H.size + 1 + j) = Value.ref (xad G (h.2.2 + 1 + j))
          rw [show h.2.2 + 1 + j = h.2.2 + (1 + j) by omega, xad_add hpos, hsz]
          exact congrArg Value.ref (Nat.add_assoc _ _ _)
        · rw [if_neg hqa] at hq
          by_cases hqb : h.2.2 < q ∧ q < h.2.2 + 1 + y.toNat
          · rw [if_pos hqb] at hq
            cases hq
            refine ⟨?_, fun q0 => absurd q0 (by omega), fun ⟨n', f', q0⟩ => by cases q0⟩
            obtain ⟨j, rfl⟩ : ∃ j, q = h.2.2 + (1 + j) := ⟨q - h.2.2 - 1, by omega⟩
            refine xat_arr (by decide) ?_
            rw [xad_add hpos, ← hsz, show H.size + (1 + j) = H.size + 1 + j by omega, hrow j (by omega)]
            rfl
          · rw [if_neg hqb] at hq
            have h4 := hM.fresh (a := q) (by omega)
            unfold xrd at h4
            rw [hTq] at h4
            cases h4.symm.trans hq
  have hS' : va_S (xA G) s.heap F.heap locs := ⟨by rw [f1]; have := hS.1; omega, fun q h1 h2 => (hold q (Nat.lt_of_lt_of_le h1 hS.1)).trans (hS.2.1 q h1 h2), hS.2.2⟩
  have key := kk F.heap locs ls hMt hS' hL hl
  rw [show k + (1 + y.toNat) = k + 1 + y.toNat by omega, show n + (y.toNat + y.toNat * z.toNat) = n + y.toNat + y.toNat * z.toNat by omega] at key
  obtain ⟨t, a1, b1⟩ := key F rfl X'
  refine ⟨t, step t ?_, b1⟩
  have e : T0.heap.size = xad G h.2.2 := by rw [hT, hsz]
  rw [e]
  exact a1
theorem xw_copy (hx : p.tables.exec = Jvm.exec) (hb : c.code = cc) (hml : c.maxLocals = nL) (hts : ∀ w ∈ xTB, w.before args s = true) {own : String} (hown : s.vm.findClass own = some m.cls) (hK : xKn G s) {idx : Nat} (w1 : Cond.methodLink own idx arraycopyName ∈ xTB) (w2 : Cond.native arraycopyName ∈ xTB) (w3 : Cond.static arraycopyName ∈ xTB) (w4 : Cond.initialized "java/lang/System" ∈ xTB) (hty0 : xTys[0]? = some .int) (hd : decode cc pc = .ok (.invokestatic idx, 3)) {a0 a1 n0 n1 : Nat} {sp dp len : Int} (ha0 : T a0 = some (.inr (0, n0, none))) (ha1 : T a1 = some (.inr (0, n1, none))) (h1 : 0 ≤ sp) (h2 : 0 ≤ dp) (h3 : 0 ≤ len) (h4 : sp + len ≤ n0) (h5 : dp + len ≤ n1) (h6 : (n0 : Int) < 2147483648) (h7 : (n1 : Int) < 2147483648) (hfr : 1 ≤ R.frames) (hlo : (st.map fun v => (xc G v).category).sum + (nativeFrameWords "java/lang/System" "arraycopy" 5 + 11) ≤ R.locals) (kk : xW T p l e R s m args below meth c Q G nL (pc + 3) L st (xup h.1 a1 (va_cpy (h.1 a0) (h.1 a1) sp.toNat dp.toNat len.toNat), h.2) k n) : xW T p l e R s m args below meth c Q G nL pc L (xI len :: xI dp :: xR (some a1) :: xI sp :: xR (some a0) :: st) h k n := by
  intro H locs ls hM hS hL hl
  have r0 : xrd T h a0 = some (.inr (0, n0, fun j => xI (h.1 a0 j))) := by simp [xrd, ha0, xde, xda]
  have r1 : xrd T h a1 = some (.inr (0, n1, fun j => xI (h.1 a1 j))) := by simp [xrd, ha1, xde, xda]
  have c0 := (hM.2.2.2 a0 _ r0).1
  have c1 := (hM.2.2.2 a1 _ r1).1
  unfold xat at c0 c1
  simp only [if_neg (show ¬ (0 : Nat) = 9 by decide)] at c0 c1
  have ne1 := hM.ne0 r1 (by decide)
  have b1 := xad_base (G := G) ne1
  have i0 := xi_cl h1 (show sp < 2147483648 by omega)
  have i1 := xi_cl h2 (show dp < 2147483648 by omega)
  have i2 := xi_cl h3 (show len < 2147483648 by omega)
  obtain ⟨-, k0, hk0, cm0, hkk0⟩ := (hK.2.1 0 _ hty0).1 n0 (fun j => xc G (xI (h.1 a0 j)))
  intro S hT X
  obtain ⟨vm', X', step⟩ := X.arraycopy hx hown (hts _ w1) (hts _ w2) (hts _ w3) (hts _ w4) (src := xad G a0) (dst := xad G a1) (cs := arrV (G.2.1 0) n0 (fun j => xc G (xI (h.1 a0 j)))) (cd := arrV (G.2.1 0) n1 (fun j => xc G (xI (h.1 a1 j)))) (srcPos := Int32.ofInt sp) (destPos := Int32.ofInt dp) (n := Int32.ofInt len) (by rw [hT]; exact c0) (by rw [hT]; exact c1)
    (fun _ h => by cases h) (fun _ h => by cases h) (fun h => by cases h) (fun h => by cases h) hk0 hk0 hkk0 hkk0 (by decide) (xi_nn h1 (by omega)) (xi_nn h2 (by omega)) (xi_nn h3 (by omega))
    (by rw [xi_ti ⟨by omega, by omega⟩, xi_ti ⟨by omega, by omega⟩, arrV_size]; omega)
    (by rw [xi_ti ⟨by omega, by omega⟩, xi_ti ⟨by omega, by omega⟩, arrV_size]; omega)
    (fun vm₁ _ i hi => by
      rw [i2] at hi
      have e : (arrV (G.2.1 0) n0 (fun j => xc G (xI (h.1 a0 j)))).slots.getD ((Int32.ofInt sp).toNatClampNeg + i) .null = xc G (xI (h.1 a0 (sp.toNat + i))) := by
        rw [Array.getD_eq_getD_getElem?, i0, arrV_read _ _ (by omega)]
        rfl
      rw [e]
      exact ⟨rfl, trivial⟩)
    (g := F0 m pc ls ((xI len :: xI dp :: xR (some a1) :: xI sp :: xR (some a0) :: st).map (xc G))) rfl (by rw [hml]; exact hl.1) (rest := st.map (xc G)) rfl (by rw [hb]; exact hd) hfr (by rw [List.map_map]; show 2 * 0 + _ + _ ≤ _; have := hlo; simp only [Function.comp_def] at this ⊢; omega)
  have e1 : copied (arrV (G.2.1 0) n0 (fun j => xc G (xI (h.1 a0 j)))) (arrV (G.2.1 0) n1 (fun j => xc G (xI (h.1 a1 j)))) (Int32.ofInt sp) (Int32.ofInt dp) (Int32.ofInt len) = arrV (G.2.1 0) n1 (fun j => xc G (xI (va_cpy (h.1 a0) (h.1 a1) sp.toNat dp.toNat len.toNat j))) := by
    have := va_copied (fun z => xc G (xI z)) (G.2.1 0) (G.2.1 0) (n0 := n0) (n1 := n1) (sp := sp.toNat) (dp := dp.toNat) (n := len.toNat) (h.1 a0) (h.1 a1) (by omega)
    rw [← i0, ← i1, ← i2] at this ⊢
    exact this
  rw [e1] at X' step
  have hlt : xad G a1 < H.size := (Array.getElem?_eq_some_iff.mp c1).1
  have oq : ∀ q : Nat, q ≠ xad G a1 → (H.setIfInBounds (xad G a1) (arrV (G.2.1 0) n1 (fun j => xc G (xI (va_cpy (h.1 a0) (h.1 a1) sp.toNat dp.toNat len.toNat j)))))[q]? = H[q]? := fun q hq => by simp [Array.getElem?_setIfInBounds, Ne.symm hq]
  have hat : xat G (xad G a1) (.inr (0, n1, fun j => xI (va_cpy (h.1 a0) (h.1 a1) sp.toNat dp.toNat len.toNat j))) (H.setIfInBounds (xad G a1) (arrV (G.2.1 0) n1 (fun j => xc G (xI (va_cpy (h.1 a0) (h.1 a1) sp.toNat dp.toNat len.toNat j))))) := by
    unfold xat
    simp only [if_neg (show ¬ (0 : Nat) = 9 by decide)]
    simp [Array.getElem?_setIfInBounds, hlt]
  obtain ⟨t, a1', b1'⟩ := kk _ _ ls (hM.put (h' := (xup h.1 a1 (va_cpy (h.1 a0) (h.1 a1) sp.toNat dp.toNat len.toNat), h.2)) r1 ne1 (fun n f q => by cases q) (by simp) oq (by simp [xrd, ha1, xde, xda, xup_at]) (fun b hb => xrd_other hb (xup_ne hb) rfl) rfl hat)
    ⟨by simp; exact hS.1, fun q g1 g2 => by
      rw [oq q (fun e => g2 (by rw [e]; exact b1))]
      exact hS.2.1 q g1 g2, fun q hq => by
      rcases List.mem_append.mp hq with h | h
      · exact hS.2.2 q h
      · obtain ⟨z, -, hz⟩ := List.mem_map.mp h
        rw [← hz]
        exact b1⟩ hL hl _ (by rw [← hT]; rfl) X'
  exact ⟨t, step t a1', b1'⟩
theorem xw_max (hx : p.tables.exec = Jvm.exec) (hb : c.code = cc) (hml : c.maxLocals = nL) (hts : ∀ w ∈ xTB, w.before args s = true) {own : String} (hown : s.vm.findClass own = some m.cls) {idx : Nat} (w1 : Cond.methodLink own idx Lib.Math.max.name ∈ xTB) (w2 : Cond.static Lib.Math.max.name ∈ xTB) (w3 : Cond.initialized "java/lang/Math" ∈ xTB) (w4 : Cond.code Lib.Math.max.name Lib.Math.max.code 2 (some .int) ∈ xTB) (hd : decode cc pc = .ok (.invokestatic idx, 3)) {x y : Int} (hrx : xrg x) (hry : xrg y) (hfr : 1 ≤ R.frames) (hlo : (st.map fun v => (xc G v).category).sum + 13 ≤ R.locals) (hk : k ≤ R.cells) (hn : n ≤ R.slots) (kk : xW T p l e R s m args below meth c Q G nL (pc + 3) L (xI (max x y) :: st) h k n) : xW T p l e R s m args below meth c Q G nL pc L (xI y :: xI x :: st) h k n := by
  intro H locs ls hM hS hL hl
  refine va_mmax hx hb (hml.trans hl.1.symm) hown (hts _ w1) (hts _ w2) (hts _ w3) (hts _ w4) hfr (by rw [List.map_map]; exact hlo) hk hn hd ?_
  have h1 := kk H locs ls hM hS hL hl
  rw [List.map_cons, show xc G (xI (max x y)) = .int (if Int32.ofInt x < Int32.ofInt y then Int32.ofInt y else Int32.ofInt x) by
    by_cases q : x < y
    · rw [if_pos ((xi_lt hrx hry).mpr q), show max x y = y by omega]; rfl
    · rw [if_neg (mt (xi_lt hrx hry).mp q), show max x y = x by omega]; rfl] at h1
  exact h1
theorem xw_min (hx : p.tables.exec = Jvm.exec) (hb : c.code = cc) (hml : c.maxLocals = nL) (hts : ∀ w ∈ xTB, w.before args s = true) {own : String} (hown : s.vm.findClass own = some m.cls) {idx : Nat} (w1 : Cond.methodLink own idx Lib.Math.min.name ∈ xTB) (w2 : Cond.static Lib.Math.min.name ∈ xTB) (w3 : Cond.initialized "java/lang/Math" ∈ xTB) (w4 : Cond.code Lib.Math.min.name Lib.Math.min.code 2 (some .int) ∈ xTB) (hd : decode cc pc = .ok (.invokestatic idx, 3)) {x y : Int} (hrx : xrg x) (hry : xrg y) (hfr : 1 ≤ R.frames) (hlo : (st.map fun v => (xc G v).category).sum + 13 ≤ R.locals) (hk : k ≤ R.cells) (hn : n ≤ R.slots) (kk : xW T p l e R s m args below meth c Q G nL (pc + 3) L (xI (min x y) :: st) h k n) : xW T p l e R s m args below meth c Q G nL pc L (xI y :: xI x :: st) h k n := by
  intro H locs ls hM hS hL hl
  refine va_mmin hx hb (hml.trans hl.1.symm) hown (hts _ w1) (hts _ w2) (hts _ w3) (hts _ w4) hfr (by rw [List.map_map]; exact hlo) hk hn hd ?_
  have h1 := kk H locs ls hM hS hL hl
  rw [List.map_cons, show xc G (xI (min x y)) = .int (if Int32.ofInt y < Int32.ofInt x then Int32.ofInt y else Int32.ofInt x) by
    by_cases q : y < x
    · rw [if_pos ((xi_lt hry hrx).mpr q), show min x y = y by omega]; rfl
    · rw [if_neg (mt (xi_lt hry hrx).mp q), show min x y = x by omega]; rfl] at h1
  exact h1
theorem xw_abs (hx : p.tables.exec = Jvm.exec) (hb : c.code = cc) (hml : c.maxLocals = nL) (hts : ∀ w ∈ xTB, w.before args s = true) {own : String} (hown : s.vm.findClass own = some m.cls) {idx : Nat} (w1 : Cond.methodLink own idx Lib.Math.abs.name ∈ xTB) (w2 : Cond.static Lib.Math.abs.name ∈ xTB) (w3 : Cond.initialized "java/lang/Math" ∈ xTB) (w4 : Cond.code Lib.Math.abs.name Lib.Math.abs.code 1 (some .int) ∈ xTB) (hd : decode cc pc = .ok (.invokestatic idx, 3)) {x : Int} (hrx : xrg x) (hfr : 1 ≤ R.frames) (hlo : (st.map fun v => (xc G v).category).sum + 13 ≤ R.locals) (hk : k ≤ R.cells) (hn : n ≤ R.slots) (kk : xW T p l e R s m args below meth c Q G nL (pc + 3) L (xI (if 0 ≤ x then x else -x) :: st) h k n) : xW T p l e R s m args below meth c Q G nL pc L (xI x :: st) h k n := by
  intro H locs ls hM hS hL hl
  refine va_mabs hx hb (hml.trans hl.1.symm) hown (hts _ w1) (hts _ w2) (hts _ w3) (hts _ w4) hfr (by rw [List.map_map]; exact hlo) hk hn hd ?_
  have h1 := kk H locs ls hM hS hL hl
  rw [List.map_cons, show xc G (xI (if 0 ≤ x then x else -x)) = .int (if 0 ≤ Int32.ofInt x then Int32.ofInt x else 0 - Int32.ofInt x) by
    by_cases q : 0 ≤ x
    · rw [xi_0, if_pos ((xi_le xrg0 hrx).mpr q), if_pos q]; rfl
    · rw [xi_0, if_neg (mt (xi_le xrg0 hrx).mp q), if_neg q, ← Int32.ofInt_sub, Int.zero_sub]; rfl] at h1
  exact h1
theorem xw_vret {Qc : Array Value → State → Outcome → State → Prop} (hx : p.tables.exec = Jvm.exec) (hb : c.code = cc) (hr : meth.sig.returnType = none) (hlocks : meth.locks = false) (hd : decode cc pc = .ok (.return_, 1)) (hq : ∀ (H : Heap) (t : State), xMt T G h H → t.heap = H → va_F (xA G) s t → Qc args s (.returned none) t) (st : List xV) (hst : st = []) : xW T p l e R s m args below meth c (MQ below Qc args s k n (xA G)) G nL pc L st h k n := by
  subst hst
  intro H locs ls hM hS hL hl
  exact W.vret hx hb hr (fun t ht hW => hq H t hM ht (hS.F ht)) hS.2.2 hd
theorem xw_iret {Qc : Array Value → State → Outcome → State → Prop} (hx : p.tables.exec = Jvm.exec) (hb : c.code = cc) {ty : FieldType} {z : Int} (hr : meth.sig.returnType = some ty) (hn : narrow ty (.int (Int32.ofInt z)) = .int (Int32.ofInt z)) (hlocks : meth.locks = false) (hd : decode cc pc = .ok (.ireturn, 1)) (hq : ∀ (H : Heap) (t : State), xMt T G h H → t.heap = H → va_F (xA G) s t → Qc args s (.returned (some (xc G (xI z)))) t) : xW T p l e R s m args below meth c (MQ below Qc args s k n (xA G)) G nL pc L [xI z] h k n := by
  intro H locs ls hM hS hL hl
  exact W.zret hx hb hr hn (fun t ht hW => hq H t hM ht (hS.F ht)) hS.2.2 hd
theorem xw_lret {Qc : Array Value → State → Outcome → State → Prop} (hx : p.tables.exec = Jvm.exec) (hb : c.code = cc) {z : Int} (hr : meth.sig.returnType = some .long) (hlocks : meth.locks = false) (hd : decode cc pc = .ok (.lreturn, 1)) (hq : ∀ (H : Heap) (t : State), xMt T G h H → t.heap = H → va_F (xA G) s t → Qc args s (.returned (some (xc G (xJ z)))) t) : xW T p l e R s m args below meth c (MQ below Qc args s k n (xA G)) G nL pc L [xJ z] h k n := by
  intro H locs ls hM hS hL hl
  exact W.lret hx hb hr (fun t ht hW => hq H t hM ht (hS.F ht)) hS.2.2 hd
theorem xw_aret {Qc : Array Value → State → Outcome → State → Prop} (hx : p.tables.exec = Jvm.exec) (hb : c.code = cc) {rt : FieldType} {r : Option Nat} (hr : meth.sig.returnType = some rt) (hrt : (∃ n, rt = .object n) ∨ ∃ t, rt = .array t) (hlocks : meth.locks = false) (hd : decode cc pc = .ok (.areturn, 1)) (hq : ∀ (H : Heap) (t : State), xMt T G h H → t.heap = H → va_F (xA G) s t → Qc args s (.returned (some (xc G (xR r)))) t) : xW T p l e R s m args below meth c (MQ below Qc args s k n (xA G)) G nL pc L [xR r] h k n := by
  intro H locs ls hM hS hL hl
  exact W.aret (v := xc G (xR r)) hx hb hr hrt (by cases r; exact Or.inl rfl; exact Or.inr ⟨_, rfl⟩) (fun t ht hW => hq H t hM ht (hS.F ht)) hS.2.2 hd
end XHEAP
end
section
/-! contracts and calls -/
def xws (μ : xMd) : List Cond := .code μ.1 μ.2.1 μ.2.2.1 μ.2.2.2 :: xTB
def xPc (T : xT) (G : xG) (as : List xV) (h : xH) : Array Value → State → Prop := fun v U => v = (as.map (xc G)).toArray ∧ xMt T G h U.heap ∧ xKn G U ∧ G.2.2.1 ≤ U.heap.size
def xQc (T : xT) (G : xG) (Q : Option xV → xH → Prop) : Array Value → State → Outcome → State → Prop := fun _ st o t => ∃ (r : Option xV) (h' : xH), o = .returned (r.map (xc G)) ∧ Q r h' ∧ xMt T G h' t.heap ∧ va_F (xA G) st t
/-- the method μ, called with as on the heap h, comes back, and Q holds of its answer and the heap; it asks fr frames, lo words of locals; makes at most mc cells of ms slots -/
def xCt (T : xT) (G : xG) (μ : xMd) (fr lo mc ms : Nat) (as : List xV) (h : xH) (Q : Option xV → xH → Prop) : Prop :=
  ∀ l : Launch, Met l μ.1 (xws μ) { frames := fr, cells := mc, slots := ms, locals := lo } (xPc T G as h) (xQc T G Q) mc ms (xA G)
theorem xPc_blind {T : xT} {G : xG} {as : List xV} {h : xH} : FrameBlind (xPc T G as h) := fun a U g mk q => ⟨q.1, q.2.1, q.2.2.1.same (u := U) (U := U.calling g mk a) (Vm.Alike.refl U.vm) rfl, q.2.2.2⟩
/-- a call site: own's pool number idx names μ, with na parameters -/
def xLk (own : String) (idx : Nat) (μ : xMd) (na : Nat) : Prop := (Cond.methodLink own idx μ.1 ∈ xTB ∨ (own = "DrumTongue" ∧ idx = 18 ∧ μ.1 = y_Ear_init)) ∧ Cond.code μ.1 μ.2.1 μ.2.2.1 μ.2.2.2 ∈ xTB ∧ Cond.initialized μ.1.cls ∈ xTB ∧ μ.1.cls ≠ "java/lang/invoke/MethodHandle" ∧ μ.1.cls ≠ "java/lang/invoke/VarHandle" ∧ (parseMethodDescriptor μ.1.desc).map (fun d => d.parameters.length) = some na
section XCALL
variable {T : xT} {p : Program} {l : Launch} {e : Env} {R : Room} {s : State} {m : MethodId} {args : Array Value} {below : List Frame} {meth : Method} {c : Code} {Q : State → Prop} {cc : ByteArray} {G : xG} {nL : Nat} {pc : Nat} {L : xLs} {st : List xV} {h : xH} {k n : Nat}
theorem xw_run {H : Heap} {locs : List Loc} {ls : Array Slot} {st0 rest : List Value} {mc ms : Nat} {Q1 : Option xV → xH → Prop} {a : Array Value} (hr : va_Run p l e R s m args below meth c H locs k n mc ms (F0 m pc ls st0) rest (xQc T G Q1 a) (xA G)) (hS : va_S (xA G) s.heap H locs)
    (kk : ∀ (r : Option xV) (h' : xH), Q1 r h' → ∀ (H1 : Heap) (locs1 : List Loc), xMt T G h' H1 → va_S (xA G) s.heap H1 locs1 → W p l e R s m args below meth c H1 locs1 (k + mc) (n + ms) Q (F0 m (pc + 3) ls ((r.map (xc G)).toList ++ rest))) : W p l e R s m args below meth c H locs k n Q (F0 m pc ls st0) := by
  intro S hT X
  obtain ⟨v, st₀, t, T', L1, h0, X', hL, e1, e2, ⟨r, h', hv, hq, hm, hz, hk⟩, sts⟩ := hr S hT X
  have hv' : v = r.map (xc G) := Outcome.returned.inj hv
  subst hv'
  rw [h0] at hz hk
  obtain ⟨t2, a1, b1⟩ := kk r h' hq T'.heap (locs ++ L1) (by rw [e1]; exact hm)
    ⟨Nat.le_trans hS.1 (by rw [e1]; exact hz), fun q h1 h2 => by rw [e1, hk q (Nat.lt_of_lt_of_le h1 hS.1) h2]; exact hS.2.1 q h1 h2, fun q hq => by
      rcases List.mem_append.mp hq with h | h
      · exact hS.2.2 q h
      · exact hL q h⟩ T' rfl X'
  exact ⟨t2, sts t2 a1, b1⟩
theorem xTB_good (w : Cond) (h : w ∈ xTB) : (w.onTables && w.keeps) = true ∨ ∃ ty, w = .arrayClass ty := good_of_word (List.mem_filter.mp h).2
theorem xws_good {μ : xMd} (h : Cond.code μ.1 μ.2.1 μ.2.2.1 μ.2.2.2 ∈ xTB) : GoodIn xTB (xws μ) := by
  intro w hw
  rcases List.mem_cons.mp hw with rfl | hw
  · exact ⟨h, xTB_good _ h⟩
  · exact ⟨hw, xTB_good _ hw⟩
/-- how many words a stack takes -/
def xct : List xV → Nat
  | [] => 0
  | .inr (.inl _) :: r => 2 + xct r
  | _ :: r => 1 + xct r
theorem xct_eq {G : xG} : ∀ st : List xV, (st.map fun v => (xc G v).category).sum = xct st
  | [] => rfl
  | .inl z :: r => by rw [List.map_cons, List.sum_cons, xct_eq r]; rfl
  | .inr (.inl z) :: r => by rw [List.map_cons, List.sum_cons, xct_eq r]; rfl
  | .inr (.inr none) :: r => by rw [List.map_cons, List.sum_cons, xct_eq r]; rfl
  | .inr (.inr (some a)) :: r => by rw [List.map_cons, List.sum_cons, xct_eq r]; rfl
theorem xroom {st st0 : List xV} {ls : Array Slot} (h : xct st ≤ 8) : 2 * (F0 m pc ls (st0.map (xc G))).monitorRoom + ((st.map (xc G)).map fun v => v.category).sum ≤ 8 := lv_room (by rw [List.map_map]; have := xct_eq (G := G) st; simp only [Function.comp_def]; omega)
/-- the numbers of a call: frames, words of locals, cells, slots that are left -/
abbrev xRm : Type := Nat × Nat × Nat × Nat
def xfits (R : xRm) (μ : xMd) (fr lo mc ms k n : Nat) : Prop := fr + 1 ≤ R.1 ∧ 8 + (μ.2.2.1 + 11) + lo ≤ R.2.1 ∧ k + mc ≤ R.2.2.1 ∧ n + ms ≤ R.2.2.2
theorem xw_callS (hx : p.tables.exec = Jvm.exec) (hb : c.code = cc) (hml : c.maxLocals = nL) (hts : ∀ w ∈ xTB, w.before args s = true) {own : String} (hown : s.vm.findClass own = some m.cls) (hK : xKn G s) (hbase : G.2.2.1 ≤ s.heap.size) {idx na : Nat} {μ : xMd} (hlk : xLk own idx μ na) (hstat : Cond.static μ.1 ∈ xTB) (hd : decode cc pc = .ok (.invokestatic idx, 3)) {as : List xV} (hna : as.length = na) {fr lo mc ms : Nat} (hrm : xfits (R.frames, R.locals, R.cells, R.slots) μ fr lo mc ms k n) {Q1 : Option xV → xH → Prop} (hct : xCt T G μ fr lo mc ms as h Q1) (hcat : xct st ≤ 8)
    (kk : ∀ (r : Option xV) (h' : xH), Q1 r h' → xW T p l e R s m args below meth c Q G nL (pc + 3) L (r.toList ++ st) h' (k + mc) (n + ms)) : xW T p l e R s m args below meth c Q G nL pc L (as.reverse ++ st) h k n := by
  intro H locs ls hM hS hL hl
  obtain ⟨hlink, hcode, hini, hc1, hc2, hdesc⟩ := hlk
  have hp : PreS s H (xPc T G as h) (as.map (xc G)) := ⟨xPc_blind, fun U hU hW => ⟨rfl, by rw [hU]; exact hM, hK.warm hW, by rw [hU]; exact Nat.le_trans hbase hS.1⟩⟩
  have hR : fr + 1 ≤ R.frames ∧ 8 + (μ.2.2.1 + 11) + lo ≤ R.locals := ⟨hrm.1, hrm.2.1⟩
  have hgo : ∀ (hrun : va_Run p l e R s m args below meth c H locs k n mc ms (F0 m pc ls ((as.reverse ++ st).map (xc G))) (st.map (xc G)) (xQc T G Q1 (as.map (xc G)).toArray) (xA G)), W p l e R s m args below meth c H locs k n Q (F0 m pc ls ((as.reverse ++ st).map (xc G))) := fun hrun =>
    xw_run hrun hS fun r h' hq H1 locs1 hM1 hS1 => by
      have := kk r h' hq H1 locs1 ls hM1 hS1 hL hl
      cases r <;> exact this
  rcases hlink with hlink | ⟨rfl, rfl, hlink⟩
  · exact hgo (va_runS (As := as.map (xc G)) (rest := st.map (xc G)) (Ts := xTB) ⟨hx, hb, hml, hown, hts⟩ (hct l) ⟨callB_of na hts (xws_good hcode) rfl rfl rfl (hts _ hini) (hts _ hlink) ⟨hc1, hc2, hdesc⟩ hR, hts _ hstat⟩ hp rfl (by rw [List.length_map]; exact hna) hl.1 (by simp) (xroom hcat) hd ⟨hrm.2.2.1, hrm.2.2.2⟩)
  · exact hgo (va_runSN (As := as.map (xc G)) (rest := st.map (xc G)) (Ts := xTB) ⟨hx, hb, hml, hown, hts⟩ (hct l) ⟨va_cnB na hts (xws_good hcode) rfl rfl rfl (hlink ▸ hK.2.2.2.2.2) (hts _ hini) ⟨hc1, hc2, hdesc⟩ hR, hts _ hstat, trivial⟩ hp rfl (by rw [List.length_map]; exact hna) hl.1 (by simp) (xroom hcat) hd ⟨hrm.2.2.1, hrm.2.2.2⟩)
theorem xw_callV (hx : p.tables.exec = Jvm.exec) (hb : c.code = cc) (hml : c.maxLocals = nL) (hts : ∀ w ∈ xTB, w.before args s = true) {own : String} (hown : s.vm.findClass own = some m.cls) (hK : xKn G s) (hbase : G.2.2.1 ≤ s.heap.size) {idx na : Nat} {μ : xMd} (hlk : xLk own idx μ na) (hinst : Cond.instanceMethod μ.1 ∈ xTB) (hsel : Cond.selects μ.1.cls μ.1 μ.1 ∈ xTB) {ci : Nat} (hci : ∃ (F : u_T) (N : Nat), xCl[ci]? = some (μ.1.cls, F, N)) (hd : decode cc pc = .ok (.invokevirtual idx, 3)) {a : Nat} {fs as : List xV} (ha : xrd T h a = some (.inl (ci, fs))) (hna : as.length = na) {fr lo mc ms : Nat} (hrm : xfits (R.frames, R.locals, R.cells, R.slots) μ fr lo mc ms k n) {Q1 : Option xV → xH → Prop} (hct : xCt T G μ fr lo mc ms (xR (some a) :: as) h Q1) (hcat : xct st ≤ 8)
    (kk : ∀ (r : Option xV) (h' : xH), Q1 r h' → xW T p l e R s m args below meth c Q G nL (pc + 3) L (r.toList ++ st) h' (k + mc) (n + ms)) : xW T p l e R s m args below meth c Q G nL pc L (as.reverse ++ xR (some a) :: st) h k n := by
  intro H locs ls hM hS hL hl
  obtain ⟨hlink, hcode, hini, hc1, hc2, hdesc⟩ := hlk
  obtain ⟨F, N, hci⟩ := hci
  have hp : PreV s H μ.1.cls (xad G a) (xPc T G (xR (some a) :: as) h) (as.map (xc G)) := ⟨xPc_blind, va_recv hK.1 (xmt_P hM ha) (q0 := 0) hci rfl, fun U hU hW => ⟨rfl, by rw [hU]; exact hM, hK.warm hW, by rw [hU]; exact Nat.le_trans hbase hS.1⟩⟩
  have hR : fr + 1 ≤ R.frames ∧ 8 + (μ.2.2.1 + 11) + lo ≤ R.locals := ⟨hrm.1, hrm.2.1⟩
  have hgo : ∀ (hrun : va_Run p l e R s m args below meth c H locs k n mc ms (F0 m pc ls ((as.reverse ++ xR (some a) :: st).map (xc G))) (st.map (xc G)) (xQc T G Q1 (Value.ref (xad G a) :: as.map (xc G)).toArray) (xA G)), W p l e R s m args below meth c H locs k n Q (F0 m pc ls ((as.reverse ++ xR (some a) :: st).map (xc G))) := fun hrun =>
    xw_run hrun hS fun r h' hq H1 locs1 hM1 hS1 => by
      have := kk r h' hq H1 locs1 ls hM1 hS1 hL hl
      cases r <;> exact this
  rcases hlink with hlink | ⟨rfl, rfl, hlink⟩
  · exact hgo (va_runV (C := μ.1.cls) (As := as.map (xc G)) (rest := st.map (xc G)) (Ts := xTB) ⟨hx, hb, hml, hown, hts⟩ (hct l) ⟨callB_of na hts (xws_good hcode) rfl rfl rfl (hts _ hini) (hts _ hlink) ⟨hc1, hc2, hdesc⟩ hR, hts _ hinst, hts _ hsel⟩ hp rfl (by rw [List.length_map]; exact hna) hl.1 (by simp [xc]) (xroom hcat) hd ⟨hrm.2.2.1, hrm.2.2.2⟩)
  · exact hgo (va_runVN (C := μ.1.cls) (As := as.map (xc G)) (rest := st.map (xc G)) (Ts := xTB) ⟨hx, hb, hml, hown, hts⟩ (hct l) ⟨va_cnB na hts (xws_good hcode) rfl rfl rfl (hlink ▸ hK.2.2.2.2.2) (hts _ hini) ⟨hc1, hc2, hdesc⟩ hR, hts _ hinst, hts _ hsel⟩ hp rfl (by rw [List.length_map]; exact hna) hl.1 (by simp [xc]) (xroom hcat) hd ⟨hrm.2.2.1, hrm.2.2.2⟩)
theorem xw_callI (hx : p.tables.exec = Jvm.exec) (hb : c.code = cc) (hml : c.maxLocals = nL) (hts : ∀ w ∈ xTB, w.before args s = true) {own : String} (hown : s.vm.findClass own = some m.cls) (hK : xKn G s) (hbase : G.2.2.1 ≤ s.heap.size) {idx na : Nat} {μ : xMd} (hlk : xLk own idx μ na) (hinst : Cond.instanceMethod μ.1 ∈ xTB) (hnm : μ.1.name = "<init>") (hrt : μ.2.2.2 = none) (hd : decode cc pc = .ok (.invokespecial idx, 3)) {a : Nat} {as : List xV} (hna : as.length = na) {fr lo mc ms : Nat} (hrm : xfits (R.frames, R.locals, R.cells, R.slots) μ fr lo mc ms k n) {Q1 : Option xV → xH → Prop} (hct : xCt T G μ fr lo mc ms (xR (some a) :: as) h Q1) (hcat : xct st ≤ 8)
    (kk : ∀ (r : Option xV) (h' : xH), Q1 r h' → xW T p l e R s m args below meth c Q G nL (pc + 3) L (r.toList ++ st) h' (k + mc) (n + ms)) : xW T p l e R s m args below meth c Q G nL pc L (as.reverse ++ xR (some a) :: st) h k n := by
  intro H locs ls hM hS hL hl
  obtain ⟨y, bytes, maxL, rt⟩ := μ
  obtain rfl : rt = none := hrt
  obtain ⟨hlink, hcode, hini, hc1, hc2, hdesc⟩ := hlk
  have hp : PreS s H (xPc T G (xR (some a) :: as) h) (Value.ref (xad G a) :: as.map (xc G)) := ⟨xPc_blind, fun U hU hW => ⟨rfl, by rw [hU]; exact hM, hK.warm hW, by rw [hU]; exact Nat.le_trans hbase hS.1⟩⟩
  have hR : fr + 1 ≤ R.frames ∧ 8 + (maxL + 11) + lo ≤ R.locals := ⟨hrm.1, hrm.2.1⟩
  have hgo : ∀ (hrun : va_Run p l e R s m args below meth c H locs k n mc ms (F0 m pc ls ((as.reverse ++ xR (some a) :: st).map (xc G))) (st.map (xc G)) (xQc T G Q1 (Value.ref (xad G a) :: as.map (xc G)).toArray) (xA G)), W p l e R s m args below meth c H locs k n Q (F0 m pc ls ((as.reverse ++ xR (some a) :: st).map (xc G))) := fun hrun =>
    xw_run hrun hS fun r h' hq H1 locs1 hM1 hS1 => by
      have := kk r h' hq H1 locs1 ls hM1 hS1 hL hl
      cases r <;> exact this
  rcases hlink with hlink | ⟨rfl, rfl, hlink⟩
  · exact hgo (va_runI (As := as.map (xc G)) (rest := st.map (xc G)) (Ts := xTB) ⟨hx, hb, hml, hown, hts⟩ (hct l) ⟨callB_of na hts (xws_good (μ := (y, bytes, maxL, none)) hcode) rfl rfl rfl (hts _ hini) (hts _ hlink) ⟨hc1, hc2, hdesc⟩ hR, hnm, hts _ hinst⟩ hp rfl (by rw [List.length_map]; exact hna) hl.1 (by simp [xc]) (xroom hcat) hd ⟨hrm.2.2.1, hrm.2.2.2⟩)
  · exact hgo (va_runIN (As := as.map (xc G)) (rest := st.map (xc G)) (Ts := xTB) ⟨hx, hb, hml, hown, hts⟩ (hct l) ⟨va_cnB na hts (xws_good (μ := (y, bytes, maxL, none)) hcode) rfl rfl rfl (hlink ▸ hK.2.2.2.2.2) (hts _ hini) ⟨hc1, hc2, hdesc⟩ hR, hnm, hts _ hinst⟩ hp rfl (by rw [List.length_map]; exact hna) hl.1 (by simp [xc]) (xroom hcat) hd ⟨hrm.2.2.1, hrm.2.2.2⟩)
end XCALL
end
section
/-! what must hold so that the machine goes on well: xop. N: what must hold behind the instruction; J: at the aim of a jump. tb: own's tables: fields idx -> (class, field, its type, final, nest); methods idx -> (0 static, 1 virtual, 2 <init>, 3 Object.<init>, 4 arraycopy; method, parameters, class of the receiver); new idx -> class and its fresh fields; constants int; constants long; int[][] -/
abbrev xTb : Type := List (Nat × Nat × Nat × FieldType × Bool × Bool) × List (Nat × Nat × xMd × Nat × Nat) × List (Nat × Nat × List xV) × List (Nat × Int) × List (Nat × Int) × List Nat
abbrev xP : Type := Option xV → xH → Prop
abbrev xN : Type := xLs → List xV → xH → Nat → Nat → Prop
abbrev xS : Type := Nat → xLs → List xV → xH → Nat → Nat → Prop
def xlk {α : Type} : List (Nat × α) → Nat → Option α
  | [], _ => none
  | (j, x) :: r, i => match Nat.beq i j with
    | true => some x
    | false => xlk r i
theorem xlk_mem {α : Type} {i : Nat} {x : α} : ∀ {l : List (Nat × α)}, xlk l i = some x → (i, x) ∈ l
  | [], h => by cases h
  | (j, y) :: r, h => by
    unfold xlk at h
    split at h
    · rename_i hj
      cases h
      rw [xbeq hj]
      exact List.mem_cons_self
    · exact List.mem_cons_of_mem _ (xlk_mem h)
def xo {α : Type} (o : Option α) (K : α → Prop) : Prop := match o with
  | some a => K a
  | none => False
theorem xo_spec {α : Type} {o : Option α} {K : α → Prop} (h : xo o K) : ∃ a, o = some a ∧ K a := by
  cases o with
  | none => exact h.elim
  | some a => exact ⟨a, rfl, h⟩
def x1i (st : List xV) (K : Int → List xV → Prop) : Prop := match st with
  | .inl z :: r => K z r
  | _ => False
theorem x1i_spec {st : List xV} {K : Int → List xV → Prop} (h : x1i st K) : ∃ z r, st = xI z :: r ∧ K z r := by
  rcases st with _ | ⟨z | z | z, r⟩ <;> first | exact h.elim | exact ⟨z, r, rfl, h⟩
def x2i (st : List xV) (K : Int → Int → List xV → Prop) : Prop := match st with
  | .inl y :: .inl x :: r => K x y r
  | _ => False
theorem x2i_spec {st : List xV} {K : Int → Int → List xV → Prop} (h : x2i st K) : ∃ x y r, st = xI y :: xI x :: r ∧ K x y r := by
  rcases st with _ | ⟨y | y | y, _ | ⟨x | x | x, r⟩⟩ <;> first | exact h.elim | exact ⟨x, y, r, rfl, h⟩
def x1j (st : List xV) (K : Int → List xV → Prop) : Prop := match st with
  | .inr (.inl z) :: r => K z r
  | _ => False
theorem x1j_spec {st : List xV} {K : Int → List xV → Prop} (h : x1j st K) : ∃ z r, st = xJ z :: r ∧ K z r := by
  rcases st with _ | ⟨z | z | z, r⟩ <;> first | exact h.elim | exact ⟨z, r, rfl, h⟩
def x2j (st : List xV) (K : Int → Int → List xV → Prop) : Prop := match st with
  | .inr (.inl y) :: .inr (.inl x) :: r => K x y r
  | _ => False
theorem x2j_spec {st : List xV} {K : Int → Int → List xV → Prop} (h : x2j st K) : ∃ x y r, st = xJ y :: xJ x :: r ∧ K x y r := by
  rcases st with _ | ⟨y | y | y, _ | ⟨x | x | x, r⟩⟩ <;> first | exact h.elim | exact ⟨x, y, r, rfl, h⟩
def x1r (st : List xV) (K : Option Nat → List xV → Prop) : Prop := match st with
  | .inr (.inr z) :: r => K z r
  | _ => False
theorem x1r_spec {st : List xV} {K : Option Nat → List xV → Prop} (h : x1r st K) : ∃ z r, st = xR z :: r ∧ K z r := by
  rcases st with _ | ⟨z | z | z, r⟩ <;> first | exact h.elim | exact ⟨z, r, rfl, h⟩
/-- a value of one word on top -/
def x1w (st : List xV) (K : xV → List xV → Prop) : Prop := match st with
  | .inl z :: r => K (.inl z) r
  | .inr (.inr z) :: r => K (.inr (.inr z)) r
  | _ => False
theorem x1w_spec {st : List xV} {K : xV → List xV → Prop} (h : x1w st K) : ∃ v r, st = v :: r ∧ (∀ z, v ≠ xJ z) ∧ K v r := by
  rcases st with _ | ⟨z | z | z, r⟩
  · exact h.elim
  · exact ⟨_, r, rfl, fun z q => (by cases q), h⟩
  · exact h.elim
  · exact ⟨_, r, rfl, fun z q => (by cases q), h⟩
def xli (L : xLs) (i : Nat) (K : Int → Prop) : Prop := match L[i]? with
  | some (some (.inl z)) => K z
  | _ => False
theorem xli_spec {L : xLs} {i : Nat} {K : Int → Prop} (h : xli L i K) : ∃ z, L[i]? = some (some (xI z)) ∧ K z := by
  unfold xli at h
  split at h
  · exact ⟨_, by assumption, h⟩
  · exact h.elim
def xlj (L : xLs) (i : Nat) (K : Int → Prop) : Prop := match L[i]? with
  | some (some (.inr (.inl z))) => K z
  | _ => False
theorem xlj_spec {L : xLs} {i : Nat} {K : Int → Prop} (h : xlj L i K) : ∃ z, L[i]? = some (some (xJ z)) ∧ K z := by
  unfold xlj at h
  split at h
  · exact ⟨_, by assumption, h⟩
  · exact h.elim
def xlr (L : xLs) (i : Nat) (K : Option Nat → Prop) : Prop := match L[i]? with
  | some (some (.inr (.inr z))) => K z
  | _ => False
theorem xlr_spec {L : xLs} {i : Nat} {K : Option Nat → Prop} (h : xlr L i K) : ∃ z, L[i]? = some (some (xR z)) ∧ K z := by
  unfold xlr at h
  split at h
  · exact ⟨_, by assumption, h⟩
  · exact h.elim
/-- a field read -/
def xgf (T : xT) (h : xH) (a ci kf : Nat) (K : xV → Prop) : Prop := match h with
  | (M, D, _) => match T a with
    | some (.inl (c, ds)) => cond (Nat.beq c ci) (match ds[kf]? with
      | some (.inr false) => K (xI (M a kf))
      | some (.inr true) => K (xJ (M a kf))
      | some (.inl r) => K (xR r)
      | none => False) False
    | some (.inr _) => False
    | none => match D a with
      | some (.inl (c, fs)) => cond (Nat.beq c ci) (match fs[kf]? with
        | some v => K v
        | none => False) False
      | _ => False
theorem xgf_spec {T : xT} {h : xH} {a ci kf : Nat} {K : xV → Prop} (hg : xgf T h a ci kf K) : ∃ fs v, xrd T h a = some (.inl (ci, fs)) ∧ fs[kf]? = some v ∧ K v := by
  obtain ⟨M, D, nx⟩ := h
  simp only [xgf] at hg
  cases hT : T a with
  | some d =>
    rw [hT] at hg
    rcases d with ⟨c, ds⟩ | d
    · simp only at hg
      have hc := (xcond hg).1
      replace hg := (xcond hg).2
      obtain rfl := xbeq hc
      cases hd : ds[kf]? with
      | none => rw [hd] at hg; exact hg.elim
      | some d =>
        rw [hd] at hg
        refine ⟨xdl M a 0 ds, xdv M a kf d, by simp [xrd, hT, xde], by rw [xdl_get, hd]; simp, ?_⟩
        rcases d with r | (_ | _) <;> exact hg
    · exact hg.elim
  | none =>
    rw [hT] at hg
    simp only at hg
    cases hD : D a with
    | none => rw [hD] at hg; exact hg.elim
    | some e =>
      rw [hD] at hg
      rcases e with ⟨c, fs⟩ | e
      · simp only at hg
        have hc := (xcond hg).1
        replace hg := (xcond hg).2
        obtain rfl := xbeq hc
        cases hd : fs[kf]? with
        | none => rw [hd] at hg; exact hg.elim
        | some v =>
          rw [hd] at hg
          exact ⟨fs, v, by simp [xrd, hT, hD], hd, hg⟩
      · exact hg.elim
/-- an array is there: its kind, its length, what it holds at j -/
def xar (T : xT) (h : xH) (a j : Nat) (K : Nat → Nat → xV → Prop) : Prop := match h with
  | (M, D, _) => match T a with
    | some (.inr (0, n, none)) => K 0 n (xI (M a j))
    | some (.inr (1, n, none)) => K 1 n (xJ (M a j))
    | some (.inr (2, n, some r)) => K 2 n (xR (r j))
    | some _ => False
    | none => match D a with
      | some (.inr (t, n, f)) => K t n (f j)
      | _ => False
theorem xar_spec {T : xT} {h : xH} {a j : Nat} {K : Nat → Nat → xV → Prop} (hg : xar T h a j K) : ∃ t n f, xrd T h a = some (.inr (t, n, f)) ∧ K t n (f j) := by
  obtain ⟨M, D, nx⟩ := h
  simp only [xar] at hg
  cases hT : T a with
  | some d =>
    rw [hT] at hg
    rcases d with d | ⟨t, n, r⟩
    · exact hg.elim
    · rcases t with _ | _ | _ | t <;> rcases r with _ | r <;> simp only at hg
      · exact ⟨0, n, fun j => xI (M a j), by simp [xrd, hT, xde, xda], hg⟩
      · exact ⟨1, n, fun j => xJ (M a j), by simp [xrd, hT, xde, xda], hg⟩
      · exact ⟨2, n, fun j => xR (r j), by simp [xrd, hT, xde, xda], hg⟩
  | none =>
    rw [hT] at hg
    simp only at hg
    cases hD : D a with
    | none => rw [hD] at hg; exact hg.elim
    | some e =>
      rw [hD] at hg
      rcases e with e | ⟨t, n, f⟩
      · exact hg.elim
      · exact ⟨t, n, f, by simp [xrd, hT, hD], hg⟩
/-- the receiver is of class ci -/
def xcv (T : xT) (h : xH) (a ci : Nat) (A : Prop) : Prop := match h with
  | (_, D, _) => match T a with
    | some (.inl (c, _)) => cond (Nat.beq c ci) A False
    | some (.inr _) => False
    | none => match D a with
      | some (.inl (c, _)) => cond (Nat.beq c ci) A False
      | _ => False
theorem xcv_spec {T : xT} {h : xH} {a ci : Nat} {A : Prop} (hg : xcv T h a ci A) : ∃ fs, xrd T h a = some (.inl (ci, fs)) ∧ A := by
  obtain ⟨M, D, nx⟩ := h
  simp only [xcv] at hg
  cases hT : T a with
  | some d =>
    rw [hT] at hg
    rcases d with ⟨c, ds⟩ | d
    · have hc := (xcond hg).1
      replace hg := (xcond hg).2
      obtain rfl := xbeq hc
      exact ⟨xdl M a 0 ds, by simp [xrd, hT, xde], hg⟩
    · exact hg.elim
  | none =>
    rw [hT] at hg
    simp only at hg
    cases hD : D a with
    | none => rw [hD] at hg; exact hg.elim
    | some e =>
      rw [hD] at hg
      rcases e with ⟨c, fs⟩ | e
      · have hc := (xcond hg).1
        replace hg := (xcond hg).2
        obtain rfl := xbeq hc
        exact ⟨fs, by simp [xrd, hT, hD], hg⟩
      · exact hg.elim
/-- a jump's aim -/
def xto (pc : Nat) (off : Int) (K : Nat → Prop) : Prop := match (pc : Int) + off with
  | .ofNat t => K t
  | _ => False
theorem xto_spec {pc : Nat} {off : Int} {K : Nat → Prop} (h : xto pc off K) : ∃ t : Nat, (pc : Int) + off = (t : Int) ∧ K t := by
  unfold xto at h
  split at h
  · rename_i t e
    exact ⟨t, e, h⟩
  · exact h.elim
/-- a branch: both numbers in range; each road under its condition -/
def xbr (c : ClassFile.Cond) (x y : Int) (a b : Prop) : Prop := match c with
  | .eq => (x = y → a) ∧ (x ≠ y → b)
  | .ne => (x ≠ y → a) ∧ (x = y → b)
  | .lt => (x < y → a) ∧ (y ≤ x → b)
  | .ge => (y ≤ x → a) ∧ (x < y → b)
  | .gt => (y < x → a) ∧ (x ≤ y → b)
  | .le => (x ≤ y → a) ∧ (y < x → b)
/-- a table of jumps: from the number i on -/
def xsw (x : Int) (pc : Nat) (K : Nat → Prop) : Int → List Int → Prop
  | _, [] => True
  | i, off :: r => (x = i → xto pc off K) ∧ xsw x pc K (i + 1) r
theorem xsw_spec {x : Int} {pc : Nat} {K : Nat → Prop} : ∀ {i : Int} {offs : List Int}, xsw x pc K i offs → i ≤ x → x < i + offs.length → ∃ off, offs[(x - i).toNat]? = some off ∧ xto pc off K
  | i, [], _, h1, h2 => by simp at h2; omega
  | i, off :: r, h, h1, h2 => by
    by_cases hx : x = i
    · subst hx
      exact ⟨off, by simp, h.1 rfl⟩
    · obtain ⟨o, q1, q2⟩ := xsw_spec h.2 (by omega) (by simp at h2; omega)
      refine ⟨o, ?_, q2⟩
      rw [show (x - i).toNat = (x - (i + 1)).toNat + 1 by omega]
      simpa using q1
/-- arguments off the stack -/
def xtk : Nat → List xV → List xV → (List xV → List xV → Prop) → Prop
  | 0, st, as, K => K as st
  | _ + 1, [], _, _ => False
  | i + 1, v :: st, as, K => xtk i st (v :: as) K
theorem xtk_spec {K : List xV → List xV → Prop} : ∀ {i : Nat} {st as : List xV}, xtk i st as K → ∃ bs st', K (bs ++ as) st' ∧ bs.length = i ∧ st = bs.reverse ++ st'
  | 0, st, as, h => ⟨[], st, h, rfl, rfl⟩
  | i + 1, [], as, h => h.elim
  | i + 1, v :: st, as, h => by
    obtain ⟨bs, st', h1, h2, h3⟩ := xtk_spec (i := i) (st := st) h
    exact ⟨bs ++ [v], st', by simpa using h1, by simp [h2], by simp [h3]⟩
/-- an answer's kind -/
def xrt (rt : Option FieldType) (r : Option xV) (K : List xV → Prop) : Prop := match rt, r with
  | none, none => K []
  | some .int, some (.inl z) => K [xI z]
  | some .boolean, some (.inl z) => K [xI z]
  | some .long, some (.inr (.inl z)) => K [xJ z]
  | some (.object _), some (.inr (.inr q)) => K [xR q]
  | some (.array _), some (.inr (.inr q)) => K [xR q]
  | _, _ => False
theorem xrt_spec {rt : Option FieldType} {r : Option xV} {K : List xV → Prop} (h : xrt rt r K) : K r.toList := by
  unfold xrt at h
  split at h <;> first | exact h | exact h.elim
/-- a call: the method, its arguments, the heap, what is made so far, the rest of the stack, what must hold behind it -/
abbrev xC : Type := xMd → List xV → xH → Nat → Nat → List xV → (List xV → xH → Nat → Nat → Prop) → Prop
def xcl (T : xT) (R : xRm) (G : xG) : xC := fun μ as h k n rest K =>
  xct rest ≤ 8 ∧ ∃ fr lo mc ms : Nat, xfits R μ fr lo mc ms k n ∧ xCt T G μ fr lo mc ms as h (fun r h' => xrt μ.2.2.2 r fun w => K (w ++ rest) h' (k + mc) (n + ms))
def xlen : Instr → Nat
  | .bipush _ | .iload _ | .istore _ | .lload _ | .lstore _ | .aload _ | .astore _ | .ldc _ | .newarray _ => 2
  | .sipush _ | .iinc _ _ | .goto _ | .if_icmp _ _ | .ifCond _ _ | .getfield _ | .putfield _ | .invokevirtual _ | .invokespecial _ | .invokestatic _ | .new _ | .ldc2_w _ | .ldc_w _ => 3
  | .multianewarray _ _ => 4
  | .tableswitch .. => 0
  | _ => 1
/-- the aim of a jump, told ahead -/
def xtg (pc tg : Nat) : Instr → Bool
  | .goto off => decide ((pc : Int) + off = (tg : Int))
  | .if_icmp _ off => decide ((pc : Int) + off = (tg : Int))
  | .ifCond _ off => decide ((pc : Int) + off = (tg : Int))
  | _ => true
def xend (R : xRm) (k n : Nat) (A : Prop) : Prop := cond (Nat.ble k R.2.2.1 && Nat.ble n R.2.2.2) A False
theorem xend_spec {R : xRm} {k n : Nat} {A : Prop} (h : xend R k n A) : k ≤ R.2.2.1 ∧ n ≤ R.2.2.2 ∧ A := by
  have h1 := xcond h
  rw [Bool.and_eq_true] at h1
  exact ⟨Nat.le_of_ble_eq_true h1.1.1, Nat.le_of_ble_eq_true h1.1.2, h1.2⟩
def xbool (z : Int) (A : Prop) : Prop := (z = 0 ∨ z = 1) ∧ A
/-- an array's kind is one of whole numbers -/
def xki (t : Nat) (A : Prop) : Prop := cond (Nat.beq t 0 || Nat.beq t 9) A False
/-- room for one of the library's own -/
def xnat (R : xRm) (k n : Nat) (r : List xV) : Prop := (xct r ≤ 8 ∧ 1 ≤ R.1 ∧ 30 ≤ R.2.1) ∧ k ≤ R.2.2.1 ∧ n ≤ R.2.2.2
def xop (tb : xTb) (T : xT) (R : xRm) (rt : Option FieldType) (ini : Bool) (C : xC) (P : xP) (op : Instr) (tg pc : Nat) (L : xLs) (st : List xV) (h : xH) (k n : Nat) (N : xN) (J : xS) : Prop := match op with
  | .iconst z => N L (xI z :: st) h k n
  | .bipush z => (-128 ≤ z ∧ z < 128) ∧ N L (xI z :: st) h k n
  | .sipush z => (-32768 ≤ z ∧ z < 32768) ∧ N L (xI z :: st) h k n
  | .lconst z => N L (xJ ((z : Nat) : Int) :: st) h k n
  | .ldc i => xo (xlk tb.2.2.2.1 i) fun z => N L (xI z :: st) h k n
  | .ldc_w i => xo (xlk tb.2.2.2.1 i) fun z => N L (xI z :: st) h k n
  | .ldc2_w i => xo (xlk tb.2.2.2.2.1 i) fun z => N L (xJ z :: st) h k n
  | .iload_n i => xli L i fun z => N L (xI z :: st) h k n
  | .iload i => xli L i fun z => N L (xI z :: st) h k n
  | .lload_n i => xlj L i fun z => N L (xJ z :: st) h k n
  | .lload i => xlj L i fun z => N L (xJ z :: st) h k n
  | .aload_n i => xlr L i fun z => N L (xR z :: st) h k n
  | .aload i => xlr L i fun z => N L (xR z :: st) h k n
  | .istore_n i => x1i st fun z r => xst L i (xI z) fun L' => N L' r h k n
  | .istore i => x1i st fun z r => xst L i (xI z) fun L' => N L' r h k n
  | .lstore_n i => x1j st fun z r => xst2 L i z fun L' => N L' r h k n
  | .lstore i => x1j st fun z r => xst2 L i z fun L' => N L' r h k n
  | .astore_n i => x1r st fun z r => xst L i (xR z) fun L' => N L' r h k n
  | .astore i => x1r st fun z r => xst L i (xR z) fun L' => N L' r h k n
  | .iinc i q => xli L i fun z => xst L i (xI (z + q)) fun L' => N L' st h k n
  | .iadd => x2i st fun x y r => N L (xI (x + y) :: r) h k n
  | .isub => x2i st fun x y r => N L (xI (x - y) :: r) h k n
  | .imul => x2i st fun x y r => N L (xI (x * y) :: r) h k n
  | .iand => x2i st fun x y r => N L (xI (x_iand x y) :: r) h k n
  | .ior => x2i st fun x y r => N L (xI (x_ior x y) :: r) h k n
  | .ixor => x2i st fun x y r => N L (xI (x_ixor x y) :: r) h k n
  | .ishl => x2i st fun x y r => N L (xI (x_ishl x y) :: r) h k n
  | .ishr => x2i st fun x y r => N L (xI (x_ishr x y) :: r) h k n
  | .iushr => x2i st fun x y r => N L (xI (x_iushr x y) :: r) h k n
  | .irem => x2i st fun x y r => (xrg x ∧ 0 < y ∧ xrg y) ∧ N L (xI (x.tmod y) :: r) h k n
  | .ineg => x1i st fun x r => N L (xI (-x) :: r) h k n
  | .ladd => x2j st fun x y r => N L (xJ (x + y) :: r) h k n
  | .lsub => x2j st fun x y r => N L (xJ (x - y) :: r) h k n
  | .lmul => x2j st fun x y r => N L (xJ (x * y) :: r) h k n
  | .ldiv => x2j st fun x y r => (xrl x ∧ 0 < y ∧ xrl y) ∧ N L (xJ (x.tdiv y) :: r) h k n
  | .lcmp => x2j st fun x y r => (xrl x ∧ xrl y) ∧ N L (xI (x_lcmp x y) :: r) h k n
  | .i2l => x1i st fun x r => xrg x ∧ N L (xJ x :: r) h k n
  | .l2i => x1j st fun x r => N L (xI x :: r) h k n
  | .dup => x1w st fun v r => N L (v :: v :: r) h k n
  | .pop => x1w st fun _ r => N L r h k n
  | .dup2 => x1w st fun v r => x1w r fun w r => N L (v :: w :: v :: w :: r) h k n
  | .goto _ => J tg L st h k n
  | .if_icmp c _ => x2i st fun x y r => (xrg x ∧ xrg y) ∧ xbr c x y (J tg L r h k n) (N L r h k n)
  | .ifCond c _ => x1i st fun x r => xrg x ∧ xbr c x 0 (J tg L r h k n) (N L r h k n)
  | .tableswitch dflt lo hi offs => x1i st fun x r => (hi + 1 = lo + offs.toList.length) ∧ xrg x ∧ (x < lo ∨ hi < x → xto pc dflt fun t => J t L r h k n) ∧ xsw x pc (fun t => J t L r h k n) lo offs.toList
  | .getfield i => xo (xlk tb.1 i) fun d => match d with
    | (ci, kf, _) => x1r st fun a r => xo a fun a => xgf T h a ci kf fun v => N L (v :: r) h k n
  | .putfield i => xo (xlk tb.1 i) fun d => match d, st with
    | (ci, kf, ty, fin, nest), v :: .inr (.inr (some a)) :: r => cond (xfit ty v && (!fin || (ini && !nest))) (xwf T h a ci kf v fun h' => N L r h' k n) False
    | _, _ => False
  | .arraylength => x1r st fun a r => xo a fun a => xar T h a 0 fun t N1 _ => cond (Nat.beq t 9 || Nat.blt t 3) (N L (xI (N1 : Int) :: r) h k n) False
  | .iaload => match st with
    | .inl z :: .inr (.inr (some a)) :: r => xar T h a z.toNat fun t N1 v => xki t ((0 ≤ z ∧ z < (N1 : Int) ∧ z < 2147483648) ∧ N L (v :: r) h k n)
    | _ => False
  | .laload => match st with
    | .inl z :: .inr (.inr (some a)) :: r => xar T h a z.toNat fun t N1 v => cond (Nat.beq t 1) ((0 ≤ z ∧ z < (N1 : Int) ∧ z < 2147483648) ∧ N L (v :: r) h k n) False
    | _ => False
  | .aaload => match st with
    | .inl z :: .inr (.inr (some a)) :: r => xar T h a z.toNat fun t N1 v => cond (Nat.beq t 2) ((0 ≤ z ∧ z < (N1 : Int) ∧ z < 2147483648) ∧ N L (v :: r) h k n) False
    | _ => False
  | .iastore => match st with
    | .inl v :: .inl z :: .inr (.inr (some a)) :: r => xar T h a 0 fun t N1 _ => cond (Nat.beq t 0) ((0 ≤ z ∧ z < (N1 : Int) ∧ z < 2147483648) ∧ xwa T h a z.toNat (xI v) fun h' => N L r h' k n) False
    | _ => False
  | .lastore => match st with
    | .inr (.inl v) :: .inl z :: .inr (.inr (some a)) :: r => xar T h a 0 fun t N1 _ => cond (Nat.beq t 1) ((0 ≤ z ∧ z < (N1 : Int) ∧ z < 2147483648) ∧ xwa T h a z.toNat (xJ v) fun h' => N L r h' k n) False
    | _ => False
  | .new i => xo (xlk tb.2.2.1 i) fun d => match h, d with
    | (M, D, nx), (ci, fs) => (k + 1 ≤ R.2.2.1 ∧ n + fs.length ≤ R.2.2.2) ∧ N L (xR (some nx) :: st) (M, xup D nx (some (.inl (ci, fs))), nx + 1) (k + 1) (n + fs.length)
  | .newarray at_ => x1i st fun z r => match h with
    | (M, D, nx) => (0 ≤ z ∧ z ≤ 10000000 ∧ k + 1 ≤ R.2.2.1 ∧ n + z.toNat ≤ R.2.2.2) ∧ match at_ with
      | .int => N L (xR (some nx) :: r) (M, xup D nx (some (.inr (0, z.toNat, fun _ => xI 0))), nx + 1) (k + 1) (n + z.toNat)
      | .long => N L (xR (some nx) :: r) (M, xup D nx (some (.inr (1, z.toNat, fun _ => xJ 0))), nx + 1) (k + 1) (n + z.toNat)
      | _ => False
  | .multianewarray i dm => match st with
    | .inl z :: .inl y :: r => match h with
      | (M, D, nx) => (dm = 2 ∧ i ∈ tb.2.2.2.2.2 ∧ 0 ≤ y ∧ y ≤ 10000 ∧ 0 ≤ z ∧ z ≤ 10000 ∧ k + (1 + y.toNat) ≤ R.2.2.1 ∧ n + (y.toNat + y.toNat * z.toNat) ≤ R.2.2.2) ∧ N L (xR (some nx) :: r) (M, xgrid D nx y.toNat z.toNat, nx + 1 + y.toNat) (k + (1 + y.toNat)) (n + (y.toNat + y.toNat * z.toNat))
    | _ => False
  | .invokestatic i => xo (xlk tb.2.1 i) fun d => match d with
    | (0, μ, np, _) => xtk np st [] fun as r => C μ as h k n r (N L)
    | (5, _) => x2i st fun x y r => (xrg x ∧ xrg y ∧ xnat R k n r) ∧ N L (xI (max x y) :: r) h k n
    | (6, _) => x2i st fun x y r => (xrg x ∧ xrg y ∧ xnat R k n r) ∧ N L (xI (min x y) :: r) h k n
    | (7, _) => x1i st fun x r => (xrg x ∧ -2147483648 < x ∧ xnat R k n r) ∧ N L (xI (if 0 ≤ x then x else -x) :: r) h k n
    | (4, _) => match st with
      | .inl len :: .inl dp :: .inr (.inr (some a1)) :: .inl sp :: .inr (.inr (some a0)) :: r => match h with
        | (M, D, nx) => match T a0, T a1 with
          | some (.inr (0, n0, none)), some (.inr (0, n1, none)) => (n0 < 2147483648 ∧ n1 < 2147483648 ∧ xct r ≤ 8 ∧ 1 ≤ R.1 ∧ 30 ≤ R.2.1 ∧ 0 ≤ sp ∧ 0 ≤ dp ∧ 0 ≤ len ∧ sp + len ≤ (n0 : Int) ∧ dp + len ≤ (n1 : Int)) ∧ N L r (xup M a1 (va_cpy (M a0) (M a1) sp.toNat dp.toNat len.toNat), D, nx) k n
          | _, _ => False
      | _ => False
    | _ => False
  | .invokevirtual i => xo (xlk tb.2.1 i) fun d => match d with
    | (1, μ, np, ci) => xtk np st [] fun as r => x1r r fun a r => xo a fun a => xcv T h a ci (C μ (xR (some a) :: as) h k n r (N L))
    | _ => False
  | .invokespecial i => xo (xlk tb.2.1 i) fun d => match d with
    | (2, μ, np, _) => xtk np st [] fun as r => x1r r fun a r => xo a fun a => C μ (xR (some a) :: as) h k n r (N L)
    | (3, _) => x1r st fun a r => xo a fun _ => (xct r ≤ 8 ∧ 1 ≤ R.1 ∧ 30 ≤ R.2.1) ∧ N L r h k n
    | _ => False
  | .ireturn => match st, rt with
    | [.inl z], some .int => xend R k n (P (some (xI z)) h)
    | [.inl z], some .boolean => xend R k n (xbool z (P (some (xI z)) h))
    | _, _ => False
  | .lreturn => match st, rt with
    | [.inr (.inl z)], some .long => xend R k n (P (some (xJ z)) h)
    | _, _ => False
  | .return_ => match st, rt with
    | [], none => xend R k n (P none h)
    | _, _ => False
  | _ => False
end
section
/-! xop is sound: an instruction's xop gives the step of the real machine -/
theorem xst_mono {K K' : xLs → Prop} (hk : ∀ L, K L → K' L) {L : xLs} {i : Nat} {v : xV} (h : xst L i v K) : xst L i v K' := by
  induction L generalizing i K K' with
  | nil => exact h.elim
  | cons a L ih =>
    cases i with
    | zero => exact hk _ h
    | succ i =>
      unfold xst at h ⊢
      split at h
      · exact ih (fun L q => hk _ q) h
      · exact ih (fun L q => hk _ q) h
theorem xst2_mono : ∀ {L : xLs} {i : Nat} {v : Int} {K K' : xLs → Prop}, (∀ L, K L → K' L) → xst2 L i v K → xst2 L i v K'
  | [], i, _, _, _, _, h => by cases i <;> exact h.elim
  | [_], i, _, _, _, _, h => by rcases i with _ | i <;> exact h.elim
  | _ :: _ :: _, 0, _, _, _, hk, h => hk _ h
  | a :: b :: L, i + 1, z, K, K', hk, h => by
    unfold xst2 at h ⊢
    split at h
    · exact xst2_mono (L := b :: L) (fun L q => hk _ q) h
    · exact xst2_mono (L := b :: L) (fun L q => hk _ q) h
theorem xwf_mono {T : xT} {h : xH} {a ci kf : Nat} {v : xV} {K K' : xH → Prop} (hk : ∀ h, K h → K' h) (hw : xwf T h a ci kf v K) : xwf T h a ci kf v K' := by
  obtain ⟨M, D, nx⟩ := h
  unfold xwf at hw ⊢
  simp only at hw ⊢
  split at hw
  · have h1 := xcond hw
    rw [h1.1]
    simp only [cond_true]
    have h2 := h1.2
    split at h2 <;> first | exact hk _ h2 | exact h2.elim
  · exact hw.elim
  · split at hw
    · have h1 := xcond hw
      rw [h1.1]
      exact hk _ h1.2
    · exact hw.elim
theorem xwa_mono {T : xT} {h : xH} {a k : Nat} {v : xV} {K K' : xH → Prop} (hk : ∀ h, K h → K' h) (hw : xwa T h a k v K) : xwa T h a k v K' := by
  obtain ⟨M, D, nx⟩ := h
  unfold xwa at hw ⊢
  simp only at hw ⊢
  split at hw
  · split at hw <;> first | exact hk _ hw | exact hw.elim
  · exact hw.elim
  · split at hw
    · exact hk _ hw
    · exact hw.elim
def xMk (own : String) (i : Nat) (d : Nat × xMd × Nat × Nat) : Prop := match d.1 with
  | 0 => xLk own i d.2.1 d.2.2.1 ∧ Cond.static d.2.1.1 ∈ xTB
  | 1 => xLk own i d.2.1 d.2.2.1 ∧ Cond.instanceMethod d.2.1.1 ∈ xTB ∧ Cond.selects d.2.1.1.cls d.2.1.1 d.2.1.1 ∈ xTB ∧ ∃ (F : u_T) (N : Nat), xCl[d.2.2.2]? = some (d.2.1.1.cls, F, N)
  | 2 => xLk own i d.2.1 d.2.2.1 ∧ Cond.instanceMethod d.2.1.1 ∈ xTB ∧ d.2.1.1.name = "<init>" ∧ d.2.1.2.2.2 = none
  | 3 => Cond.methodLink own i objectInit ∈ xTB ∧ Cond.instanceMethod objectInit ∈ xTB ∧ Cond.code objectInit ⟨#[0xb1]⟩ 1 none ∈ xTB
  | 5 => Cond.methodLink own i Lib.Math.max.name ∈ xTB ∧ Cond.static Lib.Math.max.name ∈ xTB ∧ Cond.initialized "java/lang/Math" ∈ xTB ∧ Cond.code Lib.Math.max.name Lib.Math.max.code 2 (some .int) ∈ xTB
  | 6 => Cond.methodLink own i Lib.Math.min.name ∈ xTB ∧ Cond.static Lib.Math.min.name ∈ xTB ∧ Cond.initialized "java/lang/Math" ∈ xTB ∧ Cond.code Lib.Math.min.name Lib.Math.min.code 2 (some .int) ∈ xTB
  | 7 => Cond.methodLink own i Lib.Math.abs.name ∈ xTB ∧ Cond.static Lib.Math.abs.name ∈ xTB ∧ Cond.initialized "java/lang/Math" ∈ xTB ∧ Cond.code Lib.Math.abs.name Lib.Math.abs.code 1 (some .int) ∈ xTB
  | 4 => Cond.methodLink own i arraycopyName ∈ xTB ∧ Cond.native arraycopyName ∈ xTB ∧ Cond.static arraycopyName ∈ xTB ∧ Cond.initialized "java/lang/System" ∈ xTB
  | _ => False
def xTbOk (own : String) (tb : xTb) : Prop :=
  (∀ i d, (i, d) ∈ tb.1 → xFld own i d.1 d.2.1 d.2.2.1 d.2.2.2.1 d.2.2.2.2) ∧ (∀ i d, (i, d) ∈ tb.2.1 → xMk own i d) ∧ (∀ i d, (i, d) ∈ tb.2.2.1 → xNw own i d.1 d.2) ∧ (∀ i z, (i, z) ∈ tb.2.2.2.1 → Cond.constant own i (Int32.ofInt z) ∈ xTB) ∧ (∀ i z, (i, z) ∈ tb.2.2.2.2.1 → Cond.constantLong own i (Int64.ofInt z) ∈ xTB) ∧ (∀ i, i ∈ tb.2.2.2.2.2 → Cond.classLink own i "[[I" ∈ xTB)
/-- what the walk of a method's body rests on -/
def xEv (p : Program) (s : State) (m : MethodId) (args : Array Value) (meth : Method) (c : Code) (cc : ByteArray) (nL : Nat) (own : String) (tb : xTb) (G : xG) (ini : Bool) : Prop :=
  p.tables.exec = Jvm.exec ∧ c.code = cc ∧ c.maxLocals = nL ∧ (∀ w ∈ xTB, w.before args s = true) ∧ s.vm.findClass own = some m.cls ∧ xKn G s ∧ G.2.2.1 ≤ s.heap.size ∧ xTbOk own tb ∧ (ini = true → meth.name = "<init>")
section XSOUND
variable {T : xT} {p : Program} {l : Launch} {e : Env} {R : Room} {s : State} {m : MethodId} {args : Array Value} {below : List Frame} {meth : Method} {c : Code} {Q : State → Prop} {cc : ByteArray} {G : xG} {nL : Nat} {own : String} {tb : xTb} {ini : Bool} {rt : Option FieldType} {P : xP} {C : xC}
/-- the ends of the body -/
def xRet (T : xT) (p : Program) (l : Launch) (e : Env) (R : Room) (s : State) (m : MethodId) (args : Array Value) (below : List Frame) (meth : Method) (c : Code) (Q : State → Prop) (G : xG) (nL : Nat) (cc : ByteArray) (rt : Option FieldType) (P : xP) : Prop :=
  ∀ (pc : Nat) (op : Instr) (L : xLs) (st : List xV) (r : Option xV) (h : xH) (k n : Nat), decode cc pc = .ok (op, 1) → st = r.toList → P r h → k ≤ R.cells → n ≤ R.slots →
    (op = .ireturn ∧ (∃ z, r = some (xI z) ∧ (rt = some .int ∨ (rt = some .boolean ∧ (z = 0 ∨ z = 1))))) ∨ (op = .lreturn ∧ (∃ z, r = some (xJ z)) ∧ rt = some .long) ∨ (op = .areturn ∧ (∃ q, r = some (xR q)) ∧ ((∃ C, rt = some (.object C)) ∨ ∃ t, rt = some (.array t))) ∨ (op = .return_ ∧ r = none ∧ rt = none) → xW T p l e R s m args below meth c Q G nL pc L st h k n
theorem xop_ok (E : xEv p s m args meth c cc nL own tb G ini) (hC : ∀ μ as h k n rest K, C μ as h k n rest K → xcl T (R.frames, R.locals, R.cells, R.slots) G μ as h k n rest K) (hret : xRet T p l e R s m args below meth c Q G nL cc rt P) {op : Instr} {len tg pc : Nat} (hd : decode cc pc = .ok (op, len)) (hlen : xlen op = 0 ∨ xlen op = len) (htg : xtg pc tg op = true) {N : xN} {J : xS} (hN : ∀ L st h k n, N L st h k n → xW T p l e R s m args below meth c Q G nL (pc + len) L st h k n) (hJ : ∀ t L st h k n, J t L st h k n → xW T p l e R s m args below meth c Q G nL t L st h k n) {L : xLs} {st : List xV} {h : xH} {k n : Nat} (hop : xop tb T (R.frames, R.locals, R.cells, R.slots) rt ini C P op tg pc L st h k n N J) : xW T p l e R s m args below meth c Q G nL pc L st h k n := by
  obtain ⟨hx, hb, hml, hts, hown, hK, hbase, ⟨tF, tM, tN, tC, tL, tA⟩, hini⟩ := E
  cases op
  case iconst z =>
    obtain rfl : 1 = len := by simpa [xlen] using hlen
    exact xw_iconst hx hb hd (hN _ _ _ _ _ hop)
  case bipush z =>
    obtain rfl : 2 = len := by simpa [xlen] using hlen
    obtain ⟨hz, hop⟩ := hop
    refine xw_bipush hx hb hd ?_ (hN _ _ _ _ _ hop)
    apply Int32.toInt_inj.mp
    rw [Int8.toInt_toInt32, Int8.toInt_ofInt_of_le (by omega) (by omega), xi_ti ⟨by omega, by omega⟩]
  case sipush z =>
    obtain rfl : 3 = len := by simpa [xlen] using hlen
    obtain ⟨hz, hop⟩ := hop
    refine xw_sipush hx hb hd ?_ (hN _ _ _ _ _ hop)
    apply Int32.toInt_inj.mp
    rw [Int16.toInt_toInt32, Int16.toInt_ofInt_of_le (by omega) (by omega), xi_ti ⟨by omega, by omega⟩]
  case lconst z =>
    obtain rfl : 1 = len := by simpa [xlen] using hlen
    exact xw_lconst hx hb hd (hN _ _ _ _ _ hop)
  case ldc i =>
    obtain rfl : 2 = len := by simpa [xlen] using hlen
    obtain ⟨z, h1, h2⟩ := xo_spec (show xo _ _ from hop)
    exact xw_ldc hx hb hown (hts _ (tC _ _ (xlk_mem h1))) hd (hN _ _ _ _ _ h2)
  case ldc_w i =>
    obtain rfl : 3 = len := by simpa [xlen] using hlen
    obtain ⟨z, h1, h2⟩ := xo_spec (show xo _ _ from hop)
    exact xw_ldcw hx hb hown (hts _ (tC _ _ (xlk_mem h1))) hd (hN _ _ _ _ _ h2)
  case ldc2_w i =>
    obtain rfl : 3 = len := by simpa [xlen] using hlen
    obtain ⟨z, h1, h2⟩ := xo_spec (show xo _ _ from hop)
    exact xw_ldc2 hx hb hown (hts _ (tL _ _ (xlk_mem h1))) hd (hN _ _ _ _ _ h2)
  case iload_n i =>
    obtain rfl : 1 = len := by simpa [xlen] using hlen
    obtain ⟨z, h1, h2⟩ := xli_spec (show xli _ _ _ from hop)
    exact xw_iload_n hx hb hd h1 (hN _ _ _ _ _ h2)
  case iload i =>
    obtain rfl : 2 = len := by simpa [xlen] using hlen
    obtain ⟨z, h1, h2⟩ := xli_spec (show xli _ _ _ from hop)
    exact xw_iload hx hb hd h1 (hN _ _ _ _ _ h2)
  case lload_n i =>
    obtain rfl : 1 = len := by simpa [xlen] using hlen
    obtain ⟨z, h1, h2⟩ := xlj_spec (show xlj _ _ _ from hop)
    exact xw_lload_n hx hb hd h1 (hN _ _ _ _ _ h2)
  case lload i =>
    obtain rfl : 2 = len := by simpa [xlen] using hlen
    obtain ⟨z, h1, h2⟩ := xlj_spec (show xlj _ _ _ from hop)
    exact xw_lload hx hb hd h1 (hN _ _ _ _ _ h2)
  case aload_n i =>
    obtain rfl : 1 = len := by simpa [xlen] using hlen
    obtain ⟨z, h1, h2⟩ := xlr_spec (show xlr _ _ _ from hop)
    exact xw_aload_n hx hb hd h1 (hN _ _ _ _ _ h2)
  case aload i =>
    obtain rfl : 2 = len := by simpa [xlen] using hlen
    obtain ⟨z, h1, h2⟩ := xlr_spec (show xlr _ _ _ from hop)
    exact xw_aload hx hb hd h1 (hN _ _ _ _ _ h2)
  case istore_n i =>
    obtain rfl : 1 = len := by simpa [xlen] using hlen
    obtain ⟨z, r, rfl, h2⟩ := x1i_spec (show x1i _ _ from hop)
    exact xw_istore_n hx hb hd (xst_mono (fun L' h3 => hN _ _ _ _ _ h3) h2)
  case istore i =>
    obtain rfl : 2 = len := by simpa [xlen] using hlen
    obtain ⟨z, r, rfl, h2⟩ := x1i_spec (show x1i _ _ from hop)
    exact xw_istore hx hb hd (xst_mono (fun L' h3 => hN _ _ _ _ _ h3) h2)
  case lstore_n i =>
    obtain rfl : 1 = len := by simpa [xlen] using hlen
    obtain ⟨z, r, rfl, h2⟩ := x1j_spec (show x1j _ _ from hop)
    exact xw_lstore_n hx hb hd (xst2_mono (fun L' h3 => hN _ _ _ _ _ h3) h2)
  case lstore i =>
    obtain rfl : 2 = len := by simpa [xlen] using hlen
    obtain ⟨z, r, rfl, h2⟩ := x1j_spec (show x1j _ _ from hop)
    exact xw_lstore hx hb hd (xst2_mono (fun L' h3 => hN _ _ _ _ _ h3) h2)
  case astore_n i =>
    obtain rfl : 1 = len := by simpa [xlen] using hlen
    obtain ⟨z, r, rfl, h2⟩ := x1r_spec (show x1r _ _ from hop)
    exact xw_astore_n hx hb hd (xst_mono (fun L' h3 => hN _ _ _ _ _ h3) h2)
  case astore i =>
    obtain rfl : 2 = len := by simpa [xlen] using hlen
    obtain ⟨z, r, rfl, h2⟩ := x1r_spec (show x1r _ _ from hop)
    exact xw_astore hx hb hd (xst_mono (fun L' h3 => hN _ _ _ _ _ h3) h2)
  case iinc i q =>
    obtain rfl : 3 = len := by simpa [xlen] using hlen
    obtain ⟨z, h1, h2⟩ := xli_spec (show xli _ _ _ from hop)
    exact xw_iinc hx hb hd h1 (xst_mono (fun L' h3 => hN _ _ _ _ _ h3) h2)
  case iadd =>
    obtain rfl : 1 = len := by simpa [xlen] using hlen
    obtain ⟨x, y, r, rfl, h2⟩ := x2i_spec (show x2i _ _ from hop)
    exact xw_iadd hx hb hd (hN _ _ _ _ _ h2)
  case isub =>
    obtain rfl : 1 = len := by simpa [xlen] using hlen
    obtain ⟨x, y, r, rfl, h2⟩ := x2i_spec (show x2i _ _ from hop)
    exact xw_isub hx hb hd (hN _ _ _ _ _ h2)
  case imul =>
    obtain rfl : 1 = len := by simpa [xlen] using hlen
    obtain ⟨x, y, r, rfl, h2⟩ := x2i_spec (show x2i _ _ from hop)
    exact xw_imul hx hb hd (hN _ _ _ _ _ h2)
  case iand =>
    obtain rfl : 1 = len := by simpa [xlen] using hlen
    obtain ⟨x, y, r, rfl, h2⟩ := x2i_spec (show x2i _ _ from hop)
    exact xw_iand hx hb hd (hN _ _ _ _ _ h2)
  case ior =>
    obtain rfl : 1 = len := by simpa [xlen] using hlen
    obtain ⟨x, y, r, rfl, h2⟩ := x2i_spec (show x2i _ _ from hop)
    exact xw_ior hx hb hd (hN _ _ _ _ _ h2)
  case ixor =>
    obtain rfl : 1 = len := by simpa [xlen] using hlen
    obtain ⟨x, y, r, rfl, h2⟩ := x2i_spec (show x2i _ _ from hop)
    exact xw_ixor hx hb hd (hN _ _ _ _ _ h2)
  case ishl =>
    obtain rfl : 1 = len := by simpa [xlen] using hlen
    obtain ⟨x, y, r, rfl, h2⟩ := x2i_spec (show x2i _ _ from hop)
    exact xw_ishl hx hb hd (hN _ _ _ _ _ h2)
  case ishr =>
    obtain rfl : 1 = len := by simpa [xlen] using hlen
    obtain ⟨x, y, r, rfl, h2⟩ := x2i_spec (show x2i _ _ from hop)
    exact xw_ishr hx hb hd (hN _ _ _ _ _ h2)
  case iushr =>
    obtain rfl : 1 = len := by simpa [xlen] using hlen
    obtain ⟨x, y, r, rfl, h2⟩ := x2i_spec (show x2i _ _ from hop)
    exact xw_iushr hx hb hd (hN _ _ _ _ _ h2)
  case ladd =>
    obtain rfl : 1 = len := by simpa [xlen] using hlen
    obtain ⟨x, y, r, rfl, h2⟩ := x2j_spec (show x2j _ _ from hop)
    exact xw_ladd hx hb hd (hN _ _ _ _ _ h2)
  case lsub =>
    obtain rfl : 1 = len := by simpa [xlen] using hlen
    obtain ⟨x, y, r, rfl, h2⟩ := x2j_spec (show x2j _ _ from hop)
    exact xw_lsub hx hb hd (hN _ _ _ _ _ h2)
  case lmul =>
    obtain rfl : 1 = len := by simpa [xlen] using hlen
    obtain ⟨x, y, r, rfl, h2⟩ := x2j_spec (show x2j _ _ from hop)
    exact xw_lmul hx hb hd (hN _ _ _ _ _ h2)
  case irem =>
    obtain rfl : 1 = len := by simpa [xlen] using hlen
    obtain ⟨x, y, r, rfl, ⟨h1, h2, h3⟩, h4⟩ := x2i_spec (show x2i _ _ from hop)
    exact xw_irem hx hb hd h1 h2 h3 (hN _ _ _ _ _ h4)
  case ldiv =>
    obtain rfl : 1 = len := by simpa [xlen] using hlen
    obtain ⟨x, y, r, rfl, ⟨h1, h2, h3⟩, h4⟩ := x2j_spec (show x2j _ _ from hop)
    exact xw_ldiv hx hb hd h1 h2 h3 (hN _ _ _ _ _ h4)
  case lcmp =>
    obtain rfl : 1 = len := by simpa [xlen] using hlen
    obtain ⟨x, y, r, rfl, ⟨h1, h2⟩, h4⟩ := x2j_spec (show x2j _ _ from hop)
    exact xw_lcmp hx hb hd h1 h2 (hN _ _ _ _ _ h4)
  case ineg =>
    obtain rfl : 1 = len := by simpa [xlen] using hlen
    obtain ⟨x, r, rfl, h2⟩ := x1i_spec (show x1i _ _ from hop)
    exact xw_ineg hx hb hd (hN _ _ _ _ _ h2)
  case i2l =>
    obtain rfl : 1 = len := by simpa [xlen] using hlen
    obtain ⟨x, r, rfl, h1, h2⟩ := x1i_spec (show x1i _ _ from hop)
    exact xw_i2l hx hb hd h1 (hN _ _ _ _ _ h2)
  case l2i =>
    obtain rfl : 1 = len := by simpa [xlen] using hlen
    obtain ⟨x, r, rfl, h2⟩ := x1j_spec (show x1j _ _ from hop)
    exact xw_l2i hx hb hd (hN _ _ _ _ _ h2)
  case dup =>
    obtain rfl : 1 = len := by simpa [xlen] using hlen
    obtain ⟨v, r, rfl, hv, h2⟩ := x1w_spec (show x1w st (fun v r => N L (v :: v :: r) h k n) from hop)
    exact xw_dup hx hb hd hv (hN _ _ _ _ _ h2)
  case pop =>
    obtain rfl : 1 = len := by simpa [xlen] using hlen
    obtain ⟨v, r, rfl, hv, h2⟩ := x1w_spec (show x1w st (fun _ r => N L r h k n) from hop)
    exact xw_pop hx hb hd hv (hN _ _ _ _ _ h2)
  case dup2 =>
    obtain rfl : 1 = len := by simpa [xlen] using hlen
    obtain ⟨v, r, rfl, hv, h2⟩ := x1w_spec (show x1w st (fun v r => x1w r fun w r => N L (v :: w :: v :: w :: r) h k n) from hop)
    obtain ⟨w, r, rfl, hw, h3⟩ := x1w_spec h2
    replace h2 := h3
    exact xw_dup2 hx hb hd hv hw (hN _ _ _ _ _ h2)
  case goto off =>
    obtain rfl : 3 = len := by simpa [xlen] using hlen
    exact xw_goto hx hb hd (of_decide_eq_true htg) (hJ _ _ _ _ _ _ hop)
  case if_icmp cnd off =>
    obtain rfl : 3 = len := by simpa [xlen] using hlen
    obtain ⟨x, y, r, rfl, h2⟩ := x2i_spec (show x2i _ _ from hop)
    obtain ⟨⟨r1, r2⟩, h3⟩ := h2
    have h1 := of_decide_eq_true (show decide _ = true from htg)
    cases cnd
    case eq => exact xw_icmp_eq hx hb hd h1 r1 r2 (fun q => hJ _ _ _ _ _ _ (h3.1 q)) (fun q => hN _ _ _ _ _ (h3.2 q))
    case ne => exact xw_icmp_ne hx hb hd h1 r1 r2 (fun q => hJ _ _ _ _ _ _ (h3.1 q)) (fun q => hN _ _ _ _ _ (h3.2 q))
    case lt => exact xw_icmp_lt hx hb hd h1 r1 r2 (fun q => hJ _ _ _ _ _ _ (h3.1 q)) (fun q => hN _ _ _ _ _ (h3.2 q))
    case ge => exact xw_icmp_ge hx hb hd h1 r1 r2 (fun q => hJ _ _ _ _ _ _ (h3.1 q)) (fun q => hN _ _ _ _ _ (h3.2 q))
    case gt => exact xw_icmp_gt hx hb hd h1 r1 r2 (fun q => hJ _ _ _ _ _ _ (h3.1 q)) (fun q => hN _ _ _ _ _ (h3.2 q))
    case le => exact xw_icmp_le hx hb hd h1 r1 r2 (fun q => hJ _ _ _ _ _ _ (h3.1 q)) (fun q => hN _ _ _ _ _ (h3.2 q))
  case ifCond cnd off =>
    obtain rfl : 3 = len := by simpa [xlen] using hlen
    obtain ⟨x, r, rfl, h2⟩ := x1i_spec (show x1i _ _ from hop)
    obtain ⟨r1, h3⟩ := h2
    have h1 := of_decide_eq_true (show decide _ = true from htg)
    cases cnd
    case eq => exact xw_if_eq hx hb hd h1 r1 (fun q => hJ _ _ _ _ _ _ (h3.1 q)) (fun q => hN _ _ _ _ _ (h3.2 q))
    case ne => exact xw_if_ne hx hb hd h1 r1 (fun q => hJ _ _ _ _ _ _ (h3.1 q)) (fun q => hN _ _ _ _ _ (h3.2 q))
    case lt => exact xw_if_lt hx hb hd h1 r1 (fun q => hJ _ _ _ _ _ _ (h3.1 q)) (fun q => hN _ _ _ _ _ (h3.2 q))
    case ge => exact xw_if_ge hx hb hd h1 r1 (fun q => hJ _ _ _ _ _ _ (h3.1 q)) (fun q => hN _ _ _ _ _ (h3.2 q))
    case gt => exact xw_if_gt hx hb hd h1 r1 (fun q => hJ _ _ _ _ _ _ (h3.1 q)) (fun q => hN _ _ _ _ _ (h3.2 q))
    case le => exact xw_if_le hx hb hd h1 r1 (fun q => hJ _ _ _ _ _ _ (h3.1 q)) (fun q => hN _ _ _ _ _ (h3.2 q))
  case tableswitch dflt lo hi offs =>
    obtain ⟨x, r, rfl, hsz, r1, h3, h4⟩ := x1i_spec (show x1i _ _ from hop)
    by_cases hxo : x < lo ∨ hi < x
    · obtain ⟨t, h5, h6⟩ := xto_spec (h3 hxo)
      exact xw_tableOut hx hb hd r1 hxo h5 (hJ _ _ _ _ _ _ h6)
    · obtain ⟨off, h5, h6⟩ := xsw_spec h4 (by omega) (by omega)
      obtain ⟨t, h7, h8⟩ := xto_spec h6
      exact xw_tableIn hx hb hd r1 (by omega) (by omega) (by rw [← Array.getElem?_toList]; exact h5) h7 (hJ _ _ _ _ _ _ h8)
  case getfield i =>
    obtain rfl : 3 = len := by simpa [xlen] using hlen
    obtain ⟨d, h1, h2⟩ := xo_spec (show xo _ _ from hop)
    obtain ⟨ci, kf, dd⟩ := d
    obtain ⟨a0, r, rfl, h2a⟩ := x1r_spec h2
    obtain ⟨a, rfl, h2b⟩ := xo_spec h2a
    obtain ⟨fs, v, h3, h4, h5⟩ := xgf_spec h2b
    exact xw_get hx hb hts hown hK (tF _ _ (xlk_mem h1)) hd h3 h4 (hN _ _ _ _ _ h5)
  case putfield i =>
    obtain rfl : 3 = len := by simpa [xlen] using hlen
    obtain ⟨d, h1, h2⟩ := xo_spec (show xo _ _ from hop)
    split at h2
    · rename_i ci kf ty fin nest v a r
      have h3 := xcond h2
      have hq := h3.1
      simp only [Bool.and_eq_true, Bool.or_eq_true, Bool.not_eq_true'] at hq
      exact xw_put hx hb hts hown hK (tF _ _ (xlk_mem h1)) (fun q => by
        rcases hq.2 with h9 | h9
        · rw [h9] at q; cases q
        · exact ⟨hini h9.1, h9.2⟩) hq.1 hd (xwf_mono (fun h' h3 => hN _ _ _ _ _ h3) h3.2)
    · exact h2.elim
  case arraylength =>
    obtain rfl : 1 = len := by simpa [xlen] using hlen
    obtain ⟨a0, r, rfl, h2⟩ := x1r_spec (show x1r _ _ from hop)
    obtain ⟨a, rfl, h2b⟩ := xo_spec h2
    obtain ⟨t, N1, f, h3, h4⟩ := xar_spec h2b
    have ht := (xcond h4).1
    replace h4 := (xcond h4).2
    rw [Bool.or_eq_true] at ht
    by_cases h9 : t = 9
    · exact xw_alen hx hb hK hd h3 (Or.inl ⟨h9, rfl⟩) (hN _ _ _ _ _ h4)
    · have hlt : t < xTys.length := by
        rcases ht with ht | ht
        · exact absurd (xbeq ht) h9
        · simpa [Nat.blt_eq] using ht
      exact xw_alen hx hb hK hd h3 (Or.inr ⟨h9, List.getElem?_eq_getElem hlt⟩) (hN _ _ _ _ _ h4)
  case iaload =>
    obtain rfl : 1 = len := by simpa [xlen] using hlen
    unfold xop at hop
    simp only at hop
    split at hop
    · obtain ⟨t, N1, f, h3, h4⟩ := xar_spec hop
      have ht := (xcond h4).1
      obtain ⟨⟨q0, q1, q2⟩, h5⟩ := (xcond h4).2
      rw [Bool.or_eq_true] at ht
      rcases ht with ht | ht
      · obtain rfl := xbeq ht
        exact xw_iald hx hb hK hd h3 (Or.inr ⟨by decide, xTy0⟩) q0 q1 q2 (hN _ _ _ _ _ h5)
      · obtain rfl := xbeq ht
        exact xw_iald hx hb hK hd h3 (Or.inl ⟨rfl, rfl⟩) q0 q1 q2 (hN _ _ _ _ _ h5)
    · exact hop.elim
  case laload =>
    obtain rfl : 1 = len := by simpa [xlen] using hlen
    unfold xop at hop
    simp only at hop
    split at hop
    · obtain ⟨t, N1, f, h3, h4⟩ := xar_spec hop
      have ht := (xcond h4).1
      obtain ⟨⟨q0, q1, q2⟩, h5⟩ := (xcond h4).2
      obtain rfl := xbeq ht
      exact xw_lald hx hb hK hd h3 (Or.inr ⟨by decide, xTy1⟩) q0 q1 q2 (hN _ _ _ _ _ h5)
    · exact hop.elim
  case aaload =>
    obtain rfl : 1 = len := by simpa [xlen] using hlen
    unfold xop at hop
    simp only at hop
    split at hop
    · obtain ⟨t, N1, f, h3, h4⟩ := xar_spec hop
      have ht := (xcond h4).1
      obtain ⟨⟨q0, q1, q2⟩, h5⟩ := (xcond h4).2
      obtain rfl := xbeq ht
      exact xw_aald hx hb hK hd h3 (ty := .array .int) (Or.inr ⟨by decide, rfl⟩) rfl q0 q1 q2 (hN _ _ _ _ _ h5)
    · exact hop.elim
  case iastore =>
    obtain rfl : 1 = len := by simpa [xlen] using hlen
    unfold xop at hop
    simp only at hop
    split at hop
    · obtain ⟨t, N1, f, h3, h4⟩ := xar_spec hop
      have ht := (xcond h4).1
      obtain ⟨⟨q0, q1, q2⟩, h5⟩ := (xcond h4).2
      obtain rfl := xbeq ht
      exact xw_iast hx hb hK hd h3 (by decide) xTy0 q0 q1 q2 (xwa_mono (fun h' h6 => hN _ _ _ _ _ h6) h5)
    · exact hop.elim
  case lastore =>
    obtain rfl : 1 = len := by simpa [xlen] using hlen
    unfold xop at hop
    simp only at hop
    split at hop
    · obtain ⟨t, N1, f, h3, h4⟩ := xar_spec hop
      have ht := (xcond h4).1
      obtain ⟨⟨q0, q1, q2⟩, h5⟩ := (xcond h4).2
      obtain rfl := xbeq ht
      exact xw_last hx hb hK hd h3 (by decide) xTy1 q0 q1 q2 (xwa_mono (fun h' h6 => hN _ _ _ _ _ h6) h5)
    · exact hop.elim
  case new i =>
    obtain rfl : 3 = len := by simpa [xlen] using hlen
    obtain ⟨⟨ci, fs⟩, h1, h2⟩ := xo_spec (show xo _ _ from hop)
    obtain ⟨M, D, nx⟩ := h
    obtain ⟨hq, h2⟩ := h2
    exact xw_new hx hb hts hown hK hbase (tN _ _ (xlk_mem h1)) hd hq.1 hq.2 (hN _ _ _ _ _ h2)
  case newarray at_ =>
    obtain ⟨M, D, nx⟩ := h
    cases at_
    case int =>
      obtain rfl : 2 = len := by simpa [xlen] using hlen
      obtain ⟨z, r, rfl, ⟨q0, q1, q2, q3⟩, h2⟩ := x1i_spec (show x1i _ _ from hop)
      exact xw_newa hx hb hts hK (at_ := .int) (t := 0) (v0 := xI 0) (by decide) xTy0 (fun cA q => q) xWi rfl hd q0 (by show z.toNat * 4 ≤ _; omega) (by omega) q2 q3 (hN _ _ _ _ _ h2)
    case long =>
      obtain rfl : 2 = len := by simpa [xlen] using hlen
      obtain ⟨z, r, rfl, ⟨q0, q1, q2, q3⟩, h2⟩ := x1i_spec (show x1i _ _ from hop)
      exact xw_newa hx hb hts hK (at_ := .long) (t := 1) (v0 := xJ 0) (by decide) xTy1 (fun cA q => q) xWj rfl hd q0 (by show z.toNat * 8 ≤ _; omega) (by omega) q2 q3 (hN _ _ _ _ _ h2)
    all_goals
      obtain ⟨z, r, rfl, -, h2⟩ := x1i_spec (show x1i _ _ from hop)
      exact h2.elim
  case multianewarray i dims =>
    obtain rfl : 4 = len := by simpa [xlen] using hlen
    obtain ⟨M, D, nx⟩ := h
    unfold xop at hop
    simp only at hop
    split at hop
    · obtain ⟨⟨rfl, hi, q1, q2, q3, q4, q5, q6⟩, h2⟩ := hop
      exact xw_mna hx hb hts hown hK (tA _ hi) xWi hd q1 q2 q3 q4 q5 q6 (hN _ _ _ _ _ h2)
    · exact hop.elim
  case invokestatic i =>
    obtain rfl : 3 = len := by simpa [xlen] using hlen
    obtain ⟨d, h1, h2⟩ := xo_spec (show xo _ _ from hop)
    have hmk := tM _ _ (xlk_mem h1)
    unfold xMk at hmk
    split at h2
    · simp only at hmk
      obtain ⟨hlk, hst⟩ := hmk
      obtain ⟨bs, st', h3, h4, rfl⟩ := xtk_spec h2
      rw [List.append_nil] at h3
      obtain ⟨hcat, fr, lo, mc, ms, hrm, hct⟩ := hC _ _ _ _ _ _ _ h3
      exact xw_callS hx hb hml hts hown hK hbase hlk hst hd h4 hrm hct hcat (fun r h' hq => hN _ _ _ _ _ (xrt_spec hq))
    · simp only at hmk
      obtain ⟨w1, w2, w3, w4⟩ := hmk
      obtain ⟨x, y, r, rfl, ⟨q1, q2, ⟨q3, q4, q5⟩, q6, q7⟩, h3⟩ := x2i_spec h2
      exact xw_max hx hb hml hts hown w1 w2 w3 w4 hd q1 q2 q4 (by rw [xct_eq]; simp only at q5; omega) q6 q7 (hN _ _ _ _ _ h3)
    · simp only at hmk
      obtain ⟨w1, w2, w3, w4⟩ := hmk
      obtain ⟨x, y, r, rfl, ⟨q1, q2, ⟨q3, q4, q5⟩, q6, q7⟩, h3⟩ := x2i_spec h2
      exact xw_min hx hb hml hts hown w1 w2 w3 w4 hd q1 q2 q4 (by rw [xct_eq]; simp only at q5; omega) q6 q7 (hN _ _ _ _ _ h3)
    · simp only at hmk
      obtain ⟨w1, w2, w3, w4⟩ := hmk
      obtain ⟨x, r, rfl, ⟨q1, -, ⟨q3, q4, q5⟩, q6, q7⟩, h3⟩ := x1i_spec h2
      exact xw_abs hx hb hml hts hown w1 w2 w3 w4 hd q1 q4 (by rw [xct_eq]; simp only at q5; omega) q6 q7 (hN _ _ _ _ _ h3)
    · simp only at hmk
      obtain ⟨w1, w2, w3, w4⟩ := hmk
      obtain ⟨M, D, nx⟩ := h
      split at h2
      · simp only at h2
        split at h2
        · rename_i ha0 ha1
          obtain ⟨⟨q6, q7, q8, q9, q10, q1, q2, q3, q4, q5⟩, h5⟩ := h2
          refine xw_copy hx hb hml hts hown hK w1 w2 w3 w4 xTy0 hd ha0 ha1 q1 q2 q3 q4 q5 (by omega) (by omega) q9 ?_ (hN _ _ _ _ _ h5)
          rw [xct_eq]
          have : nativeFrameWords "java/lang/System" "arraycopy" 5 + 11 ≤ 22 := by decide +kernel
          omega
        · exact h2.elim
      · exact h2.elim
    · exact h2.elim
  case invokevirtual i =>
    obtain rfl : 3 = len := by simpa [xlen] using hlen
    obtain ⟨d, h1, h2⟩ := xo_spec (show xo _ _ from hop)
    have hmk := tM _ _ (xlk_mem h1)
    unfold xMk at hmk
    split at h2
    · simp only at hmk
      obtain ⟨hlk, hin, hsel, hci⟩ := hmk
      obtain ⟨bs, st', h3, h4, rfl⟩ := xtk_spec h2
      rw [List.append_nil] at h3
      obtain ⟨a, r, rfl, h3⟩ := x1r_spec h3
      obtain ⟨a, rfl, h3⟩ := xo_spec h3
      obtain ⟨fs, ha, h3⟩ := xcv_spec h3
      obtain ⟨hcat, fr, lo, mc, ms, hrm, hct⟩ := hC _ _ _ _ _ _ _ h3
      exact xw_callV hx hb hml hts hown hK hbase hlk hin hsel hci hd ha h4 hrm hct hcat (fun r h' hq => hN _ _ _ _ _ (xrt_spec hq))
    · exact h2.elim
  case invokespecial i =>
    obtain rfl : 3 = len := by simpa [xlen] using hlen
    obtain ⟨d, h1, h2⟩ := xo_spec (show xo _ _ from hop)
    have hmk := tM _ _ (xlk_mem h1)
    unfold xMk at hmk
    split at h2
    · simp only at hmk
      obtain ⟨hlk, hin, hnm, hrt⟩ := hmk
      obtain ⟨bs, st', h3, h4, rfl⟩ := xtk_spec h2
      rw [List.append_nil] at h3
      obtain ⟨a, r, rfl, h3⟩ := x1r_spec h3
      obtain ⟨a, rfl, h3⟩ := xo_spec h3
      obtain ⟨hcat, fr, lo, mc, ms, hrm, hct⟩ := hC _ _ _ _ _ _ _ h3
      exact xw_callI hx hb hml hts hown hK hbase hlk hin hnm hrt hd h4 hrm hct hcat (fun r h' hq => hN _ _ _ _ _ (xrt_spec hq))
    · simp only at hmk
      obtain ⟨w1, w2, w3⟩ := hmk
      obtain ⟨a, r, rfl, h2⟩ := x1r_spec h2
      obtain ⟨a, rfl, hq, h2⟩ := xo_spec h2
      intro H locs ls hM hS hL hl
      exact W.objInit hx hb hown (hts _ w1) (hts _ w2) (hts _ w3) rfl (by rw [hml]; exact hl.1) rfl hd hq.2.1 (by rw [List.map_map]; show 2 * 0 + _ + 12 ≤ _; have := xct_eq (G := G) r; simp only [Function.comp_def] at *; omega) (hN _ _ _ _ _ h2 H locs ls hM hS hL hl)
    · exact h2.elim
  case ireturn =>
    obtain rfl : 1 = len := by simpa [xlen] using hlen
    unfold xop at hop
    simp only at hop
    split at hop
    · obtain ⟨q1, q2, hop⟩ := xend_spec hop
      exact hret _ _ _ _ _ _ _ _ hd rfl hop q1 q2 (Or.inl ⟨rfl, _, rfl, Or.inl rfl⟩)
    · obtain ⟨q1, q2, hz, hop⟩ := xend_spec hop
      exact hret _ _ _ _ _ _ _ _ hd rfl hop q1 q2 (Or.inl ⟨rfl, _, rfl, Or.inr ⟨rfl, hz⟩⟩)
    · exact hop.elim
  case lreturn =>
    obtain rfl : 1 = len := by simpa [xlen] using hlen
    unfold xop at hop
    simp only at hop
    split at hop
    · obtain ⟨q1, q2, hop⟩ := xend_spec hop
      exact hret _ _ _ _ _ _ _ _ hd rfl hop q1 q2 (Or.inr (Or.inl ⟨rfl, ⟨_, rfl⟩, rfl⟩))
    · exact hop.elim
  case return_ =>
    obtain rfl : 1 = len := by simpa [xlen] using hlen
    unfold xop at hop
    simp only at hop
    split at hop
    · obtain ⟨q1, q2, hop⟩ := xend_spec hop
      exact hret _ _ _ _ _ _ _ _ hd rfl hop q1 q2 (Or.inr (Or.inr (Or.inr ⟨rfl, rfl, rfl⟩)))
    · exact hop.elim
  all_goals exact (show False from hop).elim
end XSOUND
end
section
/-! code by blocks; the walk of a body; a method's contract out of it -/
abbrev xCd : Type := List (Instr × Nat × Nat)
abbrev xBk : Type := List (Nat × xCd)
def xsq (tb : xTb) (T : xT) (R : xRm) (rt : Option FieldType) (ini : Bool) (C : xC) (P : xP) (J : xS) (code : xCd) : xS :=
  List.rec (motive := fun _ => xS) J (fun q _ ih => match q with
    | (op, nx, tg) => fun pc L st h k n => xop tb T R rt ini C P op tg pc L st h k n (ih nx) J) code
def xin : Nat → List Nat → Bool
  | _, [] => false
  | i, j :: r => match Nat.beq i j with
    | true => true
    | false => xin i r
def xfd (B : xBk) (pc : Nat) : xCd := match xlk B pc with
  | some c => c
  | none => []
/-- the walk from a pc on, over at most so many jumps, till a pc of cut -/
def xwp (tb : xTb) (T : xT) (R : xRm) (rt : Option FieldType) (ini : Bool) (C : xC) (P : xP) (cut : List Nat) (B : xBk) (X : xS) (f : Nat) : xS :=
  Nat.rec (motive := fun _ => xS) X (fun _ ih => fun pc => match xin pc cut with
    | true => X pc
    | false => xsq tb T R rt ini C P ih (xfd B pc) pc) f
def xcl1 (cc : ByteArray) : Nat → xCd → Bool
  | _, [] => true
  | pc, (op, nx, tg) :: r => decide (decode cc pc = .ok (op, nx - pc)) && (xlen op == 0 || xlen op == nx - pc) && xtg pc tg op && Nat.ble pc nx && xcl1 cc nx r
def xck (cc : ByteArray) (B : xBk) : Bool := B.all fun q => xcl1 cc q.1 q.2
/-- X is told by what comes behind each instruction -/
def xClo (cc : ByteArray) (tb : xTb) (T : xT) (R : xRm) (rt : Option FieldType) (ini : Bool) (C : xC) (P : xP) (X : xS) : Prop :=
  (∀ (pc len tg : Nat) (op : Instr), decode cc pc = .ok (op, len) → (xlen op = 0 ∨ xlen op = len) → xtg pc tg op = true → ∀ (N : xN) (J : xS), (∀ L st h k n, N L st h k n → X (pc + len) L st h k n) → (∀ t L st h k n, J t L st h k n → X t L st h k n) → ∀ L st h k n, xop tb T R rt ini C P op tg pc L st h k n N J → X pc L st h k n) ∧
  ∀ pc L st h k n k' n', k ≤ k' → n ≤ n' → X pc L st h k' n' → X pc L st h k n
section XMET
variable {cc : ByteArray} {tb : xTb} {T : xT} {R : xRm} {rt : Option FieldType} {ini : Bool} {C : xC} {P : xP} {X : xS} {B : xBk}
theorem xsq_ok (hX : xClo cc tb T R rt ini C P X) {J : xS} (hJ : ∀ t L st h k n, J t L st h k n → X t L st h k n) : ∀ (code : xCd) (pc : Nat), xcl1 cc pc code = true → ∀ L st h k n, xsq tb T R rt ini C P J code pc L st h k n → X pc L st h k n
  | [], pc, _, L, st, h, k, n, hs => hJ _ _ _ _ _ _ hs
  | (op, nx, tg) :: r, pc, hc, L, st, h, k, n, hs => by
    simp only [xcl1, Bool.and_eq_true, Bool.or_eq_true, decide_eq_true_eq, beq_iff_eq] at hc
    have hle := Nat.le_of_ble_eq_true hc.1.2
    exact hX.1 pc (nx - pc) tg op hc.1.1.1.1 hc.1.1.1.2 hc.1.1.2 _ J (fun L st h k n q => by rw [Nat.add_sub_cancel' hle]; exact xsq_ok hX hJ r nx hc.2 L st h k n q) hJ L st h k n hs
theorem xfd_ok (hB : xck cc B = true) (pc : Nat) : xcl1 cc pc (xfd B pc) = true := by
  unfold xfd
  cases h : xlk B pc with
  | none => rfl
  | some code =>
    have := List.all_eq_true.mp hB _ (xlk_mem h)
    exact this
theorem xwp_ok (hX : xClo cc tb T R rt ini C P X) (hB : xck cc B = true) {cut : List Nat} : ∀ (f pc : Nat) (L : xLs) (st : List xV) (h : xH) (k n : Nat), xwp tb T R rt ini C P cut B X f pc L st h k n → X pc L st h k n
  | 0, _, _, _, _, _, _, hs => hs
  | f + 1, pc, L, st, h, k, n, hs => by
    have hs : (match xin pc cut with | true => X pc | false => xsq tb T R rt ini C P (xwp tb T R rt ini C P cut B X f) (xfd B pc) pc) L st h k n := hs
    cases hq : xin pc cut with
    | true => rw [hq] at hs; exact hs
    | false => rw [hq] at hs; exact xsq_ok hX (fun t L st h k n q => xwp_ok hX hB f t L st h k n q) _ _ (xfd_ok hB pc) _ _ _ _ _ hs
/-- the walk from pc on; a cut at pc itself is passed -/
theorem xgo (hX : xClo cc tb T R rt ini C P X) (hB : xck cc B = true) (cut : List Nat) (f : Nat) {pc : Nat} {L : xLs} {st : List xV} {h : xH} {k n : Nat} (hs : xsq tb T R rt ini C P (xwp tb T R rt ini C P cut B X f) (xfd B pc) pc L st h k n) : X pc L st h k n :=
  xsq_ok hX (fun t L st h k n q => xwp_ok hX hB f t L st h k n q) _ _ (xfd_ok hB pc) _ _ _ _ _ hs
end XMET
/-- the locals at the entry -/
def xen : List xV → xLs
  | [] => []
  | .inr (.inl z) :: r => some (xJ z) :: none :: xen r
  | v :: r => some v :: xen r
theorem xen_args {G : xG} {q : Nat × Value} : ∀ {as : List xV} {i : Nat} {j : Nat}, q ∈ xls G i (xen as ++ List.replicate j none) → q ∈ lv_args i (as.map (xc G))
  | [], i, 0, h => by simp [xen, xls] at h
  | [], i, j + 1, h => by
    rw [xen, List.nil_append, List.replicate_succ, xls] at h
    exact xen_args (as := []) (i := i + 1) (j := j) (by simpa [xen] using h)
  | .inr (.inl z) :: r, i, j, h => by
    simp only [xen, List.cons_append, xls, List.mem_cons] at h
    simp only [List.map_cons, lv_args, List.mem_cons]
    rcases h with h | h
    · exact Or.inl h
    · exact Or.inr (xen_args (as := r) h)
  | .inl z :: r, i, j, h => by
    simp only [xen, List.cons_append, xls, List.mem_cons] at h
    simp only [List.map_cons, lv_args, List.mem_cons]
    rcases h with h | h
    · exact Or.inl h
    · exact Or.inr (xen_args (as := r) h)
  | .inr (.inr none) :: r, i, j, h => by
    simp only [xen, List.cons_append, xls, List.mem_cons] at h
    simp only [List.map_cons, lv_args, List.mem_cons]
    rcases h with h | h
    · exact Or.inl h
    · exact Or.inr (xen_args (as := r) h)
  | .inr (.inr (some a)) :: r, i, j, h => by
    simp only [xen, List.cons_append, xls, List.mem_cons] at h
    simp only [List.map_cons, lv_args, List.mem_cons]
    rcases h with h | h
    · exact Or.inl h
    · exact Or.inr (xen_args (as := r) h)
theorem lg_sl_cons (v : Value) (r : List Value) : lg_sl (v :: r) = lg_sl [v] ++ lg_sl r := by simp [lg_sl]
theorem xen_len {G : xG} : ∀ as : List xV, (lg_sl (as.map (xc G))).length = (xen as).length
  | [] => rfl
  | .inl z :: r => by rw [List.map_cons, lg_sl_cons, List.length_append, xen_len r, show (xen (.inl z :: r)).length = (xen r).length + 1 from rfl, Nat.add_comm]; rfl
  | .inr (.inl z) :: r => by rw [List.map_cons, lg_sl_cons, List.length_append, xen_len r, show (xen (.inr (.inl z) :: r)).length = (xen r).length + 2 from rfl, Nat.add_comm]; rfl
  | .inr (.inr none) :: r => by rw [List.map_cons, lg_sl_cons, List.length_append, xen_len r, show (xen (.inr (.inr none) :: r)).length = (xen r).length + 1 from rfl, Nat.add_comm]; rfl
  | .inr (.inr (some a)) :: r => by rw [List.map_cons, lg_sl_cons, List.length_append, xen_len r, show (xen (.inr (.inr (some a)) :: r)).length = (xen r).length + 1 from rfl, Nat.add_comm]; rfl
theorem xCt_of {T : xT} {G : xG} {μ : xMd} {fr lo mc ms : Nat} {as : List xV} {h : xH} {Q : Option xV → xH → Prop} {own : String} {tb : xTb} (ini : Bool) (hcls : μ.1.cls = own) (hpl : plainName own = true) (htb : xTbOk own tb) (hini : ini = true → μ.1.name = "<init>") (L0 : xLs) (hlen : (xen as).length ≤ μ.2.2.1) (hL0 : xen as ++ List.replicate (μ.2.2.1 - (xen as).length) none = L0)
    (body : ∀ (X : xS) (C : xC), (∀ μ' as' h' k n rest K, xcl T (fr, lo, mc, ms) G μ' as' h' k n rest K → C μ' as' h' k n rest K) → xClo μ.2.1 tb T (fr, lo, mc, ms) μ.2.2.2 ini C Q X → X 0 L0 [] h 0 0) : xCt T G μ fr lo mc ms as h Q := by
  intro l
  refine Met.ofW (cc := μ.2.1) (maxL := μ.2.2.1) (ret := μ.2.2.2) (by rw [hcls]; exact hpl) rfl ?_
  intro p e s m args below meth c s₁ B hml hv
  obtain ⟨rfl, hM, hK, hbase⟩ := hv
  have hx := B.exec
  have hb := B.bytes
  have hr := B.returns
  have hts0 := atoms_spec (ws := xws μ) B.pre
  have hts : ∀ w ∈ xTB, w.before (as.map (xc G)).toArray s = true := fun w hw => hts0 w (List.mem_cons_of_mem _ hw)
  have hown : s.vm.findClass own = some m.cls := by rw [← hcls]; exact findClass_of_methodNamed B.named
  have hlocks := B.notSynchronized
  have hnm : ini = true → meth.name = "<init>" := fun q => (name_of_methodNamed B.named B.method).1.trans (hini q)
  have E : xEv p s m (as.map (xc G)).toArray meth c μ.2.1 μ.2.2.1 own tb G ini := ⟨hx, hb, hml, hts, hown, hK, hbase, htb, hnm⟩
  have hret : xRet T p l e (headSpec (xws μ) { frames := fr, cells := mc, slots := ms, locals := lo }).room s m (as.map (xc G)).toArray below meth c (MQ below (xQc T G Q) (as.map (xc G)).toArray s mc ms (xA G)) G μ.2.2.1 μ.2.1 μ.2.2.2 Q := by
    intro pc op L st r h k n hd hst hP hk hn hop
    have hq : ∀ (H : Heap) (t : State), xMt T G h H → t.heap = H → va_F (xA G) s t → xQc T G Q (as.map (xc G)).toArray s (.returned (r.map (xc G))) t := fun H t hM ht hF => ⟨r, h, rfl, hP, by rw [ht]; exact hM, hF⟩
    intro H locs ls hM hS hL hl
    refine W.widen hk hn ?_
    rcases hop with ⟨rfl, z, rfl, hrt⟩ | ⟨rfl, ⟨z, rfl⟩, hrt⟩ | ⟨rfl, ⟨q, rfl⟩, hrt⟩ | ⟨rfl, rfl, hrt⟩
    · subst hst
      rcases hrt with hrt | ⟨hrt, hz⟩
      · exact xw_iret hx hb (hr.trans hrt) rfl hlocks hd hq H locs ls hM hS hL hl
      · exact xw_iret hx hb (hr.trans hrt) (by rcases hz with rfl | rfl <;> rfl) hlocks hd hq H locs ls hM hS hL hl
    · subst hst
      exact xw_lret hx hb (hr.trans hrt) hlocks hd hq H locs ls hM hS hL hl
    · subst hst
      rcases hrt with ⟨C, hrt⟩ | ⟨t, hrt⟩
      · exact xw_aret hx hb (hr.trans hrt) (Or.inl ⟨_, rfl⟩) hlocks hd hq H locs ls hM hS hL hl
      · exact xw_aret hx hb (hr.trans hrt) (Or.inr ⟨_, rfl⟩) hlocks hd hq H locs ls hM hS hL hl
    · exact xw_vret hx hb (hr.trans hrt) hlocks hd hq st hst H locs ls hM hS hL hl
  have hgo := body (xW T p l e (headSpec (xws μ) { frames := fr, cells := mc, slots := ms, locals := lo }).room s m (as.map (xc G)).toArray below meth c (MQ below (xQc T G Q) (as.map (xc G)).toArray s mc ms (xA G)) G μ.2.2.1) (xcl T (fr, lo, mc, ms) G) (fun _ _ _ _ _ _ _ q => q)
    ⟨fun pc len tg op hd hln htg N J hN hJ L st h k n hop => xop_ok E (fun _ _ _ _ _ _ _ q => q) hret hd hln htg hN hJ hop, fun pc L st h k n k' n' hk hn hX H locs ls hM hS hL hl => W.widen hk hn (hX H locs ls hM hS hL hl)⟩
  have hl := lv_entry (as.map (xc G)) (n := μ.2.2.1) (by rw [xen_len]; exact hlen)
  rw [lg_entry_eq]
  subst hL0
  refine hgo s.heap [] _ hM va_S.rf ?_ ⟨hl.1, hl.2.1, fun q hq => hl.2.2 q (xen_args hq)⟩
  rw [List.length_append, List.length_replicate]
  omega
theorem xall {α : Type} {l : List (Nat × α)} {F : Nat → α → Prop} (h : ∀ q ∈ l, F q.1 q.2) : ∀ i d, (i, d) ∈ l → F i d := fun i d hq => h (i, d) hq
end
section
/-! the methods: name, code, words of locals, kind of answer -/
abbrev m_X_init : xMd := (y_X_init, prog_1_method_1_code, 1, none)
abbrev m_Tongue_init : xMd := (y_Tongue_init, prog_7_method_1_code, 1, none)
abbrev m_Rows_init : xMd := (y_Rows_init, prog_5_method_1_code, 2, none)
abbrev m_Math_max : xMd := (y_Math_max, prog_11_method_65_code, 2, some .int)
abbrev m_Tails_init : xMd := (y_Tails_init, prog_6_method_1_code, 1, none)
abbrev m_Tails_add : xMd := (y_Tails_add, prog_6_method_9_code, 6, none)
abbrev m_Rows_used : xMd := (y_Rows_used, prog_5_method_3_code, 1, some .int)
abbrev m_Rows_add : xMd := (y_Rows_add, prog_5_method_7_code, 3, none)
abbrev m_Rows_isFull : xMd := (y_Rows_isFull, prog_5_method_4_code, 1, some .boolean)
abbrev m_Tongue_forgetPhrases : xMd := (y_Tongue_forgetPhrases, prog_7_method_16_code, 1, none)
abbrev m_Arrays_fill : xMd := (y_Arrays_fill, prog_13_method_103_code, 4, none)
abbrev m_Ear_init : xMd := (y_Ear_init, prog_2_method_1_code, 1, none)
abbrev m_Reader_init : xMd := (y_Reader_init, prog_4_method_1_code, 3, none)
abbrev m_Hills_init : xMd := (y_Hills_init, prog_3_method_1_code, 2, none)
abbrev m_X_word : xMd := (y_X_word, prog_1_method_2_code, 3, some .int)
abbrev m_Rows_isRow : xMd := (y_Rows_isRow, prog_5_method_2_code, 2, some .boolean)
abbrev m_Tongue_addWord : xMd := (y_Tongue_addWord, prog_7_method_2_code, 3, some .int)
abbrev m_X_ending : xMd := (y_X_ending, prog_1_method_3_code, 3, some .int)
abbrev m_Tongue_addEnding : xMd := (y_Tongue_addEnding, prog_7_method_3_code, 3, some .int)
abbrev m_Tails_remake : xMd := (y_Tails_remake, prog_6_method_6_code, 3, none)
abbrev m_Rows_dropAllBehind : xMd := (y_Rows_dropAllBehind, prog_5_method_8_code, 2, none)
abbrev m_Tails_addSingles : xMd := (y_Tails_addSingles, prog_6_method_7_code, 4, none)
abbrev m_Rows_size : xMd := (y_Rows_size, prog_5_method_5_code, 2, some .int)
abbrev m_Rows_number : xMd := (y_Rows_number, prog_5_method_6_code, 2, some .int)
abbrev m_Tails_addPairs : xMd := (y_Tails_addPairs, prog_6_method_8_code, 5, none)
abbrev m_X_bound : xMd := (y_X_bound, prog_1_method_4_code, 2, some .int)
abbrev m_Tongue_changeBound : xMd := (y_Tongue_changeBound, prog_7_method_4_code, 3, some .int)
abbrev m_X_choose : xMd := (y_X_choose, prog_1_method_5_code, 1, some .int)
abbrev m_Tongue_chooseInTurn : xMd := (y_Tongue_chooseInTurn, prog_7_method_18_code, 3, some .int)
abbrev m_Tongue_firstTailApart : xMd := (y_Tongue_firstTailApart, prog_7_method_19_code, 3, some .int)
abbrev m_Tails_used : xMd := (y_Tails_used, prog_6_method_2_code, 1, some .int)
abbrev m_Tongue_sizeWith : xMd := (y_Tongue_sizeWith, prog_7_method_22_code, 3, some .int)
abbrev m_Tails_size : xMd := (y_Tails_size, prog_6_method_3_code, 2, some .int)
abbrev m_Tongue_numberWith : xMd := (y_Tongue_numberWith, prog_7_method_23_code, 3, some .int)
abbrev m_Tails_number : xMd := (y_Tails_number, prog_6_method_4_code, 2, some .int)
abbrev m_Rows_allApartFrom : xMd := (y_Rows_allApartFrom, prog_5_method_9_code, 5, some .boolean)
abbrev m_Rows_areApart : xMd := (y_Rows_areApart, prog_5_method_11_code, 6, some .boolean)
abbrev m_Rows_differing : xMd := (y_Rows_differing, prog_5_method_10_code, 5, some .int)
abbrev m_Math_min : xMd := (y_Math_min, prog_11_method_69_code, 2, some .int)
abbrev m_Integer_bitCount : xMd := (y_Integer_bitCount, prog_10_method_49_code, 1, some .int)
abbrev m_Math_abs : xMd := (y_Math_abs, prog_11_method_59_code, 1, some .int)
abbrev m_Tongue_give : xMd := (y_Tongue_give, prog_7_method_17_code, 3, none)
abbrev m_X_least : xMd := (y_X_least, prog_1_method_6_code, 1, some .int)
abbrev m_Tongue_chooseForTheLeast : xMd := (y_Tongue_chooseForTheLeast, prog_7_method_20_code, 2, some .int)
abbrev m_Tongue_lookFrom : xMd := (y_Tongue_lookFrom, prog_7_method_21_code, 6, none)
abbrev m_X_length : xMd := (y_X_length, prog_1_method_7_code, 2, some .int)
abbrev m_Tongue_isWord : xMd := (y_Tongue_isWord, prog_7_method_8_code, 2, some .boolean)
abbrev m_Tongue_hasPhrase : xMd := (y_Tongue_hasPhrase, prog_7_method_9_code, 2, some .boolean)
abbrev m_Tongue_phraseSize : xMd := (y_Tongue_phraseSize, prog_7_method_10_code, 2, some .int)
abbrev m_X_beat : xMd := (y_X_beat, prog_1_method_8_code, 3, some .int)
abbrev m_Tongue_phraseBeat : xMd := (y_Tongue_phraseBeat, prog_7_method_11_code, 3, some .int)
abbrev m_X_endingAt : xMd := (y_X_endingAt, prog_1_method_9_code, 3, some .int)
abbrev m_Tongue_phraseEnding : xMd := (y_Tongue_phraseEnding, prog_7_method_12_code, 3, some .int)
abbrev m_Tails_endingAt : xMd := (y_Tails_endingAt, prog_6_method_5_code, 3, some .int)
abbrev m_X_far : xMd := (y_X_far, prog_1_method_10_code, 3, some .int)
abbrev m_Tongue_howFar : xMd := (y_Tongue_howFar, prog_7_method_15_code, 5, some .int)
abbrev m_X_hear : xMd := (y_X_hear, prog_1_method_11_code, 2, some .int)
abbrev m_Ear_room : xMd := (y_Ear_room, prog_2_method_3_code, 1, some .int)
abbrev m_Ear_add : xMd := (y_Ear_add, prog_2_method_5_code, 2, some .int)
abbrev m_X_drum : xMd := (y_X_drum, prog_1_method_12_code, 4, some .int)
abbrev m_Ear_size : xMd := (y_Ear_size, prog_2_method_2_code, 1, some .int)
abbrev m_X_slip : xMd := (y_X_slip, prog_1_method_13_code, 4, some .int)
abbrev m_Ear_at : xMd := (y_Ear_at, prog_2_method_4_code, 2, some .int)
abbrev m_Ear_takeOut : xMd := (y_Ear_takeOut, prog_2_method_7_code, 3, none)
abbrev m_Ear_change : xMd := (y_Ear_change, prog_2_method_6_code, 3, none)
abbrev m_X_hush : xMd := (y_X_hush, prog_1_method_14_code, 1, some .int)
abbrev m_Ear_empty : xMd := (y_Ear_empty, prog_2_method_8_code, 2, some .int)
abbrev m_X_read : xMd := (y_X_read, prog_1_method_15_code, 1, some .int)
abbrev m_Reader_readNow : xMd := (y_Reader_readNow, prog_4_method_2_code, 2, some .boolean)
abbrev m_Tongue_phraseCount : xMd := (y_Tongue_phraseCount, prog_7_method_13_code, 3, some .int)
abbrev m_Reader_weighAllCounts : xMd := (y_Reader_weighAllCounts, prog_4_method_8_code, 3, none)
abbrev m_Reader_startFrom : xMd := (y_Reader_startFrom, prog_4_method_16_code, 3, none)
abbrev m_Tongue_wordCount : xMd := (y_Tongue_wordCount, prog_7_method_6_code, 1, some .int)
abbrev m_Reader_copy : xMd := (y_Reader_copy, prog_4_method_24_code, 3, none)
abbrev m_Reader_putInFront : xMd := (y_Reader_putInFront, prog_4_method_18_code, 4, none)
abbrev m_Reader_putBeatInFront : xMd := (y_Reader_putBeatInFront, prog_4_method_20_code, 8, none)
abbrev m_Reader_costOf : xMd := (y_Reader_costOf, prog_4_method_21_code, 2, some .int)
abbrev m_Reader_takeLower : xMd := (y_Reader_takeLower, prog_4_method_23_code, 4, none)
abbrev m_Reader_bestCount : xMd := (y_Reader_bestCount, prog_4_method_9_code, 3, some .int)
abbrev m_Reader_spellFirstByNumbers : xMd := (y_Reader_spellFirstByNumbers, prog_4_method_10_code, 2, none)
abbrev m_Reader_startUpTo : xMd := (y_Reader_startUpTo, prog_4_method_15_code, 3, none)
abbrev m_Reader_firstWordThatKeepsTheLeast : xMd := (y_Reader_firstWordThatKeepsTheLeast, prog_4_method_11_code, 3, some .int)
abbrev m_Reader_putBehind : xMd := (y_Reader_putBehind, prog_4_method_17_code, 5, none)
abbrev m_Reader_putBeatBehind : xMd := (y_Reader_putBeatBehind, prog_4_method_19_code, 7, none)
abbrev m_Reader_leastTogether : xMd := (y_Reader_leastTogether, prog_4_method_22_code, 5, some .int)
abbrev m_Reader_keepAsLast : xMd := (y_Reader_keepAsLast, prog_4_method_3_code, 1, none)
abbrev m_Reader_offNow : xMd := (y_Reader_offNow, prog_4_method_4_code, 1, some .int)
abbrev m_X_readAt : xMd := (y_X_readAt, prog_1_method_16_code, 2, some .int)
abbrev m_Reader_lastAt : xMd := (y_Reader_lastAt, prog_4_method_7_code, 2, some .int)
abbrev m_X_doubt : xMd := (y_X_doubt, prog_1_method_17_code, 2, some .int)
abbrev m_Reader_sizeNow : xMd := (y_Reader_sizeNow, prog_4_method_5_code, 1, some .int)
abbrev m_Reader_doubtAt : xMd := (y_Reader_doubtAt, prog_4_method_13_code, 5, some .int)
abbrev m_Reader_weighAround : xMd := (y_Reader_weighAround, prog_4_method_14_code, 3, none)
abbrev m_X_most : xMd := (y_X_most, prog_1_method_18_code, 1, some .int)
abbrev m_Reader_mostInDoubt : xMd := (y_Reader_mostInDoubt, prog_4_method_12_code, 5, some .int)
abbrev m_X_hill : xMd := (y_X_hill, prog_1_method_19_code, 5, some .int)
abbrev m_Hills_arePair : xMd := (y_Hills_arePair, prog_3_method_3_code, 2, some .boolean)
abbrev m_Hills_isHill : xMd := (y_Hills_isHill, prog_3_method_2_code, 1, some .boolean)
abbrev m_Hills_join : xMd := (y_Hills_join, prog_3_method_4_code, 5, none)
abbrev m_X_way : xMd := (y_X_way, prog_1_method_20_code, 3, some .int)
abbrev m_Hills_findBest : xMd := (y_Hills_findBest, prog_3_method_5_code, 3, some .boolean)
abbrev m_Hills_walk : xMd := (y_Hills_walk, prog_3_method_9_code, 8, none)
abbrev m_Hills_keepIfBetter : xMd := (y_Hills_keepIfBetter, prog_3_method_11_code, 5, none)
abbrev m_Hills_isOnPath : xMd := (y_Hills_isOnPath, prog_3_method_10_code, 4, some .boolean)
abbrev m_Hills_bestChance : xMd := (y_Hills_bestChance, prog_3_method_6_code, 1, some .int)
abbrev m_X_wayAt : xMd := (y_X_wayAt, prog_1_method_21_code, 4, some .int)
abbrev m_Hills_bestAt : xMd := (y_Hills_bestAt, prog_3_method_8_code, 2, some .int)
abbrev m_X_age : xMd := (y_X_age, prog_1_method_22_code, 3, some .int)
abbrev m_Hills_bestHours : xMd := (y_Hills_bestHours, prog_3_method_7_code, 1, some .int)
abbrev m_X_enough : xMd := (y_X_enough, prog_1_method_23_code, 4, some .int)
abbrev m_Hills_findEnough : xMd := (y_Hills_findEnough, prog_3_method_12_code, 4, some .boolean)
abbrev m_Hills_tryTimes : xMd := (y_Hills_tryTimes, prog_3_method_15_code, 8, none)
abbrev m_Hills_chanceBetween : xMd := (y_Hills_chanceBetween, prog_3_method_16_code, 3, some .int)
abbrev m_Hills_heardBy : xMd := (y_Hills_heardBy, prog_3_method_17_code, 5, some .long)
abbrev m_Hills_enoughSum : xMd := (y_Hills_enoughSum, prog_3_method_13_code, 1, some .int)
abbrev m_X_times : xMd := (y_X_times, prog_1_method_24_code, 5, some .int)
abbrev m_Hills_enoughAt : xMd := (y_Hills_enoughAt, prog_3_method_14_code, 2, some .int)
abbrev m_X_count : xMd := (y_X_count, prog_1_method_25_code, 2, some .int)
abbrev m_Tongue_endingCount : xMd := (y_Tongue_endingCount, prog_7_method_7_code, 1, some .int)
abbrev m_Tongue_boundNow : xMd := (y_Tongue_boundNow, prog_7_method_5_code, 1, some .int)
abbrev m_Tongue_beatsOfAllPhrases : xMd := (y_Tongue_beatsOfAllPhrases, prog_7_method_14_code, 3, some .int)
abbrev m_Ear_gaps : xMd := (y_Ear_gaps, prog_2_method_9_code, 3, some .int)
abbrev m_Reader_lastSize : xMd := (y_Reader_lastSize, prog_4_method_6_code, 1, some .int)
abbrev m_X_digest : xMd := (y_X_digest, prog_1_method_26_code, 4, some .long)
abbrev m_Tongue_mixInto : xMd := (y_Tongue_mixInto, prog_7_method_24_code, 8, some .long)
abbrev m_Ear_mixInto : xMd := (y_Ear_mixInto, prog_2_method_10_code, 6, some .long)
abbrev m_Reader_mixInto : xMd := (y_Reader_mixInto, prog_4_method_25_code, 6, some .long)
abbrev m_Hills_mixInto : xMd := (y_Hills_mixInto, prog_3_method_18_code, 7, some .long)
abbrev m_M_init : xMd := (y_M_init, prog_9_method_1_code, 2, none)
abbrev m_M_word : xMd := (y_M_word, prog_9_method_5_code, 3, some .int)
abbrev m_M_isRow : xMd := (y_M_isRow, prog_9_method_4_code, 2, some .boolean)
abbrev m_M_in : xMd := (y_M_in, prog_9_method_2_code, 6, some .boolean)
abbrev m_M_gone : xMd := (y_M_gone, prog_9_method_3_code, 2, none)
abbrev m_M_ending : xMd := (y_M_ending, prog_9_method_6_code, 3, some .int)
abbrev m_M_bound : xMd := (y_M_bound, prog_9_method_7_code, 3, some .int)
abbrev m_M_choose : xMd := (y_M_choose, prog_9_method_17_code, 3, some .int)
abbrev m_M_order : xMd := (y_M_order, prog_9_method_10_code, 4, none)
abbrev m_M_come : xMd := (y_M_come, prog_9_method_8_code, 7, none)
abbrev m_M_isLater : xMd := (y_M_isLater, prog_9_method_9_code, 6, some .boolean)
abbrev m_M_isFree : xMd := (y_M_isFree, prog_9_method_15_code, 5, some .boolean)
abbrev m_M_isApart : xMd := (y_M_isApart, prog_9_method_14_code, 10, some .boolean)
abbrev m_M_bitsOf : xMd := (y_M_bitsOf, prog_9_method_11_code, 5, some .int)
abbrev m_M_apart : xMd := (y_M_apart, prog_9_method_13_code, 9, some .int)
abbrev m_M_ones : xMd := (y_M_ones, prog_9_method_12_code, 3, some .int)
abbrev m_M_phrased : xMd := (y_M_phrased, prog_9_method_16_code, 3, some .int)
abbrev m_M_least : xMd := (y_M_least, prog_9_method_18_code, 6, some .int)
abbrev m_M_length : xMd := (y_M_length, prog_9_method_22_code, 2, some .int)
abbrev m_M_isWord : xMd := (y_M_isWord, prog_9_method_19_code, 2, some .boolean)
abbrev m_M_lengthOf : xMd := (y_M_lengthOf, prog_9_method_20_code, 2, some .int)
abbrev m_M_beat : xMd := (y_M_beat, prog_9_method_23_code, 3, some .int)
abbrev m_M_beatOf : xMd := (y_M_beatOf, prog_9_method_21_code, 3, some .int)
abbrev m_M_endingAt : xMd := (y_M_endingAt, prog_9_method_24_code, 4, some .int)
abbrev m_M_far : xMd := (y_M_far, prog_9_method_25_code, 3, some .int)
abbrev m_M_hear : xMd := (y_M_hear, prog_9_method_26_code, 2, some .int)
abbrev m_M_drum : xMd := (y_M_drum, prog_9_method_27_code, 4, some .int)
abbrev m_M_slip : xMd := (y_M_slip, prog_9_method_28_code, 5, some .int)
abbrev m_M_hush : xMd := (y_M_hush, prog_9_method_29_code, 2, some .int)
abbrev m_M_read : xMd := (y_M_read, prog_9_method_36_code, 3, some .int)
abbrev m_M_reading : xMd := (y_M_reading, prog_9_method_35_code, 6, some .int)
abbrev m_M_restFrom : xMd := (y_M_restFrom, prog_9_method_34_code, 4, none)
abbrev m_M_ahead : xMd := (y_M_ahead, prog_9_method_32_code, 5, none)
abbrev m_M_lesser : xMd := (y_M_lesser, prog_9_method_30_code, 2, some .int)
abbrev m_M_off : xMd := (y_M_off, prog_9_method_31_code, 3, some .int)
abbrev m_M_behind : xMd := (y_M_behind, prog_9_method_33_code, 6, none)
abbrev m_M_readAt : xMd := (y_M_readAt, prog_9_method_37_code, 2, some .int)
abbrev m_M_doubt : xMd := (y_M_doubt, prog_9_method_40_code, 3, some .int)
abbrev m_M_doubtOf : xMd := (y_M_doubtOf, prog_9_method_39_code, 5, some .int)
abbrev m_M_offWith : xMd := (y_M_offWith, prog_9_method_38_code, 4, some .int)
abbrev m_M_most : xMd := (y_M_most, prog_9_method_41_code, 6, some .int)
abbrev m_M_hill : xMd := (y_M_hill, prog_9_method_43_code, 5, some .int)
abbrev m_M_isHill : xMd := (y_M_isHill, prog_9_method_42_code, 1, some .boolean)
abbrev m_M_way : xMd := (y_M_way, prog_9_method_46_code, 3, some .int)
abbrev m_M_areHills : xMd := (y_M_areHills, prog_9_method_45_code, 2, some .boolean)
abbrev m_M_look : xMd := (y_M_look, prog_9_method_44_code, 11, none)
abbrev m_M_wayAt : xMd := (y_M_wayAt, prog_9_method_47_code, 4, some .int)
abbrev m_M_age : xMd := (y_M_age, prog_9_method_48_code, 3, some .int)
abbrev m_M_enough : xMd := (y_M_enough, prog_9_method_50_code, 4, some .int)
abbrev m_M_enoughFor : xMd := (y_M_enoughFor, prog_9_method_49_code, 14, some .int)
abbrev m_M_times : xMd := (y_M_times, prog_9_method_51_code, 5, some .int)
abbrev m_M_count : xMd := (y_M_count, prog_9_method_52_code, 5, some .int)
abbrev m_M_digest : xMd := (y_M_digest, prog_9_method_53_code, 5, some .long)
/-! what a call rests on, method by method -/
theorem cm_X_init : Cond.code m_X_init.1 m_X_init.2.1 m_X_init.2.2.1 m_X_init.2.2.2 ∈ xTB := xin_tb 66 (by decide +kernel) (by decide +kernel)
theorem pm_X_init : (parseMethodDescriptor y_X_init.desc).map (fun d => d.parameters.length) = some 0 := by decide +kernel
theorem cm_Tongue_init : Cond.code m_Tongue_init.1 m_Tongue_init.2.1 m_Tongue_init.2.2.1 m_Tongue_init.2.2.2 ∈ xTB := xin_tb 74 (by decide +kernel) (by decide +kernel)
theorem pm_Tongue_init : (parseMethodDescriptor y_Tongue_init.desc).map (fun d => d.parameters.length) = some 0 := by decide +kernel
theorem cm_Rows_init : Cond.code m_Rows_init.1 m_Rows_init.2.1 m_Rows_init.2.2.1 m_Rows_init.2.2.2 ∈ xTB := xin_tb 80 (by decide +kernel) (by decide +kernel)
theorem pm_Rows_init : (parseMethodDescriptor y_Rows_init.desc).map (fun d => d.parameters.length) = some 1 := by decide +kernel
theorem cm_Math_max : Cond.code m_Math_max.1 m_Math_max.2.1 m_Math_max.2.2.1 m_Math_max.2.2.2 ∈ xTB := xin_tb 84 (by decide +kernel) (by decide +kernel)
theorem pm_Math_max : (parseMethodDescriptor y_Math_max.desc).map (fun d => d.parameters.length) = some 2 := by decide +kernel
theorem cm_Tails_init : Cond.code m_Tails_init.1 m_Tails_init.2.1 m_Tails_init.2.2.1 m_Tails_init.2.2.2 ∈ xTB := xin_tb 100 (by decide +kernel) (by decide +kernel)
theorem pm_Tails_init : (parseMethodDescriptor y_Tails_init.desc).map (fun d => d.parameters.length) = some 0 := by decide +kernel
theorem cm_Tails_add : Cond.code m_Tails_add.1 m_Tails_add.2.1 m_Tails_add.2.2.1 m_Tails_add.2.2.2 ∈ xTB := xin_tb 107 (by decide +kernel) (by decide +kernel)
theorem pm_Tails_add : (parseMethodDescriptor y_Tails_add.desc).map (fun d => d.parameters.length) = some 4 := by decide +kernel
theorem cm_Rows_used : Cond.code m_Rows_used.1 m_Rows_used.2.1 m_Rows_used.2.2.1 m_Rows_used.2.2.2 ∈ xTB := xin_tb 111 (by decide +kernel) (by decide +kernel)
theorem pm_Rows_used : (parseMethodDescriptor y_Rows_used.desc).map (fun d => d.parameters.length) = some 0 := by decide +kernel
theorem cm_Rows_add : Cond.code m_Rows_add.1 m_Rows_add.2.1 m_Rows_add.2.2.1 m_Rows_add.2.2.2 ∈ xTB := xin_tb 115 (by decide +kernel) (by decide +kernel)
theorem pm_Rows_add : (parseMethodDescriptor y_Rows_add.desc).map (fun d => d.parameters.length) = some 2 := by decide +kernel
theorem cm_Rows_isFull : Cond.code m_Rows_isFull.1 m_Rows_isFull.2.1 m_Rows_isFull.2.2.1 m_Rows_isFull.2.2.2 ∈ xTB := xin_tb 119 (by decide +kernel) (by decide +kernel)
theorem pm_Rows_isFull : (parseMethodDescriptor y_Rows_isFull.desc).map (fun d => d.parameters.length) = some 0 := by decide +kernel
theorem cm_Tongue_forgetPhrases : Cond.code m_Tongue_forgetPhrases.1 m_Tongue_forgetPhrases.2.1 m_Tongue_forgetPhrases.2.2.1 m_Tongue_forgetPhrases.2.2.2 ∈ xTB := xin_tb 133 (by decide +kernel) (by decide +kernel)
theorem pm_Tongue_forgetPhrases : (parseMethodDescriptor y_Tongue_forgetPhrases.desc).map (fun d => d.parameters.length) = some 0 := by decide +kernel
theorem cm_Arrays_fill : Cond.code m_Arrays_fill.1 m_Arrays_fill.2.1 m_Arrays_fill.2.2.1 m_Arrays_fill.2.2.2 ∈ xTB := xin_tb 136 (by decide +kernel) (by decide +kernel)
theorem pm_Arrays_fill : (parseMethodDescriptor y_Arrays_fill.desc).map (fun d => d.parameters.length) = some 2 := by decide +kernel
theorem cm_Ear_init : Cond.code m_Ear_init.1 m_Ear_init.2.1 m_Ear_init.2.2.1 m_Ear_init.2.2.2 ∈ xTB := xin_tb 178 (by decide +kernel) (by decide +kernel)
theorem pm_Ear_init : (parseMethodDescriptor y_Ear_init.desc).map (fun d => d.parameters.length) = some 0 := by decide +kernel
theorem cm_Reader_init : Cond.code m_Reader_init.1 m_Reader_init.2.1 m_Reader_init.2.2.1 m_Reader_init.2.2.2 ∈ xTB := xin_tb 191 (by decide +kernel) (by decide +kernel)
theorem pm_Reader_init : (parseMethodDescriptor y_Reader_init.desc).map (fun d => d.parameters.length) = some 2 := by decide +kernel
theorem cm_Hills_init : Cond.code m_Hills_init.1 m_Hills_init.2.1 m_Hills_init.2.2.1 m_Hills_init.2.2.2 ∈ xTB := xin_tb 233 (by decide +kernel) (by decide +kernel)
theorem pm_Hills_init : (parseMethodDescriptor y_Hills_init.desc).map (fun d => d.parameters.length) = some 0 := by decide +kernel
theorem cm_X_word : Cond.code m_X_word.1 m_X_word.2.1 m_X_word.2.2.1 m_X_word.2.2.2 ∈ xTB := xin_tb 284 (by decide +kernel) (by decide +kernel)
theorem pm_X_word : (parseMethodDescriptor y_X_word.desc).map (fun d => d.parameters.length) = some 2 := by decide +kernel
theorem cm_Rows_isRow : Cond.code m_Rows_isRow.1 m_Rows_isRow.2.1 m_Rows_isRow.2.2.1 m_Rows_isRow.2.2.2 ∈ xTB := xin_tb 287 (by decide +kernel) (by decide +kernel)
theorem pm_Rows_isRow : (parseMethodDescriptor y_Rows_isRow.desc).map (fun d => d.parameters.length) = some 2 := by decide +kernel
theorem cm_Tongue_addWord : Cond.code m_Tongue_addWord.1 m_Tongue_addWord.2.1 m_Tongue_addWord.2.2.1 m_Tongue_addWord.2.2.2 ∈ xTB := xin_tb 291 (by decide +kernel) (by decide +kernel)
theorem pm_Tongue_addWord : (parseMethodDescriptor y_Tongue_addWord.desc).map (fun d => d.parameters.length) = some 2 := by decide +kernel
theorem cm_X_ending : Cond.code m_X_ending.1 m_X_ending.2.1 m_X_ending.2.2.1 m_X_ending.2.2.2 ∈ xTB := xin_tb 298 (by decide +kernel) (by decide +kernel)
theorem pm_X_ending : (parseMethodDescriptor y_X_ending.desc).map (fun d => d.parameters.length) = some 2 := by decide +kernel
theorem cm_Tongue_addEnding : Cond.code m_Tongue_addEnding.1 m_Tongue_addEnding.2.1 m_Tongue_addEnding.2.2.1 m_Tongue_addEnding.2.2.2 ∈ xTB := xin_tb 302 (by decide +kernel) (by decide +kernel)
theorem pm_Tongue_addEnding : (parseMethodDescriptor y_Tongue_addEnding.desc).map (fun d => d.parameters.length) = some 2 := by decide +kernel
theorem cm_Tails_remake : Cond.code m_Tails_remake.1 m_Tails_remake.2.1 m_Tails_remake.2.2.1 m_Tails_remake.2.2.2 ∈ xTB := xin_tb 306 (by decide +kernel) (by decide +kernel)
theorem pm_Tails_remake : (parseMethodDescriptor y_Tails_remake.desc).map (fun d => d.parameters.length) = some 1 := by decide +kernel
theorem cm_Rows_dropAllBehind : Cond.code m_Rows_dropAllBehind.1 m_Rows_dropAllBehind.2.1 m_Rows_dropAllBehind.2.2.1 m_Rows_dropAllBehind.2.2.2 ∈ xTB := xin_tb 310 (by decide +kernel) (by decide +kernel)
theorem pm_Rows_dropAllBehind : (parseMethodDescriptor y_Rows_dropAllBehind.desc).map (fun d => d.parameters.length) = some 1 := by decide +kernel
theorem cm_Tails_addSingles : Cond.code m_Tails_addSingles.1 m_Tails_addSingles.2.1 m_Tails_addSingles.2.2.1 m_Tails_addSingles.2.2.2 ∈ xTB := xin_tb 314 (by decide +kernel) (by decide +kernel)
theorem pm_Tails_addSingles : (parseMethodDescriptor y_Tails_addSingles.desc).map (fun d => d.parameters.length) = some 2 := by decide +kernel
theorem cm_Rows_size : Cond.code m_Rows_size.1 m_Rows_size.2.1 m_Rows_size.2.2.1 m_Rows_size.2.2.2 ∈ xTB := xin_tb 318 (by decide +kernel) (by decide +kernel)
theorem pm_Rows_size : (parseMethodDescriptor y_Rows_size.desc).map (fun d => d.parameters.length) = some 1 := by decide +kernel
theorem cm_Rows_number : Cond.code m_Rows_number.1 m_Rows_number.2.1 m_Rows_number.2.2.1 m_Rows_number.2.2.2 ∈ xTB := xin_tb 322 (by decide +kernel) (by decide +kernel)
theorem pm_Rows_number : (parseMethodDescriptor y_Rows_number.desc).map (fun d => d.parameters.length) = some 1 := by decide +kernel
theorem cm_Tails_addPairs : Cond.code m_Tails_addPairs.1 m_Tails_addPairs.2.1 m_Tails_addPairs.2.2.1 m_Tails_addPairs.2.2.2 ∈ xTB := xin_tb 326 (by decide +kernel) (by decide +kernel)
theorem pm_Tails_addPairs : (parseMethodDescriptor y_Tails_addPairs.desc).map (fun d => d.parameters.length) = some 2 := by decide +kernel
theorem cm_X_bound : Cond.code m_X_bound.1 m_X_bound.2.1 m_X_bound.2.2.1 m_X_bound.2.2.2 ∈ xTB := xin_tb 330 (by decide +kernel) (by decide +kernel)
theorem pm_X_bound : (parseMethodDescriptor y_X_bound.desc).map (fun d => d.parameters.length) = some 1 := by decide +kernel
theorem cm_Tongue_changeBound : Cond.code m_Tongue_changeBound.1 m_Tongue_changeBound.2.1 m_Tongue_changeBound.2.2.1 m_Tongue_changeBound.2.2.2 ∈ xTB := xin_tb 334 (by decide +kernel) (by decide +kernel)
theorem pm_Tongue_changeBound : (parseMethodDescriptor y_Tongue_changeBound.desc).map (fun d => d.parameters.length) = some 1 := by decide +kernel
theorem cm_X_choose : Cond.code m_X_choose.1 m_X_choose.2.1 m_X_choose.2.2.1 m_X_choose.2.2.2 ∈ xTB := xin_tb 338 (by decide +kernel) (by decide +kernel)
theorem pm_X_choose : (parseMethodDescriptor y_X_choose.desc).map (fun d => d.parameters.length) = some 0 := by decide +kernel
theorem cm_Tongue_chooseInTurn : Cond.code m_Tongue_chooseInTurn.1 m_Tongue_chooseInTurn.2.1 m_Tongue_chooseInTurn.2.2.1 m_Tongue_chooseInTurn.2.2.2 ∈ xTB := xin_tb 342 (by decide +kernel) (by decide +kernel)
theorem pm_Tongue_chooseInTurn : (parseMethodDescriptor y_Tongue_chooseInTurn.desc).map (fun d => d.parameters.length) = some 0 := by decide +kernel
theorem cm_Tongue_firstTailApart : Cond.code m_Tongue_firstTailApart.1 m_Tongue_firstTailApart.2.1 m_Tongue_firstTailApart.2.2.1 m_Tongue_firstTailApart.2.2.2 ∈ xTB := xin_tb 347 (by decide +kernel) (by decide +kernel)
theorem pm_Tongue_firstTailApart : (parseMethodDescriptor y_Tongue_firstTailApart.desc).map (fun d => d.parameters.length) = some 1 := by decide +kernel
theorem cm_Tails_used : Cond.code m_Tails_used.1 m_Tails_used.2.1 m_Tails_used.2.2.1 m_Tails_used.2.2.2 ∈ xTB := xin_tb 351 (by decide +kernel) (by decide +kernel)
theorem pm_Tails_used : (parseMethodDescriptor y_Tails_used.desc).map (fun d => d.parameters.length) = some 0 := by decide +kernel
theorem cm_Tongue_sizeWith : Cond.code m_Tongue_sizeWith.1 m_Tongue_sizeWith.2.1 m_Tongue_sizeWith.2.2.1 m_Tongue_sizeWith.2.2.2 ∈ xTB := xin_tb 355 (by decide +kernel) (by decide +kernel)
theorem pm_Tongue_sizeWith : (parseMethodDescriptor y_Tongue_sizeWith.desc).map (fun d => d.parameters.length) = some 2 := by decide +kernel
theorem cm_Tails_size : Cond.code m_Tails_size.1 m_Tails_size.2.1 m_Tails_size.2.2.1 m_Tails_size.2.2.2 ∈ xTB := xin_tb 360 (by decide +kernel) (by decide +kernel)
theorem pm_Tails_size : (parseMethodDescriptor y_Tails_size.desc).map (fun d => d.parameters.length) = some 1 := by decide +kernel
theorem cm_Tongue_numberWith : Cond.code m_Tongue_numberWith.1 m_Tongue_numberWith.2.1 m_Tongue_numberWith.2.2.1 m_Tongue_numberWith.2.2.2 ∈ xTB := xin_tb 364 (by decide +kernel) (by decide +kernel)
theorem pm_Tongue_numberWith : (parseMethodDescriptor y_Tongue_numberWith.desc).map (fun d => d.parameters.length) = some 2 := by decide +kernel
theorem cm_Tails_number : Cond.code m_Tails_number.1 m_Tails_number.2.1 m_Tails_number.2.2.1 m_Tails_number.2.2.2 ∈ xTB := xin_tb 369 (by decide +kernel) (by decide +kernel)
theorem pm_Tails_number : (parseMethodDescriptor y_Tails_number.desc).map (fun d => d.parameters.length) = some 1 := by decide +kernel
theorem cm_Rows_allApartFrom : Cond.code m_Rows_allApartFrom.1 m_Rows_allApartFrom.2.1 m_Rows_allApartFrom.2.2.1 m_Rows_allApartFrom.2.2.2 ∈ xTB := xin_tb 373 (by decide +kernel) (by decide +kernel)
theorem pm_Rows_allApartFrom : (parseMethodDescriptor y_Rows_allApartFrom.desc).map (fun d => d.parameters.length) = some 3 := by decide +kernel
theorem cm_Rows_areApart : Cond.code m_Rows_areApart.1 m_Rows_areApart.2.1 m_Rows_areApart.2.2.1 m_Rows_areApart.2.2.2 ∈ xTB := xin_tb 376 (by decide +kernel) (by decide +kernel)
theorem pm_Rows_areApart : (parseMethodDescriptor y_Rows_areApart.desc).map (fun d => d.parameters.length) = some 5 := by decide +kernel
theorem cm_Rows_differing : Cond.code m_Rows_differing.1 m_Rows_differing.2.1 m_Rows_differing.2.2.1 m_Rows_differing.2.2.2 ∈ xTB := xin_tb 379 (by decide +kernel) (by decide +kernel)
theorem pm_Rows_differing : (parseMethodDescriptor y_Rows_differing.desc).map (fun d => d.parameters.length) = some 4 := by decide +kernel
theorem cm_Math_min : Cond.code m_Math_min.1 m_Math_min.2.1 m_Math_min.2.2.1 m_Math_min.2.2.2 ∈ xTB := xin_tb 382 (by decide +kernel) (by decide +kernel)
theorem pm_Math_min : (parseMethodDescriptor y_Math_min.desc).map (fun d => d.parameters.length) = some 2 := by decide +kernel
theorem cm_Integer_bitCount : Cond.code m_Integer_bitCount.1 m_Integer_bitCount.2.1 m_Integer_bitCount.2.2.1 m_Integer_bitCount.2.2.2 ∈ xTB := xin_tb 385 (by decide +kernel) (by decide +kernel)
theorem pm_Integer_bitCount : (parseMethodDescriptor y_Integer_bitCount.desc).map (fun d => d.parameters.length) = some 1 := by decide +kernel
theorem cm_Math_abs : Cond.code m_Math_abs.1 m_Math_abs.2.1 m_Math_abs.2.2.1 m_Math_abs.2.2.2 ∈ xTB := xin_tb 391 (by decide +kernel) (by decide +kernel)
theorem pm_Math_abs : (parseMethodDescriptor y_Math_abs.desc).map (fun d => d.parameters.length) = some 1 := by decide +kernel
theorem cm_Tongue_give : Cond.code m_Tongue_give.1 m_Tongue_give.2.1 m_Tongue_give.2.2.1 m_Tongue_give.2.2.2 ∈ xTB := xin_tb 395 (by decide +kernel) (by decide +kernel)
theorem pm_Tongue_give : (parseMethodDescriptor y_Tongue_give.desc).map (fun d => d.parameters.length) = some 2 := by decide +kernel
theorem cm_X_least : Cond.code m_X_least.1 m_X_least.2.1 m_X_least.2.2.1 m_X_least.2.2.2 ∈ xTB := xin_tb 399 (by decide +kernel) (by decide +kernel)
theorem pm_X_least : (parseMethodDescriptor y_X_least.desc).map (fun d => d.parameters.length) = some 0 := by decide +kernel
theorem cm_Tongue_chooseForTheLeast : Cond.code m_Tongue_chooseForTheLeast.1 m_Tongue_chooseForTheLeast.2.1 m_Tongue_chooseForTheLeast.2.2.1 m_Tongue_chooseForTheLeast.2.2.2 ∈ xTB := xin_tb 403 (by decide +kernel) (by decide +kernel)
theorem pm_Tongue_chooseForTheLeast : (parseMethodDescriptor y_Tongue_chooseForTheLeast.desc).map (fun d => d.parameters.length) = some 0 := by decide +kernel
theorem cm_Tongue_lookFrom : Cond.code m_Tongue_lookFrom.1 m_Tongue_lookFrom.2.1 m_Tongue_lookFrom.2.2.1 m_Tongue_lookFrom.2.2.2 ∈ xTB := xin_tb 408 (by decide +kernel) (by decide +kernel)
theorem pm_Tongue_lookFrom : (parseMethodDescriptor y_Tongue_lookFrom.desc).map (fun d => d.parameters.length) = some 2 := by decide +kernel
theorem cm_X_length : Cond.code m_X_length.1 m_X_length.2.1 m_X_length.2.2.1 m_X_length.2.2.2 ∈ xTB := xin_tb 415 (by decide +kernel) (by decide +kernel)
theorem pm_X_length : (parseMethodDescriptor y_X_length.desc).map (fun d => d.parameters.length) = some 1 := by decide +kernel
theorem cm_Tongue_isWord : Cond.code m_Tongue_isWord.1 m_Tongue_isWord.2.1 m_Tongue_isWord.2.2.1 m_Tongue_isWord.2.2.2 ∈ xTB := xin_tb 419 (by decide +kernel) (by decide +kernel)
theorem pm_Tongue_isWord : (parseMethodDescriptor y_Tongue_isWord.desc).map (fun d => d.parameters.length) = some 1 := by decide +kernel
theorem cm_Tongue_hasPhrase : Cond.code m_Tongue_hasPhrase.1 m_Tongue_hasPhrase.2.1 m_Tongue_hasPhrase.2.2.1 m_Tongue_hasPhrase.2.2.2 ∈ xTB := xin_tb 423 (by decide +kernel) (by decide +kernel)
theorem pm_Tongue_hasPhrase : (parseMethodDescriptor y_Tongue_hasPhrase.desc).map (fun d => d.parameters.length) = some 1 := by decide +kernel
theorem cm_Tongue_phraseSize : Cond.code m_Tongue_phraseSize.1 m_Tongue_phraseSize.2.1 m_Tongue_phraseSize.2.2.1 m_Tongue_phraseSize.2.2.2 ∈ xTB := xin_tb 427 (by decide +kernel) (by decide +kernel)
theorem pm_Tongue_phraseSize : (parseMethodDescriptor y_Tongue_phraseSize.desc).map (fun d => d.parameters.length) = some 1 := by decide +kernel
theorem cm_X_beat : Cond.code m_X_beat.1 m_X_beat.2.1 m_X_beat.2.2.1 m_X_beat.2.2.2 ∈ xTB := xin_tb 432 (by decide +kernel) (by decide +kernel)
theorem pm_X_beat : (parseMethodDescriptor y_X_beat.desc).map (fun d => d.parameters.length) = some 2 := by decide +kernel
theorem cm_Tongue_phraseBeat : Cond.code m_Tongue_phraseBeat.1 m_Tongue_phraseBeat.2.1 m_Tongue_phraseBeat.2.2.1 m_Tongue_phraseBeat.2.2.2 ∈ xTB := xin_tb 436 (by decide +kernel) (by decide +kernel)
theorem pm_Tongue_phraseBeat : (parseMethodDescriptor y_Tongue_phraseBeat.desc).map (fun d => d.parameters.length) = some 2 := by decide +kernel
theorem cm_X_endingAt : Cond.code m_X_endingAt.1 m_X_endingAt.2.1 m_X_endingAt.2.2.1 m_X_endingAt.2.2.2 ∈ xTB := xin_tb 440 (by decide +kernel) (by decide +kernel)
theorem pm_X_endingAt : (parseMethodDescriptor y_X_endingAt.desc).map (fun d => d.parameters.length) = some 2 := by decide +kernel
theorem cm_Tongue_phraseEnding : Cond.code m_Tongue_phraseEnding.1 m_Tongue_phraseEnding.2.1 m_Tongue_phraseEnding.2.2.1 m_Tongue_phraseEnding.2.2.2 ∈ xTB := xin_tb 444 (by decide +kernel) (by decide +kernel)
theorem pm_Tongue_phraseEnding : (parseMethodDescriptor y_Tongue_phraseEnding.desc).map (fun d => d.parameters.length) = some 2 := by decide +kernel
theorem cm_Tails_endingAt : Cond.code m_Tails_endingAt.1 m_Tails_endingAt.2.1 m_Tails_endingAt.2.2.1 m_Tails_endingAt.2.2.2 ∈ xTB := xin_tb 448 (by decide +kernel) (by decide +kernel)
theorem pm_Tails_endingAt : (parseMethodDescriptor y_Tails_endingAt.desc).map (fun d => d.parameters.length) = some 2 := by decide +kernel
theorem cm_X_far : Cond.code m_X_far.1 m_X_far.2.1 m_X_far.2.2.1 m_X_far.2.2.2 ∈ xTB := xin_tb 452 (by decide +kernel) (by decide +kernel)
theorem pm_X_far : (parseMethodDescriptor y_X_far.desc).map (fun d => d.parameters.length) = some 2 := by decide +kernel
theorem cm_Tongue_howFar : Cond.code m_Tongue_howFar.1 m_Tongue_howFar.2.1 m_Tongue_howFar.2.2.1 m_Tongue_howFar.2.2.2 ∈ xTB := xin_tb 456 (by decide +kernel) (by decide +kernel)
theorem pm_Tongue_howFar : (parseMethodDescriptor y_Tongue_howFar.desc).map (fun d => d.parameters.length) = some 2 := by decide +kernel
theorem cm_X_hear : Cond.code m_X_hear.1 m_X_hear.2.1 m_X_hear.2.2.1 m_X_hear.2.2.2 ∈ xTB := xin_tb 462 (by decide +kernel) (by decide +kernel)
theorem pm_X_hear : (parseMethodDescriptor y_X_hear.desc).map (fun d => d.parameters.length) = some 1 := by decide +kernel
theorem cm_Ear_room : Cond.code m_Ear_room.1 m_Ear_room.2.1 m_Ear_room.2.2.1 m_Ear_room.2.2.2 ∈ xTB := xin_tb 466 (by decide +kernel) (by decide +kernel)
theorem pm_Ear_room : (parseMethodDescriptor y_Ear_room.desc).map (fun d => d.parameters.length) = some 0 := by decide +kernel
theorem cm_Ear_add : Cond.code m_Ear_add.1 m_Ear_add.2.1 m_Ear_add.2.2.1 m_Ear_add.2.2.2 ∈ xTB := xin_tb 470 (by decide +kernel) (by decide +kernel)
theorem pm_Ear_add : (parseMethodDescriptor y_Ear_add.desc).map (fun d => d.parameters.length) = some 1 := by decide +kernel
theorem cm_X_drum : Cond.code m_X_drum.1 m_X_drum.2.1 m_X_drum.2.2.1 m_X_drum.2.2.2 ∈ xTB := xin_tb 474 (by decide +kernel) (by decide +kernel)
theorem pm_X_drum : (parseMethodDescriptor y_X_drum.desc).map (fun d => d.parameters.length) = some 1 := by decide +kernel
theorem cm_Ear_size : Cond.code m_Ear_size.1 m_Ear_size.2.1 m_Ear_size.2.2.1 m_Ear_size.2.2.2 ∈ xTB := xin_tb 478 (by decide +kernel) (by decide +kernel)
theorem pm_Ear_size : (parseMethodDescriptor y_Ear_size.desc).map (fun d => d.parameters.length) = some 0 := by decide +kernel
theorem cm_X_slip : Cond.code m_X_slip.1 m_X_slip.2.1 m_X_slip.2.2.1 m_X_slip.2.2.2 ∈ xTB := xin_tb 482 (by decide +kernel) (by decide +kernel)
theorem pm_X_slip : (parseMethodDescriptor y_X_slip.desc).map (fun d => d.parameters.length) = some 2 := by decide +kernel
theorem cm_Ear_at : Cond.code m_Ear_at.1 m_Ear_at.2.1 m_Ear_at.2.2.1 m_Ear_at.2.2.2 ∈ xTB := xin_tb 486 (by decide +kernel) (by decide +kernel)
theorem pm_Ear_at : (parseMethodDescriptor y_Ear_at.desc).map (fun d => d.parameters.length) = some 1 := by decide +kernel
theorem cm_Ear_takeOut : Cond.code m_Ear_takeOut.1 m_Ear_takeOut.2.1 m_Ear_takeOut.2.2.1 m_Ear_takeOut.2.2.2 ∈ xTB := xin_tb 490 (by decide +kernel) (by decide +kernel)
theorem pm_Ear_takeOut : (parseMethodDescriptor y_Ear_takeOut.desc).map (fun d => d.parameters.length) = some 1 := by decide +kernel
theorem cm_Ear_change : Cond.code m_Ear_change.1 m_Ear_change.2.1 m_Ear_change.2.2.1 m_Ear_change.2.2.2 ∈ xTB := xin_tb 494 (by decide +kernel) (by decide +kernel)
theorem pm_Ear_change : (parseMethodDescriptor y_Ear_change.desc).map (fun d => d.parameters.length) = some 2 := by decide +kernel
theorem cm_X_hush : Cond.code m_X_hush.1 m_X_hush.2.1 m_X_hush.2.2.1 m_X_hush.2.2.2 ∈ xTB := xin_tb 498 (by decide +kernel) (by decide +kernel)
theorem pm_X_hush : (parseMethodDescriptor y_X_hush.desc).map (fun d => d.parameters.length) = some 0 := by decide +kernel
theorem cm_Ear_empty : Cond.code m_Ear_empty.1 m_Ear_empty.2.1 m_Ear_empty.2.2.1 m_Ear_empty.2.2.2 ∈ xTB := xin_tb 502 (by decide +kernel) (by decide +kernel)
theorem pm_Ear_empty : (parseMethodDescriptor y_Ear_empty.desc).map (fun d => d.parameters.length) = some 0 := by decide +kernel
theorem cm_X_read : Cond.code m_X_read.1 m_X_read.2.1 m_X_read.2.2.1 m_X_read.2.2.2 ∈ xTB := xin_tb 506 (by decide +kernel) (by decide +kernel)
theorem pm_X_read : (parseMethodDescriptor y_X_read.desc).map (fun d => d.parameters.length) = some 0 := by decide +kernel
theorem cm_Reader_readNow : Cond.code m_Reader_readNow.1 m_Reader_readNow.2.1 m_Reader_readNow.2.2.1 m_Reader_readNow.2.2.2 ∈ xTB := xin_tb 510 (by decide +kernel) (by decide +kernel)
theorem pm_Reader_readNow : (parseMethodDescriptor y_Reader_readNow.desc).map (fun d => d.parameters.length) = some 0 := by decide +kernel
theorem cm_Tongue_phraseCount : Cond.code m_Tongue_phraseCount.1 m_Tongue_phraseCount.2.1 m_Tongue_phraseCount.2.2.1 m_Tongue_phraseCount.2.2.2 ∈ xTB := xin_tb 514 (by decide +kernel) (by decide +kernel)
theorem pm_Tongue_phraseCount : (parseMethodDescriptor y_Tongue_phraseCount.desc).map (fun d => d.parameters.length) = some 0 := by decide +kernel
theorem cm_Reader_weighAllCounts : Cond.code m_Reader_weighAllCounts.1 m_Reader_weighAllCounts.2.1 m_Reader_weighAllCounts.2.2.1 m_Reader_weighAllCounts.2.2.2 ∈ xTB := xin_tb 518 (by decide +kernel) (by decide +kernel)
theorem pm_Reader_weighAllCounts : (parseMethodDescriptor y_Reader_weighAllCounts.desc).map (fun d => d.parameters.length) = some 0 := by decide +kernel
theorem cm_Reader_startFrom : Cond.code m_Reader_startFrom.1 m_Reader_startFrom.2.1 m_Reader_startFrom.2.2.1 m_Reader_startFrom.2.2.2 ∈ xTB := xin_tb 522 (by decide +kernel) (by decide +kernel)
theorem pm_Reader_startFrom : (parseMethodDescriptor y_Reader_startFrom.desc).map (fun d => d.parameters.length) = some 1 := by decide +kernel
theorem cm_Tongue_wordCount : Cond.code m_Tongue_wordCount.1 m_Tongue_wordCount.2.1 m_Tongue_wordCount.2.2.1 m_Tongue_wordCount.2.2.2 ∈ xTB := xin_tb 529 (by decide +kernel) (by decide +kernel)
theorem pm_Tongue_wordCount : (parseMethodDescriptor y_Tongue_wordCount.desc).map (fun d => d.parameters.length) = some 0 := by decide +kernel
theorem cm_Reader_copy : Cond.code m_Reader_copy.1 m_Reader_copy.2.1 m_Reader_copy.2.2.1 m_Reader_copy.2.2.2 ∈ xTB := xin_tb 534 (by decide +kernel) (by decide +kernel)
theorem pm_Reader_copy : (parseMethodDescriptor y_Reader_copy.desc).map (fun d => d.parameters.length) = some 2 := by decide +kernel
theorem cm_Reader_putInFront : Cond.code m_Reader_putInFront.1 m_Reader_putInFront.2.1 m_Reader_putInFront.2.2.1 m_Reader_putInFront.2.2.2 ∈ xTB := xin_tb 540 (by decide +kernel) (by decide +kernel)
theorem pm_Reader_putInFront : (parseMethodDescriptor y_Reader_putInFront.desc).map (fun d => d.parameters.length) = some 2 := by decide +kernel
theorem cm_Reader_putBeatInFront : Cond.code m_Reader_putBeatInFront.1 m_Reader_putBeatInFront.2.1 m_Reader_putBeatInFront.2.2.1 m_Reader_putBeatInFront.2.2.2 ∈ xTB := xin_tb 546 (by decide +kernel) (by decide +kernel)
theorem pm_Reader_putBeatInFront : (parseMethodDescriptor y_Reader_putBeatInFront.desc).map (fun d => d.parameters.length) = some 2 := by decide +kernel
theorem cm_Reader_costOf : Cond.code m_Reader_costOf.1 m_Reader_costOf.2.1 m_Reader_costOf.2.2.1 m_Reader_costOf.2.2.2 ∈ xTB := xin_tb 550 (by decide +kernel) (by decide +kernel)
theorem pm_Reader_costOf : (parseMethodDescriptor y_Reader_costOf.desc).map (fun d => d.parameters.length) = some 2 := by decide +kernel
theorem cm_Reader_takeLower : Cond.code m_Reader_takeLower.1 m_Reader_takeLower.2.1 m_Reader_takeLower.2.2.1 m_Reader_takeLower.2.2.2 ∈ xTB := xin_tb 554 (by decide +kernel) (by decide +kernel)
theorem pm_Reader_takeLower : (parseMethodDescriptor y_Reader_takeLower.desc).map (fun d => d.parameters.length) = some 2 := by decide +kernel
theorem cm_Reader_bestCount : Cond.code m_Reader_bestCount.1 m_Reader_bestCount.2.1 m_Reader_bestCount.2.2.1 m_Reader_bestCount.2.2.2 ∈ xTB := xin_tb 558 (by decide +kernel) (by decide +kernel)
theorem pm_Reader_bestCount : (parseMethodDescriptor y_Reader_bestCount.desc).map (fun d => d.parameters.length) = some 0 := by decide +kernel
theorem cm_Reader_spellFirstByNumbers : Cond.code m_Reader_spellFirstByNumbers.1 m_Reader_spellFirstByNumbers.2.1 m_Reader_spellFirstByNumbers.2.2.1 m_Reader_spellFirstByNumbers.2.2.2 ∈ xTB := xin_tb 562 (by decide +kernel) (by decide +kernel)
theorem pm_Reader_spellFirstByNumbers : (parseMethodDescriptor y_Reader_spellFirstByNumbers.desc).map (fun d => d.parameters.length) = some 0 := by decide +kernel
theorem cm_Reader_startUpTo : Cond.code m_Reader_startUpTo.1 m_Reader_startUpTo.2.1 m_Reader_startUpTo.2.2.1 m_Reader_startUpTo.2.2.2 ∈ xTB := xin_tb 566 (by decide +kernel) (by decide +kernel)
theorem pm_Reader_startUpTo : (parseMethodDescriptor y_Reader_startUpTo.desc).map (fun d => d.parameters.length) = some 1 := by decide +kernel
theorem cm_Reader_firstWordThatKeepsTheLeast : Cond.code m_Reader_firstWordThatKeepsTheLeast.1 m_Reader_firstWordThatKeepsTheLeast.2.1 m_Reader_firstWordThatKeepsTheLeast.2.2.1 m_Reader_firstWordThatKeepsTheLeast.2.2.2 ∈ xTB := xin_tb 570 (by decide +kernel) (by decide +kernel)
theorem pm_Reader_firstWordThatKeepsTheLeast : (parseMethodDescriptor y_Reader_firstWordThatKeepsTheLeast.desc).map (fun d => d.parameters.length) = some 1 := by decide +kernel
theorem cm_Reader_putBehind : Cond.code m_Reader_putBehind.1 m_Reader_putBehind.2.1 m_Reader_putBehind.2.2.1 m_Reader_putBehind.2.2.2 ∈ xTB := xin_tb 574 (by decide +kernel) (by decide +kernel)
theorem pm_Reader_putBehind : (parseMethodDescriptor y_Reader_putBehind.desc).map (fun d => d.parameters.length) = some 2 := by decide +kernel
theorem cm_Reader_putBeatBehind : Cond.code m_Reader_putBeatBehind.1 m_Reader_putBeatBehind.2.1 m_Reader_putBeatBehind.2.2.1 m_Reader_putBeatBehind.2.2.2 ∈ xTB := xin_tb 578 (by decide +kernel) (by decide +kernel)
theorem pm_Reader_putBeatBehind : (parseMethodDescriptor y_Reader_putBeatBehind.desc).map (fun d => d.parameters.length) = some 2 := by decide +kernel
theorem cm_Reader_leastTogether : Cond.code m_Reader_leastTogether.1 m_Reader_leastTogether.2.1 m_Reader_leastTogether.2.2.1 m_Reader_leastTogether.2.2.2 ∈ xTB := xin_tb 582 (by decide +kernel) (by decide +kernel)
theorem pm_Reader_leastTogether : (parseMethodDescriptor y_Reader_leastTogether.desc).map (fun d => d.parameters.length) = some 2 := by decide +kernel
theorem cm_Reader_keepAsLast : Cond.code m_Reader_keepAsLast.1 m_Reader_keepAsLast.2.1 m_Reader_keepAsLast.2.2.1 m_Reader_keepAsLast.2.2.2 ∈ xTB := xin_tb 586 (by decide +kernel) (by decide +kernel)
theorem pm_Reader_keepAsLast : (parseMethodDescriptor y_Reader_keepAsLast.desc).map (fun d => d.parameters.length) = some 0 := by decide +kernel
theorem cm_Reader_offNow : Cond.code m_Reader_offNow.1 m_Reader_offNow.2.1 m_Reader_offNow.2.2.1 m_Reader_offNow.2.2.2 ∈ xTB := xin_tb 590 (by decide +kernel) (by decide +kernel)
theorem pm_Reader_offNow : (parseMethodDescriptor y_Reader_offNow.desc).map (fun d => d.parameters.length) = some 0 := by decide +kernel
theorem cm_X_readAt : Cond.code m_X_readAt.1 m_X_readAt.2.1 m_X_readAt.2.2.1 m_X_readAt.2.2.2 ∈ xTB := xin_tb 594 (by decide +kernel) (by decide +kernel)
theorem pm_X_readAt : (parseMethodDescriptor y_X_readAt.desc).map (fun d => d.parameters.length) = some 1 := by decide +kernel
theorem cm_Reader_lastAt : Cond.code m_Reader_lastAt.1 m_Reader_lastAt.2.1 m_Reader_lastAt.2.2.1 m_Reader_lastAt.2.2.2 ∈ xTB := xin_tb 598 (by decide +kernel) (by decide +kernel)
theorem pm_Reader_lastAt : (parseMethodDescriptor y_Reader_lastAt.desc).map (fun d => d.parameters.length) = some 1 := by decide +kernel
theorem cm_X_doubt : Cond.code m_X_doubt.1 m_X_doubt.2.1 m_X_doubt.2.2.1 m_X_doubt.2.2.2 ∈ xTB := xin_tb 602 (by decide +kernel) (by decide +kernel)
theorem pm_X_doubt : (parseMethodDescriptor y_X_doubt.desc).map (fun d => d.parameters.length) = some 1 := by decide +kernel
theorem cm_Reader_sizeNow : Cond.code m_Reader_sizeNow.1 m_Reader_sizeNow.2.1 m_Reader_sizeNow.2.2.1 m_Reader_sizeNow.2.2.2 ∈ xTB := xin_tb 606 (by decide +kernel) (by decide +kernel)
theorem pm_Reader_sizeNow : (parseMethodDescriptor y_Reader_sizeNow.desc).map (fun d => d.parameters.length) = some 0 := by decide +kernel
theorem cm_Reader_doubtAt : Cond.code m_Reader_doubtAt.1 m_Reader_doubtAt.2.1 m_Reader_doubtAt.2.2.1 m_Reader_doubtAt.2.2.2 ∈ xTB := xin_tb 610 (by decide +kernel) (by decide +kernel)
theorem pm_Reader_doubtAt : (parseMethodDescriptor y_Reader_doubtAt.desc).map (fun d => d.parameters.length) = some 1 := by decide +kernel
theorem cm_Reader_weighAround : Cond.code m_Reader_weighAround.1 m_Reader_weighAround.2.1 m_Reader_weighAround.2.2.1 m_Reader_weighAround.2.2.2 ∈ xTB := xin_tb 614 (by decide +kernel) (by decide +kernel)
theorem pm_Reader_weighAround : (parseMethodDescriptor y_Reader_weighAround.desc).map (fun d => d.parameters.length) = some 1 := by decide +kernel
theorem cm_X_most : Cond.code m_X_most.1 m_X_most.2.1 m_X_most.2.2.1 m_X_most.2.2.2 ∈ xTB := xin_tb 618 (by decide +kernel) (by decide +kernel)
theorem pm_X_most : (parseMethodDescriptor y_X_most.desc).map (fun d => d.parameters.length) = some 0 := by decide +kernel
theorem cm_Reader_mostInDoubt : Cond.code m_Reader_mostInDoubt.1 m_Reader_mostInDoubt.2.1 m_Reader_mostInDoubt.2.2.1 m_Reader_mostInDoubt.2.2.2 ∈ xTB := xin_tb 622 (by decide +kernel) (by decide +kernel)
theorem pm_Reader_mostInDoubt : (parseMethodDescriptor y_Reader_mostInDoubt.desc).map (fun d => d.parameters.length) = some 0 := by decide +kernel
theorem cm_X_hill : Cond.code m_X_hill.1 m_X_hill.2.1 m_X_hill.2.2.1 m_X_hill.2.2.2 ∈ xTB := xin_tb 627 (by decide +kernel) (by decide +kernel)
theorem pm_X_hill : (parseMethodDescriptor y_X_hill.desc).map (fun d => d.parameters.length) = some 4 := by decide +kernel
theorem cm_Hills_arePair : Cond.code m_Hills_arePair.1 m_Hills_arePair.2.1 m_Hills_arePair.2.2.1 m_Hills_arePair.2.2.2 ∈ xTB := xin_tb 630 (by decide +kernel) (by decide +kernel)
theorem pm_Hills_arePair : (parseMethodDescriptor y_Hills_arePair.desc).map (fun d => d.parameters.length) = some 2 := by decide +kernel
theorem cm_Hills_isHill : Cond.code m_Hills_isHill.1 m_Hills_isHill.2.1 m_Hills_isHill.2.2.1 m_Hills_isHill.2.2.2 ∈ xTB := xin_tb 633 (by decide +kernel) (by decide +kernel)
theorem pm_Hills_isHill : (parseMethodDescriptor y_Hills_isHill.desc).map (fun d => d.parameters.length) = some 1 := by decide +kernel
theorem cm_Hills_join : Cond.code m_Hills_join.1 m_Hills_join.2.1 m_Hills_join.2.2.1 m_Hills_join.2.2.2 ∈ xTB := xin_tb 637 (by decide +kernel) (by decide +kernel)
theorem pm_Hills_join : (parseMethodDescriptor y_Hills_join.desc).map (fun d => d.parameters.length) = some 4 := by decide +kernel
theorem cm_X_way : Cond.code m_X_way.1 m_X_way.2.1 m_X_way.2.2.1 m_X_way.2.2.2 ∈ xTB := xin_tb 642 (by decide +kernel) (by decide +kernel)
theorem pm_X_way : (parseMethodDescriptor y_X_way.desc).map (fun d => d.parameters.length) = some 2 := by decide +kernel
theorem cm_Hills_findBest : Cond.code m_Hills_findBest.1 m_Hills_findBest.2.1 m_Hills_findBest.2.2.1 m_Hills_findBest.2.2.2 ∈ xTB := xin_tb 646 (by decide +kernel) (by decide +kernel)
theorem pm_Hills_findBest : (parseMethodDescriptor y_Hills_findBest.desc).map (fun d => d.parameters.length) = some 2 := by decide +kernel
theorem cm_Hills_walk : Cond.code m_Hills_walk.1 m_Hills_walk.2.1 m_Hills_walk.2.2.1 m_Hills_walk.2.2.2 ∈ xTB := xin_tb 651 (by decide +kernel) (by decide +kernel)
theorem pm_Hills_walk : (parseMethodDescriptor y_Hills_walk.desc).map (fun d => d.parameters.length) = some 4 := by decide +kernel
theorem cm_Hills_keepIfBetter : Cond.code m_Hills_keepIfBetter.1 m_Hills_keepIfBetter.2.1 m_Hills_keepIfBetter.2.2.1 m_Hills_keepIfBetter.2.2.2 ∈ xTB := xin_tb 655 (by decide +kernel) (by decide +kernel)
theorem pm_Hills_keepIfBetter : (parseMethodDescriptor y_Hills_keepIfBetter.desc).map (fun d => d.parameters.length) = some 3 := by decide +kernel
theorem cm_Hills_isOnPath : Cond.code m_Hills_isOnPath.1 m_Hills_isOnPath.2.1 m_Hills_isOnPath.2.2.1 m_Hills_isOnPath.2.2.2 ∈ xTB := xin_tb 660 (by decide +kernel) (by decide +kernel)
theorem pm_Hills_isOnPath : (parseMethodDescriptor y_Hills_isOnPath.desc).map (fun d => d.parameters.length) = some 2 := by decide +kernel
theorem cm_Hills_bestChance : Cond.code m_Hills_bestChance.1 m_Hills_bestChance.2.1 m_Hills_bestChance.2.2.1 m_Hills_bestChance.2.2.2 ∈ xTB := xin_tb 665 (by decide +kernel) (by decide +kernel)
theorem pm_Hills_bestChance : (parseMethodDescriptor y_Hills_bestChance.desc).map (fun d => d.parameters.length) = some 0 := by decide +kernel
theorem cm_X_wayAt : Cond.code m_X_wayAt.1 m_X_wayAt.2.1 m_X_wayAt.2.2.1 m_X_wayAt.2.2.2 ∈ xTB := xin_tb 669 (by decide +kernel) (by decide +kernel)
theorem pm_X_wayAt : (parseMethodDescriptor y_X_wayAt.desc).map (fun d => d.parameters.length) = some 3 := by decide +kernel
theorem cm_Hills_bestAt : Cond.code m_Hills_bestAt.1 m_Hills_bestAt.2.1 m_Hills_bestAt.2.2.1 m_Hills_bestAt.2.2.2 ∈ xTB := xin_tb 673 (by decide +kernel) (by decide +kernel)
theorem pm_Hills_bestAt : (parseMethodDescriptor y_Hills_bestAt.desc).map (fun d => d.parameters.length) = some 1 := by decide +kernel
theorem cm_X_age : Cond.code m_X_age.1 m_X_age.2.1 m_X_age.2.2.1 m_X_age.2.2.2 ∈ xTB := xin_tb 677 (by decide +kernel) (by decide +kernel)
theorem pm_X_age : (parseMethodDescriptor y_X_age.desc).map (fun d => d.parameters.length) = some 2 := by decide +kernel
theorem cm_Hills_bestHours : Cond.code m_Hills_bestHours.1 m_Hills_bestHours.2.1 m_Hills_bestHours.2.2.1 m_Hills_bestHours.2.2.2 ∈ xTB := xin_tb 681 (by decide +kernel) (by decide +kernel)
theorem pm_Hills_bestHours : (parseMethodDescriptor y_Hills_bestHours.desc).map (fun d => d.parameters.length) = some 0 := by decide +kernel
theorem cm_X_enough : Cond.code m_X_enough.1 m_X_enough.2.1 m_X_enough.2.2.1 m_X_enough.2.2.2 ∈ xTB := xin_tb 685 (by decide +kernel) (by decide +kernel)
theorem pm_X_enough : (parseMethodDescriptor y_X_enough.desc).map (fun d => d.parameters.length) = some 3 := by decide +kernel
theorem cm_Hills_findEnough : Cond.code m_Hills_findEnough.1 m_Hills_findEnough.2.1 m_Hills_findEnough.2.2.1 m_Hills_findEnough.2.2.2 ∈ xTB := xin_tb 690 (by decide +kernel) (by decide +kernel)
theorem pm_Hills_findEnough : (parseMethodDescriptor y_Hills_findEnough.desc).map (fun d => d.parameters.length) = some 3 := by decide +kernel
theorem cm_Hills_tryTimes : Cond.code m_Hills_tryTimes.1 m_Hills_tryTimes.2.1 m_Hills_tryTimes.2.2.1 m_Hills_tryTimes.2.2.2 ∈ xTB := xin_tb 695 (by decide +kernel) (by decide +kernel)
theorem pm_Hills_tryTimes : (parseMethodDescriptor y_Hills_tryTimes.desc).map (fun d => d.parameters.length) = some 4 := by decide +kernel
theorem cm_Hills_chanceBetween : Cond.code m_Hills_chanceBetween.1 m_Hills_chanceBetween.2.1 m_Hills_chanceBetween.2.2.1 m_Hills_chanceBetween.2.2.2 ∈ xTB := xin_tb 699 (by decide +kernel) (by decide +kernel)
theorem pm_Hills_chanceBetween : (parseMethodDescriptor y_Hills_chanceBetween.desc).map (fun d => d.parameters.length) = some 2 := by decide +kernel
theorem cm_Hills_heardBy : Cond.code m_Hills_heardBy.1 m_Hills_heardBy.2.1 m_Hills_heardBy.2.2.1 m_Hills_heardBy.2.2.2 ∈ xTB := xin_tb 702 (by decide +kernel) (by decide +kernel)
theorem pm_Hills_heardBy : (parseMethodDescriptor y_Hills_heardBy.desc).map (fun d => d.parameters.length) = some 2 := by decide +kernel
theorem cm_Hills_enoughSum : Cond.code m_Hills_enoughSum.1 m_Hills_enoughSum.2.1 m_Hills_enoughSum.2.2.1 m_Hills_enoughSum.2.2.2 ∈ xTB := xin_tb 706 (by decide +kernel) (by decide +kernel)
theorem pm_Hills_enoughSum : (parseMethodDescriptor y_Hills_enoughSum.desc).map (fun d => d.parameters.length) = some 0 := by decide +kernel
theorem cm_X_times : Cond.code m_X_times.1 m_X_times.2.1 m_X_times.2.2.1 m_X_times.2.2.2 ∈ xTB := xin_tb 710 (by decide +kernel) (by decide +kernel)
theorem pm_X_times : (parseMethodDescriptor y_X_times.desc).map (fun d => d.parameters.length) = some 4 := by decide +kernel
theorem cm_Hills_enoughAt : Cond.code m_Hills_enoughAt.1 m_Hills_enoughAt.2.1 m_Hills_enoughAt.2.2.1 m_Hills_enoughAt.2.2.2 ∈ xTB := xin_tb 714 (by decide +kernel) (by decide +kernel)
theorem pm_Hills_enoughAt : (parseMethodDescriptor y_Hills_enoughAt.desc).map (fun d => d.parameters.length) = some 1 := by decide +kernel
theorem cm_X_count : Cond.code m_X_count.1 m_X_count.2.1 m_X_count.2.2.1 m_X_count.2.2.2 ∈ xTB := xin_tb 718 (by decide +kernel) (by decide +kernel)
theorem pm_X_count : (parseMethodDescriptor y_X_count.desc).map (fun d => d.parameters.length) = some 1 := by decide +kernel
theorem cm_Tongue_endingCount : Cond.code m_Tongue_endingCount.1 m_Tongue_endingCount.2.1 m_Tongue_endingCount.2.2.1 m_Tongue_endingCount.2.2.2 ∈ xTB := xin_tb 723 (by decide +kernel) (by decide +kernel)
theorem pm_Tongue_endingCount : (parseMethodDescriptor y_Tongue_endingCount.desc).map (fun d => d.parameters.length) = some 0 := by decide +kernel
theorem cm_Tongue_boundNow : Cond.code m_Tongue_boundNow.1 m_Tongue_boundNow.2.1 m_Tongue_boundNow.2.2.1 m_Tongue_boundNow.2.2.2 ∈ xTB := xin_tb 727 (by decide +kernel) (by decide +kernel)
theorem pm_Tongue_boundNow : (parseMethodDescriptor y_Tongue_boundNow.desc).map (fun d => d.parameters.length) = some 0 := by decide +kernel
theorem cm_Tongue_beatsOfAllPhrases : Cond.code m_Tongue_beatsOfAllPhrases.1 m_Tongue_beatsOfAllPhrases.2.1 m_Tongue_beatsOfAllPhrases.2.2.1 m_Tongue_beatsOfAllPhrases.2.2.2 ∈ xTB := xin_tb 732 (by decide +kernel) (by decide +kernel)
theorem pm_Tongue_beatsOfAllPhrases : (parseMethodDescriptor y_Tongue_beatsOfAllPhrases.desc).map (fun d => d.parameters.length) = some 0 := by decide +kernel
theorem cm_Ear_gaps : Cond.code m_Ear_gaps.1 m_Ear_gaps.2.1 m_Ear_gaps.2.2.1 m_Ear_gaps.2.2.2 ∈ xTB := xin_tb 737 (by decide +kernel) (by decide +kernel)
theorem pm_Ear_gaps : (parseMethodDescriptor y_Ear_gaps.desc).map (fun d => d.parameters.length) = some 0 := by decide +kernel
theorem cm_Reader_lastSize : Cond.code m_Reader_lastSize.1 m_Reader_lastSize.2.1 m_Reader_lastSize.2.2.1 m_Reader_lastSize.2.2.2 ∈ xTB := xin_tb 741 (by decide +kernel) (by decide +kernel)
theorem pm_Reader_lastSize : (parseMethodDescriptor y_Reader_lastSize.desc).map (fun d => d.parameters.length) = some 0 := by decide +kernel
theorem cm_X_digest : Cond.code m_X_digest.1 m_X_digest.2.1 m_X_digest.2.2.1 m_X_digest.2.2.2 ∈ xTB := xin_tb 745 (by decide +kernel) (by decide +kernel)
theorem pm_X_digest : (parseMethodDescriptor y_X_digest.desc).map (fun d => d.parameters.length) = some 0 := by decide +kernel
theorem cm_Tongue_mixInto : Cond.code m_Tongue_mixInto.1 m_Tongue_mixInto.2.1 m_Tongue_mixInto.2.2.1 m_Tongue_mixInto.2.2.2 ∈ xTB := xin_tb 752 (by decide +kernel) (by decide +kernel)
theorem pm_Tongue_mixInto : (parseMethodDescriptor y_Tongue_mixInto.desc).map (fun d => d.parameters.length) = some 1 := by decide +kernel
theorem cm_Ear_mixInto : Cond.code m_Ear_mixInto.1 m_Ear_mixInto.2.1 m_Ear_mixInto.2.2.1 m_Ear_mixInto.2.2.2 ∈ xTB := xin_tb 759 (by decide +kernel) (by decide +kernel)
theorem pm_Ear_mixInto : (parseMethodDescriptor y_Ear_mixInto.desc).map (fun d => d.parameters.length) = some 1 := by decide +kernel
theorem cm_Reader_mixInto : Cond.code m_Reader_mixInto.1 m_Reader_mixInto.2.1 m_Reader_mixInto.2.2.1 m_Reader_mixInto.2.2.2 ∈ xTB := xin_tb 764 (by decide +kernel) (by decide +kernel)
theorem pm_Reader_mixInto : (parseMethodDescriptor y_Reader_mixInto.desc).map (fun d => d.parameters.length) = some 1 := by decide +kernel
theorem cm_Hills_mixInto : Cond.code m_Hills_mixInto.1 m_Hills_mixInto.2.1 m_Hills_mixInto.2.2.1 m_Hills_mixInto.2.2.2 ∈ xTB := xin_tb 769 (by decide +kernel) (by decide +kernel)
theorem pm_Hills_mixInto : (parseMethodDescriptor y_Hills_mixInto.desc).map (fun d => d.parameters.length) = some 1 := by decide +kernel
theorem cm_M_init : Cond.code m_M_init.1 m_M_init.2.1 m_M_init.2.2.1 m_M_init.2.2.2 ∈ xTB := xin_tb 775 (by decide +kernel) (by decide +kernel)
theorem pm_M_init : (parseMethodDescriptor y_M_init.desc).map (fun d => d.parameters.length) = some 0 := by decide +kernel
theorem cm_M_word : Cond.code m_M_word.1 m_M_word.2.1 m_M_word.2.2.1 m_M_word.2.2.2 ∈ xTB := xin_tb 899 (by decide +kernel) (by decide +kernel)
theorem pm_M_word : (parseMethodDescriptor y_M_word.desc).map (fun d => d.parameters.length) = some 2 := by decide +kernel
theorem cm_M_isRow : Cond.code m_M_isRow.1 m_M_isRow.2.1 m_M_isRow.2.2.1 m_M_isRow.2.2.2 ∈ xTB := xin_tb 902 (by decide +kernel) (by decide +kernel)
theorem pm_M_isRow : (parseMethodDescriptor y_M_isRow.desc).map (fun d => d.parameters.length) = some 2 := by decide +kernel
theorem cm_M_in : Cond.code m_M_in.1 m_M_in.2.1 m_M_in.2.2.1 m_M_in.2.2.2 ∈ xTB := xin_tb 906 (by decide +kernel) (by decide +kernel)
theorem pm_M_in : (parseMethodDescriptor y_M_in.desc).map (fun d => d.parameters.length) = some 3 := by decide +kernel
theorem cm_M_gone : Cond.code m_M_gone.1 m_M_gone.2.1 m_M_gone.2.2.1 m_M_gone.2.2.2 ∈ xTB := xin_tb 910 (by decide +kernel) (by decide +kernel)
theorem pm_M_gone : (parseMethodDescriptor y_M_gone.desc).map (fun d => d.parameters.length) = some 0 := by decide +kernel
theorem cm_M_ending : Cond.code m_M_ending.1 m_M_ending.2.1 m_M_ending.2.2.1 m_M_ending.2.2.2 ∈ xTB := xin_tb 914 (by decide +kernel) (by decide +kernel)
theorem pm_M_ending : (parseMethodDescriptor y_M_ending.desc).map (fun d => d.parameters.length) = some 2 := by decide +kernel
theorem cm_M_bound : Cond.code m_M_bound.1 m_M_bound.2.1 m_M_bound.2.2.1 m_M_bound.2.2.2 ∈ xTB := xin_tb 918 (by decide +kernel) (by decide +kernel)
theorem pm_M_bound : (parseMethodDescriptor y_M_bound.desc).map (fun d => d.parameters.length) = some 1 := by decide +kernel
theorem cm_M_choose : Cond.code m_M_choose.1 m_M_choose.2.1 m_M_choose.2.2.1 m_M_choose.2.2.2 ∈ xTB := xin_tb 923 (by decide +kernel) (by decide +kernel)
theorem pm_M_choose : (parseMethodDescriptor y_M_choose.desc).map (fun d => d.parameters.length) = some 0 := by decide +kernel
theorem cm_M_order : Cond.code m_M_order.1 m_M_order.2.1 m_M_order.2.2.1 m_M_order.2.2.2 ∈ xTB := xin_tb 927 (by decide +kernel) (by decide +kernel)
theorem pm_M_order : (parseMethodDescriptor y_M_order.desc).map (fun d => d.parameters.length) = some 0 := by decide +kernel
theorem cm_M_come : Cond.code m_M_come.1 m_M_come.2.1 m_M_come.2.2.1 m_M_come.2.2.2 ∈ xTB := xin_tb 931 (by decide +kernel) (by decide +kernel)
theorem pm_M_come : (parseMethodDescriptor y_M_come.desc).map (fun d => d.parameters.length) = some 4 := by decide +kernel
theorem cm_M_isLater : Cond.code m_M_isLater.1 m_M_isLater.2.1 m_M_isLater.2.2.1 m_M_isLater.2.2.2 ∈ xTB := xin_tb 935 (by decide +kernel) (by decide +kernel)
theorem pm_M_isLater : (parseMethodDescriptor y_M_isLater.desc).map (fun d => d.parameters.length) = some 5 := by decide +kernel
theorem cm_M_isFree : Cond.code m_M_isFree.1 m_M_isFree.2.1 m_M_isFree.2.2.1 m_M_isFree.2.2.2 ∈ xTB := xin_tb 939 (by decide +kernel) (by decide +kernel)
theorem pm_M_isFree : (parseMethodDescriptor y_M_isFree.desc).map (fun d => d.parameters.length) = some 3 := by decide +kernel
theorem cm_M_isApart : Cond.code m_M_isApart.1 m_M_isApart.2.1 m_M_isApart.2.2.1 m_M_isApart.2.2.2 ∈ xTB := xin_tb 943 (by decide +kernel) (by decide +kernel)
theorem pm_M_isApart : (parseMethodDescriptor y_M_isApart.desc).map (fun d => d.parameters.length) = some 4 := by decide +kernel
theorem cm_M_bitsOf : Cond.code m_M_bitsOf.1 m_M_bitsOf.2.1 m_M_bitsOf.2.2.1 m_M_bitsOf.2.2.2 ∈ xTB := xin_tb 947 (by decide +kernel) (by decide +kernel)
theorem pm_M_bitsOf : (parseMethodDescriptor y_M_bitsOf.desc).map (fun d => d.parameters.length) = some 2 := by decide +kernel
theorem cm_M_apart : Cond.code m_M_apart.1 m_M_apart.2.1 m_M_apart.2.2.1 m_M_apart.2.2.2 ∈ xTB := xin_tb 951 (by decide +kernel) (by decide +kernel)
theorem pm_M_apart : (parseMethodDescriptor y_M_apart.desc).map (fun d => d.parameters.length) = some 4 := by decide +kernel
theorem cm_M_ones : Cond.code m_M_ones.1 m_M_ones.2.1 m_M_ones.2.2.1 m_M_ones.2.2.2 ∈ xTB := xin_tb 954 (by decide +kernel) (by decide +kernel)
theorem pm_M_ones : (parseMethodDescriptor y_M_ones.desc).map (fun d => d.parameters.length) = some 1 := by decide +kernel
theorem cm_M_phrased : Cond.code m_M_phrased.1 m_M_phrased.2.1 m_M_phrased.2.2.1 m_M_phrased.2.2.2 ∈ xTB := xin_tb 958 (by decide +kernel) (by decide +kernel)
theorem pm_M_phrased : (parseMethodDescriptor y_M_phrased.desc).map (fun d => d.parameters.length) = some 0 := by decide +kernel
theorem cm_M_least : Cond.code m_M_least.1 m_M_least.2.1 m_M_least.2.2.1 m_M_least.2.2.2 ∈ xTB := xin_tb 962 (by decide +kernel) (by decide +kernel)
theorem pm_M_least : (parseMethodDescriptor y_M_least.desc).map (fun d => d.parameters.length) = some 0 := by decide +kernel
theorem cm_M_length : Cond.code m_M_length.1 m_M_length.2.1 m_M_length.2.2.1 m_M_length.2.2.2 ∈ xTB := xin_tb 967 (by decide +kernel) (by decide +kernel)
theorem pm_M_length : (parseMethodDescriptor y_M_length.desc).map (fun d => d.parameters.length) = some 1 := by decide +kernel
theorem cm_M_isWord : Cond.code m_M_isWord.1 m_M_isWord.2.1 m_M_isWord.2.2.1 m_M_isWord.2.2.2 ∈ xTB := xin_tb 971 (by decide +kernel) (by decide +kernel)
theorem pm_M_isWord : (parseMethodDescriptor y_M_isWord.desc).map (fun d => d.parameters.length) = some 1 := by decide +kernel
theorem cm_M_lengthOf : Cond.code m_M_lengthOf.1 m_M_lengthOf.2.1 m_M_lengthOf.2.2.1 m_M_lengthOf.2.2.2 ∈ xTB := xin_tb 975 (by decide +kernel) (by decide +kernel)
theorem pm_M_lengthOf : (parseMethodDescriptor y_M_lengthOf.desc).map (fun d => d.parameters.length) = some 1 := by decide +kernel
theorem cm_M_beat : Cond.code m_M_beat.1 m_M_beat.2.1 m_M_beat.2.2.1 m_M_beat.2.2.2 ∈ xTB := xin_tb 979 (by decide +kernel) (by decide +kernel)
theorem pm_M_beat : (parseMethodDescriptor y_M_beat.desc).map (fun d => d.parameters.length) = some 2 := by decide +kernel
theorem cm_M_beatOf : Cond.code m_M_beatOf.1 m_M_beatOf.2.1 m_M_beatOf.2.2.1 m_M_beatOf.2.2.2 ∈ xTB := xin_tb 983 (by decide +kernel) (by decide +kernel)
theorem pm_M_beatOf : (parseMethodDescriptor y_M_beatOf.desc).map (fun d => d.parameters.length) = some 2 := by decide +kernel
theorem cm_M_endingAt : Cond.code m_M_endingAt.1 m_M_endingAt.2.1 m_M_endingAt.2.2.1 m_M_endingAt.2.2.2 ∈ xTB := xin_tb 987 (by decide +kernel) (by decide +kernel)
theorem pm_M_endingAt : (parseMethodDescriptor y_M_endingAt.desc).map (fun d => d.parameters.length) = some 2 := by decide +kernel
theorem cm_M_far : Cond.code m_M_far.1 m_M_far.2.1 m_M_far.2.2.1 m_M_far.2.2.2 ∈ xTB := xin_tb 991 (by decide +kernel) (by decide +kernel)
theorem pm_M_far : (parseMethodDescriptor y_M_far.desc).map (fun d => d.parameters.length) = some 2 := by decide +kernel
theorem cm_M_hear : Cond.code m_M_hear.1 m_M_hear.2.1 m_M_hear.2.2.1 m_M_hear.2.2.2 ∈ xTB := xin_tb 995 (by decide +kernel) (by decide +kernel)
theorem pm_M_hear : (parseMethodDescriptor y_M_hear.desc).map (fun d => d.parameters.length) = some 1 := by decide +kernel
theorem cm_M_drum : Cond.code m_M_drum.1 m_M_drum.2.1 m_M_drum.2.2.1 m_M_drum.2.2.2 ∈ xTB := xin_tb 1000 (by decide +kernel) (by decide +kernel)
theorem pm_M_drum : (parseMethodDescriptor y_M_drum.desc).map (fun d => d.parameters.length) = some 1 := by decide +kernel
theorem cm_M_slip : Cond.code m_M_slip.1 m_M_slip.2.1 m_M_slip.2.2.1 m_M_slip.2.2.2 ∈ xTB := xin_tb 1004 (by decide +kernel) (by decide +kernel)
theorem pm_M_slip : (parseMethodDescriptor y_M_slip.desc).map (fun d => d.parameters.length) = some 2 := by decide +kernel
theorem cm_M_hush : Cond.code m_M_hush.1 m_M_hush.2.1 m_M_hush.2.2.1 m_M_hush.2.2.2 ∈ xTB := xin_tb 1009 (by decide +kernel) (by decide +kernel)
theorem pm_M_hush : (parseMethodDescriptor y_M_hush.desc).map (fun d => d.parameters.length) = some 0 := by decide +kernel
theorem cm_M_read : Cond.code m_M_read.1 m_M_read.2.1 m_M_read.2.2.1 m_M_read.2.2.2 ∈ xTB := xin_tb 1013 (by decide +kernel) (by decide +kernel)
theorem pm_M_read : (parseMethodDescriptor y_M_read.desc).map (fun d => d.parameters.length) = some 0 := by decide +kernel
theorem cm_M_reading : Cond.code m_M_reading.1 m_M_reading.2.1 m_M_reading.2.2.1 m_M_reading.2.2.2 ∈ xTB := xin_tb 1017 (by decide +kernel) (by decide +kernel)
theorem pm_M_reading : (parseMethodDescriptor y_M_reading.desc).map (fun d => d.parameters.length) = some 0 := by decide +kernel
theorem cm_M_restFrom : Cond.code m_M_restFrom.1 m_M_restFrom.2.1 m_M_restFrom.2.2.1 m_M_restFrom.2.2.2 ∈ xTB := xin_tb 1021 (by decide +kernel) (by decide +kernel)
theorem pm_M_restFrom : (parseMethodDescriptor y_M_restFrom.desc).map (fun d => d.parameters.length) = some 1 := by decide +kernel
theorem cm_M_ahead : Cond.code m_M_ahead.1 m_M_ahead.2.1 m_M_ahead.2.2.1 m_M_ahead.2.2.2 ∈ xTB := xin_tb 1025 (by decide +kernel) (by decide +kernel)
theorem pm_M_ahead : (parseMethodDescriptor y_M_ahead.desc).map (fun d => d.parameters.length) = some 1 := by decide +kernel
theorem cm_M_lesser : Cond.code m_M_lesser.1 m_M_lesser.2.1 m_M_lesser.2.2.1 m_M_lesser.2.2.2 ∈ xTB := xin_tb 1028 (by decide +kernel) (by decide +kernel)
theorem pm_M_lesser : (parseMethodDescriptor y_M_lesser.desc).map (fun d => d.parameters.length) = some 2 := by decide +kernel
theorem cm_M_off : Cond.code m_M_off.1 m_M_off.2.1 m_M_off.2.2.1 m_M_off.2.2.2 ∈ xTB := xin_tb 1032 (by decide +kernel) (by decide +kernel)
theorem pm_M_off : (parseMethodDescriptor y_M_off.desc).map (fun d => d.parameters.length) = some 2 := by decide +kernel
theorem cm_M_behind : Cond.code m_M_behind.1 m_M_behind.2.1 m_M_behind.2.2.1 m_M_behind.2.2.2 ∈ xTB := xin_tb 1036 (by decide +kernel) (by decide +kernel)
theorem pm_M_behind : (parseMethodDescriptor y_M_behind.desc).map (fun d => d.parameters.length) = some 1 := by decide +kernel
theorem cm_M_readAt : Cond.code m_M_readAt.1 m_M_readAt.2.1 m_M_readAt.2.2.1 m_M_readAt.2.2.2 ∈ xTB := xin_tb 1040 (by decide +kernel) (by decide +kernel)
theorem pm_M_readAt : (parseMethodDescriptor y_M_readAt.desc).map (fun d => d.parameters.length) = some 1 := by decide +kernel
theorem cm_M_doubt : Cond.code m_M_doubt.1 m_M_doubt.2.1 m_M_doubt.2.2.1 m_M_doubt.2.2.2 ∈ xTB := xin_tb 1044 (by decide +kernel) (by decide +kernel)
theorem pm_M_doubt : (parseMethodDescriptor y_M_doubt.desc).map (fun d => d.parameters.length) = some 1 := by decide +kernel
theorem cm_M_doubtOf : Cond.code m_M_doubtOf.1 m_M_doubtOf.2.1 m_M_doubtOf.2.2.1 m_M_doubtOf.2.2.2 ∈ xTB := xin_tb 1048 (by decide +kernel) (by decide +kernel)
theorem pm_M_doubtOf : (parseMethodDescriptor y_M_doubtOf.desc).map (fun d => d.parameters.length) = some 2 := by decide +kernel
theorem cm_M_offWith : Cond.code m_M_offWith.1 m_M_offWith.2.1 m_M_offWith.2.2.1 m_M_offWith.2.2.2 ∈ xTB := xin_tb 1052 (by decide +kernel) (by decide +kernel)
theorem pm_M_offWith : (parseMethodDescriptor y_M_offWith.desc).map (fun d => d.parameters.length) = some 2 := by decide +kernel
theorem cm_M_most : Cond.code m_M_most.1 m_M_most.2.1 m_M_most.2.2.1 m_M_most.2.2.2 ∈ xTB := xin_tb 1056 (by decide +kernel) (by decide +kernel)
theorem pm_M_most : (parseMethodDescriptor y_M_most.desc).map (fun d => d.parameters.length) = some 0 := by decide +kernel
theorem cm_M_hill : Cond.code m_M_hill.1 m_M_hill.2.1 m_M_hill.2.2.1 m_M_hill.2.2.2 ∈ xTB := xin_tb 1060 (by decide +kernel) (by decide +kernel)
theorem pm_M_hill : (parseMethodDescriptor y_M_hill.desc).map (fun d => d.parameters.length) = some 4 := by decide +kernel
theorem cm_M_isHill : Cond.code m_M_isHill.1 m_M_isHill.2.1 m_M_isHill.2.2.1 m_M_isHill.2.2.2 ∈ xTB := xin_tb 1063 (by decide +kernel) (by decide +kernel)
theorem pm_M_isHill : (parseMethodDescriptor y_M_isHill.desc).map (fun d => d.parameters.length) = some 1 := by decide +kernel
theorem cm_M_way : Cond.code m_M_way.1 m_M_way.2.1 m_M_way.2.2.1 m_M_way.2.2.2 ∈ xTB := xin_tb 1070 (by decide +kernel) (by decide +kernel)
theorem pm_M_way : (parseMethodDescriptor y_M_way.desc).map (fun d => d.parameters.length) = some 2 := by decide +kernel
theorem cm_M_areHills : Cond.code m_M_areHills.1 m_M_areHills.2.1 m_M_areHills.2.2.1 m_M_areHills.2.2.2 ∈ xTB := xin_tb 1073 (by decide +kernel) (by decide +kernel)
theorem pm_M_areHills : (parseMethodDescriptor y_M_areHills.desc).map (fun d => d.parameters.length) = some 2 := by decide +kernel
theorem cm_M_look : Cond.code m_M_look.1 m_M_look.2.1 m_M_look.2.2.1 m_M_look.2.2.2 ∈ xTB := xin_tb 1077 (by decide +kernel) (by decide +kernel)
theorem pm_M_look : (parseMethodDescriptor y_M_look.desc).map (fun d => d.parameters.length) = some 2 := by decide +kernel
theorem cm_M_wayAt : Cond.code m_M_wayAt.1 m_M_wayAt.2.1 m_M_wayAt.2.2.1 m_M_wayAt.2.2.2 ∈ xTB := xin_tb 1082 (by decide +kernel) (by decide +kernel)
theorem pm_M_wayAt : (parseMethodDescriptor y_M_wayAt.desc).map (fun d => d.parameters.length) = some 3 := by decide +kernel
theorem cm_M_age : Cond.code m_M_age.1 m_M_age.2.1 m_M_age.2.2.1 m_M_age.2.2.2 ∈ xTB := xin_tb 1086 (by decide +kernel) (by decide +kernel)
theorem pm_M_age : (parseMethodDescriptor y_M_age.desc).map (fun d => d.parameters.length) = some 2 := by decide +kernel
theorem cm_M_enough : Cond.code m_M_enough.1 m_M_enough.2.1 m_M_enough.2.2.1 m_M_enough.2.2.2 ∈ xTB := xin_tb 1090 (by decide +kernel) (by decide +kernel)
theorem pm_M_enough : (parseMethodDescriptor y_M_enough.desc).map (fun d => d.parameters.length) = some 3 := by decide +kernel
theorem cm_M_enoughFor : Cond.code m_M_enoughFor.1 m_M_enoughFor.2.1 m_M_enoughFor.2.2.1 m_M_enoughFor.2.2.2 ∈ xTB := xin_tb 1094 (by decide +kernel) (by decide +kernel)
theorem pm_M_enoughFor : (parseMethodDescriptor y_M_enoughFor.desc).map (fun d => d.parameters.length) = some 3 := by decide +kernel
theorem cm_M_times : Cond.code m_M_times.1 m_M_times.2.1 m_M_times.2.2.1 m_M_times.2.2.2 ∈ xTB := xin_tb 1098 (by decide +kernel) (by decide +kernel)
theorem pm_M_times : (parseMethodDescriptor y_M_times.desc).map (fun d => d.parameters.length) = some 4 := by decide +kernel
theorem cm_M_count : Cond.code m_M_count.1 m_M_count.2.1 m_M_count.2.2.1 m_M_count.2.2.2 ∈ xTB := xin_tb 1102 (by decide +kernel) (by decide +kernel)
theorem pm_M_count : (parseMethodDescriptor y_M_count.desc).map (fun d => d.parameters.length) = some 1 := by decide +kernel
theorem cm_M_digest : Cond.code m_M_digest.1 m_M_digest.2.1 m_M_digest.2.2.1 m_M_digest.2.2.2 ∈ xTB := xin_tb 1107 (by decide +kernel) (by decide +kernel)
theorem pm_M_digest : (parseMethodDescriptor y_M_digest.desc).map (fun d => d.parameters.length) = some 0 := by decide +kernel
theorem ik_0 : Cond.initialized "DrumTongue$Ear" ∈ xTB := xin_tb 56 (by decide +kernel) (by decide +kernel)
theorem wk_0 : ∀ w ∈ u_ws RX0 TX0 2, w ∈ xTB := by decide +kernel
theorem ik_1 : Cond.initialized "DrumTongue$Hills" ∈ xTB := xin_tb 58 (by decide +kernel) (by decide +kernel)
theorem wk_1 : ∀ w ∈ u_ws RX1 TX1 10, w ∈ xTB := by decide +kernel
theorem ik_2 : Cond.initialized "DrumTongue$Reader" ∈ xTB := xin_tb 57 (by decide +kernel) (by decide +kernel)
theorem wk_2 : ∀ w ∈ u_ws RX2 TX2 11, w ∈ xTB := by decide +kernel
theorem ik_3 : Cond.initialized "DrumTongue$Rows" ∈ xTB := xin_tb 52 (by decide +kernel) (by decide +kernel)
theorem wk_3 : ∀ w ∈ u_ws RX3 TX3 3, w ∈ xTB := by decide +kernel
theorem ik_4 : Cond.initialized "DrumTongue$Tails" ∈ xTB := xin_tb 54 (by decide +kernel) (by decide +kernel)
theorem wk_4 : ∀ w ∈ u_ws RX4 TX4 3, w ∈ xTB := by decide +kernel
theorem ik_5 : Cond.initialized "DrumTongue$Tongue" ∈ xTB := xin_tb 51 (by decide +kernel) (by decide +kernel)
theorem wk_5 : ∀ w ∈ u_ws RX5 TX5 12, w ∈ xTB := by decide +kernel
theorem ik_6 : Cond.initialized "DrumTongue" ∈ xTB := xin_tb 50 (by decide +kernel) (by decide +kernel)
theorem wk_6 : ∀ w ∈ u_ws RX6 TX6 4, w ∈ xTB := by decide +kernel
theorem ik_7 : Cond.initialized "DrumTongueModel" ∈ xTB := xin_tb 59 (by decide +kernel) (by decide +kernel)
theorem wk_7 : ∀ w ∈ u_ws RX7 TX7 39, w ∈ xTB := by decide +kernel
theorem xf_X_10 : xFld "DrumTongue" 10 6 0 (.object "DrumTongue$Tongue") true false := ⟨RX6, TX6, 4, tyX6, rfl, by decide, wk_6, tyX6_ok, nmX6, rfl, rfl, fun _ => ⟨xin_tb 268 (by decide +kernel) (by decide +kernel), fun _ => rfl⟩, fun q => by cases q⟩
theorem xf_X_19 : xFld "DrumTongue" 19 6 1 (.object "DrumTongue$Ear") true false := ⟨RX6, TX6, 4, tyX6, rfl, by decide, wk_6, tyX6_ok, nmX6, rfl, rfl, fun _ => ⟨xin_tb 269 (by decide +kernel) (by decide +kernel), fun _ => rfl⟩, fun q => by cases q⟩
theorem xf_X_28 : xFld "DrumTongue" 28 6 2 (.object "DrumTongue$Reader") true false := ⟨RX6, TX6, 4, tyX6, rfl, by decide, wk_6, tyX6_ok, nmX6, rfl, rfl, fun _ => ⟨xin_tb 270 (by decide +kernel) (by decide +kernel), fun _ => rfl⟩, fun q => by cases q⟩
theorem xf_X_35 : xFld "DrumTongue" 35 6 3 (.object "DrumTongue$Hills") true false := ⟨RX6, TX6, 4, tyX6, rfl, by decide, wk_6, tyX6_ok, nmX6, rfl, rfl, fun _ => ⟨xin_tb 271 (by decide +kernel) (by decide +kernel), fun _ => rfl⟩, fun q => by cases q⟩
theorem xk_X_1 : xMk "DrumTongue" 1 (3, (objectInit, ⟨#[0xb1]⟩, 1, none), 0, 0) := ⟨xin_tb 67 (by decide +kernel) (by decide +kernel), xin_tb 68 (by decide +kernel) (by decide +kernel), xin_tb 69 (by decide +kernel) (by decide +kernel)⟩
theorem xk_X_9 : xMk "DrumTongue" 9 (2, m_Tongue_init, 0, 0) := ⟨⟨Or.inl (xin_tb 72 (by decide +kernel) (by decide +kernel)), cm_Tongue_init, ik_5, (by decide +kernel), (by decide +kernel), pm_Tongue_init⟩, (xin_tb 73 (by decide +kernel) (by decide +kernel)), rfl, rfl⟩
theorem xk_X_18 : xMk "DrumTongue" 18 (2, m_Ear_init, 0, 0) := ⟨⟨Or.inr ⟨rfl, rfl, rfl⟩, cm_Ear_init, ik_0, (by decide +kernel), (by decide +kernel), pm_Ear_init⟩, (xin_tb 177 (by decide +kernel) (by decide +kernel)), rfl, rfl⟩
theorem xk_X_25 : xMk "DrumTongue" 25 (2, m_Reader_init, 2, 0) := ⟨⟨Or.inl (xin_tb 189 (by decide +kernel) (by decide +kernel)), cm_Reader_init, ik_2, (by decide +kernel), (by decide +kernel), pm_Reader_init⟩, (xin_tb 190 (by decide +kernel) (by decide +kernel)), rfl, rfl⟩
theorem xk_X_34 : xMk "DrumTongue" 34 (2, m_Hills_init, 0, 0) := ⟨⟨Or.inl (xin_tb 231 (by decide +kernel) (by decide +kernel)), cm_Hills_init, ik_1, (by decide +kernel), (by decide +kernel), pm_Hills_init⟩, (xin_tb 232 (by decide +kernel) (by decide +kernel)), rfl, rfl⟩
theorem xk_X_39 : xMk "DrumTongue" 39 (0, m_Rows_isRow, 2, 0) := ⟨⟨Or.inl (xin_tb 285 (by decide +kernel) (by decide +kernel)), cm_Rows_isRow, ik_3, (by decide +kernel), (by decide +kernel), pm_Rows_isRow⟩, (xin_tb 286 (by decide +kernel) (by decide +kernel))⟩
theorem xk_X_45 : xMk "DrumTongue" 45 (1, m_Tongue_addWord, 2, 5) := ⟨⟨Or.inl (xin_tb 288 (by decide +kernel) (by decide +kernel)), cm_Tongue_addWord, ik_5, (by decide +kernel), (by decide +kernel), pm_Tongue_addWord⟩, (xin_tb 289 (by decide +kernel) (by decide +kernel)), (xin_tb 290 (by decide +kernel) (by decide +kernel)), TX5, 12, rfl⟩
theorem xk_X_49 : xMk "DrumTongue" 49 (1, m_Tongue_addEnding, 2, 5) := ⟨⟨Or.inl (xin_tb 299 (by decide +kernel) (by decide +kernel)), cm_Tongue_addEnding, ik_5, (by decide +kernel), (by decide +kernel), pm_Tongue_addEnding⟩, (xin_tb 300 (by decide +kernel) (by decide +kernel)), (xin_tb 301 (by decide +kernel) (by decide +kernel)), TX5, 12, rfl⟩
theorem xk_X_52 : xMk "DrumTongue" 52 (1, m_Tongue_changeBound, 1, 5) := ⟨⟨Or.inl (xin_tb 331 (by decide +kernel) (by decide +kernel)), cm_Tongue_changeBound, ik_5, (by decide +kernel), (by decide +kernel), pm_Tongue_changeBound⟩, (xin_tb 332 (by decide +kernel) (by decide +kernel)), (xin_tb 333 (by decide +kernel) (by decide +kernel)), TX5, 12, rfl⟩
theorem xk_X_56 : xMk "DrumTongue" 56 (1, m_Tongue_chooseInTurn, 0, 5) := ⟨⟨Or.inl (xin_tb 339 (by decide +kernel) (by decide +kernel)), cm_Tongue_chooseInTurn, ik_5, (by decide +kernel), (by decide +kernel), pm_Tongue_chooseInTurn⟩, (xin_tb 340 (by decide +kernel) (by decide +kernel)), (xin_tb 341 (by decide +kernel) (by decide +kernel)), TX5, 12, rfl⟩
theorem xk_X_60 : xMk "DrumTongue" 60 (1, m_Tongue_chooseForTheLeast, 0, 5) := ⟨⟨Or.inl (xin_tb 400 (by decide +kernel) (by decide +kernel)), cm_Tongue_chooseForTheLeast, ik_5, (by decide +kernel), (by decide +kernel), pm_Tongue_chooseForTheLeast⟩, (xin_tb 401 (by decide +kernel) (by decide +kernel)), (xin_tb 402 (by decide +kernel) (by decide +kernel)), TX5, 12, rfl⟩
theorem xk_X_63 : xMk "DrumTongue" 63 (1, m_Tongue_isWord, 1, 5) := ⟨⟨Or.inl (xin_tb 416 (by decide +kernel) (by decide +kernel)), cm_Tongue_isWord, ik_5, (by decide +kernel), (by decide +kernel), pm_Tongue_isWord⟩, (xin_tb 417 (by decide +kernel) (by decide +kernel)), (xin_tb 418 (by decide +kernel) (by decide +kernel)), TX5, 12, rfl⟩
theorem xk_X_67 : xMk "DrumTongue" 67 (1, m_Tongue_hasPhrase, 1, 5) := ⟨⟨Or.inl (xin_tb 420 (by decide +kernel) (by decide +kernel)), cm_Tongue_hasPhrase, ik_5, (by decide +kernel), (by decide +kernel), pm_Tongue_hasPhrase⟩, (xin_tb 421 (by decide +kernel) (by decide +kernel)), (xin_tb 422 (by decide +kernel) (by decide +kernel)), TX5, 12, rfl⟩
theorem xk_X_70 : xMk "DrumTongue" 70 (1, m_Tongue_phraseSize, 1, 5) := ⟨⟨Or.inl (xin_tb 424 (by decide +kernel) (by decide +kernel)), cm_Tongue_phraseSize, ik_5, (by decide +kernel), (by decide +kernel), pm_Tongue_phraseSize⟩, (xin_tb 425 (by decide +kernel) (by decide +kernel)), (xin_tb 426 (by decide +kernel) (by decide +kernel)), TX5, 12, rfl⟩
theorem xk_X_73 : xMk "DrumTongue" 73 (1, m_Tongue_phraseBeat, 2, 5) := ⟨⟨Or.inl (xin_tb 433 (by decide +kernel) (by decide +kernel)), cm_Tongue_phraseBeat, ik_5, (by decide +kernel), (by decide +kernel), pm_Tongue_phraseBeat⟩, (xin_tb 434 (by decide +kernel) (by decide +kernel)), (xin_tb 435 (by decide +kernel) (by decide +kernel)), TX5, 12, rfl⟩
theorem xk_X_76 : xMk "DrumTongue" 76 (1, m_Tongue_phraseEnding, 2, 5) := ⟨⟨Or.inl (xin_tb 441 (by decide +kernel) (by decide +kernel)), cm_Tongue_phraseEnding, ik_5, (by decide +kernel), (by decide +kernel), pm_Tongue_phraseEnding⟩, (xin_tb 442 (by decide +kernel) (by decide +kernel)), (xin_tb 443 (by decide +kernel) (by decide +kernel)), TX5, 12, rfl⟩
theorem xk_X_79 : xMk "DrumTongue" 79 (1, m_Tongue_howFar, 2, 5) := ⟨⟨Or.inl (xin_tb 453 (by decide +kernel) (by decide +kernel)), cm_Tongue_howFar, ik_5, (by decide +kernel), (by decide +kernel), pm_Tongue_howFar⟩, (xin_tb 454 (by decide +kernel) (by decide +kernel)), (xin_tb 455 (by decide +kernel) (by decide +kernel)), TX5, 12, rfl⟩
theorem xk_X_82 : xMk "DrumTongue" 82 (1, m_Ear_room, 0, 0) := ⟨⟨Or.inl (xin_tb 463 (by decide +kernel) (by decide +kernel)), cm_Ear_room, ik_0, (by decide +kernel), (by decide +kernel), pm_Ear_room⟩, (xin_tb 464 (by decide +kernel) (by decide +kernel)), (xin_tb 465 (by decide +kernel) (by decide +kernel)), TX0, 2, rfl⟩
theorem xk_X_85 : xMk "DrumTongue" 85 (1, m_Ear_add, 1, 0) := ⟨⟨Or.inl (xin_tb 467 (by decide +kernel) (by decide +kernel)), cm_Ear_add, ik_0, (by decide +kernel), (by decide +kernel), pm_Ear_add⟩, (xin_tb 468 (by decide +kernel) (by decide +kernel)), (xin_tb 469 (by decide +kernel) (by decide +kernel)), TX0, 2, rfl⟩
theorem xk_X_88 : xMk "DrumTongue" 88 (1, m_Ear_size, 0, 0) := ⟨⟨Or.inl (xin_tb 475 (by decide +kernel) (by decide +kernel)), cm_Ear_size, ik_0, (by decide +kernel), (by decide +kernel), pm_Ear_size⟩, (xin_tb 476 (by decide +kernel) (by decide +kernel)), (xin_tb 477 (by decide +kernel) (by decide +kernel)), TX0, 2, rfl⟩
theorem xk_X_91 : xMk "DrumTongue" 91 (1, m_Ear_at, 1, 0) := ⟨⟨Or.inl (xin_tb 483 (by decide +kernel) (by decide +kernel)), cm_Ear_at, ik_0, (by decide +kernel), (by decide +kernel), pm_Ear_at⟩, (xin_tb 484 (by decide +kernel) (by decide +kernel)), (xin_tb 485 (by decide +kernel) (by decide +kernel)), TX0, 2, rfl⟩
theorem xk_X_94 : xMk "DrumTongue" 94 (1, m_Ear_takeOut, 1, 0) := ⟨⟨Or.inl (xin_tb 487 (by decide +kernel) (by decide +kernel)), cm_Ear_takeOut, ik_0, (by decide +kernel), (by decide +kernel), pm_Ear_takeOut⟩, (xin_tb 488 (by decide +kernel) (by decide +kernel)), (xin_tb 489 (by decide +kernel) (by decide +kernel)), TX0, 2, rfl⟩
theorem xk_X_98 : xMk "DrumTongue" 98 (1, m_Ear_change, 2, 0) := ⟨⟨Or.inl (xin_tb 491 (by decide +kernel) (by decide +kernel)), cm_Ear_change, ik_0, (by decide +kernel), (by decide +kernel), pm_Ear_change⟩, (xin_tb 492 (by decide +kernel) (by decide +kernel)), (xin_tb 493 (by decide +kernel) (by decide +kernel)), TX0, 2, rfl⟩
theorem xk_X_102 : xMk "DrumTongue" 102 (1, m_Ear_empty, 0, 0) := ⟨⟨Or.inl (xin_tb 499 (by decide +kernel) (by decide +kernel)), cm_Ear_empty, ik_0, (by decide +kernel), (by decide +kernel), pm_Ear_empty⟩, (xin_tb 500 (by decide +kernel) (by decide +kernel)), (xin_tb 501 (by decide +kernel) (by decide +kernel)), TX0, 2, rfl⟩
theorem xk_X_105 : xMk "DrumTongue" 105 (1, m_Reader_readNow, 0, 2) := ⟨⟨Or.inl (xin_tb 507 (by decide +kernel) (by decide +kernel)), cm_Reader_readNow, ik_2, (by decide +kernel), (by decide +kernel), pm_Reader_readNow⟩, (xin_tb 508 (by decide +kernel) (by decide +kernel)), (xin_tb 509 (by decide +kernel) (by decide +kernel)), TX2, 11, rfl⟩
theorem xk_X_109 : xMk "DrumTongue" 109 (1, m_Reader_keepAsLast, 0, 2) := ⟨⟨Or.inl (xin_tb 583 (by decide +kernel) (by decide +kernel)), cm_Reader_keepAsLast, ik_2, (by decide +kernel), (by decide +kernel), pm_Reader_keepAsLast⟩, (xin_tb 584 (by decide +kernel) (by decide +kernel)), (xin_tb 585 (by decide +kernel) (by decide +kernel)), TX2, 11, rfl⟩
theorem xk_X_112 : xMk "DrumTongue" 112 (1, m_Reader_offNow, 0, 2) := ⟨⟨Or.inl (xin_tb 587 (by decide +kernel) (by decide +kernel)), cm_Reader_offNow, ik_2, (by decide +kernel), (by decide +kernel), pm_Reader_offNow⟩, (xin_tb 588 (by decide +kernel) (by decide +kernel)), (xin_tb 589 (by decide +kernel) (by decide +kernel)), TX2, 11, rfl⟩
theorem xk_X_115 : xMk "DrumTongue" 115 (1, m_Reader_lastAt, 1, 2) := ⟨⟨Or.inl (xin_tb 595 (by decide +kernel) (by decide +kernel)), cm_Reader_lastAt, ik_2, (by decide +kernel), (by decide +kernel), pm_Reader_lastAt⟩, (xin_tb 596 (by decide +kernel) (by decide +kernel)), (xin_tb 597 (by decide +kernel) (by decide +kernel)), TX2, 11, rfl⟩
theorem xk_X_118 : xMk "DrumTongue" 118 (1, m_Reader_sizeNow, 0, 2) := ⟨⟨Or.inl (xin_tb 603 (by decide +kernel) (by decide +kernel)), cm_Reader_sizeNow, ik_2, (by decide +kernel), (by decide +kernel), pm_Reader_sizeNow⟩, (xin_tb 604 (by decide +kernel) (by decide +kernel)), (xin_tb 605 (by decide +kernel) (by decide +kernel)), TX2, 11, rfl⟩
theorem xk_X_121 : xMk "DrumTongue" 121 (1, m_Reader_doubtAt, 1, 2) := ⟨⟨Or.inl (xin_tb 607 (by decide +kernel) (by decide +kernel)), cm_Reader_doubtAt, ik_2, (by decide +kernel), (by decide +kernel), pm_Reader_doubtAt⟩, (xin_tb 608 (by decide +kernel) (by decide +kernel)), (xin_tb 609 (by decide +kernel) (by decide +kernel)), TX2, 11, rfl⟩
theorem xk_X_124 : xMk "DrumTongue" 124 (1, m_Reader_mostInDoubt, 0, 2) := ⟨⟨Or.inl (xin_tb 619 (by decide +kernel) (by decide +kernel)), cm_Reader_mostInDoubt, ik_2, (by decide +kernel), (by decide +kernel), pm_Reader_mostInDoubt⟩, (xin_tb 620 (by decide +kernel) (by decide +kernel)), (xin_tb 621 (by decide +kernel) (by decide +kernel)), TX2, 11, rfl⟩
theorem xk_X_127 : xMk "DrumTongue" 127 (0, m_Hills_arePair, 2, 0) := ⟨⟨Or.inl (xin_tb 628 (by decide +kernel) (by decide +kernel)), cm_Hills_arePair, ik_1, (by decide +kernel), (by decide +kernel), pm_Hills_arePair⟩, (xin_tb 629 (by decide +kernel) (by decide +kernel))⟩
theorem xk_X_130 : xMk "DrumTongue" 130 (1, m_Hills_join, 4, 1) := ⟨⟨Or.inl (xin_tb 634 (by decide +kernel) (by decide +kernel)), cm_Hills_join, ik_1, (by decide +kernel), (by decide +kernel), pm_Hills_join⟩, (xin_tb 635 (by decide +kernel) (by decide +kernel)), (xin_tb 636 (by decide +kernel) (by decide +kernel)), TX1, 10, rfl⟩
theorem xk_X_134 : xMk "DrumTongue" 134 (1, m_Hills_findBest, 2, 1) := ⟨⟨Or.inl (xin_tb 643 (by decide +kernel) (by decide +kernel)), cm_Hills_findBest, ik_1, (by decide +kernel), (by decide +kernel), pm_Hills_findBest⟩, (xin_tb 644 (by decide +kernel) (by decide +kernel)), (xin_tb 645 (by decide +kernel) (by decide +kernel)), TX1, 10, rfl⟩
theorem xk_X_137 : xMk "DrumTongue" 137 (1, m_Hills_bestChance, 0, 1) := ⟨⟨Or.inl (xin_tb 662 (by decide +kernel) (by decide +kernel)), cm_Hills_bestChance, ik_1, (by decide +kernel), (by decide +kernel), pm_Hills_bestChance⟩, (xin_tb 663 (by decide +kernel) (by decide +kernel)), (xin_tb 664 (by decide +kernel) (by decide +kernel)), TX1, 10, rfl⟩
theorem xk_X_140 : xMk "DrumTongue" 140 (1, m_Hills_bestAt, 1, 1) := ⟨⟨Or.inl (xin_tb 670 (by decide +kernel) (by decide +kernel)), cm_Hills_bestAt, ik_1, (by decide +kernel), (by decide +kernel), pm_Hills_bestAt⟩, (xin_tb 671 (by decide +kernel) (by decide +kernel)), (xin_tb 672 (by decide +kernel) (by decide +kernel)), TX1, 10, rfl⟩
theorem xk_X_143 : xMk "DrumTongue" 143 (1, m_Hills_bestHours, 0, 1) := ⟨⟨Or.inl (xin_tb 678 (by decide +kernel) (by decide +kernel)), cm_Hills_bestHours, ik_1, (by decide +kernel), (by decide +kernel), pm_Hills_bestHours⟩, (xin_tb 679 (by decide +kernel) (by decide +kernel)), (xin_tb 680 (by decide +kernel) (by decide +kernel)), TX1, 10, rfl⟩
theorem xk_X_147 : xMk "DrumTongue" 147 (1, m_Hills_findEnough, 3, 1) := ⟨⟨Or.inl (xin_tb 687 (by decide +kernel) (by decide +kernel)), cm_Hills_findEnough, ik_1, (by decide +kernel), (by decide +kernel), pm_Hills_findEnough⟩, (xin_tb 688 (by decide +kernel) (by decide +kernel)), (xin_tb 689 (by decide +kernel) (by decide +kernel)), TX1, 10, rfl⟩
theorem xk_X_151 : xMk "DrumTongue" 151 (1, m_Hills_enoughSum, 0, 1) := ⟨⟨Or.inl (xin_tb 703 (by decide +kernel) (by decide +kernel)), cm_Hills_enoughSum, ik_1, (by decide +kernel), (by decide +kernel), pm_Hills_enoughSum⟩, (xin_tb 704 (by decide +kernel) (by decide +kernel)), (xin_tb 705 (by decide +kernel) (by decide +kernel)), TX1, 10, rfl⟩
theorem xk_X_154 : xMk "DrumTongue" 154 (1, m_Hills_enoughAt, 1, 1) := ⟨⟨Or.inl (xin_tb 711 (by decide +kernel) (by decide +kernel)), cm_Hills_enoughAt, ik_1, (by decide +kernel), (by decide +kernel), pm_Hills_enoughAt⟩, (xin_tb 712 (by decide +kernel) (by decide +kernel)), (xin_tb 713 (by decide +kernel) (by decide +kernel)), TX1, 10, rfl⟩
theorem xk_X_157 : xMk "DrumTongue" 157 (1, m_Tongue_wordCount, 0, 5) := ⟨⟨Or.inl (xin_tb 719 (by decide +kernel) (by decide +kernel)), cm_Tongue_wordCount, ik_5, (by decide +kernel), (by decide +kernel), pm_Tongue_wordCount⟩, (xin_tb 527 (by decide +kernel) (by decide +kernel)), (xin_tb 528 (by decide +kernel) (by decide +kernel)), TX5, 12, rfl⟩
theorem xk_X_160 : xMk "DrumTongue" 160 (1, m_Tongue_endingCount, 0, 5) := ⟨⟨Or.inl (xin_tb 720 (by decide +kernel) (by decide +kernel)), cm_Tongue_endingCount, ik_5, (by decide +kernel), (by decide +kernel), pm_Tongue_endingCount⟩, (xin_tb 721 (by decide +kernel) (by decide +kernel)), (xin_tb 722 (by decide +kernel) (by decide +kernel)), TX5, 12, rfl⟩
theorem xk_X_163 : xMk "DrumTongue" 163 (1, m_Tongue_boundNow, 0, 5) := ⟨⟨Or.inl (xin_tb 724 (by decide +kernel) (by decide +kernel)), cm_Tongue_boundNow, ik_5, (by decide +kernel), (by decide +kernel), pm_Tongue_boundNow⟩, (xin_tb 725 (by decide +kernel) (by decide +kernel)), (xin_tb 726 (by decide +kernel) (by decide +kernel)), TX5, 12, rfl⟩
theorem xk_X_166 : xMk "DrumTongue" 166 (1, m_Tongue_phraseCount, 0, 5) := ⟨⟨Or.inl (xin_tb 728 (by decide +kernel) (by decide +kernel)), cm_Tongue_phraseCount, ik_5, (by decide +kernel), (by decide +kernel), pm_Tongue_phraseCount⟩, (xin_tb 512 (by decide +kernel) (by decide +kernel)), (xin_tb 513 (by decide +kernel) (by decide +kernel)), TX5, 12, rfl⟩
theorem xk_X_169 : xMk "DrumTongue" 169 (1, m_Tongue_beatsOfAllPhrases, 0, 5) := ⟨⟨Or.inl (xin_tb 729 (by decide +kernel) (by decide +kernel)), cm_Tongue_beatsOfAllPhrases, ik_5, (by decide +kernel), (by decide +kernel), pm_Tongue_beatsOfAllPhrases⟩, (xin_tb 730 (by decide +kernel) (by decide +kernel)), (xin_tb 731 (by decide +kernel) (by decide +kernel)), TX5, 12, rfl⟩
theorem xk_X_172 : xMk "DrumTongue" 172 (1, m_Ear_gaps, 0, 0) := ⟨⟨Or.inl (xin_tb 734 (by decide +kernel) (by decide +kernel)), cm_Ear_gaps, ik_0, (by decide +kernel), (by decide +kernel), pm_Ear_gaps⟩, (xin_tb 735 (by decide +kernel) (by decide +kernel)), (xin_tb 736 (by decide +kernel) (by decide +kernel)), TX0, 2, rfl⟩
theorem xk_X_175 : xMk "DrumTongue" 175 (1, m_Reader_lastSize, 0, 2) := ⟨⟨Or.inl (xin_tb 738 (by decide +kernel) (by decide +kernel)), cm_Reader_lastSize, ik_2, (by decide +kernel), (by decide +kernel), pm_Reader_lastSize⟩, (xin_tb 739 (by decide +kernel) (by decide +kernel)), (xin_tb 740 (by decide +kernel) (by decide +kernel)), TX2, 11, rfl⟩
theorem xk_X_182 : xMk "DrumTongue" 182 (1, m_X_count, 1, 6) := ⟨⟨Or.inl (xin_tb 748 (by decide +kernel) (by decide +kernel)), cm_X_count, ik_6, (by decide +kernel), (by decide +kernel), pm_X_count⟩, (xin_tb 716 (by decide +kernel) (by decide +kernel)), (xin_tb 717 (by decide +kernel) (by decide +kernel)), TX6, 4, rfl⟩
theorem xk_X_185 : xMk "DrumTongue" 185 (1, m_Tongue_mixInto, 1, 5) := ⟨⟨Or.inl (xin_tb 749 (by decide +kernel) (by decide +kernel)), cm_Tongue_mixInto, ik_5, (by decide +kernel), (by decide +kernel), pm_Tongue_mixInto⟩, (xin_tb 750 (by decide +kernel) (by decide +kernel)), (xin_tb 751 (by decide +kernel) (by decide +kernel)), TX5, 12, rfl⟩
theorem xk_X_189 : xMk "DrumTongue" 189 (1, m_Ear_mixInto, 1, 0) := ⟨⟨Or.inl (xin_tb 756 (by decide +kernel) (by decide +kernel)), cm_Ear_mixInto, ik_0, (by decide +kernel), (by decide +kernel), pm_Ear_mixInto⟩, (xin_tb 757 (by decide +kernel) (by decide +kernel)), (xin_tb 758 (by decide +kernel) (by decide +kernel)), TX0, 2, rfl⟩
theorem xk_X_190 : xMk "DrumTongue" 190 (1, m_Reader_mixInto, 1, 2) := ⟨⟨Or.inl (xin_tb 761 (by decide +kernel) (by decide +kernel)), cm_Reader_mixInto, ik_2, (by decide +kernel), (by decide +kernel), pm_Reader_mixInto⟩, (xin_tb 762 (by decide +kernel) (by decide +kernel)), (xin_tb 763 (by decide +kernel) (by decide +kernel)), TX2, 11, rfl⟩
theorem xk_X_191 : xMk "DrumTongue" 191 (1, m_Hills_mixInto, 1, 1) := ⟨⟨Or.inl (xin_tb 766 (by decide +kernel) (by decide +kernel)), cm_Hills_mixInto, ik_1, (by decide +kernel), (by decide +kernel), pm_Hills_mixInto⟩, (xin_tb 767 (by decide +kernel) (by decide +kernel)), (xin_tb 768 (by decide +kernel) (by decide +kernel)), TX1, 10, rfl⟩
theorem xn_X_7 : xNw "DrumTongue" 7 5 [xR none, xR none, xR none, xR none, xR none, xR none, xI 0, xR none, xR none, xR none, xI 0, xI 0] := ⟨RX5, TX5, 12, tyX5, rfl, wk_5, tyX5_ok, xin_tb 70 (by decide +kernel) (by decide +kernel), xin_tb 71 (by decide +kernel) (by decide +kernel), ik_5, rfl, fun G j hj => by
  rcases (show j = 0 ∨ j = 1 ∨ j = 2 ∨ j = 3 ∨ j = 4 ∨ j = 5 ∨ j = 6 ∨ j = 7 ∨ j = 8 ∨ j = 9 ∨ j = 10 ∨ j = 11 by omega) with rfl | rfl | rfl | rfl | rfl | rfl | rfl | rfl | rfl | rfl | rfl | rfl <;> rfl⟩
theorem xn_X_16 : xNw "DrumTongue" 16 0 [xR none, xI 0] := ⟨RX0, TX0, 2, tyX0, rfl, wk_0, tyX0_ok, xin_tb 174 (by decide +kernel) (by decide +kernel), xin_tb 175 (by decide +kernel) (by decide +kernel), ik_0, rfl, fun G j hj => by
  rcases (show j = 0 ∨ j = 1 by omega) with rfl | rfl <;> rfl⟩
theorem xn_X_23 : xNw "DrumTongue" 23 2 [xR none, xR none, xR none, xI 0, xR none, xI 0, xI 0, xR none, xR none, xR none, xR none] := ⟨RX2, TX2, 11, tyX2, rfl, wk_2, tyX2_ok, xin_tb 187 (by decide +kernel) (by decide +kernel), xin_tb 188 (by decide +kernel) (by decide +kernel), ik_2, rfl, fun G j hj => by
  rcases (show j = 0 ∨ j = 1 ∨ j = 2 ∨ j = 3 ∨ j = 4 ∨ j = 5 ∨ j = 6 ∨ j = 7 ∨ j = 8 ∨ j = 9 ∨ j = 10 by omega) with rfl | rfl | rfl | rfl | rfl | rfl | rfl | rfl | rfl | rfl | rfl <;> rfl⟩
theorem xn_X_32 : xNw "DrumTongue" 32 1 [xR none, xR none, xR none, xR none, xI 0, xJ 0, xI 0, xR none, xR none, xI 0] := ⟨RX1, TX1, 10, tyX1, rfl, wk_1, tyX1_ok, xin_tb 229 (by decide +kernel) (by decide +kernel), xin_tb 230 (by decide +kernel) (by decide +kernel), ik_1, rfl, fun G j hj => by
  rcases (show j = 0 ∨ j = 1 ∨ j = 2 ∨ j = 3 ∨ j = 4 ∨ j = 5 ∨ j = 6 ∨ j = 7 ∨ j = 8 ∨ j = 9 by omega) with rfl | rfl | rfl | rfl | rfl | rfl | rfl | rfl | rfl | rfl <;> rfl⟩
abbrev tb_X : xTb := ([(10, 6, 0, .object "DrumTongue$Tongue", true, false), (19, 6, 1, .object "DrumTongue$Ear", true, false), (28, 6, 2, .object "DrumTongue$Reader", true, false), (35, 6, 3, .object "DrumTongue$Hills", true, false)], [(1, 3, (objectInit, ⟨#[0xb1]⟩, 1, none), 0, 0), (9, 2, m_Tongue_init, 0, 0), (18, 2, m_Ear_init, 0, 0), (25, 2, m_Reader_init, 2, 0), (34, 2, m_Hills_init, 0, 0), (39, 0, m_Rows_isRow, 2, 0), (45, 1, m_Tongue_addWord, 2, 5), (49, 1, m_Tongue_addEnding, 2, 5), (52, 1, m_Tongue_changeBound, 1, 5), (56, 1, m_Tongue_chooseInTurn, 0, 5), (60, 1, m_Tongue_chooseForTheLeast, 0, 5), (63, 1, m_Tongue_isWord, 1, 5), (67, 1, m_Tongue_hasPhrase, 1, 5), (70, 1, m_Tongue_phraseSize, 1, 5), (73, 1, m_Tongue_phraseBeat, 2, 5), (76, 1, m_Tongue_phraseEnding, 2, 5), (79, 1, m_Tongue_howFar, 2, 5), (82, 1, m_Ear_room, 0, 0), (85, 1, m_Ear_add, 1, 0), (88, 1, m_Ear_size, 0, 0), (91, 1, m_Ear_at, 1, 0), (94, 1, m_Ear_takeOut, 1, 0), (98, 1, m_Ear_change, 2, 0), (102, 1, m_Ear_empty, 0, 0), (105, 1, m_Reader_readNow, 0, 2), (109, 1, m_Reader_keepAsLast, 0, 2), (112, 1, m_Reader_offNow, 0, 2), (115, 1, m_Reader_lastAt, 1, 2), (118, 1, m_Reader_sizeNow, 0, 2), (121, 1, m_Reader_doubtAt, 1, 2), (124, 1, m_Reader_mostInDoubt, 0, 2), (127, 0, m_Hills_arePair, 2, 0), (130, 1, m_Hills_join, 4, 1), (134, 1, m_Hills_findBest, 2, 1), (137, 1, m_Hills_bestChance, 0, 1), (140, 1, m_Hills_bestAt, 1, 1), (143, 1, m_Hills_bestHours, 0, 1), (147, 1, m_Hills_findEnough, 3, 1), (151, 1, m_Hills_enoughSum, 0, 1), (154, 1, m_Hills_enoughAt, 1, 1), (157, 1, m_Tongue_wordCount, 0, 5), (160, 1, m_Tongue_endingCount, 0, 5), (163, 1, m_Tongue_boundNow, 0, 5), (166, 1, m_Tongue_phraseCount, 0, 5), (169, 1, m_Tongue_beatsOfAllPhrases, 0, 5), (172, 1, m_Ear_gaps, 0, 0), (175, 1, m_Reader_lastSize, 0, 2), (182, 1, m_X_count, 1, 6), (185, 1, m_Tongue_mixInto, 1, 5), (189, 1, m_Ear_mixInto, 1, 0), (190, 1, m_Reader_mixInto, 1, 2), (191, 1, m_Hills_mixInto, 1, 1)], [(7, 5, [xR none, xR none, xR none, xR none, xR none, xR none, xI 0, xR none, xR none, xR none, xI 0, xI 0]), (16, 0, [xR none, xI 0]), (23, 2, [xR none, xR none, xR none, xI 0, xR none, xI 0, xI 0, xR none, xR none, xR none, xR none]), (32, 1, [xR none, xR none, xR none, xR none, xI 0, xJ 0, xI 0, xR none, xR none, xI 0])], [(146, 1000000000)], [(178, 241), (180, 31)], [])
theorem tk_X : xTbOk "DrumTongue" tb_X := ⟨xall (List.forall_mem_cons.mpr ⟨xf_X_10, List.forall_mem_cons.mpr ⟨xf_X_19, List.forall_mem_cons.mpr ⟨xf_X_28, List.forall_mem_cons.mpr ⟨xf_X_35, fun _ h => absurd h List.not_mem_nil⟩⟩⟩⟩), xall (List.forall_mem_cons.mpr ⟨xk_X_1, List.forall_mem_cons.mpr ⟨xk_X_9, List.forall_mem_cons.mpr ⟨xk_X_18, List.forall_mem_cons.mpr ⟨xk_X_25, List.forall_mem_cons.mpr ⟨xk_X_34, List.forall_mem_cons.mpr ⟨xk_X_39, List.forall_mem_cons.mpr ⟨xk_X_45, List.forall_mem_cons.mpr ⟨xk_X_49, List.forall_mem_cons.mpr ⟨xk_X_52, List.forall_mem_cons.mpr ⟨xk_X_56, List.forall_mem_cons.mpr ⟨xk_X_60, List.forall_mem_cons.mpr ⟨xk_X_63, List.forall_mem_cons.mpr ⟨xk_X_67, List.forall_mem_cons.mpr ⟨xk_X_70, List.forall_mem_cons.mpr ⟨xk_X_73, List.forall_mem_cons.mpr ⟨xk_X_76, List.forall_mem_cons.mpr ⟨xk_X_79, List.forall_mem_cons.mpr ⟨xk_X_82, List.forall_mem_cons.mpr ⟨xk_X_85, List.forall_mem_cons.mpr ⟨xk_X_88, List.forall_mem_cons.mpr ⟨xk_X_91, List.forall_mem_cons.mpr ⟨xk_X_94, List.forall_mem_cons.mpr ⟨xk_X_98, List.forall_mem_cons.mpr ⟨xk_X_102, List.forall_mem_cons.mpr ⟨xk_X_105, List.forall_mem_cons.mpr ⟨xk_X_109, List.forall_mem_cons.mpr ⟨xk_X_112, List.forall_mem_cons.mpr ⟨xk_X_115, List.forall_mem_cons.mpr ⟨xk_X_118, List.forall_mem_cons.mpr ⟨xk_X_121, List.forall_mem_cons.mpr ⟨xk_X_124, List.forall_mem_cons.mpr ⟨xk_X_127, List.forall_mem_cons.mpr ⟨xk_X_130, List.forall_mem_cons.mpr ⟨xk_X_134, List.forall_mem_cons.mpr ⟨xk_X_137, List.forall_mem_cons.mpr ⟨xk_X_140, List.forall_mem_cons.mpr ⟨xk_X_143, List.forall_mem_cons.mpr ⟨xk_X_147, List.forall_mem_cons.mpr ⟨xk_X_151, List.forall_mem_cons.mpr ⟨xk_X_154, List.forall_mem_cons.mpr ⟨xk_X_157, List.forall_mem_cons.mpr ⟨xk_X_160, List.forall_mem_cons.mpr ⟨xk_X_163, List.forall_mem_cons.mpr ⟨xk_X_166, List.forall_mem_cons.mpr ⟨xk_X_169, List.forall_mem_cons.mpr ⟨xk_X_172, List.forall_mem_cons.mpr ⟨xk_X_175, List.forall_mem_cons.mpr ⟨xk_X_182, List.forall_mem_cons.mpr ⟨xk_X_185, List.forall_mem_cons.mpr ⟨xk_X_189, List.forall_mem_cons.mpr ⟨xk_X_190, List.forall_mem_cons.mpr ⟨xk_X_191, fun _ h => absurd h List.not_mem_nil⟩⟩⟩⟩⟩⟩⟩⟩⟩⟩⟩⟩⟩⟩⟩⟩⟩⟩⟩⟩⟩⟩⟩⟩⟩⟩⟩⟩⟩⟩⟩⟩⟩⟩⟩⟩⟩⟩⟩⟩⟩⟩⟩⟩⟩⟩⟩⟩⟩⟩⟩⟩), xall (List.forall_mem_cons.mpr ⟨xn_X_7, List.forall_mem_cons.mpr ⟨xn_X_16, List.forall_mem_cons.mpr ⟨xn_X_23, List.forall_mem_cons.mpr ⟨xn_X_32, fun _ h => absurd h List.not_mem_nil⟩⟩⟩⟩), xall (List.forall_mem_cons.mpr ⟨xin_tb 686 (by decide +kernel) (by decide +kernel), fun _ h => absurd h List.not_mem_nil⟩), xall (List.forall_mem_cons.mpr ⟨xin_tb 746 (by decide +kernel) (by decide +kernel), List.forall_mem_cons.mpr ⟨xin_tb 747 (by decide +kernel) (by decide +kernel), fun _ h => absurd h List.not_mem_nil⟩⟩), fun _ h => absurd h List.not_mem_nil⟩
theorem xf_Ear_11 : xFld "DrumTongue$Ear" 11 0 0 (.array .int) true false := ⟨RX0, TX0, 2, tyX0, rfl, by decide, wk_0, tyX0_ok, nmX0, rfl, rfl, fun _ => ⟨xin_tb 180 (by decide +kernel) (by decide +kernel), fun _ => rfl⟩, fun q => by cases q⟩
theorem xf_Ear_15 : xFld "DrumTongue$Ear" 15 0 1 (.int) false false := ⟨RX0, TX0, 2, tyX0, rfl, by decide, wk_0, tyX0_ok, nmX0, rfl, rfl, fun _ => ⟨xin_tb 181 (by decide +kernel) (by decide +kernel), fun _ => rfl⟩, fun q => by cases q⟩
theorem xk_Ear_3 : xMk "DrumTongue$Ear" 3 (3, (objectInit, ⟨#[0xb1]⟩, 1, none), 0, 0) := ⟨xin_tb 179 (by decide +kernel) (by decide +kernel), xin_tb 68 (by decide +kernel) (by decide +kernel), xin_tb 69 (by decide +kernel) (by decide +kernel)⟩
abbrev tb_Ear : xTb := ([(11, 0, 0, .array .int, true, false), (15, 0, 1, .int, false, false)], [(3, 3, (objectInit, ⟨#[0xb1]⟩, 1, none), 0, 0)], [], [], [(19, 31)], [])
theorem tk_Ear : xTbOk "DrumTongue$Ear" tb_Ear := ⟨xall (List.forall_mem_cons.mpr ⟨xf_Ear_11, List.forall_mem_cons.mpr ⟨xf_Ear_15, fun _ h => absurd h List.not_mem_nil⟩⟩), xall (List.forall_mem_cons.mpr ⟨xk_Ear_3, fun _ h => absurd h List.not_mem_nil⟩), xall (fun _ h => absurd h List.not_mem_nil), xall (fun _ h => absurd h List.not_mem_nil), xall (List.forall_mem_cons.mpr ⟨xin_tb 760 (by decide +kernel) (by decide +kernel), fun _ h => absurd h List.not_mem_nil⟩), fun _ h => absurd h List.not_mem_nil⟩
theorem xf_Hills_13 : xFld "DrumTongue$Hills" 13 1 0 (.array (.array .int)) true false := ⟨RX1, TX1, 10, tyX1, rfl, by decide, wk_1, tyX1_ok, nmX1, rfl, rfl, fun _ => ⟨xin_tb 237 (by decide +kernel) (by decide +kernel), fun _ => rfl⟩, fun q => by cases q⟩
theorem xf_Hills_16 : xFld "DrumTongue$Hills" 16 1 1 (.array (.array .int)) true false := ⟨RX1, TX1, 10, tyX1, rfl, by decide, wk_1, tyX1_ok, nmX1, rfl, rfl, fun _ => ⟨xin_tb 238 (by decide +kernel) (by decide +kernel), fun _ => rfl⟩, fun q => by cases q⟩
theorem xf_Hills_19 : xFld "DrumTongue$Hills" 19 1 2 (.array .int) true false := ⟨RX1, TX1, 10, tyX1, rfl, by decide, wk_1, tyX1_ok, nmX1, rfl, rfl, fun _ => ⟨xin_tb 239 (by decide +kernel) (by decide +kernel), fun _ => rfl⟩, fun q => by cases q⟩
theorem xf_Hills_23 : xFld "DrumTongue$Hills" 23 1 3 (.array .int) true false := ⟨RX1, TX1, 10, tyX1, rfl, by decide, wk_1, tyX1_ok, nmX1, rfl, rfl, fun _ => ⟨xin_tb 240 (by decide +kernel) (by decide +kernel), fun _ => rfl⟩, fun q => by cases q⟩
theorem xf_Hills_26 : xFld "DrumTongue$Hills" 26 1 7 (.array .int) true false := ⟨RX1, TX1, 10, tyX1, rfl, by decide, wk_1, tyX1_ok, nmX1, rfl, rfl, fun _ => ⟨xin_tb 244 (by decide +kernel) (by decide +kernel), fun _ => rfl⟩, fun q => by cases q⟩
theorem xf_Hills_29 : xFld "DrumTongue$Hills" 29 1 8 (.array .int) true false := ⟨RX1, TX1, 10, tyX1, rfl, by decide, wk_1, tyX1_ok, nmX1, rfl, rfl, fun _ => ⟨xin_tb 245 (by decide +kernel) (by decide +kernel), fun _ => rfl⟩, fun q => by cases q⟩
theorem xf_Hills_46 : xFld "DrumTongue$Hills" 46 1 4 (.int) false false := ⟨RX1, TX1, 10, tyX1, rfl, by decide, wk_1, tyX1_ok, nmX1, rfl, rfl, fun _ => ⟨xin_tb 241 (by decide +kernel) (by decide +kernel), fun _ => rfl⟩, fun q => by cases q⟩
theorem xf_Hills_50 : xFld "DrumTongue$Hills" 50 1 5 (.long) false false := ⟨RX1, TX1, 10, tyX1, rfl, by decide, wk_1, tyX1_ok, nmX1, rfl, rfl, fun _ => ⟨xin_tb 242 (by decide +kernel) (by decide +kernel), fun _ => rfl⟩, fun q => by cases q⟩
theorem xf_Hills_54 : xFld "DrumTongue$Hills" 54 1 6 (.int) false false := ⟨RX1, TX1, 10, tyX1, rfl, by decide, wk_1, tyX1_ok, nmX1, rfl, rfl, fun _ => ⟨xin_tb 243 (by decide +kernel) (by decide +kernel), fun _ => rfl⟩, fun q => by cases q⟩
theorem xf_Hills_78 : xFld "DrumTongue$Hills" 78 1 9 (.int) false false := ⟨RX1, TX1, 10, tyX1, rfl, by decide, wk_1, tyX1_ok, nmX1, rfl, rfl, fun _ => ⟨xin_tb 246 (by decide +kernel) (by decide +kernel), fun _ => rfl⟩, fun q => by cases q⟩
theorem xk_Hills_3 : xMk "DrumTongue$Hills" 3 (3, (objectInit, ⟨#[0xb1]⟩, 1, none), 0, 0) := ⟨xin_tb 234 (by decide +kernel) (by decide +kernel), xin_tb 68 (by decide +kernel) (by decide +kernel), xin_tb 69 (by decide +kernel) (by decide +kernel)⟩
theorem xk_Hills_32 : xMk "DrumTongue$Hills" 32 (0, m_Arrays_fill, 2, 0) := ⟨⟨Or.inl (xin_tb 236 (by decide +kernel) (by decide +kernel)), cm_Arrays_fill, (xin_tb 55 (by decide +kernel) (by decide +kernel)), (by decide +kernel), (by decide +kernel), pm_Arrays_fill⟩, (xin_tb 135 (by decide +kernel) (by decide +kernel))⟩
theorem xk_Hills_38 : xMk "DrumTongue$Hills" 38 (0, m_Hills_isHill, 1, 0) := ⟨⟨Or.inl (xin_tb 631 (by decide +kernel) (by decide +kernel)), cm_Hills_isHill, ik_1, (by decide +kernel), (by decide +kernel), pm_Hills_isHill⟩, (xin_tb 632 (by decide +kernel) (by decide +kernel))⟩
theorem xk_Hills_42 : xMk "DrumTongue$Hills" 42 (0, m_Hills_arePair, 2, 0) := ⟨⟨Or.inl (xin_tb 638 (by decide +kernel) (by decide +kernel)), cm_Hills_arePair, ik_1, (by decide +kernel), (by decide +kernel), pm_Hills_arePair⟩, (xin_tb 629 (by decide +kernel) (by decide +kernel))⟩
theorem xk_Hills_59 : xMk "DrumTongue$Hills" 59 (1, m_Hills_walk, 4, 1) := ⟨⟨Or.inl (xin_tb 648 (by decide +kernel) (by decide +kernel)), cm_Hills_walk, ik_1, (by decide +kernel), (by decide +kernel), pm_Hills_walk⟩, (xin_tb 650 (by decide +kernel) (by decide +kernel)), (xin_tb 23 (by decide +kernel) (by decide +kernel)), TX1, 10, rfl⟩
theorem xk_Hills_63 : xMk "DrumTongue$Hills" 63 (1, m_Hills_keepIfBetter, 3, 1) := ⟨⟨Or.inl (xin_tb 652 (by decide +kernel) (by decide +kernel)), cm_Hills_keepIfBetter, ik_1, (by decide +kernel), (by decide +kernel), pm_Hills_keepIfBetter⟩, (xin_tb 654 (by decide +kernel) (by decide +kernel)), (xin_tb 24 (by decide +kernel) (by decide +kernel)), TX1, 10, rfl⟩
theorem xk_Hills_67 : xMk "DrumTongue$Hills" 67 (1, m_Hills_isOnPath, 2, 1) := ⟨⟨Or.inl (xin_tb 657 (by decide +kernel) (by decide +kernel)), cm_Hills_isOnPath, ik_1, (by decide +kernel), (by decide +kernel), pm_Hills_isOnPath⟩, (xin_tb 659 (by decide +kernel) (by decide +kernel)), (xin_tb 25 (by decide +kernel) (by decide +kernel)), TX1, 10, rfl⟩
theorem xk_Hills_72 : xMk "DrumTongue$Hills" 72 (4, (objectInit, ⟨#[0xb1]⟩, 1, none), 5, 0) := ⟨xin_tb 656 (by decide +kernel) (by decide +kernel), xin_tb 411 (by decide +kernel) (by decide +kernel), xin_tb 410 (by decide +kernel) (by decide +kernel), xin_tb 61 (by decide +kernel) (by decide +kernel)⟩
theorem xk_Hills_81 : xMk "DrumTongue$Hills" 81 (1, m_Hills_findBest, 2, 1) := ⟨⟨Or.inl (xin_tb 691 (by decide +kernel) (by decide +kernel)), cm_Hills_findBest, ik_1, (by decide +kernel), (by decide +kernel), pm_Hills_findBest⟩, (xin_tb 644 (by decide +kernel) (by decide +kernel)), (xin_tb 645 (by decide +kernel) (by decide +kernel)), TX1, 10, rfl⟩
theorem xk_Hills_84 : xMk "DrumTongue$Hills" 84 (1, m_Hills_tryTimes, 4, 1) := ⟨⟨Or.inl (xin_tb 692 (by decide +kernel) (by decide +kernel)), cm_Hills_tryTimes, ik_1, (by decide +kernel), (by decide +kernel), pm_Hills_tryTimes⟩, (xin_tb 694 (by decide +kernel) (by decide +kernel)), (xin_tb 26 (by decide +kernel) (by decide +kernel)), TX1, 10, rfl⟩
theorem xk_Hills_87 : xMk "DrumTongue$Hills" 87 (1, m_Hills_chanceBetween, 2, 1) := ⟨⟨Or.inl (xin_tb 696 (by decide +kernel) (by decide +kernel)), cm_Hills_chanceBetween, ik_1, (by decide +kernel), (by decide +kernel), pm_Hills_chanceBetween⟩, (xin_tb 698 (by decide +kernel) (by decide +kernel)), (xin_tb 27 (by decide +kernel) (by decide +kernel)), TX1, 10, rfl⟩
theorem xk_Hills_91 : xMk "DrumTongue$Hills" 91 (0, m_Hills_heardBy, 2, 0) := ⟨⟨Or.inl (xin_tb 700 (by decide +kernel) (by decide +kernel)), cm_Hills_heardBy, ik_1, (by decide +kernel), (by decide +kernel), pm_Hills_heardBy⟩, (xin_tb 701 (by decide +kernel) (by decide +kernel))⟩
abbrev tb_Hills : xTb := ([(13, 1, 0, .array (.array .int), true, false), (16, 1, 1, .array (.array .int), true, false), (19, 1, 2, .array .int, true, false), (23, 1, 3, .array .int, true, false), (26, 1, 7, .array .int, true, false), (29, 1, 8, .array .int, true, false), (46, 1, 4, .int, false, false), (50, 1, 5, .long, false, false), (54, 1, 6, .int, false, false), (78, 1, 9, .int, false, false)], [(3, 3, (objectInit, ⟨#[0xb1]⟩, 1, none), 0, 0), (32, 0, m_Arrays_fill, 2, 0), (38, 0, m_Hills_isHill, 1, 0), (42, 0, m_Hills_arePair, 2, 0), (59, 1, m_Hills_walk, 4, 1), (63, 1, m_Hills_keepIfBetter, 3, 1), (67, 1, m_Hills_isOnPath, 2, 1), (72, 4, (objectInit, ⟨#[0xb1]⟩, 1, none), 5, 0), (81, 1, m_Hills_findBest, 2, 1), (84, 1, m_Hills_tryTimes, 4, 1), (87, 1, m_Hills_chanceBetween, 2, 1), (91, 0, m_Hills_heardBy, 2, 0)], [], [], [(57, 1000000000), (70, 1000), (95, 31)], [11])
theorem tk_Hills : xTbOk "DrumTongue$Hills" tb_Hills := ⟨xall (List.forall_mem_cons.mpr ⟨xf_Hills_13, List.forall_mem_cons.mpr ⟨xf_Hills_16, List.forall_mem_cons.mpr ⟨xf_Hills_19, List.forall_mem_cons.mpr ⟨xf_Hills_23, List.forall_mem_cons.mpr ⟨xf_Hills_26, List.forall_mem_cons.mpr ⟨xf_Hills_29, List.forall_mem_cons.mpr ⟨xf_Hills_46, List.forall_mem_cons.mpr ⟨xf_Hills_50, List.forall_mem_cons.mpr ⟨xf_Hills_54, List.forall_mem_cons.mpr ⟨xf_Hills_78, fun _ h => absurd h List.not_mem_nil⟩⟩⟩⟩⟩⟩⟩⟩⟩⟩), xall (List.forall_mem_cons.mpr ⟨xk_Hills_3, List.forall_mem_cons.mpr ⟨xk_Hills_32, List.forall_mem_cons.mpr ⟨xk_Hills_38, List.forall_mem_cons.mpr ⟨xk_Hills_42, List.forall_mem_cons.mpr ⟨xk_Hills_59, List.forall_mem_cons.mpr ⟨xk_Hills_63, List.forall_mem_cons.mpr ⟨xk_Hills_67, List.forall_mem_cons.mpr ⟨xk_Hills_72, List.forall_mem_cons.mpr ⟨xk_Hills_81, List.forall_mem_cons.mpr ⟨xk_Hills_84, List.forall_mem_cons.mpr ⟨xk_Hills_87, List.forall_mem_cons.mpr ⟨xk_Hills_91, fun _ h => absurd h List.not_mem_nil⟩⟩⟩⟩⟩⟩⟩⟩⟩⟩⟩⟩), xall (fun _ h => absurd h List.not_mem_nil), xall (fun _ h => absurd h List.not_mem_nil), xall (List.forall_mem_cons.mpr ⟨xin_tb 647 (by decide +kernel) (by decide +kernel), List.forall_mem_cons.mpr ⟨xin_tb 661 (by decide +kernel) (by decide +kernel), List.forall_mem_cons.mpr ⟨xin_tb 770 (by decide +kernel) (by decide +kernel), fun _ h => absurd h List.not_mem_nil⟩⟩⟩), List.forall_mem_cons.mpr ⟨xin_tb 235 (by decide +kernel) (by decide +kernel), fun _ h => absurd h List.not_mem_nil⟩⟩
theorem xf_Reader_13 : xFld "DrumTongue$Reader" 13 2 2 (.array .int) true false := ⟨RX2, TX2, 11, tyX2, rfl, by decide, wk_2, tyX2_ok, nmX2, rfl, rfl, fun _ => ⟨xin_tb 197 (by decide +kernel) (by decide +kernel), fun _ => rfl⟩, fun q => by cases q⟩
theorem xf_Reader_17 : xFld "DrumTongue$Reader" 17 2 4 (.array .int) true false := ⟨RX2, TX2, 11, tyX2, rfl, by decide, wk_2, tyX2_ok, nmX2, rfl, rfl, fun _ => ⟨xin_tb 199 (by decide +kernel) (by decide +kernel), fun _ => rfl⟩, fun q => by cases q⟩
theorem xf_Reader_22 : xFld "DrumTongue$Reader" 22 2 7 (.array (.array .int)) true false := ⟨RX2, TX2, 11, tyX2, rfl, by decide, wk_2, tyX2_ok, nmX2, rfl, rfl, fun _ => ⟨xin_tb 202 (by decide +kernel) (by decide +kernel), fun _ => rfl⟩, fun q => by cases q⟩
theorem xf_Reader_25 : xFld "DrumTongue$Reader" 25 2 8 (.array .int) true false := ⟨RX2, TX2, 11, tyX2, rfl, by decide, wk_2, tyX2_ok, nmX2, rfl, rfl, fun _ => ⟨xin_tb 203 (by decide +kernel) (by decide +kernel), fun _ => rfl⟩, fun q => by cases q⟩
theorem xf_Reader_28 : xFld "DrumTongue$Reader" 28 2 9 (.array .int) true false := ⟨RX2, TX2, 11, tyX2, rfl, by decide, wk_2, tyX2_ok, nmX2, rfl, rfl, fun _ => ⟨xin_tb 204 (by decide +kernel) (by decide +kernel), fun _ => rfl⟩, fun q => by cases q⟩
theorem xf_Reader_31 : xFld "DrumTongue$Reader" 31 2 10 (.array .int) true false := ⟨RX2, TX2, 11, tyX2, rfl, by decide, wk_2, tyX2_ok, nmX2, rfl, rfl, fun _ => ⟨xin_tb 205 (by decide +kernel) (by decide +kernel), fun _ => rfl⟩, fun q => by cases q⟩
theorem xf_Reader_34 : xFld "DrumTongue$Reader" 34 2 0 (.object "DrumTongue$Tongue") true false := ⟨RX2, TX2, 11, tyX2, rfl, by decide, wk_2, tyX2_ok, nmX2, rfl, rfl, fun _ => ⟨xin_tb 195 (by decide +kernel) (by decide +kernel), fun _ => rfl⟩, fun q => by cases q⟩
theorem xf_Reader_38 : xFld "DrumTongue$Reader" 38 2 1 (.object "DrumTongue$Ear") true false := ⟨RX2, TX2, 11, tyX2, rfl, by decide, wk_2, tyX2_ok, nmX2, rfl, rfl, fun _ => ⟨xin_tb 196 (by decide +kernel) (by decide +kernel), fun _ => rfl⟩, fun q => by cases q⟩
theorem xf_Reader_54 : xFld "DrumTongue$Reader" 54 2 5 (.int) false false := ⟨RX2, TX2, 11, tyX2, rfl, by decide, wk_2, tyX2_ok, nmX2, rfl, rfl, fun _ => ⟨xin_tb 200 (by decide +kernel) (by decide +kernel), fun _ => rfl⟩, fun q => by cases q⟩
theorem xf_Reader_58 : xFld "DrumTongue$Reader" 58 2 6 (.int) false false := ⟨RX2, TX2, 11, tyX2, rfl, by decide, wk_2, tyX2_ok, nmX2, rfl, rfl, fun _ => ⟨xin_tb 201 (by decide +kernel) (by decide +kernel), fun _ => rfl⟩, fun q => by cases q⟩
theorem xf_Reader_70 : xFld "DrumTongue$Reader" 70 2 3 (.int) false false := ⟨RX2, TX2, 11, tyX2, rfl, by decide, wk_2, tyX2_ok, nmX2, rfl, rfl, fun _ => ⟨xin_tb 198 (by decide +kernel) (by decide +kernel), fun _ => rfl⟩, fun q => by cases q⟩
theorem xk_Reader_5 : xMk "DrumTongue$Reader" 5 (3, (objectInit, ⟨#[0xb1]⟩, 1, none), 0, 0) := ⟨xin_tb 192 (by decide +kernel) (by decide +kernel), xin_tb 68 (by decide +kernel) (by decide +kernel), xin_tb 69 (by decide +kernel) (by decide +kernel)⟩
theorem xk_Reader_42 : xMk "DrumTongue$Reader" 42 (1, m_Tongue_phraseCount, 0, 5) := ⟨⟨Or.inl (xin_tb 511 (by decide +kernel) (by decide +kernel)), cm_Tongue_phraseCount, ik_5, (by decide +kernel), (by decide +kernel), pm_Tongue_phraseCount⟩, (xin_tb 512 (by decide +kernel) (by decide +kernel)), (xin_tb 513 (by decide +kernel) (by decide +kernel)), TX5, 12, rfl⟩
theorem xk_Reader_48 : xMk "DrumTongue$Reader" 48 (1, m_Reader_weighAllCounts, 0, 2) := ⟨⟨Or.inl (xin_tb 515 (by decide +kernel) (by decide +kernel)), cm_Reader_weighAllCounts, ik_2, (by decide +kernel), (by decide +kernel), pm_Reader_weighAllCounts⟩, (xin_tb 517 (by decide +kernel) (by decide +kernel)), (xin_tb 9 (by decide +kernel) (by decide +kernel)), TX2, 11, rfl⟩
theorem xk_Reader_51 : xMk "DrumTongue$Reader" 51 (1, m_Reader_bestCount, 0, 2) := ⟨⟨Or.inl (xin_tb 555 (by decide +kernel) (by decide +kernel)), cm_Reader_bestCount, ik_2, (by decide +kernel), (by decide +kernel), pm_Reader_bestCount⟩, (xin_tb 557 (by decide +kernel) (by decide +kernel)), (xin_tb 15 (by decide +kernel) (by decide +kernel)), TX2, 11, rfl⟩
theorem xk_Reader_61 : xMk "DrumTongue$Reader" 61 (1, m_Reader_spellFirstByNumbers, 0, 2) := ⟨⟨Or.inl (xin_tb 559 (by decide +kernel) (by decide +kernel)), cm_Reader_spellFirstByNumbers, ik_2, (by decide +kernel), (by decide +kernel), pm_Reader_spellFirstByNumbers⟩, (xin_tb 561 (by decide +kernel) (by decide +kernel)), (xin_tb 16 (by decide +kernel) (by decide +kernel)), TX2, 11, rfl⟩
theorem xk_Reader_64 : xMk "DrumTongue$Reader" 64 (4, (objectInit, ⟨#[0xb1]⟩, 1, none), 5, 0) := ⟨xin_tb 536 (by decide +kernel) (by decide +kernel), xin_tb 411 (by decide +kernel) (by decide +kernel), xin_tb 410 (by decide +kernel) (by decide +kernel), xin_tb 61 (by decide +kernel) (by decide +kernel)⟩
theorem xk_Reader_73 : xMk "DrumTongue$Reader" 73 (1, m_Reader_startFrom, 1, 2) := ⟨⟨Or.inl (xin_tb 519 (by decide +kernel) (by decide +kernel)), cm_Reader_startFrom, ik_2, (by decide +kernel), (by decide +kernel), pm_Reader_startFrom⟩, (xin_tb 521 (by decide +kernel) (by decide +kernel)), (xin_tb 10 (by decide +kernel) (by decide +kernel)), TX2, 11, rfl⟩
theorem xk_Reader_78 : xMk "DrumTongue$Reader" 78 (0, m_Arrays_fill, 2, 0) := ⟨⟨Or.inl (xin_tb 525 (by decide +kernel) (by decide +kernel)), cm_Arrays_fill, (xin_tb 55 (by decide +kernel) (by decide +kernel)), (by decide +kernel), (by decide +kernel), pm_Arrays_fill⟩, (xin_tb 135 (by decide +kernel) (by decide +kernel))⟩
theorem xk_Reader_84 : xMk "DrumTongue$Reader" 84 (1, m_Tongue_wordCount, 0, 5) := ⟨⟨Or.inl (xin_tb 526 (by decide +kernel) (by decide +kernel)), cm_Tongue_wordCount, ik_5, (by decide +kernel), (by decide +kernel), pm_Tongue_wordCount⟩, (xin_tb 527 (by decide +kernel) (by decide +kernel)), (xin_tb 528 (by decide +kernel) (by decide +kernel)), TX5, 12, rfl⟩
theorem xk_Reader_87 : xMk "DrumTongue$Reader" 87 (1, m_Tongue_hasPhrase, 1, 5) := ⟨⟨Or.inl (xin_tb 530 (by decide +kernel) (by decide +kernel)), cm_Tongue_hasPhrase, ik_5, (by decide +kernel), (by decide +kernel), pm_Tongue_hasPhrase⟩, (xin_tb 421 (by decide +kernel) (by decide +kernel)), (xin_tb 422 (by decide +kernel) (by decide +kernel)), TX5, 12, rfl⟩
theorem xk_Reader_91 : xMk "DrumTongue$Reader" 91 (1, m_Reader_copy, 2, 2) := ⟨⟨Or.inl (xin_tb 531 (by decide +kernel) (by decide +kernel)), cm_Reader_copy, ik_2, (by decide +kernel), (by decide +kernel), pm_Reader_copy⟩, (xin_tb 533 (by decide +kernel) (by decide +kernel)), (xin_tb 11 (by decide +kernel) (by decide +kernel)), TX2, 11, rfl⟩
theorem xk_Reader_95 : xMk "DrumTongue$Reader" 95 (1, m_Reader_putInFront, 2, 2) := ⟨⟨Or.inl (xin_tb 537 (by decide +kernel) (by decide +kernel)), cm_Reader_putInFront, ik_2, (by decide +kernel), (by decide +kernel), pm_Reader_putInFront⟩, (xin_tb 539 (by decide +kernel) (by decide +kernel)), (xin_tb 12 (by decide +kernel) (by decide +kernel)), TX2, 11, rfl⟩
theorem xk_Reader_99 : xMk "DrumTongue$Reader" 99 (1, m_Reader_takeLower, 2, 2) := ⟨⟨Or.inl (xin_tb 551 (by decide +kernel) (by decide +kernel)), cm_Reader_takeLower, ik_2, (by decide +kernel), (by decide +kernel), pm_Reader_takeLower⟩, (xin_tb 553 (by decide +kernel) (by decide +kernel)), (xin_tb 14 (by decide +kernel) (by decide +kernel)), TX2, 11, rfl⟩
theorem xk_Reader_102 : xMk "DrumTongue$Reader" 102 (1, m_Reader_startUpTo, 1, 2) := ⟨⟨Or.inl (xin_tb 563 (by decide +kernel) (by decide +kernel)), cm_Reader_startUpTo, ik_2, (by decide +kernel), (by decide +kernel), pm_Reader_startUpTo⟩, (xin_tb 565 (by decide +kernel) (by decide +kernel)), (xin_tb 17 (by decide +kernel) (by decide +kernel)), TX2, 11, rfl⟩
theorem xk_Reader_105 : xMk "DrumTongue$Reader" 105 (1, m_Reader_firstWordThatKeepsTheLeast, 1, 2) := ⟨⟨Or.inl (xin_tb 567 (by decide +kernel) (by decide +kernel)), cm_Reader_firstWordThatKeepsTheLeast, ik_2, (by decide +kernel), (by decide +kernel), pm_Reader_firstWordThatKeepsTheLeast⟩, (xin_tb 569 (by decide +kernel) (by decide +kernel)), (xin_tb 18 (by decide +kernel) (by decide +kernel)), TX2, 11, rfl⟩
theorem xk_Reader_109 : xMk "DrumTongue$Reader" 109 (1, m_Reader_putBehind, 2, 2) := ⟨⟨Or.inl (xin_tb 571 (by decide +kernel) (by decide +kernel)), cm_Reader_putBehind, ik_2, (by decide +kernel), (by decide +kernel), pm_Reader_putBehind⟩, (xin_tb 573 (by decide +kernel) (by decide +kernel)), (xin_tb 19 (by decide +kernel) (by decide +kernel)), TX2, 11, rfl⟩
theorem xk_Reader_112 : xMk "DrumTongue$Reader" 112 (1, m_Reader_leastTogether, 2, 2) := ⟨⟨Or.inl (xin_tb 579 (by decide +kernel) (by decide +kernel)), cm_Reader_leastTogether, ik_2, (by decide +kernel), (by decide +kernel), pm_Reader_leastTogether⟩, (xin_tb 581 (by decide +kernel) (by decide +kernel)), (xin_tb 21 (by decide +kernel) (by decide +kernel)), TX2, 11, rfl⟩
theorem xk_Reader_116 : xMk "DrumTongue$Reader" 116 (1, m_Reader_doubtAt, 1, 2) := ⟨⟨Or.inl (xin_tb 623 (by decide +kernel) (by decide +kernel)), cm_Reader_doubtAt, ik_2, (by decide +kernel), (by decide +kernel), pm_Reader_doubtAt⟩, (xin_tb 608 (by decide +kernel) (by decide +kernel)), (xin_tb 609 (by decide +kernel) (by decide +kernel)), TX2, 11, rfl⟩
theorem xk_Reader_119 : xMk "DrumTongue$Reader" 119 (1, m_Reader_weighAround, 1, 2) := ⟨⟨Or.inl (xin_tb 611 (by decide +kernel) (by decide +kernel)), cm_Reader_weighAround, ik_2, (by decide +kernel), (by decide +kernel), pm_Reader_weighAround⟩, (xin_tb 613 (by decide +kernel) (by decide +kernel)), (xin_tb 22 (by decide +kernel) (by decide +kernel)), TX2, 11, rfl⟩
theorem xk_Reader_123 : xMk "DrumTongue$Reader" 123 (6, (objectInit, ⟨#[0xb1]⟩, 1, none), 0, 0) := ⟨xin_tb 535 (by decide +kernel) (by decide +kernel), xin_tb 381 (by decide +kernel) (by decide +kernel), xin_tb 53 (by decide +kernel) (by decide +kernel), xin_tb 382 (by decide +kernel) (by decide +kernel)⟩
theorem xk_Reader_129 : xMk "DrumTongue$Reader" 129 (1, m_Ear_size, 0, 0) := ⟨⟨Or.inl (xin_tb 523 (by decide +kernel) (by decide +kernel)), cm_Ear_size, ik_0, (by decide +kernel), (by decide +kernel), pm_Ear_size⟩, (xin_tb 476 (by decide +kernel) (by decide +kernel)), (xin_tb 477 (by decide +kernel) (by decide +kernel)), TX0, 2, rfl⟩
theorem xk_Reader_132 : xMk "DrumTongue$Reader" 132 (1, m_Tongue_phraseSize, 1, 5) := ⟨⟨Or.inl (xin_tb 541 (by decide +kernel) (by decide +kernel)), cm_Tongue_phraseSize, ik_5, (by decide +kernel), (by decide +kernel), pm_Tongue_phraseSize⟩, (xin_tb 425 (by decide +kernel) (by decide +kernel)), (xin_tb 426 (by decide +kernel) (by decide +kernel)), TX5, 12, rfl⟩
theorem xk_Reader_135 : xMk "DrumTongue$Reader" 135 (1, m_Tongue_phraseBeat, 2, 5) := ⟨⟨Or.inl (xin_tb 542 (by decide +kernel) (by decide +kernel)), cm_Tongue_phraseBeat, ik_5, (by decide +kernel), (by decide +kernel), pm_Tongue_phraseBeat⟩, (xin_tb 434 (by decide +kernel) (by decide +kernel)), (xin_tb 435 (by decide +kernel) (by decide +kernel)), TX5, 12, rfl⟩
theorem xk_Reader_138 : xMk "DrumTongue$Reader" 138 (1, m_Reader_putBeatBehind, 2, 2) := ⟨⟨Or.inl (xin_tb 575 (by decide +kernel) (by decide +kernel)), cm_Reader_putBeatBehind, ik_2, (by decide +kernel), (by decide +kernel), pm_Reader_putBeatBehind⟩, (xin_tb 577 (by decide +kernel) (by decide +kernel)), (xin_tb 20 (by decide +kernel) (by decide +kernel)), TX2, 11, rfl⟩
theorem xk_Reader_141 : xMk "DrumTongue$Reader" 141 (1, m_Reader_putBeatInFront, 2, 2) := ⟨⟨Or.inl (xin_tb 543 (by decide +kernel) (by decide +kernel)), cm_Reader_putBeatInFront, ik_2, (by decide +kernel), (by decide +kernel), pm_Reader_putBeatInFront⟩, (xin_tb 545 (by decide +kernel) (by decide +kernel)), (xin_tb 13 (by decide +kernel) (by decide +kernel)), TX2, 11, rfl⟩
theorem xk_Reader_144 : xMk "DrumTongue$Reader" 144 (1, m_Ear_at, 1, 0) := ⟨⟨Or.inl (xin_tb 547 (by decide +kernel) (by decide +kernel)), cm_Ear_at, ik_0, (by decide +kernel), (by decide +kernel), pm_Ear_at⟩, (xin_tb 484 (by decide +kernel) (by decide +kernel)), (xin_tb 485 (by decide +kernel) (by decide +kernel)), TX0, 2, rfl⟩
theorem xk_Reader_147 : xMk "DrumTongue$Reader" 147 (0, m_Reader_costOf, 2, 0) := ⟨⟨Or.inl (xin_tb 548 (by decide +kernel) (by decide +kernel)), cm_Reader_costOf, ik_2, (by decide +kernel), (by decide +kernel), pm_Reader_costOf⟩, (xin_tb 549 (by decide +kernel) (by decide +kernel))⟩
abbrev tb_Reader : xTb := ([(13, 2, 2, .array .int, true, false), (17, 2, 4, .array .int, true, false), (22, 2, 7, .array (.array .int), true, false), (25, 2, 8, .array .int, true, false), (28, 2, 9, .array .int, true, false), (31, 2, 10, .array .int, true, false), (34, 2, 0, .object "DrumTongue$Tongue", true, false), (38, 2, 1, .object "DrumTongue$Ear", true, false), (54, 2, 5, .int, false, false), (58, 2, 6, .int, false, false), (70, 2, 3, .int, false, false)], [(5, 3, (objectInit, ⟨#[0xb1]⟩, 1, none), 0, 0), (42, 1, m_Tongue_phraseCount, 0, 5), (48, 1, m_Reader_weighAllCounts, 0, 2), (51, 1, m_Reader_bestCount, 0, 2), (61, 1, m_Reader_spellFirstByNumbers, 0, 2), (64, 4, (objectInit, ⟨#[0xb1]⟩, 1, none), 5, 0), (73, 1, m_Reader_startFrom, 1, 2), (78, 0, m_Arrays_fill, 2, 0), (84, 1, m_Tongue_wordCount, 0, 5), (87, 1, m_Tongue_hasPhrase, 1, 5), (91, 1, m_Reader_copy, 2, 2), (95, 1, m_Reader_putInFront, 2, 2), (99, 1, m_Reader_takeLower, 2, 2), (102, 1, m_Reader_startUpTo, 1, 2), (105, 1, m_Reader_firstWordThatKeepsTheLeast, 1, 2), (109, 1, m_Reader_putBehind, 2, 2), (112, 1, m_Reader_leastTogether, 2, 2), (116, 1, m_Reader_doubtAt, 1, 2), (119, 1, m_Reader_weighAround, 1, 2), (123, 6, (objectInit, ⟨#[0xb1]⟩, 1, none), 0, 0), (129, 1, m_Ear_size, 0, 0), (132, 1, m_Tongue_phraseSize, 1, 5), (135, 1, m_Tongue_phraseBeat, 2, 5), (138, 1, m_Reader_putBeatBehind, 2, 2), (141, 1, m_Reader_putBeatInFront, 2, 2), (144, 1, m_Ear_at, 1, 0), (147, 0, m_Reader_costOf, 2, 0)], [], [(77, 1000000)], [(150, 31)], [20])
theorem tk_Reader : xTbOk "DrumTongue$Reader" tb_Reader := ⟨xall (List.forall_mem_cons.mpr ⟨xf_Reader_13, List.forall_mem_cons.mpr ⟨xf_Reader_17, List.forall_mem_cons.mpr ⟨xf_Reader_22, List.forall_mem_cons.mpr ⟨xf_Reader_25, List.forall_mem_cons.mpr ⟨xf_Reader_28, List.forall_mem_cons.mpr ⟨xf_Reader_31, List.forall_mem_cons.mpr ⟨xf_Reader_34, List.forall_mem_cons.mpr ⟨xf_Reader_38, List.forall_mem_cons.mpr ⟨xf_Reader_54, List.forall_mem_cons.mpr ⟨xf_Reader_58, List.forall_mem_cons.mpr ⟨xf_Reader_70, fun _ h => absurd h List.not_mem_nil⟩⟩⟩⟩⟩⟩⟩⟩⟩⟩⟩), xall (List.forall_mem_cons.mpr ⟨xk_Reader_5, List.forall_mem_cons.mpr ⟨xk_Reader_42, List.forall_mem_cons.mpr ⟨xk_Reader_48, List.forall_mem_cons.mpr ⟨xk_Reader_51, List.forall_mem_cons.mpr ⟨xk_Reader_61, List.forall_mem_cons.mpr ⟨xk_Reader_64, List.forall_mem_cons.mpr ⟨xk_Reader_73, List.forall_mem_cons.mpr ⟨xk_Reader_78, List.forall_mem_cons.mpr ⟨xk_Reader_84, List.forall_mem_cons.mpr ⟨xk_Reader_87, List.forall_mem_cons.mpr ⟨xk_Reader_91, List.forall_mem_cons.mpr ⟨xk_Reader_95, List.forall_mem_cons.mpr ⟨xk_Reader_99, List.forall_mem_cons.mpr ⟨xk_Reader_102, List.forall_mem_cons.mpr ⟨xk_Reader_105, List.forall_mem_cons.mpr ⟨xk_Reader_109, List.forall_mem_cons.mpr ⟨xk_Reader_112, List.forall_mem_cons.mpr ⟨xk_Reader_116, List.forall_mem_cons.mpr ⟨xk_Reader_119, List.forall_mem_cons.mpr ⟨xk_Reader_123, List.forall_mem_cons.mpr ⟨xk_Reader_129, List.forall_mem_cons.mpr ⟨xk_Reader_132, List.forall_mem_cons.mpr ⟨xk_Reader_135, List.forall_mem_cons.mpr ⟨xk_Reader_138, List.forall_mem_cons.mpr ⟨xk_Reader_141, List.forall_mem_cons.mpr ⟨xk_Reader_144, List.forall_mem_cons.mpr ⟨xk_Reader_147, fun _ h => absurd h List.not_mem_nil⟩⟩⟩⟩⟩⟩⟩⟩⟩⟩⟩⟩⟩⟩⟩⟩⟩⟩⟩⟩⟩⟩⟩⟩⟩⟩⟩), xall (fun _ h => absurd h List.not_mem_nil), xall (List.forall_mem_cons.mpr ⟨xin_tb 524 (by decide +kernel) (by decide +kernel), fun _ h => absurd h List.not_mem_nil⟩), xall (List.forall_mem_cons.mpr ⟨xin_tb 765 (by decide +kernel) (by decide +kernel), fun _ h => absurd h List.not_mem_nil⟩), List.forall_mem_cons.mpr ⟨xin_tb 193 (by decide +kernel) (by decide +kernel), fun _ h => absurd h List.not_mem_nil⟩⟩
theorem xf_Rows_13 : xFld "DrumTongue$Rows" 13 3 0 (.array .int) true false := ⟨RX3, TX3, 3, tyX3, rfl, by decide, wk_3, tyX3_ok, nmX3, rfl, rfl, fun _ => ⟨xin_tb 85 (by decide +kernel) (by decide +kernel), fun _ => rfl⟩, fun q => by cases q⟩
theorem xf_Rows_19 : xFld "DrumTongue$Rows" 19 3 1 (.array .int) true false := ⟨RX3, TX3, 3, tyX3, rfl, by decide, wk_3, tyX3_ok, nmX3, rfl, rfl, fun _ => ⟨xin_tb 86 (by decide +kernel) (by decide +kernel), fun _ => rfl⟩, fun q => by cases q⟩
theorem xf_Rows_22 : xFld "DrumTongue$Rows" 22 3 2 (.int) false false := ⟨RX3, TX3, 3, tyX3, rfl, by decide, wk_3, tyX3_ok, nmX3, rfl, rfl, fun _ => ⟨xin_tb 87 (by decide +kernel) (by decide +kernel), fun _ => rfl⟩, fun q => by cases q⟩
theorem xk_Rows_1 : xMk "DrumTongue$Rows" 1 (3, (objectInit, ⟨#[0xb1]⟩, 1, none), 0, 0) := ⟨xin_tb 81 (by decide +kernel) (by decide +kernel), xin_tb 68 (by decide +kernel) (by decide +kernel), xin_tb 69 (by decide +kernel) (by decide +kernel)⟩
theorem xk_Rows_7 : xMk "DrumTongue$Rows" 7 (5, (objectInit, ⟨#[0xb1]⟩, 1, none), 0, 0) := ⟨xin_tb 82 (by decide +kernel) (by decide +kernel), xin_tb 83 (by decide +kernel) (by decide +kernel), xin_tb 53 (by decide +kernel) (by decide +kernel), xin_tb 84 (by decide +kernel) (by decide +kernel)⟩
theorem xk_Rows_26 : xMk "DrumTongue$Rows" 26 (1, m_Rows_isFull, 0, 3) := ⟨⟨Or.inl (xin_tb 116 (by decide +kernel) (by decide +kernel)), cm_Rows_isFull, ik_3, (by decide +kernel), (by decide +kernel), pm_Rows_isFull⟩, (xin_tb 117 (by decide +kernel) (by decide +kernel)), (xin_tb 118 (by decide +kernel) (by decide +kernel)), TX3, 3, rfl⟩
theorem xk_Rows_30 : xMk "DrumTongue$Rows" 30 (0, m_Rows_areApart, 5, 0) := ⟨⟨Or.inl (xin_tb 374 (by decide +kernel) (by decide +kernel)), cm_Rows_areApart, ik_3, (by decide +kernel), (by decide +kernel), pm_Rows_areApart⟩, (xin_tb 375 (by decide +kernel) (by decide +kernel))⟩
theorem xk_Rows_34 : xMk "DrumTongue$Rows" 34 (6, (objectInit, ⟨#[0xb1]⟩, 1, none), 0, 0) := ⟨xin_tb 380 (by decide +kernel) (by decide +kernel), xin_tb 381 (by decide +kernel) (by decide +kernel), xin_tb 53 (by decide +kernel) (by decide +kernel), xin_tb 382 (by decide +kernel) (by decide +kernel)⟩
theorem xk_Rows_37 : xMk "DrumTongue$Rows" 37 (0, m_Integer_bitCount, 1, 0) := ⟨⟨Or.inl (xin_tb 383 (by decide +kernel) (by decide +kernel)), cm_Integer_bitCount, (xin_tb 60 (by decide +kernel) (by decide +kernel)), (by decide +kernel), (by decide +kernel), pm_Integer_bitCount⟩, (xin_tb 384 (by decide +kernel) (by decide +kernel))⟩
theorem xk_Rows_43 : xMk "DrumTongue$Rows" 43 (0, m_Rows_differing, 4, 0) := ⟨⟨Or.inl (xin_tb 377 (by decide +kernel) (by decide +kernel)), cm_Rows_differing, ik_3, (by decide +kernel), (by decide +kernel), pm_Rows_differing⟩, (xin_tb 378 (by decide +kernel) (by decide +kernel))⟩
theorem xk_Rows_47 : xMk "DrumTongue$Rows" 47 (7, (objectInit, ⟨#[0xb1]⟩, 1, none), 0, 0) := ⟨xin_tb 389 (by decide +kernel) (by decide +kernel), xin_tb 390 (by decide +kernel) (by decide +kernel), xin_tb 53 (by decide +kernel) (by decide +kernel), xin_tb 391 (by decide +kernel) (by decide +kernel)⟩
abbrev tb_Rows : xTb := ([(13, 3, 0, .array .int, true, false), (19, 3, 1, .array .int, true, false), (22, 3, 2, .int, false, false)], [(1, 3, (objectInit, ⟨#[0xb1]⟩, 1, none), 0, 0), (7, 5, (objectInit, ⟨#[0xb1]⟩, 1, none), 0, 0), (26, 1, m_Rows_isFull, 0, 3), (30, 0, m_Rows_areApart, 5, 0), (34, 6, (objectInit, ⟨#[0xb1]⟩, 1, none), 0, 0), (37, 0, m_Integer_bitCount, 1, 0), (43, 0, m_Rows_differing, 4, 0), (47, 7, (objectInit, ⟨#[0xb1]⟩, 1, none), 0, 0)], [], [], [], [])
theorem tk_Rows : xTbOk "DrumTongue$Rows" tb_Rows := ⟨xall (List.forall_mem_cons.mpr ⟨xf_Rows_13, List.forall_mem_cons.mpr ⟨xf_Rows_19, List.forall_mem_cons.mpr ⟨xf_Rows_22, fun _ h => absurd h List.not_mem_nil⟩⟩⟩), xall (List.forall_mem_cons.mpr ⟨xk_Rows_1, List.forall_mem_cons.mpr ⟨xk_Rows_7, List.forall_mem_cons.mpr ⟨xk_Rows_26, List.forall_mem_cons.mpr ⟨xk_Rows_30, List.forall_mem_cons.mpr ⟨xk_Rows_34, List.forall_mem_cons.mpr ⟨xk_Rows_37, List.forall_mem_cons.mpr ⟨xk_Rows_43, List.forall_mem_cons.mpr ⟨xk_Rows_47, fun _ h => absurd h List.not_mem_nil⟩⟩⟩⟩⟩⟩⟩⟩), xall (fun _ h => absurd h List.not_mem_nil), xall (fun _ h => absurd h List.not_mem_nil), xall (fun _ h => absurd h List.not_mem_nil), fun _ h => absurd h List.not_mem_nil⟩
theorem xf_Tails_18 : xFld "DrumTongue$Tails" 18 4 0 (.object "DrumTongue$Rows") true false := ⟨RX4, TX4, 3, tyX4, rfl, by decide, wk_4, tyX4_ok, nmX4, rfl, rfl, fun _ => ⟨xin_tb 120 (by decide +kernel) (by decide +kernel), fun _ => rfl⟩, fun q => by cases q⟩
theorem xf_Tails_22 : xFld "DrumTongue$Tails" 22 4 1 (.array .int) true false := ⟨RX4, TX4, 3, tyX4, rfl, by decide, wk_4, tyX4_ok, nmX4, rfl, rfl, fun _ => ⟨xin_tb 121 (by decide +kernel) (by decide +kernel), fun _ => rfl⟩, fun q => by cases q⟩
theorem xf_Tails_26 : xFld "DrumTongue$Tails" 26 4 2 (.array .int) true false := ⟨RX4, TX4, 3, tyX4, rfl, by decide, wk_4, tyX4_ok, nmX4, rfl, rfl, fun _ => ⟨xin_tb 122 (by decide +kernel) (by decide +kernel), fun _ => rfl⟩, fun q => by cases q⟩
theorem xk_Tails_5 : xMk "DrumTongue$Tails" 5 (3, (objectInit, ⟨#[0xb1]⟩, 1, none), 0, 0) := ⟨xin_tb 101 (by decide +kernel) (by decide +kernel), xin_tb 68 (by decide +kernel) (by decide +kernel), xin_tb 69 (by decide +kernel) (by decide +kernel)⟩
theorem xk_Tails_15 : xMk "DrumTongue$Tails" 15 (2, m_Rows_init, 1, 0) := ⟨⟨Or.inl (xin_tb 103 (by decide +kernel) (by decide +kernel)), cm_Rows_init, ik_3, (by decide +kernel), (by decide +kernel), pm_Rows_init⟩, (xin_tb 79 (by decide +kernel) (by decide +kernel)), rfl, rfl⟩
theorem xk_Tails_29 : xMk "DrumTongue$Tails" 29 (1, m_Tails_add, 4, 4) := ⟨⟨Or.inl (xin_tb 104 (by decide +kernel) (by decide +kernel)), cm_Tails_add, ik_4, (by decide +kernel), (by decide +kernel), pm_Tails_add⟩, (xin_tb 106 (by decide +kernel) (by decide +kernel)), (xin_tb 0 (by decide +kernel) (by decide +kernel)), TX4, 3, rfl⟩
theorem xk_Tails_33 : xMk "DrumTongue$Tails" 33 (1, m_Rows_used, 0, 3) := ⟨⟨Or.inl (xin_tb 108 (by decide +kernel) (by decide +kernel)), cm_Rows_used, ik_3, (by decide +kernel), (by decide +kernel), pm_Rows_used⟩, (xin_tb 109 (by decide +kernel) (by decide +kernel)), (xin_tb 110 (by decide +kernel) (by decide +kernel)), TX3, 3, rfl⟩
theorem xk_Tails_37 : xMk "DrumTongue$Tails" 37 (1, m_Rows_size, 1, 3) := ⟨⟨Or.inl (xin_tb 315 (by decide +kernel) (by decide +kernel)), cm_Rows_size, ik_3, (by decide +kernel), (by decide +kernel), pm_Rows_size⟩, (xin_tb 316 (by decide +kernel) (by decide +kernel)), (xin_tb 317 (by decide +kernel) (by decide +kernel)), TX3, 3, rfl⟩
theorem xk_Tails_41 : xMk "DrumTongue$Tails" 41 (1, m_Rows_number, 1, 3) := ⟨⟨Or.inl (xin_tb 319 (by decide +kernel) (by decide +kernel)), cm_Rows_number, ik_3, (by decide +kernel), (by decide +kernel), pm_Rows_number⟩, (xin_tb 320 (by decide +kernel) (by decide +kernel)), (xin_tb 321 (by decide +kernel) (by decide +kernel)), TX3, 3, rfl⟩
theorem xk_Tails_44 : xMk "DrumTongue$Tails" 44 (1, m_Rows_dropAllBehind, 1, 3) := ⟨⟨Or.inl (xin_tb 307 (by decide +kernel) (by decide +kernel)), cm_Rows_dropAllBehind, ik_3, (by decide +kernel), (by decide +kernel), pm_Rows_dropAllBehind⟩, (xin_tb 308 (by decide +kernel) (by decide +kernel)), (xin_tb 309 (by decide +kernel) (by decide +kernel)), TX3, 3, rfl⟩
theorem xk_Tails_47 : xMk "DrumTongue$Tails" 47 (1, m_Tails_addSingles, 2, 4) := ⟨⟨Or.inl (xin_tb 311 (by decide +kernel) (by decide +kernel)), cm_Tails_addSingles, ik_4, (by decide +kernel), (by decide +kernel), pm_Tails_addSingles⟩, (xin_tb 313 (by decide +kernel) (by decide +kernel)), (xin_tb 2 (by decide +kernel) (by decide +kernel)), TX4, 3, rfl⟩
theorem xk_Tails_51 : xMk "DrumTongue$Tails" 51 (1, m_Tails_addPairs, 2, 4) := ⟨⟨Or.inl (xin_tb 323 (by decide +kernel) (by decide +kernel)), cm_Tails_addPairs, ik_4, (by decide +kernel), (by decide +kernel), pm_Tails_addPairs⟩, (xin_tb 325 (by decide +kernel) (by decide +kernel)), (xin_tb 3 (by decide +kernel) (by decide +kernel)), TX4, 3, rfl⟩
theorem xk_Tails_54 : xMk "DrumTongue$Tails" 54 (1, m_Rows_add, 2, 3) := ⟨⟨Or.inl (xin_tb 112 (by decide +kernel) (by decide +kernel)), cm_Rows_add, ik_3, (by decide +kernel), (by decide +kernel), pm_Rows_add⟩, (xin_tb 113 (by decide +kernel) (by decide +kernel)), (xin_tb 114 (by decide +kernel) (by decide +kernel)), TX3, 3, rfl⟩
theorem xn_Tails_11 : xNw "DrumTongue$Tails" 11 3 [xR none, xR none, xI 0] := ⟨RX3, TX3, 3, tyX3, rfl, wk_3, tyX3_ok, xin_tb 102 (by decide +kernel) (by decide +kernel), xin_tb 77 (by decide +kernel) (by decide +kernel), ik_3, rfl, fun G j hj => by
  rcases (show j = 0 ∨ j = 1 ∨ j = 2 by omega) with rfl | rfl | rfl <;> rfl⟩
abbrev tb_Tails : xTb := ([(18, 4, 0, .object "DrumTongue$Rows", true, false), (22, 4, 1, .array .int, true, false), (26, 4, 2, .array .int, true, false)], [(5, 3, (objectInit, ⟨#[0xb1]⟩, 1, none), 0, 0), (15, 2, m_Rows_init, 1, 0), (29, 1, m_Tails_add, 4, 4), (33, 1, m_Rows_used, 0, 3), (37, 1, m_Rows_size, 1, 3), (41, 1, m_Rows_number, 1, 3), (44, 1, m_Rows_dropAllBehind, 1, 3), (47, 1, m_Tails_addSingles, 2, 4), (51, 1, m_Tails_addPairs, 2, 4), (54, 1, m_Rows_add, 2, 3)], [(11, 3, [xR none, xR none, xI 0])], [], [], [])
theorem tk_Tails : xTbOk "DrumTongue$Tails" tb_Tails := ⟨xall (List.forall_mem_cons.mpr ⟨xf_Tails_18, List.forall_mem_cons.mpr ⟨xf_Tails_22, List.forall_mem_cons.mpr ⟨xf_Tails_26, fun _ h => absurd h List.not_mem_nil⟩⟩⟩), xall (List.forall_mem_cons.mpr ⟨xk_Tails_5, List.forall_mem_cons.mpr ⟨xk_Tails_15, List.forall_mem_cons.mpr ⟨xk_Tails_29, List.forall_mem_cons.mpr ⟨xk_Tails_33, List.forall_mem_cons.mpr ⟨xk_Tails_37, List.forall_mem_cons.mpr ⟨xk_Tails_41, List.forall_mem_cons.mpr ⟨xk_Tails_44, List.forall_mem_cons.mpr ⟨xk_Tails_47, List.forall_mem_cons.mpr ⟨xk_Tails_51, List.forall_mem_cons.mpr ⟨xk_Tails_54, fun _ h => absurd h List.not_mem_nil⟩⟩⟩⟩⟩⟩⟩⟩⟩⟩), xall (List.forall_mem_cons.mpr ⟨xn_Tails_11, fun _ h => absurd h List.not_mem_nil⟩), xall (fun _ h => absurd h List.not_mem_nil), xall (fun _ h => absurd h List.not_mem_nil), fun _ h => absurd h List.not_mem_nil⟩
theorem xf_Tongue_16 : xFld "DrumTongue$Tongue" 16 5 0 (.object "DrumTongue$Rows") true false := ⟨RX5, TX5, 12, tyX5, rfl, by decide, wk_5, tyX5_ok, nmX5, rfl, rfl, fun _ => ⟨xin_tb 137 (by decide +kernel) (by decide +kernel), fun _ => rfl⟩, fun q => by cases q⟩
theorem xf_Tongue_20 : xFld "DrumTongue$Tongue" 20 5 1 (.object "DrumTongue$Rows") true false := ⟨RX5, TX5, 12, tyX5, rfl, by decide, wk_5, tyX5_ok, nmX5, rfl, rfl, fun _ => ⟨xin_tb 138 (by decide +kernel) (by decide +kernel), fun _ => rfl⟩, fun q => by cases q⟩
theorem xf_Tongue_26 : xFld "DrumTongue$Tongue" 26 5 2 (.object "DrumTongue$Tails") true false := ⟨RX5, TX5, 12, tyX5, rfl, by decide, wk_5, tyX5_ok, nmX5, rfl, rfl, fun _ => ⟨xin_tb 139 (by decide +kernel) (by decide +kernel), fun _ => rfl⟩, fun q => by cases q⟩
theorem xf_Tongue_30 : xFld "DrumTongue$Tongue" 30 5 3 (.array .int) true false := ⟨RX5, TX5, 12, tyX5, rfl, by decide, wk_5, tyX5_ok, nmX5, rfl, rfl, fun _ => ⟨xin_tb 140 (by decide +kernel) (by decide +kernel), fun _ => rfl⟩, fun q => by cases q⟩
theorem xf_Tongue_34 : xFld "DrumTongue$Tongue" 34 5 4 (.array .int) true false := ⟨RX5, TX5, 12, tyX5, rfl, by decide, wk_5, tyX5_ok, nmX5, rfl, rfl, fun _ => ⟨xin_tb 141 (by decide +kernel) (by decide +kernel), fun _ => rfl⟩, fun q => by cases q⟩
theorem xf_Tongue_37 : xFld "DrumTongue$Tongue" 37 5 5 (.array .int) true false := ⟨RX5, TX5, 12, tyX5, rfl, by decide, wk_5, tyX5_ok, nmX5, rfl, rfl, fun _ => ⟨xin_tb 142 (by decide +kernel) (by decide +kernel), fun _ => rfl⟩, fun q => by cases q⟩
theorem xf_Tongue_40 : xFld "DrumTongue$Tongue" 40 5 6 (.int) false false := ⟨RX5, TX5, 12, tyX5, rfl, by decide, wk_5, tyX5_ok, nmX5, rfl, rfl, fun _ => ⟨xin_tb 143 (by decide +kernel) (by decide +kernel), fun _ => rfl⟩, fun q => by cases q⟩
theorem xf_Tongue_44 : xFld "DrumTongue$Tongue" 44 5 7 (.object "DrumTongue$Rows") true false := ⟨RX5, TX5, 12, tyX5, rfl, by decide, wk_5, tyX5_ok, nmX5, rfl, rfl, fun _ => ⟨xin_tb 144 (by decide +kernel) (by decide +kernel), fun _ => rfl⟩, fun q => by cases q⟩
theorem xf_Tongue_47 : xFld "DrumTongue$Tongue" 47 5 8 (.array .int) true false := ⟨RX5, TX5, 12, tyX5, rfl, by decide, wk_5, tyX5_ok, nmX5, rfl, rfl, fun _ => ⟨xin_tb 145 (by decide +kernel) (by decide +kernel), fun _ => rfl⟩, fun q => by cases q⟩
theorem xf_Tongue_50 : xFld "DrumTongue$Tongue" 50 5 9 (.array .int) true false := ⟨RX5, TX5, 12, tyX5, rfl, by decide, wk_5, tyX5_ok, nmX5, rfl, rfl, fun _ => ⟨xin_tb 146 (by decide +kernel) (by decide +kernel), fun _ => rfl⟩, fun q => by cases q⟩
theorem xf_Tongue_120 : xFld "DrumTongue$Tongue" 120 5 10 (.int) false false := ⟨RX5, TX5, 12, tyX5, rfl, by decide, wk_5, tyX5_ok, nmX5, rfl, rfl, fun _ => ⟨xin_tb 147 (by decide +kernel) (by decide +kernel), fun _ => rfl⟩, fun q => by cases q⟩
theorem xf_Tongue_123 : xFld "DrumTongue$Tongue" 123 5 11 (.int) false false := ⟨RX5, TX5, 12, tyX5, rfl, by decide, wk_5, tyX5_ok, nmX5, rfl, rfl, fun _ => ⟨xin_tb 148 (by decide +kernel) (by decide +kernel), fun _ => rfl⟩, fun q => by cases q⟩
theorem xk_Tongue_3 : xMk "DrumTongue$Tongue" 3 (3, (objectInit, ⟨#[0xb1]⟩, 1, none), 0, 0) := ⟨xin_tb 75 (by decide +kernel) (by decide +kernel), xin_tb 68 (by decide +kernel) (by decide +kernel), xin_tb 69 (by decide +kernel) (by decide +kernel)⟩
theorem xk_Tongue_13 : xMk "DrumTongue$Tongue" 13 (2, m_Rows_init, 1, 0) := ⟨⟨Or.inl (xin_tb 78 (by decide +kernel) (by decide +kernel)), cm_Rows_init, ik_3, (by decide +kernel), (by decide +kernel), pm_Rows_init⟩, (xin_tb 79 (by decide +kernel) (by decide +kernel)), rfl, rfl⟩
theorem xk_Tongue_25 : xMk "DrumTongue$Tongue" 25 (2, m_Tails_init, 0, 0) := ⟨⟨Or.inl (xin_tb 98 (by decide +kernel) (by decide +kernel)), cm_Tails_init, ik_4, (by decide +kernel), (by decide +kernel), pm_Tails_init⟩, (xin_tb 99 (by decide +kernel) (by decide +kernel)), rfl, rfl⟩
theorem xk_Tongue_53 : xMk "DrumTongue$Tongue" 53 (1, m_Tongue_forgetPhrases, 0, 5) := ⟨⟨Or.inl (xin_tb 130 (by decide +kernel) (by decide +kernel)), cm_Tongue_forgetPhrases, ik_5, (by decide +kernel), (by decide +kernel), pm_Tongue_forgetPhrases⟩, (xin_tb 132 (by decide +kernel) (by decide +kernel)), (xin_tb 1 (by decide +kernel) (by decide +kernel)), TX5, 12, rfl⟩
theorem xk_Tongue_56 : xMk "DrumTongue$Tongue" 56 (1, m_Rows_isFull, 0, 3) := ⟨⟨Or.inl (xin_tb 292 (by decide +kernel) (by decide +kernel)), cm_Rows_isFull, ik_3, (by decide +kernel), (by decide +kernel), pm_Rows_isFull⟩, (xin_tb 117 (by decide +kernel) (by decide +kernel)), (xin_tb 118 (by decide +kernel) (by decide +kernel)), TX3, 3, rfl⟩
theorem xk_Tongue_60 : xMk "DrumTongue$Tongue" 60 (1, m_Rows_add, 2, 3) := ⟨⟨Or.inl (xin_tb 293 (by decide +kernel) (by decide +kernel)), cm_Rows_add, ik_3, (by decide +kernel), (by decide +kernel), pm_Rows_add⟩, (xin_tb 113 (by decide +kernel) (by decide +kernel)), (xin_tb 114 (by decide +kernel) (by decide +kernel)), TX3, 3, rfl⟩
theorem xk_Tongue_64 : xMk "DrumTongue$Tongue" 64 (1, m_Rows_used, 0, 3) := ⟨⟨Or.inl (xin_tb 294 (by decide +kernel) (by decide +kernel)), cm_Rows_used, ik_3, (by decide +kernel), (by decide +kernel), pm_Rows_used⟩, (xin_tb 109 (by decide +kernel) (by decide +kernel)), (xin_tb 110 (by decide +kernel) (by decide +kernel)), TX3, 3, rfl⟩
theorem xk_Tongue_68 : xMk "DrumTongue$Tongue" 68 (1, m_Tails_remake, 1, 4) := ⟨⟨Or.inl (xin_tb 303 (by decide +kernel) (by decide +kernel)), cm_Tails_remake, ik_4, (by decide +kernel), (by decide +kernel), pm_Tails_remake⟩, (xin_tb 304 (by decide +kernel) (by decide +kernel)), (xin_tb 305 (by decide +kernel) (by decide +kernel)), TX4, 3, rfl⟩
theorem xk_Tongue_72 : xMk "DrumTongue$Tongue" 72 (1, m_Tongue_hasPhrase, 1, 5) := ⟨⟨Or.inl (xin_tb 428 (by decide +kernel) (by decide +kernel)), cm_Tongue_hasPhrase, ik_5, (by decide +kernel), (by decide +kernel), pm_Tongue_hasPhrase⟩, (xin_tb 421 (by decide +kernel) (by decide +kernel)), (xin_tb 422 (by decide +kernel) (by decide +kernel)), TX5, 12, rfl⟩
theorem xk_Tongue_76 : xMk "DrumTongue$Tongue" 76 (1, m_Tails_endingAt, 2, 4) := ⟨⟨Or.inl (xin_tb 445 (by decide +kernel) (by decide +kernel)), cm_Tails_endingAt, ik_4, (by decide +kernel), (by decide +kernel), pm_Tails_endingAt⟩, (xin_tb 446 (by decide +kernel) (by decide +kernel)), (xin_tb 447 (by decide +kernel) (by decide +kernel)), TX4, 3, rfl⟩
theorem xk_Tongue_80 : xMk "DrumTongue$Tongue" 80 (1, m_Tongue_phraseSize, 1, 5) := ⟨⟨Or.inl (xin_tb 733 (by decide +kernel) (by decide +kernel)), cm_Tongue_phraseSize, ik_5, (by decide +kernel), (by decide +kernel), pm_Tongue_phraseSize⟩, (xin_tb 425 (by decide +kernel) (by decide +kernel)), (xin_tb 426 (by decide +kernel) (by decide +kernel)), TX5, 12, rfl⟩
theorem xk_Tongue_84 : xMk "DrumTongue$Tongue" 84 (0, m_Rows_differing, 4, 0) := ⟨⟨Or.inl (xin_tb 457 (by decide +kernel) (by decide +kernel)), cm_Rows_differing, ik_3, (by decide +kernel), (by decide +kernel), pm_Rows_differing⟩, (xin_tb 378 (by decide +kernel) (by decide +kernel))⟩
theorem xk_Tongue_88 : xMk "DrumTongue$Tongue" 88 (7, (objectInit, ⟨#[0xb1]⟩, 1, none), 0, 0) := ⟨xin_tb 458 (by decide +kernel) (by decide +kernel), xin_tb 390 (by decide +kernel) (by decide +kernel), xin_tb 53 (by decide +kernel) (by decide +kernel), xin_tb 391 (by decide +kernel) (by decide +kernel)⟩
theorem xk_Tongue_93 : xMk "DrumTongue$Tongue" 93 (0, m_Arrays_fill, 2, 0) := ⟨⟨Or.inl (xin_tb 134 (by decide +kernel) (by decide +kernel)), cm_Arrays_fill, (xin_tb 55 (by decide +kernel) (by decide +kernel)), (by decide +kernel), (by decide +kernel), pm_Arrays_fill⟩, (xin_tb 135 (by decide +kernel) (by decide +kernel))⟩
theorem xk_Tongue_99 : xMk "DrumTongue$Tongue" 99 (1, m_Tongue_sizeWith, 2, 5) := ⟨⟨Or.inl (xin_tb 352 (by decide +kernel) (by decide +kernel)), cm_Tongue_sizeWith, ik_5, (by decide +kernel), (by decide +kernel), pm_Tongue_sizeWith⟩, (xin_tb 354 (by decide +kernel) (by decide +kernel)), (xin_tb 5 (by decide +kernel) (by decide +kernel)), TX5, 12, rfl⟩
theorem xk_Tongue_102 : xMk "DrumTongue$Tongue" 102 (1, m_Tongue_numberWith, 2, 5) := ⟨⟨Or.inl (xin_tb 361 (by decide +kernel) (by decide +kernel)), cm_Tongue_numberWith, ik_5, (by decide +kernel), (by decide +kernel), pm_Tongue_numberWith⟩, (xin_tb 363 (by decide +kernel) (by decide +kernel)), (xin_tb 6 (by decide +kernel) (by decide +kernel)), TX5, 12, rfl⟩
theorem xk_Tongue_105 : xMk "DrumTongue$Tongue" 105 (1, m_Rows_dropAllBehind, 1, 3) := ⟨⟨Or.inl (xin_tb 343 (by decide +kernel) (by decide +kernel)), cm_Rows_dropAllBehind, ik_3, (by decide +kernel), (by decide +kernel), pm_Rows_dropAllBehind⟩, (xin_tb 308 (by decide +kernel) (by decide +kernel)), (xin_tb 309 (by decide +kernel) (by decide +kernel)), TX3, 3, rfl⟩
theorem xk_Tongue_108 : xMk "DrumTongue$Tongue" 108 (1, m_Tongue_firstTailApart, 1, 5) := ⟨⟨Or.inl (xin_tb 344 (by decide +kernel) (by decide +kernel)), cm_Tongue_firstTailApart, ik_5, (by decide +kernel), (by decide +kernel), pm_Tongue_firstTailApart⟩, (xin_tb 346 (by decide +kernel) (by decide +kernel)), (xin_tb 4 (by decide +kernel) (by decide +kernel)), TX5, 12, rfl⟩
theorem xk_Tongue_111 : xMk "DrumTongue$Tongue" 111 (1, m_Tongue_give, 2, 5) := ⟨⟨Or.inl (xin_tb 392 (by decide +kernel) (by decide +kernel)), cm_Tongue_give, ik_5, (by decide +kernel), (by decide +kernel), pm_Tongue_give⟩, (xin_tb 394 (by decide +kernel) (by decide +kernel)), (xin_tb 7 (by decide +kernel) (by decide +kernel)), TX5, 12, rfl⟩
theorem xk_Tongue_114 : xMk "DrumTongue$Tongue" 114 (1, m_Tails_used, 0, 4) := ⟨⟨Or.inl (xin_tb 348 (by decide +kernel) (by decide +kernel)), cm_Tails_used, ik_4, (by decide +kernel), (by decide +kernel), pm_Tails_used⟩, (xin_tb 349 (by decide +kernel) (by decide +kernel)), (xin_tb 350 (by decide +kernel) (by decide +kernel)), TX4, 3, rfl⟩
theorem xk_Tongue_115 : xMk "DrumTongue$Tongue" 115 (1, m_Rows_allApartFrom, 3, 3) := ⟨⟨Or.inl (xin_tb 370 (by decide +kernel) (by decide +kernel)), cm_Rows_allApartFrom, ik_3, (by decide +kernel), (by decide +kernel), pm_Rows_allApartFrom⟩, (xin_tb 371 (by decide +kernel) (by decide +kernel)), (xin_tb 372 (by decide +kernel) (by decide +kernel)), TX3, 3, rfl⟩
theorem xk_Tongue_126 : xMk "DrumTongue$Tongue" 126 (1, m_Tongue_lookFrom, 2, 5) := ⟨⟨Or.inl (xin_tb 405 (by decide +kernel) (by decide +kernel)), cm_Tongue_lookFrom, ik_5, (by decide +kernel), (by decide +kernel), pm_Tongue_lookFrom⟩, (xin_tb 407 (by decide +kernel) (by decide +kernel)), (xin_tb 8 (by decide +kernel) (by decide +kernel)), TX5, 12, rfl⟩
theorem xk_Tongue_129 : xMk "DrumTongue$Tongue" 129 (4, (objectInit, ⟨#[0xb1]⟩, 1, none), 5, 0) := ⟨xin_tb 409 (by decide +kernel) (by decide +kernel), xin_tb 411 (by decide +kernel) (by decide +kernel), xin_tb 410 (by decide +kernel) (by decide +kernel), xin_tb 61 (by decide +kernel) (by decide +kernel)⟩
theorem xk_Tongue_135 : xMk "DrumTongue$Tongue" 135 (1, m_Rows_size, 1, 3) := ⟨⟨Or.inl (xin_tb 356 (by decide +kernel) (by decide +kernel)), cm_Rows_size, ik_3, (by decide +kernel), (by decide +kernel), pm_Rows_size⟩, (xin_tb 316 (by decide +kernel) (by decide +kernel)), (xin_tb 317 (by decide +kernel) (by decide +kernel)), TX3, 3, rfl⟩
theorem xk_Tongue_138 : xMk "DrumTongue$Tongue" 138 (1, m_Tails_size, 1, 4) := ⟨⟨Or.inl (xin_tb 357 (by decide +kernel) (by decide +kernel)), cm_Tails_size, ik_4, (by decide +kernel), (by decide +kernel), pm_Tails_size⟩, (xin_tb 358 (by decide +kernel) (by decide +kernel)), (xin_tb 359 (by decide +kernel) (by decide +kernel)), TX4, 3, rfl⟩
theorem xk_Tongue_139 : xMk "DrumTongue$Tongue" 139 (1, m_Rows_number, 1, 3) := ⟨⟨Or.inl (xin_tb 365 (by decide +kernel) (by decide +kernel)), cm_Rows_number, ik_3, (by decide +kernel), (by decide +kernel), pm_Rows_number⟩, (xin_tb 320 (by decide +kernel) (by decide +kernel)), (xin_tb 321 (by decide +kernel) (by decide +kernel)), TX3, 3, rfl⟩
theorem xk_Tongue_142 : xMk "DrumTongue$Tongue" 142 (1, m_Tails_number, 1, 4) := ⟨⟨Or.inl (xin_tb 366 (by decide +kernel) (by decide +kernel)), cm_Tails_number, ik_4, (by decide +kernel), (by decide +kernel), pm_Tails_number⟩, (xin_tb 367 (by decide +kernel) (by decide +kernel)), (xin_tb 368 (by decide +kernel) (by decide +kernel)), TX4, 3, rfl⟩
theorem xk_Tongue_145 : xMk "DrumTongue$Tongue" 145 (1, m_Tongue_phraseBeat, 2, 5) := ⟨⟨Or.inl (xin_tb 754 (by decide +kernel) (by decide +kernel)), cm_Tongue_phraseBeat, ik_5, (by decide +kernel), (by decide +kernel), pm_Tongue_phraseBeat⟩, (xin_tb 434 (by decide +kernel) (by decide +kernel)), (xin_tb 435 (by decide +kernel) (by decide +kernel)), TX5, 12, rfl⟩
theorem xk_Tongue_148 : xMk "DrumTongue$Tongue" 148 (1, m_Tongue_phraseEnding, 2, 5) := ⟨⟨Or.inl (xin_tb 755 (by decide +kernel) (by decide +kernel)), cm_Tongue_phraseEnding, ik_5, (by decide +kernel), (by decide +kernel), pm_Tongue_phraseEnding⟩, (xin_tb 442 (by decide +kernel) (by decide +kernel)), (xin_tb 443 (by decide +kernel) (by decide +kernel)), TX5, 12, rfl⟩
theorem xn_Tongue_9 : xNw "DrumTongue$Tongue" 9 3 [xR none, xR none, xI 0] := ⟨RX3, TX3, 3, tyX3, rfl, wk_3, tyX3_ok, xin_tb 76 (by decide +kernel) (by decide +kernel), xin_tb 77 (by decide +kernel) (by decide +kernel), ik_3, rfl, fun G j hj => by
  rcases (show j = 0 ∨ j = 1 ∨ j = 2 by omega) with rfl | rfl | rfl <;> rfl⟩
theorem xn_Tongue_23 : xNw "DrumTongue$Tongue" 23 4 [xR none, xR none, xR none] := ⟨RX4, TX4, 3, tyX4, rfl, wk_4, tyX4_ok, xin_tb 96 (by decide +kernel) (by decide +kernel), xin_tb 97 (by decide +kernel) (by decide +kernel), ik_4, rfl, fun G j hj => by
  rcases (show j = 0 ∨ j = 1 ∨ j = 2 by omega) with rfl | rfl | rfl <;> rfl⟩
abbrev tb_Tongue : xTb := ([(16, 5, 0, .object "DrumTongue$Rows", true, false), (20, 5, 1, .object "DrumTongue$Rows", true, false), (26, 5, 2, .object "DrumTongue$Tails", true, false), (30, 5, 3, .array .int, true, false), (34, 5, 4, .array .int, true, false), (37, 5, 5, .array .int, true, false), (40, 5, 6, .int, false, false), (44, 5, 7, .object "DrumTongue$Rows", true, false), (47, 5, 8, .array .int, true, false), (50, 5, 9, .array .int, true, false), (120, 5, 10, .int, false, false), (123, 5, 11, .int, false, false)], [(3, 3, (objectInit, ⟨#[0xb1]⟩, 1, none), 0, 0), (13, 2, m_Rows_init, 1, 0), (25, 2, m_Tails_init, 0, 0), (53, 1, m_Tongue_forgetPhrases, 0, 5), (56, 1, m_Rows_isFull, 0, 3), (60, 1, m_Rows_add, 2, 3), (64, 1, m_Rows_used, 0, 3), (68, 1, m_Tails_remake, 1, 4), (72, 1, m_Tongue_hasPhrase, 1, 5), (76, 1, m_Tails_endingAt, 2, 4), (80, 1, m_Tongue_phraseSize, 1, 5), (84, 0, m_Rows_differing, 4, 0), (88, 7, (objectInit, ⟨#[0xb1]⟩, 1, none), 0, 0), (93, 0, m_Arrays_fill, 2, 0), (99, 1, m_Tongue_sizeWith, 2, 5), (102, 1, m_Tongue_numberWith, 2, 5), (105, 1, m_Rows_dropAllBehind, 1, 3), (108, 1, m_Tongue_firstTailApart, 1, 5), (111, 1, m_Tongue_give, 2, 5), (114, 1, m_Tails_used, 0, 4), (115, 1, m_Rows_allApartFrom, 3, 3), (126, 1, m_Tongue_lookFrom, 2, 5), (129, 4, (objectInit, ⟨#[0xb1]⟩, 1, none), 5, 0), (135, 1, m_Rows_size, 1, 3), (138, 1, m_Tails_size, 1, 4), (139, 1, m_Rows_number, 1, 3), (142, 1, m_Tails_number, 1, 4), (145, 1, m_Tongue_phraseBeat, 2, 5), (148, 1, m_Tongue_phraseEnding, 2, 5)], [(9, 3, [xR none, xR none, xI 0]), (23, 4, [xR none, xR none, xR none])], [(119, 1000000)], [(143, 31)], [])
theorem tk_Tongue : xTbOk "DrumTongue$Tongue" tb_Tongue := ⟨xall (List.forall_mem_cons.mpr ⟨xf_Tongue_16, List.forall_mem_cons.mpr ⟨xf_Tongue_20, List.forall_mem_cons.mpr ⟨xf_Tongue_26, List.forall_mem_cons.mpr ⟨xf_Tongue_30, List.forall_mem_cons.mpr ⟨xf_Tongue_34, List.forall_mem_cons.mpr ⟨xf_Tongue_37, List.forall_mem_cons.mpr ⟨xf_Tongue_40, List.forall_mem_cons.mpr ⟨xf_Tongue_44, List.forall_mem_cons.mpr ⟨xf_Tongue_47, List.forall_mem_cons.mpr ⟨xf_Tongue_50, List.forall_mem_cons.mpr ⟨xf_Tongue_120, List.forall_mem_cons.mpr ⟨xf_Tongue_123, fun _ h => absurd h List.not_mem_nil⟩⟩⟩⟩⟩⟩⟩⟩⟩⟩⟩⟩), xall (List.forall_mem_cons.mpr ⟨xk_Tongue_3, List.forall_mem_cons.mpr ⟨xk_Tongue_13, List.forall_mem_cons.mpr ⟨xk_Tongue_25, List.forall_mem_cons.mpr ⟨xk_Tongue_53, List.forall_mem_cons.mpr ⟨xk_Tongue_56, List.forall_mem_cons.mpr ⟨xk_Tongue_60, List.forall_mem_cons.mpr ⟨xk_Tongue_64, List.forall_mem_cons.mpr ⟨xk_Tongue_68, List.forall_mem_cons.mpr ⟨xk_Tongue_72, List.forall_mem_cons.mpr ⟨xk_Tongue_76, List.forall_mem_cons.mpr ⟨xk_Tongue_80, List.forall_mem_cons.mpr ⟨xk_Tongue_84, List.forall_mem_cons.mpr ⟨xk_Tongue_88, List.forall_mem_cons.mpr ⟨xk_Tongue_93, List.forall_mem_cons.mpr ⟨xk_Tongue_99, List.forall_mem_cons.mpr ⟨xk_Tongue_102, List.forall_mem_cons.mpr ⟨xk_Tongue_105, List.forall_mem_cons.mpr ⟨xk_Tongue_108, List.forall_mem_cons.mpr ⟨xk_Tongue_111, List.forall_mem_cons.mpr ⟨xk_Tongue_114, List.forall_mem_cons.mpr ⟨xk_Tongue_115, List.forall_mem_cons.mpr ⟨xk_Tongue_126, List.forall_mem_cons.mpr ⟨xk_Tongue_129, List.forall_mem_cons.mpr ⟨xk_Tongue_135, List.forall_mem_cons.mpr ⟨xk_Tongue_138, List.forall_mem_cons.mpr ⟨xk_Tongue_139, List.forall_mem_cons.mpr ⟨xk_Tongue_142, List.forall_mem_cons.mpr ⟨xk_Tongue_145, List.forall_mem_cons.mpr ⟨xk_Tongue_148, fun _ h => absurd h List.not_mem_nil⟩⟩⟩⟩⟩⟩⟩⟩⟩⟩⟩⟩⟩⟩⟩⟩⟩⟩⟩⟩⟩⟩⟩⟩⟩⟩⟩⟩⟩), xall (List.forall_mem_cons.mpr ⟨xn_Tongue_9, List.forall_mem_cons.mpr ⟨xn_Tongue_23, fun _ h => absurd h List.not_mem_nil⟩⟩), xall (List.forall_mem_cons.mpr ⟨xin_tb 404 (by decide +kernel) (by decide +kernel), fun _ h => absurd h List.not_mem_nil⟩), xall (List.forall_mem_cons.mpr ⟨xin_tb 753 (by decide +kernel) (by decide +kernel), fun _ h => absurd h List.not_mem_nil⟩), fun _ h => absurd h List.not_mem_nil⟩
theorem xk_Law_9 : xMk "DrumTongueLaw" 9 (2, m_X_init, 0, 0) := ⟨⟨Or.inl (xin_tb 64 (by decide +kernel) (by decide +kernel)), cm_X_init, ik_6, (by decide +kernel), (by decide +kernel), pm_X_init⟩, (xin_tb 65 (by decide +kernel) (by decide +kernel)), rfl, rfl⟩
theorem xk_Law_12 : xMk "DrumTongueLaw" 12 (2, m_M_init, 0, 0) := ⟨⟨Or.inl (xin_tb 773 (by decide +kernel) (by decide +kernel)), cm_M_init, ik_7, (by decide +kernel), (by decide +kernel), pm_M_init⟩, (xin_tb 774 (by decide +kernel) (by decide +kernel)), rfl, rfl⟩
theorem xk_Law_13 : xMk "DrumTongueLaw" 13 (1, m_X_word, 2, 6) := ⟨⟨Or.inl (xin_tb 281 (by decide +kernel) (by decide +kernel)), cm_X_word, ik_6, (by decide +kernel), (by decide +kernel), pm_X_word⟩, (xin_tb 282 (by decide +kernel) (by decide +kernel)), (xin_tb 283 (by decide +kernel) (by decide +kernel)), TX6, 4, rfl⟩
theorem xk_Law_17 : xMk "DrumTongueLaw" 17 (1, m_M_word, 2, 7) := ⟨⟨Or.inl (xin_tb 896 (by decide +kernel) (by decide +kernel)), cm_M_word, ik_7, (by decide +kernel), (by decide +kernel), pm_M_word⟩, (xin_tb 897 (by decide +kernel) (by decide +kernel)), (xin_tb 898 (by decide +kernel) (by decide +kernel)), TX7, 39, rfl⟩
theorem xk_Law_18 : xMk "DrumTongueLaw" 18 (1, m_X_ending, 2, 6) := ⟨⟨Or.inl (xin_tb 295 (by decide +kernel) (by decide +kernel)), cm_X_ending, ik_6, (by decide +kernel), (by decide +kernel), pm_X_ending⟩, (xin_tb 296 (by decide +kernel) (by decide +kernel)), (xin_tb 297 (by decide +kernel) (by decide +kernel)), TX6, 4, rfl⟩
theorem xk_Law_21 : xMk "DrumTongueLaw" 21 (1, m_M_ending, 2, 7) := ⟨⟨Or.inl (xin_tb 911 (by decide +kernel) (by decide +kernel)), cm_M_ending, ik_7, (by decide +kernel), (by decide +kernel), pm_M_ending⟩, (xin_tb 912 (by decide +kernel) (by decide +kernel)), (xin_tb 913 (by decide +kernel) (by decide +kernel)), TX7, 39, rfl⟩
theorem xk_Law_22 : xMk "DrumTongueLaw" 22 (1, m_X_bound, 1, 6) := ⟨⟨Or.inl (xin_tb 327 (by decide +kernel) (by decide +kernel)), cm_X_bound, ik_6, (by decide +kernel), (by decide +kernel), pm_X_bound⟩, (xin_tb 328 (by decide +kernel) (by decide +kernel)), (xin_tb 329 (by decide +kernel) (by decide +kernel)), TX6, 4, rfl⟩
theorem xk_Law_26 : xMk "DrumTongueLaw" 26 (1, m_M_bound, 1, 7) := ⟨⟨Or.inl (xin_tb 915 (by decide +kernel) (by decide +kernel)), cm_M_bound, ik_7, (by decide +kernel), (by decide +kernel), pm_M_bound⟩, (xin_tb 916 (by decide +kernel) (by decide +kernel)), (xin_tb 917 (by decide +kernel) (by decide +kernel)), TX7, 39, rfl⟩
theorem xk_Law_27 : xMk "DrumTongueLaw" 27 (1, m_X_choose, 0, 6) := ⟨⟨Or.inl (xin_tb 335 (by decide +kernel) (by decide +kernel)), cm_X_choose, ik_6, (by decide +kernel), (by decide +kernel), pm_X_choose⟩, (xin_tb 336 (by decide +kernel) (by decide +kernel)), (xin_tb 337 (by decide +kernel) (by decide +kernel)), TX6, 4, rfl⟩
theorem xk_Law_31 : xMk "DrumTongueLaw" 31 (1, m_M_choose, 0, 7) := ⟨⟨Or.inl (xin_tb 920 (by decide +kernel) (by decide +kernel)), cm_M_choose, ik_7, (by decide +kernel), (by decide +kernel), pm_M_choose⟩, (xin_tb 921 (by decide +kernel) (by decide +kernel)), (xin_tb 922 (by decide +kernel) (by decide +kernel)), TX7, 39, rfl⟩
theorem xk_Law_32 : xMk "DrumTongueLaw" 32 (1, m_X_least, 0, 6) := ⟨⟨Or.inl (xin_tb 396 (by decide +kernel) (by decide +kernel)), cm_X_least, ik_6, (by decide +kernel), (by decide +kernel), pm_X_least⟩, (xin_tb 397 (by decide +kernel) (by decide +kernel)), (xin_tb 398 (by decide +kernel) (by decide +kernel)), TX6, 4, rfl⟩
theorem xk_Law_35 : xMk "DrumTongueLaw" 35 (1, m_M_least, 0, 7) := ⟨⟨Or.inl (xin_tb 959 (by decide +kernel) (by decide +kernel)), cm_M_least, ik_7, (by decide +kernel), (by decide +kernel), pm_M_least⟩, (xin_tb 960 (by decide +kernel) (by decide +kernel)), (xin_tb 961 (by decide +kernel) (by decide +kernel)), TX7, 39, rfl⟩
theorem xk_Law_36 : xMk "DrumTongueLaw" 36 (1, m_X_length, 1, 6) := ⟨⟨Or.inl (xin_tb 412 (by decide +kernel) (by decide +kernel)), cm_X_length, ik_6, (by decide +kernel), (by decide +kernel), pm_X_length⟩, (xin_tb 413 (by decide +kernel) (by decide +kernel)), (xin_tb 414 (by decide +kernel) (by decide +kernel)), TX6, 4, rfl⟩
theorem xk_Law_39 : xMk "DrumTongueLaw" 39 (1, m_M_length, 1, 7) := ⟨⟨Or.inl (xin_tb 964 (by decide +kernel) (by decide +kernel)), cm_M_length, ik_7, (by decide +kernel), (by decide +kernel), pm_M_length⟩, (xin_tb 965 (by decide +kernel) (by decide +kernel)), (xin_tb 966 (by decide +kernel) (by decide +kernel)), TX7, 39, rfl⟩
theorem xk_Law_40 : xMk "DrumTongueLaw" 40 (1, m_X_beat, 2, 6) := ⟨⟨Or.inl (xin_tb 429 (by decide +kernel) (by decide +kernel)), cm_X_beat, ik_6, (by decide +kernel), (by decide +kernel), pm_X_beat⟩, (xin_tb 430 (by decide +kernel) (by decide +kernel)), (xin_tb 431 (by decide +kernel) (by decide +kernel)), TX6, 4, rfl⟩
theorem xk_Law_43 : xMk "DrumTongueLaw" 43 (1, m_M_beat, 2, 7) := ⟨⟨Or.inl (xin_tb 976 (by decide +kernel) (by decide +kernel)), cm_M_beat, ik_7, (by decide +kernel), (by decide +kernel), pm_M_beat⟩, (xin_tb 977 (by decide +kernel) (by decide +kernel)), (xin_tb 978 (by decide +kernel) (by decide +kernel)), TX7, 39, rfl⟩
theorem xk_Law_44 : xMk "DrumTongueLaw" 44 (1, m_X_endingAt, 2, 6) := ⟨⟨Or.inl (xin_tb 437 (by decide +kernel) (by decide +kernel)), cm_X_endingAt, ik_6, (by decide +kernel), (by decide +kernel), pm_X_endingAt⟩, (xin_tb 438 (by decide +kernel) (by decide +kernel)), (xin_tb 439 (by decide +kernel) (by decide +kernel)), TX6, 4, rfl⟩
theorem xk_Law_47 : xMk "DrumTongueLaw" 47 (1, m_M_endingAt, 2, 7) := ⟨⟨Or.inl (xin_tb 984 (by decide +kernel) (by decide +kernel)), cm_M_endingAt, ik_7, (by decide +kernel), (by decide +kernel), pm_M_endingAt⟩, (xin_tb 985 (by decide +kernel) (by decide +kernel)), (xin_tb 986 (by decide +kernel) (by decide +kernel)), TX7, 39, rfl⟩
theorem xk_Law_48 : xMk "DrumTongueLaw" 48 (1, m_X_far, 2, 6) := ⟨⟨Or.inl (xin_tb 449 (by decide +kernel) (by decide +kernel)), cm_X_far, ik_6, (by decide +kernel), (by decide +kernel), pm_X_far⟩, (xin_tb 450 (by decide +kernel) (by decide +kernel)), (xin_tb 451 (by decide +kernel) (by decide +kernel)), TX6, 4, rfl⟩
theorem xk_Law_51 : xMk "DrumTongueLaw" 51 (1, m_M_far, 2, 7) := ⟨⟨Or.inl (xin_tb 988 (by decide +kernel) (by decide +kernel)), cm_M_far, ik_7, (by decide +kernel), (by decide +kernel), pm_M_far⟩, (xin_tb 989 (by decide +kernel) (by decide +kernel)), (xin_tb 990 (by decide +kernel) (by decide +kernel)), TX7, 39, rfl⟩
theorem xk_Law_52 : xMk "DrumTongueLaw" 52 (1, m_X_hear, 1, 6) := ⟨⟨Or.inl (xin_tb 459 (by decide +kernel) (by decide +kernel)), cm_X_hear, ik_6, (by decide +kernel), (by decide +kernel), pm_X_hear⟩, (xin_tb 460 (by decide +kernel) (by decide +kernel)), (xin_tb 461 (by decide +kernel) (by decide +kernel)), TX6, 4, rfl⟩
theorem xk_Law_55 : xMk "DrumTongueLaw" 55 (1, m_M_hear, 1, 7) := ⟨⟨Or.inl (xin_tb 992 (by decide +kernel) (by decide +kernel)), cm_M_hear, ik_7, (by decide +kernel), (by decide +kernel), pm_M_hear⟩, (xin_tb 993 (by decide +kernel) (by decide +kernel)), (xin_tb 994 (by decide +kernel) (by decide +kernel)), TX7, 39, rfl⟩
theorem xk_Law_56 : xMk "DrumTongueLaw" 56 (1, m_X_drum, 1, 6) := ⟨⟨Or.inl (xin_tb 471 (by decide +kernel) (by decide +kernel)), cm_X_drum, ik_6, (by decide +kernel), (by decide +kernel), pm_X_drum⟩, (xin_tb 472 (by decide +kernel) (by decide +kernel)), (xin_tb 473 (by decide +kernel) (by decide +kernel)), TX6, 4, rfl⟩
theorem xk_Law_59 : xMk "DrumTongueLaw" 59 (1, m_M_drum, 1, 7) := ⟨⟨Or.inl (xin_tb 997 (by decide +kernel) (by decide +kernel)), cm_M_drum, ik_7, (by decide +kernel), (by decide +kernel), pm_M_drum⟩, (xin_tb 998 (by decide +kernel) (by decide +kernel)), (xin_tb 999 (by decide +kernel) (by decide +kernel)), TX7, 39, rfl⟩
theorem xk_Law_60 : xMk "DrumTongueLaw" 60 (1, m_X_slip, 2, 6) := ⟨⟨Or.inl (xin_tb 479 (by decide +kernel) (by decide +kernel)), cm_X_slip, ik_6, (by decide +kernel), (by decide +kernel), pm_X_slip⟩, (xin_tb 480 (by decide +kernel) (by decide +kernel)), (xin_tb 481 (by decide +kernel) (by decide +kernel)), TX6, 4, rfl⟩
theorem xk_Law_63 : xMk "DrumTongueLaw" 63 (1, m_M_slip, 2, 7) := ⟨⟨Or.inl (xin_tb 1001 (by decide +kernel) (by decide +kernel)), cm_M_slip, ik_7, (by decide +kernel), (by decide +kernel), pm_M_slip⟩, (xin_tb 1002 (by decide +kernel) (by decide +kernel)), (xin_tb 1003 (by decide +kernel) (by decide +kernel)), TX7, 39, rfl⟩
theorem xk_Law_64 : xMk "DrumTongueLaw" 64 (1, m_X_hush, 0, 6) := ⟨⟨Or.inl (xin_tb 495 (by decide +kernel) (by decide +kernel)), cm_X_hush, ik_6, (by decide +kernel), (by decide +kernel), pm_X_hush⟩, (xin_tb 496 (by decide +kernel) (by decide +kernel)), (xin_tb 497 (by decide +kernel) (by decide +kernel)), TX6, 4, rfl⟩
theorem xk_Law_67 : xMk "DrumTongueLaw" 67 (1, m_M_hush, 0, 7) := ⟨⟨Or.inl (xin_tb 1006 (by decide +kernel) (by decide +kernel)), cm_M_hush, ik_7, (by decide +kernel), (by decide +kernel), pm_M_hush⟩, (xin_tb 1007 (by decide +kernel) (by decide +kernel)), (xin_tb 1008 (by decide +kernel) (by decide +kernel)), TX7, 39, rfl⟩
theorem xk_Law_68 : xMk "DrumTongueLaw" 68 (1, m_X_read, 0, 6) := ⟨⟨Or.inl (xin_tb 503 (by decide +kernel) (by decide +kernel)), cm_X_read, ik_6, (by decide +kernel), (by decide +kernel), pm_X_read⟩, (xin_tb 504 (by decide +kernel) (by decide +kernel)), (xin_tb 505 (by decide +kernel) (by decide +kernel)), TX6, 4, rfl⟩
theorem xk_Law_71 : xMk "DrumTongueLaw" 71 (1, m_M_read, 0, 7) := ⟨⟨Or.inl (xin_tb 1010 (by decide +kernel) (by decide +kernel)), cm_M_read, ik_7, (by decide +kernel), (by decide +kernel), pm_M_read⟩, (xin_tb 1011 (by decide +kernel) (by decide +kernel)), (xin_tb 1012 (by decide +kernel) (by decide +kernel)), TX7, 39, rfl⟩
theorem xk_Law_72 : xMk "DrumTongueLaw" 72 (1, m_X_readAt, 1, 6) := ⟨⟨Or.inl (xin_tb 591 (by decide +kernel) (by decide +kernel)), cm_X_readAt, ik_6, (by decide +kernel), (by decide +kernel), pm_X_readAt⟩, (xin_tb 592 (by decide +kernel) (by decide +kernel)), (xin_tb 593 (by decide +kernel) (by decide +kernel)), TX6, 4, rfl⟩
theorem xk_Law_75 : xMk "DrumTongueLaw" 75 (1, m_M_readAt, 1, 7) := ⟨⟨Or.inl (xin_tb 1037 (by decide +kernel) (by decide +kernel)), cm_M_readAt, ik_7, (by decide +kernel), (by decide +kernel), pm_M_readAt⟩, (xin_tb 1038 (by decide +kernel) (by decide +kernel)), (xin_tb 1039 (by decide +kernel) (by decide +kernel)), TX7, 39, rfl⟩
theorem xk_Law_76 : xMk "DrumTongueLaw" 76 (1, m_X_doubt, 1, 6) := ⟨⟨Or.inl (xin_tb 599 (by decide +kernel) (by decide +kernel)), cm_X_doubt, ik_6, (by decide +kernel), (by decide +kernel), pm_X_doubt⟩, (xin_tb 600 (by decide +kernel) (by decide +kernel)), (xin_tb 601 (by decide +kernel) (by decide +kernel)), TX6, 4, rfl⟩
theorem xk_Law_79 : xMk "DrumTongueLaw" 79 (1, m_M_doubt, 1, 7) := ⟨⟨Or.inl (xin_tb 1041 (by decide +kernel) (by decide +kernel)), cm_M_doubt, ik_7, (by decide +kernel), (by decide +kernel), pm_M_doubt⟩, (xin_tb 1042 (by decide +kernel) (by decide +kernel)), (xin_tb 1043 (by decide +kernel) (by decide +kernel)), TX7, 39, rfl⟩
theorem xk_Law_80 : xMk "DrumTongueLaw" 80 (1, m_X_most, 0, 6) := ⟨⟨Or.inl (xin_tb 615 (by decide +kernel) (by decide +kernel)), cm_X_most, ik_6, (by decide +kernel), (by decide +kernel), pm_X_most⟩, (xin_tb 616 (by decide +kernel) (by decide +kernel)), (xin_tb 617 (by decide +kernel) (by decide +kernel)), TX6, 4, rfl⟩
theorem xk_Law_83 : xMk "DrumTongueLaw" 83 (1, m_M_most, 0, 7) := ⟨⟨Or.inl (xin_tb 1053 (by decide +kernel) (by decide +kernel)), cm_M_most, ik_7, (by decide +kernel), (by decide +kernel), pm_M_most⟩, (xin_tb 1054 (by decide +kernel) (by decide +kernel)), (xin_tb 1055 (by decide +kernel) (by decide +kernel)), TX7, 39, rfl⟩
theorem xk_Law_84 : xMk "DrumTongueLaw" 84 (1, m_X_hill, 4, 6) := ⟨⟨Or.inl (xin_tb 624 (by decide +kernel) (by decide +kernel)), cm_X_hill, ik_6, (by decide +kernel), (by decide +kernel), pm_X_hill⟩, (xin_tb 625 (by decide +kernel) (by decide +kernel)), (xin_tb 626 (by decide +kernel) (by decide +kernel)), TX6, 4, rfl⟩
theorem xk_Law_88 : xMk "DrumTongueLaw" 88 (1, m_M_hill, 4, 7) := ⟨⟨Or.inl (xin_tb 1057 (by decide +kernel) (by decide +kernel)), cm_M_hill, ik_7, (by decide +kernel), (by decide +kernel), pm_M_hill⟩, (xin_tb 1058 (by decide +kernel) (by decide +kernel)), (xin_tb 1059 (by decide +kernel) (by decide +kernel)), TX7, 39, rfl⟩
theorem xk_Law_89 : xMk "DrumTongueLaw" 89 (1, m_X_way, 2, 6) := ⟨⟨Or.inl (xin_tb 639 (by decide +kernel) (by decide +kernel)), cm_X_way, ik_6, (by decide +kernel), (by decide +kernel), pm_X_way⟩, (xin_tb 640 (by decide +kernel) (by decide +kernel)), (xin_tb 641 (by decide +kernel) (by decide +kernel)), TX6, 4, rfl⟩
theorem xk_Law_92 : xMk "DrumTongueLaw" 92 (1, m_M_way, 2, 7) := ⟨⟨Or.inl (xin_tb 1067 (by decide +kernel) (by decide +kernel)), cm_M_way, ik_7, (by decide +kernel), (by decide +kernel), pm_M_way⟩, (xin_tb 1068 (by decide +kernel) (by decide +kernel)), (xin_tb 1069 (by decide +kernel) (by decide +kernel)), TX7, 39, rfl⟩
theorem xk_Law_93 : xMk "DrumTongueLaw" 93 (1, m_X_wayAt, 3, 6) := ⟨⟨Or.inl (xin_tb 666 (by decide +kernel) (by decide +kernel)), cm_X_wayAt, ik_6, (by decide +kernel), (by decide +kernel), pm_X_wayAt⟩, (xin_tb 667 (by decide +kernel) (by decide +kernel)), (xin_tb 668 (by decide +kernel) (by decide +kernel)), TX6, 4, rfl⟩
theorem xk_Law_97 : xMk "DrumTongueLaw" 97 (1, m_M_wayAt, 3, 7) := ⟨⟨Or.inl (xin_tb 1079 (by decide +kernel) (by decide +kernel)), cm_M_wayAt, ik_7, (by decide +kernel), (by decide +kernel), pm_M_wayAt⟩, (xin_tb 1080 (by decide +kernel) (by decide +kernel)), (xin_tb 1081 (by decide +kernel) (by decide +kernel)), TX7, 39, rfl⟩
theorem xk_Law_98 : xMk "DrumTongueLaw" 98 (1, m_X_age, 2, 6) := ⟨⟨Or.inl (xin_tb 674 (by decide +kernel) (by decide +kernel)), cm_X_age, ik_6, (by decide +kernel), (by decide +kernel), pm_X_age⟩, (xin_tb 675 (by decide +kernel) (by decide +kernel)), (xin_tb 676 (by decide +kernel) (by decide +kernel)), TX6, 4, rfl⟩
theorem xk_Law_101 : xMk "DrumTongueLaw" 101 (1, m_M_age, 2, 7) := ⟨⟨Or.inl (xin_tb 1083 (by decide +kernel) (by decide +kernel)), cm_M_age, ik_7, (by decide +kernel), (by decide +kernel), pm_M_age⟩, (xin_tb 1084 (by decide +kernel) (by decide +kernel)), (xin_tb 1085 (by decide +kernel) (by decide +kernel)), TX7, 39, rfl⟩
theorem xk_Law_102 : xMk "DrumTongueLaw" 102 (1, m_X_enough, 3, 6) := ⟨⟨Or.inl (xin_tb 682 (by decide +kernel) (by decide +kernel)), cm_X_enough, ik_6, (by decide +kernel), (by decide +kernel), pm_X_enough⟩, (xin_tb 683 (by decide +kernel) (by decide +kernel)), (xin_tb 684 (by decide +kernel) (by decide +kernel)), TX6, 4, rfl⟩
theorem xk_Law_105 : xMk "DrumTongueLaw" 105 (1, m_M_enough, 3, 7) := ⟨⟨Or.inl (xin_tb 1087 (by decide +kernel) (by decide +kernel)), cm_M_enough, ik_7, (by decide +kernel), (by decide +kernel), pm_M_enough⟩, (xin_tb 1088 (by decide +kernel) (by decide +kernel)), (xin_tb 1089 (by decide +kernel) (by decide +kernel)), TX7, 39, rfl⟩
theorem xk_Law_106 : xMk "DrumTongueLaw" 106 (1, m_X_times, 4, 6) := ⟨⟨Or.inl (xin_tb 707 (by decide +kernel) (by decide +kernel)), cm_X_times, ik_6, (by decide +kernel), (by decide +kernel), pm_X_times⟩, (xin_tb 708 (by decide +kernel) (by decide +kernel)), (xin_tb 709 (by decide +kernel) (by decide +kernel)), TX6, 4, rfl⟩
theorem xk_Law_109 : xMk "DrumTongueLaw" 109 (1, m_M_times, 4, 7) := ⟨⟨Or.inl (xin_tb 1095 (by decide +kernel) (by decide +kernel)), cm_M_times, ik_7, (by decide +kernel), (by decide +kernel), pm_M_times⟩, (xin_tb 1096 (by decide +kernel) (by decide +kernel)), (xin_tb 1097 (by decide +kernel) (by decide +kernel)), TX7, 39, rfl⟩
theorem xk_Law_110 : xMk "DrumTongueLaw" 110 (1, m_X_count, 1, 6) := ⟨⟨Or.inl (xin_tb 715 (by decide +kernel) (by decide +kernel)), cm_X_count, ik_6, (by decide +kernel), (by decide +kernel), pm_X_count⟩, (xin_tb 716 (by decide +kernel) (by decide +kernel)), (xin_tb 717 (by decide +kernel) (by decide +kernel)), TX6, 4, rfl⟩
theorem xk_Law_113 : xMk "DrumTongueLaw" 113 (1, m_M_count, 1, 7) := ⟨⟨Or.inl (xin_tb 1099 (by decide +kernel) (by decide +kernel)), cm_M_count, ik_7, (by decide +kernel), (by decide +kernel), pm_M_count⟩, (xin_tb 1100 (by decide +kernel) (by decide +kernel)), (xin_tb 1101 (by decide +kernel) (by decide +kernel)), TX7, 39, rfl⟩
theorem xk_Law_114 : xMk "DrumTongueLaw" 114 (1, m_X_digest, 0, 6) := ⟨⟨Or.inl (xin_tb 742 (by decide +kernel) (by decide +kernel)), cm_X_digest, ik_6, (by decide +kernel), (by decide +kernel), pm_X_digest⟩, (xin_tb 743 (by decide +kernel) (by decide +kernel)), (xin_tb 744 (by decide +kernel) (by decide +kernel)), TX6, 4, rfl⟩
theorem xk_Law_118 : xMk "DrumTongueLaw" 118 (1, m_M_digest, 0, 7) := ⟨⟨Or.inl (xin_tb 1104 (by decide +kernel) (by decide +kernel)), cm_M_digest, ik_7, (by decide +kernel), (by decide +kernel), pm_M_digest⟩, (xin_tb 1105 (by decide +kernel) (by decide +kernel)), (xin_tb 1106 (by decide +kernel) (by decide +kernel)), TX7, 39, rfl⟩
theorem xn_Law_7 : xNw "DrumTongueLaw" 7 6 [xR none, xR none, xR none, xR none] := ⟨RX6, TX6, 4, tyX6, rfl, wk_6, tyX6_ok, xin_tb 62 (by decide +kernel) (by decide +kernel), xin_tb 63 (by decide +kernel) (by decide +kernel), ik_6, rfl, fun G j hj => by
  rcases (show j = 0 ∨ j = 1 ∨ j = 2 ∨ j = 3 by omega) with rfl | rfl | rfl | rfl <;> rfl⟩
theorem xn_Law_10 : xNw "DrumTongueLaw" 10 7 [xI 0, xR none, xR none, xI 0, xR none, xR none, xI 0, xR none, xR none, xR none, xR none, xR none, xR none, xI 0, xR none, xI 0, xR none, xR none, xR none, xR none, xR none, xR none, xR none, xR none, xR none, xR none, xI 0, xR none, xR none, xI 0, xR none, xI 0, xI 0, xR none, xR none, xR none, xR none, xR none, xR none] := ⟨RX7, TX7, 39, tyX7, rfl, wk_7, tyX7_ok, xin_tb 771 (by decide +kernel) (by decide +kernel), xin_tb 772 (by decide +kernel) (by decide +kernel), ik_7, rfl, fun G j hj => by
  rcases (show j = 0 ∨ j = 1 ∨ j = 2 ∨ j = 3 ∨ j = 4 ∨ j = 5 ∨ j = 6 ∨ j = 7 ∨ j = 8 ∨ j = 9 ∨ j = 10 ∨ j = 11 ∨ j = 12 ∨ j = 13 ∨ j = 14 ∨ j = 15 ∨ j = 16 ∨ j = 17 ∨ j = 18 ∨ j = 19 ∨ j = 20 ∨ j = 21 ∨ j = 22 ∨ j = 23 ∨ j = 24 ∨ j = 25 ∨ j = 26 ∨ j = 27 ∨ j = 28 ∨ j = 29 ∨ j = 30 ∨ j = 31 ∨ j = 32 ∨ j = 33 ∨ j = 34 ∨ j = 35 ∨ j = 36 ∨ j = 37 ∨ j = 38 by omega) with rfl | rfl | rfl | rfl | rfl | rfl | rfl | rfl | rfl | rfl | rfl | rfl | rfl | rfl | rfl | rfl | rfl | rfl | rfl | rfl | rfl | rfl | rfl | rfl | rfl | rfl | rfl | rfl | rfl | rfl | rfl | rfl | rfl | rfl | rfl | rfl | rfl | rfl | rfl <;> rfl⟩
abbrev tb_Law : xTb := ([], [(9, 2, m_X_init, 0, 0), (12, 2, m_M_init, 0, 0), (13, 1, m_X_word, 2, 6), (17, 1, m_M_word, 2, 7), (18, 1, m_X_ending, 2, 6), (21, 1, m_M_ending, 2, 7), (22, 1, m_X_bound, 1, 6), (26, 1, m_M_bound, 1, 7), (27, 1, m_X_choose, 0, 6), (31, 1, m_M_choose, 0, 7), (32, 1, m_X_least, 0, 6), (35, 1, m_M_least, 0, 7), (36, 1, m_X_length, 1, 6), (39, 1, m_M_length, 1, 7), (40, 1, m_X_beat, 2, 6), (43, 1, m_M_beat, 2, 7), (44, 1, m_X_endingAt, 2, 6), (47, 1, m_M_endingAt, 2, 7), (48, 1, m_X_far, 2, 6), (51, 1, m_M_far, 2, 7), (52, 1, m_X_hear, 1, 6), (55, 1, m_M_hear, 1, 7), (56, 1, m_X_drum, 1, 6), (59, 1, m_M_drum, 1, 7), (60, 1, m_X_slip, 2, 6), (63, 1, m_M_slip, 2, 7), (64, 1, m_X_hush, 0, 6), (67, 1, m_M_hush, 0, 7), (68, 1, m_X_read, 0, 6), (71, 1, m_M_read, 0, 7), (72, 1, m_X_readAt, 1, 6), (75, 1, m_M_readAt, 1, 7), (76, 1, m_X_doubt, 1, 6), (79, 1, m_M_doubt, 1, 7), (80, 1, m_X_most, 0, 6), (83, 1, m_M_most, 0, 7), (84, 1, m_X_hill, 4, 6), (88, 1, m_M_hill, 4, 7), (89, 1, m_X_way, 2, 6), (92, 1, m_M_way, 2, 7), (93, 1, m_X_wayAt, 3, 6), (97, 1, m_M_wayAt, 3, 7), (98, 1, m_X_age, 2, 6), (101, 1, m_M_age, 2, 7), (102, 1, m_X_enough, 3, 6), (105, 1, m_M_enough, 3, 7), (106, 1, m_X_times, 4, 6), (109, 1, m_M_times, 4, 7), (110, 1, m_X_count, 1, 6), (113, 1, m_M_count, 1, 7), (114, 1, m_X_digest, 0, 6), (118, 1, m_M_digest, 0, 7)], [(7, 6, [xR none, xR none, xR none, xR none]), (10, 7, [xI 0, xR none, xR none, xI 0, xR none, xR none, xI 0, xR none, xR none, xR none, xR none, xR none, xR none, xI 0, xR none, xI 0, xR none, xR none, xR none, xR none, xR none, xR none, xR none, xR none, xR none, xR none, xI 0, xR none, xR none, xI 0, xR none, xI 0, xI 0, xR none, xR none, xR none, xR none, xR none, xR none])], [], [], [])
theorem tk_Law : xTbOk "DrumTongueLaw" tb_Law := ⟨xall (fun _ h => absurd h List.not_mem_nil), xall (List.forall_mem_cons.mpr ⟨xk_Law_9, List.forall_mem_cons.mpr ⟨xk_Law_12, List.forall_mem_cons.mpr ⟨xk_Law_13, List.forall_mem_cons.mpr ⟨xk_Law_17, List.forall_mem_cons.mpr ⟨xk_Law_18, List.forall_mem_cons.mpr ⟨xk_Law_21, List.forall_mem_cons.mpr ⟨xk_Law_22, List.forall_mem_cons.mpr ⟨xk_Law_26, List.forall_mem_cons.mpr ⟨xk_Law_27, List.forall_mem_cons.mpr ⟨xk_Law_31, List.forall_mem_cons.mpr ⟨xk_Law_32, List.forall_mem_cons.mpr ⟨xk_Law_35, List.forall_mem_cons.mpr ⟨xk_Law_36, List.forall_mem_cons.mpr ⟨xk_Law_39, List.forall_mem_cons.mpr ⟨xk_Law_40, List.forall_mem_cons.mpr ⟨xk_Law_43, List.forall_mem_cons.mpr ⟨xk_Law_44, List.forall_mem_cons.mpr ⟨xk_Law_47, List.forall_mem_cons.mpr ⟨xk_Law_48, List.forall_mem_cons.mpr ⟨xk_Law_51, List.forall_mem_cons.mpr ⟨xk_Law_52, List.forall_mem_cons.mpr ⟨xk_Law_55, List.forall_mem_cons.mpr ⟨xk_Law_56, List.forall_mem_cons.mpr ⟨xk_Law_59, List.forall_mem_cons.mpr ⟨xk_Law_60, List.forall_mem_cons.mpr ⟨xk_Law_63, List.forall_mem_cons.mpr ⟨xk_Law_64, List.forall_mem_cons.mpr ⟨xk_Law_67, List.forall_mem_cons.mpr ⟨xk_Law_68, List.forall_mem_cons.mpr ⟨xk_Law_71, List.forall_mem_cons.mpr ⟨xk_Law_72, List.forall_mem_cons.mpr ⟨xk_Law_75, List.forall_mem_cons.mpr ⟨xk_Law_76, List.forall_mem_cons.mpr ⟨xk_Law_79, List.forall_mem_cons.mpr ⟨xk_Law_80, List.forall_mem_cons.mpr ⟨xk_Law_83, List.forall_mem_cons.mpr ⟨xk_Law_84, List.forall_mem_cons.mpr ⟨xk_Law_88, List.forall_mem_cons.mpr ⟨xk_Law_89, List.forall_mem_cons.mpr ⟨xk_Law_92, List.forall_mem_cons.mpr ⟨xk_Law_93, List.forall_mem_cons.mpr ⟨xk_Law_97, List.forall_mem_cons.mpr ⟨xk_Law_98, List.forall_mem_cons.mpr ⟨xk_Law_101, List.forall_mem_cons.mpr ⟨xk_Law_102, List.forall_mem_cons.mpr ⟨xk_Law_105, List.forall_mem_cons.mpr ⟨xk_Law_106, List.forall_mem_cons.mpr ⟨xk_Law_109, List.forall_mem_cons.mpr ⟨xk_Law_110, List.forall_mem_cons.mpr ⟨xk_Law_113, List.forall_mem_cons.mpr ⟨xk_Law_114, List.forall_mem_cons.mpr ⟨xk_Law_118, fun _ h => absurd h List.not_mem_nil⟩⟩⟩⟩⟩⟩⟩⟩⟩⟩⟩⟩⟩⟩⟩⟩⟩⟩⟩⟩⟩⟩⟩⟩⟩⟩⟩⟩⟩⟩⟩⟩⟩⟩⟩⟩⟩⟩⟩⟩⟩⟩⟩⟩⟩⟩⟩⟩⟩⟩⟩⟩), xall (List.forall_mem_cons.mpr ⟨xn_Law_7, List.forall_mem_cons.mpr ⟨xn_Law_10, fun _ h => absurd h List.not_mem_nil⟩⟩), xall (fun _ h => absurd h List.not_mem_nil), xall (fun _ h => absurd h List.not_mem_nil), fun _ h => absurd h List.not_mem_nil⟩
theorem xf_M_7 : xFld "DrumTongueModel" 7 7 1 (.array .int) true false := ⟨RX7, TX7, 39, tyX7, rfl, by decide, wk_7, tyX7_ok, nmX7, rfl, rfl, fun _ => ⟨xin_tb 778 (by decide +kernel) (by decide +kernel), fun _ => rfl⟩, fun q => by cases q⟩
theorem xf_M_13 : xFld "DrumTongueModel" 13 7 2 (.array .int) true false := ⟨RX7, TX7, 39, tyX7, rfl, by decide, wk_7, tyX7_ok, nmX7, rfl, rfl, fun _ => ⟨xin_tb 779 (by decide +kernel) (by decide +kernel), fun _ => rfl⟩, fun q => by cases q⟩
theorem xf_M_16 : xFld "DrumTongueModel" 16 7 4 (.array .int) true false := ⟨RX7, TX7, 39, tyX7, rfl, by decide, wk_7, tyX7_ok, nmX7, rfl, rfl, fun _ => ⟨xin_tb 781 (by decide +kernel) (by decide +kernel), fun _ => rfl⟩, fun q => by cases q⟩
theorem xf_M_19 : xFld "DrumTongueModel" 19 7 5 (.array .int) true false := ⟨RX7, TX7, 39, tyX7, rfl, by decide, wk_7, tyX7_ok, nmX7, rfl, rfl, fun _ => ⟨xin_tb 782 (by decide +kernel) (by decide +kernel), fun _ => rfl⟩, fun q => by cases q⟩
theorem xf_M_22 : xFld "DrumTongueModel" 22 7 6 (.int) false false := ⟨RX7, TX7, 39, tyX7, rfl, by decide, wk_7, tyX7_ok, nmX7, rfl, rfl, fun _ => ⟨xin_tb 783 (by decide +kernel) (by decide +kernel), fun _ => rfl⟩, fun q => by cases q⟩
theorem xf_M_26 : xFld "DrumTongueModel" 26 7 7 (.array .int) true false := ⟨RX7, TX7, 39, tyX7, rfl, by decide, wk_7, tyX7_ok, nmX7, rfl, rfl, fun _ => ⟨xin_tb 784 (by decide +kernel) (by decide +kernel), fun _ => rfl⟩, fun q => by cases q⟩
theorem xf_M_29 : xFld "DrumTongueModel" 29 7 8 (.array .int) true false := ⟨RX7, TX7, 39, tyX7, rfl, by decide, wk_7, tyX7_ok, nmX7, rfl, rfl, fun _ => ⟨xin_tb 785 (by decide +kernel) (by decide +kernel), fun _ => rfl⟩, fun q => by cases q⟩
theorem xf_M_32 : xFld "DrumTongueModel" 32 7 9 (.array .int) true false := ⟨RX7, TX7, 39, tyX7, rfl, by decide, wk_7, tyX7_ok, nmX7, rfl, rfl, fun _ => ⟨xin_tb 786 (by decide +kernel) (by decide +kernel), fun _ => rfl⟩, fun q => by cases q⟩
theorem xf_M_35 : xFld "DrumTongueModel" 35 7 10 (.array .int) true false := ⟨RX7, TX7, 39, tyX7, rfl, by decide, wk_7, tyX7_ok, nmX7, rfl, rfl, fun _ => ⟨xin_tb 787 (by decide +kernel) (by decide +kernel), fun _ => rfl⟩, fun q => by cases q⟩
theorem xf_M_38 : xFld "DrumTongueModel" 38 7 11 (.array .int) true false := ⟨RX7, TX7, 39, tyX7, rfl, by decide, wk_7, tyX7_ok, nmX7, rfl, rfl, fun _ => ⟨xin_tb 788 (by decide +kernel) (by decide +kernel), fun _ => rfl⟩, fun q => by cases q⟩
theorem xf_M_41 : xFld "DrumTongueModel" 41 7 12 (.array .int) true false := ⟨RX7, TX7, 39, tyX7, rfl, by decide, wk_7, tyX7_ok, nmX7, rfl, rfl, fun _ => ⟨xin_tb 789 (by decide +kernel) (by decide +kernel), fun _ => rfl⟩, fun q => by cases q⟩
theorem xf_M_44 : xFld "DrumTongueModel" 44 7 14 (.array .int) true false := ⟨RX7, TX7, 39, tyX7, rfl, by decide, wk_7, tyX7_ok, nmX7, rfl, rfl, fun _ => ⟨xin_tb 791 (by decide +kernel) (by decide +kernel), fun _ => rfl⟩, fun q => by cases q⟩
theorem xf_M_47 : xFld "DrumTongueModel" 47 7 16 (.array .int) true false := ⟨RX7, TX7, 39, tyX7, rfl, by decide, wk_7, tyX7_ok, nmX7, rfl, rfl, fun _ => ⟨xin_tb 793 (by decide +kernel) (by decide +kernel), fun _ => rfl⟩, fun q => by cases q⟩
theorem xf_M_50 : xFld "DrumTongueModel" 50 7 17 (.array .int) true false := ⟨RX7, TX7, 39, tyX7, rfl, by decide, wk_7, tyX7_ok, nmX7, rfl, rfl, fun _ => ⟨xin_tb 794 (by decide +kernel) (by decide +kernel), fun _ => rfl⟩, fun q => by cases q⟩
theorem xf_M_53 : xFld "DrumTongueModel" 53 7 18 (.array .int) true false := ⟨RX7, TX7, 39, tyX7, rfl, by decide, wk_7, tyX7_ok, nmX7, rfl, rfl, fun _ => ⟨xin_tb 795 (by decide +kernel) (by decide +kernel), fun _ => rfl⟩, fun q => by cases q⟩
theorem xf_M_56 : xFld "DrumTongueModel" 56 7 19 (.array .int) true false := ⟨RX7, TX7, 39, tyX7, rfl, by decide, wk_7, tyX7_ok, nmX7, rfl, rfl, fun _ => ⟨xin_tb 796 (by decide +kernel) (by decide +kernel), fun _ => rfl⟩, fun q => by cases q⟩
theorem xf_M_59 : xFld "DrumTongueModel" 59 7 20 (.array .int) true false := ⟨RX7, TX7, 39, tyX7, rfl, by decide, wk_7, tyX7_ok, nmX7, rfl, rfl, fun _ => ⟨xin_tb 797 (by decide +kernel) (by decide +kernel), fun _ => rfl⟩, fun q => by cases q⟩
theorem xf_M_62 : xFld "DrumTongueModel" 62 7 21 (.array .int) true false := ⟨RX7, TX7, 39, tyX7, rfl, by decide, wk_7, tyX7_ok, nmX7, rfl, rfl, fun _ => ⟨xin_tb 798 (by decide +kernel) (by decide +kernel), fun _ => rfl⟩, fun q => by cases q⟩
theorem xf_M_65 : xFld "DrumTongueModel" 65 7 22 (.array .int) true false := ⟨RX7, TX7, 39, tyX7, rfl, by decide, wk_7, tyX7_ok, nmX7, rfl, rfl, fun _ => ⟨xin_tb 799 (by decide +kernel) (by decide +kernel), fun _ => rfl⟩, fun q => by cases q⟩
theorem xf_M_68 : xFld "DrumTongueModel" 68 7 23 (.array .int) true false := ⟨RX7, TX7, 39, tyX7, rfl, by decide, wk_7, tyX7_ok, nmX7, rfl, rfl, fun _ => ⟨xin_tb 800 (by decide +kernel) (by decide +kernel), fun _ => rfl⟩, fun q => by cases q⟩
theorem xf_M_71 : xFld "DrumTongueModel" 71 7 24 (.array .int) true false := ⟨RX7, TX7, 39, tyX7, rfl, by decide, wk_7, tyX7_ok, nmX7, rfl, rfl, fun _ => ⟨xin_tb 801 (by decide +kernel) (by decide +kernel), fun _ => rfl⟩, fun q => by cases q⟩
theorem xf_M_74 : xFld "DrumTongueModel" 74 7 25 (.array .int) true false := ⟨RX7, TX7, 39, tyX7, rfl, by decide, wk_7, tyX7_ok, nmX7, rfl, rfl, fun _ => ⟨xin_tb 802 (by decide +kernel) (by decide +kernel), fun _ => rfl⟩, fun q => by cases q⟩
theorem xf_M_77 : xFld "DrumTongueModel" 77 7 27 (.array .int) true false := ⟨RX7, TX7, 39, tyX7, rfl, by decide, wk_7, tyX7_ok, nmX7, rfl, rfl, fun _ => ⟨xin_tb 804 (by decide +kernel) (by decide +kernel), fun _ => rfl⟩, fun q => by cases q⟩
theorem xf_M_80 : xFld "DrumTongueModel" 80 7 28 (.array .int) true false := ⟨RX7, TX7, 39, tyX7, rfl, by decide, wk_7, tyX7_ok, nmX7, rfl, rfl, fun _ => ⟨xin_tb 805 (by decide +kernel) (by decide +kernel), fun _ => rfl⟩, fun q => by cases q⟩
theorem xf_M_83 : xFld "DrumTongueModel" 83 7 30 (.array .int) true false := ⟨RX7, TX7, 39, tyX7, rfl, by decide, wk_7, tyX7_ok, nmX7, rfl, rfl, fun _ => ⟨xin_tb 807 (by decide +kernel) (by decide +kernel), fun _ => rfl⟩, fun q => by cases q⟩
theorem xf_M_86 : xFld "DrumTongueModel" 86 7 33 (.array .int) true false := ⟨RX7, TX7, 39, tyX7, rfl, by decide, wk_7, tyX7_ok, nmX7, rfl, rfl, fun _ => ⟨xin_tb 810 (by decide +kernel) (by decide +kernel), fun _ => rfl⟩, fun q => by cases q⟩
theorem xf_M_89 : xFld "DrumTongueModel" 89 7 34 (.array .int) true false := ⟨RX7, TX7, 39, tyX7, rfl, by decide, wk_7, tyX7_ok, nmX7, rfl, rfl, fun _ => ⟨xin_tb 811 (by decide +kernel) (by decide +kernel), fun _ => rfl⟩, fun q => by cases q⟩
theorem xf_M_92 : xFld "DrumTongueModel" 92 7 35 (.array .long) true false := ⟨RX7, TX7, 39, tyX7, rfl, by decide, wk_7, tyX7_ok, nmX7, rfl, rfl, fun _ => ⟨xin_tb 812 (by decide +kernel) (by decide +kernel), fun _ => rfl⟩, fun q => by cases q⟩
theorem xf_M_96 : xFld "DrumTongueModel" 96 7 36 (.array .int) true false := ⟨RX7, TX7, 39, tyX7, rfl, by decide, wk_7, tyX7_ok, nmX7, rfl, rfl, fun _ => ⟨xin_tb 813 (by decide +kernel) (by decide +kernel), fun _ => rfl⟩, fun q => by cases q⟩
theorem xf_M_99 : xFld "DrumTongueModel" 99 7 37 (.array .int) true false := ⟨RX7, TX7, 39, tyX7, rfl, by decide, wk_7, tyX7_ok, nmX7, rfl, rfl, fun _ => ⟨xin_tb 814 (by decide +kernel) (by decide +kernel), fun _ => rfl⟩, fun q => by cases q⟩
theorem xf_M_102 : xFld "DrumTongueModel" 102 7 38 (.array .int) true false := ⟨RX7, TX7, 39, tyX7, rfl, by decide, wk_7, tyX7_ok, nmX7, rfl, rfl, fun _ => ⟨xin_tb 815 (by decide +kernel) (by decide +kernel), fun _ => rfl⟩, fun q => by cases q⟩
theorem xf_M_115 : xFld "DrumTongueModel" 115 7 0 (.int) false false := ⟨RX7, TX7, 39, tyX7, rfl, by decide, wk_7, tyX7_ok, nmX7, rfl, rfl, fun _ => ⟨xin_tb 777 (by decide +kernel) (by decide +kernel), fun _ => rfl⟩, fun q => by cases q⟩
theorem xf_M_121 : xFld "DrumTongueModel" 121 7 3 (.int) false false := ⟨RX7, TX7, 39, tyX7, rfl, by decide, wk_7, tyX7_ok, nmX7, rfl, rfl, fun _ => ⟨xin_tb 780 (by decide +kernel) (by decide +kernel), fun _ => rfl⟩, fun q => by cases q⟩
theorem xf_M_174 : xFld "DrumTongueModel" 174 7 13 (.int) false false := ⟨RX7, TX7, 39, tyX7, rfl, by decide, wk_7, tyX7_ok, nmX7, rfl, rfl, fun _ => ⟨xin_tb 790 (by decide +kernel) (by decide +kernel), fun _ => rfl⟩, fun q => by cases q⟩
theorem xf_M_189 : xFld "DrumTongueModel" 189 7 26 (.int) false false := ⟨RX7, TX7, 39, tyX7, rfl, by decide, wk_7, tyX7_ok, nmX7, rfl, rfl, fun _ => ⟨xin_tb 803 (by decide +kernel) (by decide +kernel), fun _ => rfl⟩, fun q => by cases q⟩
theorem xf_M_201 : xFld "DrumTongueModel" 201 7 15 (.int) false false := ⟨RX7, TX7, 39, tyX7, rfl, by decide, wk_7, tyX7_ok, nmX7, rfl, rfl, fun _ => ⟨xin_tb 792 (by decide +kernel) (by decide +kernel), fun _ => rfl⟩, fun q => by cases q⟩
theorem xf_M_219 : xFld "DrumTongueModel" 219 7 31 (.int) false false := ⟨RX7, TX7, 39, tyX7, rfl, by decide, wk_7, tyX7_ok, nmX7, rfl, rfl, fun _ => ⟨xin_tb 808 (by decide +kernel) (by decide +kernel), fun _ => rfl⟩, fun q => by cases q⟩
theorem xf_M_222 : xFld "DrumTongueModel" 222 7 32 (.int) false false := ⟨RX7, TX7, 39, tyX7, rfl, by decide, wk_7, tyX7_ok, nmX7, rfl, rfl, fun _ => ⟨xin_tb 809 (by decide +kernel) (by decide +kernel), fun _ => rfl⟩, fun q => by cases q⟩
theorem xf_M_225 : xFld "DrumTongueModel" 225 7 29 (.int) false false := ⟨RX7, TX7, 39, tyX7, rfl, by decide, wk_7, tyX7_ok, nmX7, rfl, rfl, fun _ => ⟨xin_tb 806 (by decide +kernel) (by decide +kernel), fun _ => rfl⟩, fun q => by cases q⟩
theorem xk_M_1 : xMk "DrumTongueModel" 1 (3, (objectInit, ⟨#[0xb1]⟩, 1, none), 0, 0) := ⟨xin_tb 776 (by decide +kernel) (by decide +kernel), xin_tb 68 (by decide +kernel) (by decide +kernel), xin_tb 69 (by decide +kernel) (by decide +kernel)⟩
theorem xk_M_107 : xMk "DrumTongueModel" 107 (0, m_M_in, 3, 0) := ⟨⟨Or.inl (xin_tb 904 (by decide +kernel) (by decide +kernel)), cm_M_in, ik_7, (by decide +kernel), (by decide +kernel), pm_M_in⟩, (xin_tb 905 (by decide +kernel) (by decide +kernel))⟩
theorem xk_M_111 : xMk "DrumTongueModel" 111 (0, m_M_isRow, 2, 0) := ⟨⟨Or.inl (xin_tb 900 (by decide +kernel) (by decide +kernel)), cm_M_isRow, ik_7, (by decide +kernel), (by decide +kernel), pm_M_isRow⟩, (xin_tb 901 (by decide +kernel) (by decide +kernel))⟩
theorem xk_M_118 : xMk "DrumTongueModel" 118 (1, m_M_gone, 0, 7) := ⟨⟨Or.inl (xin_tb 907 (by decide +kernel) (by decide +kernel)), cm_M_gone, ik_7, (by decide +kernel), (by decide +kernel), pm_M_gone⟩, (xin_tb 909 (by decide +kernel) (by decide +kernel)), (xin_tb 28 (by decide +kernel) (by decide +kernel)), TX7, 39, rfl⟩
theorem xk_M_126 : xMk "DrumTongueModel" 126 (1, m_M_isLater, 5, 7) := ⟨⟨Or.inl (xin_tb 932 (by decide +kernel) (by decide +kernel)), cm_M_isLater, ik_7, (by decide +kernel), (by decide +kernel), pm_M_isLater⟩, (xin_tb 934 (by decide +kernel) (by decide +kernel)), (xin_tb 31 (by decide +kernel) (by decide +kernel)), TX7, 39, rfl⟩
theorem xk_M_130 : xMk "DrumTongueModel" 130 (1, m_M_come, 4, 7) := ⟨⟨Or.inl (xin_tb 928 (by decide +kernel) (by decide +kernel)), cm_M_come, ik_7, (by decide +kernel), (by decide +kernel), pm_M_come⟩, (xin_tb 930 (by decide +kernel) (by decide +kernel)), (xin_tb 30 (by decide +kernel) (by decide +kernel)), TX7, 39, rfl⟩
theorem xk_M_134 : xMk "DrumTongueModel" 134 (1, m_M_bitsOf, 2, 7) := ⟨⟨Or.inl (xin_tb 944 (by decide +kernel) (by decide +kernel)), cm_M_bitsOf, ik_7, (by decide +kernel), (by decide +kernel), pm_M_bitsOf⟩, (xin_tb 946 (by decide +kernel) (by decide +kernel)), (xin_tb 34 (by decide +kernel) (by decide +kernel)), TX7, 39, rfl⟩
theorem xk_M_138 : xMk "DrumTongueModel" 138 (0, m_M_ones, 1, 0) := ⟨⟨Or.inl (xin_tb 952 (by decide +kernel) (by decide +kernel)), cm_M_ones, ik_7, (by decide +kernel), (by decide +kernel), pm_M_ones⟩, (xin_tb 953 (by decide +kernel) (by decide +kernel))⟩
theorem xk_M_142 : xMk "DrumTongueModel" 142 (1, m_M_apart, 4, 7) := ⟨⟨Or.inl (xin_tb 948 (by decide +kernel) (by decide +kernel)), cm_M_apart, ik_7, (by decide +kernel), (by decide +kernel), pm_M_apart⟩, (xin_tb 950 (by decide +kernel) (by decide +kernel)), (xin_tb 35 (by decide +kernel) (by decide +kernel)), TX7, 39, rfl⟩
theorem xk_M_146 : xMk "DrumTongueModel" 146 (1, m_M_isApart, 4, 7) := ⟨⟨Or.inl (xin_tb 940 (by decide +kernel) (by decide +kernel)), cm_M_isApart, ik_7, (by decide +kernel), (by decide +kernel), pm_M_isApart⟩, (xin_tb 942 (by decide +kernel) (by decide +kernel)), (xin_tb 33 (by decide +kernel) (by decide +kernel)), TX7, 39, rfl⟩
theorem xk_M_150 : xMk "DrumTongueModel" 150 (1, m_M_order, 0, 7) := ⟨⟨Or.inl (xin_tb 924 (by decide +kernel) (by decide +kernel)), cm_M_order, ik_7, (by decide +kernel), (by decide +kernel), pm_M_order⟩, (xin_tb 926 (by decide +kernel) (by decide +kernel)), (xin_tb 29 (by decide +kernel) (by decide +kernel)), TX7, 39, rfl⟩
theorem xk_M_153 : xMk "DrumTongueModel" 153 (1, m_M_isFree, 3, 7) := ⟨⟨Or.inl (xin_tb 936 (by decide +kernel) (by decide +kernel)), cm_M_isFree, ik_7, (by decide +kernel), (by decide +kernel), pm_M_isFree⟩, (xin_tb 938 (by decide +kernel) (by decide +kernel)), (xin_tb 32 (by decide +kernel) (by decide +kernel)), TX7, 39, rfl⟩
theorem xk_M_157 : xMk "DrumTongueModel" 157 (1, m_M_phrased, 0, 7) := ⟨⟨Or.inl (xin_tb 955 (by decide +kernel) (by decide +kernel)), cm_M_phrased, ik_7, (by decide +kernel), (by decide +kernel), pm_M_phrased⟩, (xin_tb 957 (by decide +kernel) (by decide +kernel)), (xin_tb 36 (by decide +kernel) (by decide +kernel)), TX7, 39, rfl⟩
theorem xk_M_162 : xMk "DrumTongueModel" 162 (1, m_M_lengthOf, 1, 7) := ⟨⟨Or.inl (xin_tb 972 (by decide +kernel) (by decide +kernel)), cm_M_lengthOf, ik_7, (by decide +kernel), (by decide +kernel), pm_M_lengthOf⟩, (xin_tb 974 (by decide +kernel) (by decide +kernel)), (xin_tb 38 (by decide +kernel) (by decide +kernel)), TX7, 39, rfl⟩
theorem xk_M_165 : xMk "DrumTongueModel" 165 (1, m_M_isWord, 1, 7) := ⟨⟨Or.inl (xin_tb 968 (by decide +kernel) (by decide +kernel)), cm_M_isWord, ik_7, (by decide +kernel), (by decide +kernel), pm_M_isWord⟩, (xin_tb 970 (by decide +kernel) (by decide +kernel)), (xin_tb 37 (by decide +kernel) (by decide +kernel)), TX7, 39, rfl⟩
theorem xk_M_169 : xMk "DrumTongueModel" 169 (1, m_M_beatOf, 2, 7) := ⟨⟨Or.inl (xin_tb 980 (by decide +kernel) (by decide +kernel)), cm_M_beatOf, ik_7, (by decide +kernel), (by decide +kernel), pm_M_beatOf⟩, (xin_tb 982 (by decide +kernel) (by decide +kernel)), (xin_tb 39 (by decide +kernel) (by decide +kernel)), TX7, 39, rfl⟩
theorem xk_M_179 : xMk "DrumTongueModel" 179 (0, m_M_lesser, 2, 0) := ⟨⟨Or.inl (xin_tb 1026 (by decide +kernel) (by decide +kernel)), cm_M_lesser, ik_7, (by decide +kernel), (by decide +kernel), pm_M_lesser⟩, (xin_tb 1027 (by decide +kernel) (by decide +kernel))⟩
theorem xk_M_182 : xMk "DrumTongueModel" 182 (1, m_M_off, 2, 7) := ⟨⟨Or.inl (xin_tb 1029 (by decide +kernel) (by decide +kernel)), cm_M_off, ik_7, (by decide +kernel), (by decide +kernel), pm_M_off⟩, (xin_tb 1031 (by decide +kernel) (by decide +kernel)), (xin_tb 43 (by decide +kernel) (by decide +kernel)), TX7, 39, rfl⟩
theorem xk_M_185 : xMk "DrumTongueModel" 185 (1, m_M_ahead, 1, 7) := ⟨⟨Or.inl (xin_tb 1022 (by decide +kernel) (by decide +kernel)), cm_M_ahead, ik_7, (by decide +kernel), (by decide +kernel), pm_M_ahead⟩, (xin_tb 1024 (by decide +kernel) (by decide +kernel)), (xin_tb 42 (by decide +kernel) (by decide +kernel)), TX7, 39, rfl⟩
theorem xk_M_192 : xMk "DrumTongueModel" 192 (1, m_M_restFrom, 1, 7) := ⟨⟨Or.inl (xin_tb 1018 (by decide +kernel) (by decide +kernel)), cm_M_restFrom, ik_7, (by decide +kernel), (by decide +kernel), pm_M_restFrom⟩, (xin_tb 1020 (by decide +kernel) (by decide +kernel)), (xin_tb 41 (by decide +kernel) (by decide +kernel)), TX7, 39, rfl⟩
theorem xk_M_195 : xMk "DrumTongueModel" 195 (1, m_M_behind, 1, 7) := ⟨⟨Or.inl (xin_tb 1033 (by decide +kernel) (by decide +kernel)), cm_M_behind, ik_7, (by decide +kernel), (by decide +kernel), pm_M_behind⟩, (xin_tb 1035 (by decide +kernel) (by decide +kernel)), (xin_tb 44 (by decide +kernel) (by decide +kernel)), TX7, 39, rfl⟩
theorem xk_M_198 : xMk "DrumTongueModel" 198 (1, m_M_reading, 0, 7) := ⟨⟨Or.inl (xin_tb 1014 (by decide +kernel) (by decide +kernel)), cm_M_reading, ik_7, (by decide +kernel), (by decide +kernel), pm_M_reading⟩, (xin_tb 1016 (by decide +kernel) (by decide +kernel)), (xin_tb 40 (by decide +kernel) (by decide +kernel)), TX7, 39, rfl⟩
theorem xk_M_204 : xMk "DrumTongueModel" 204 (1, m_M_offWith, 2, 7) := ⟨⟨Or.inl (xin_tb 1049 (by decide +kernel) (by decide +kernel)), cm_M_offWith, ik_7, (by decide +kernel), (by decide +kernel), pm_M_offWith⟩, (xin_tb 1051 (by decide +kernel) (by decide +kernel)), (xin_tb 46 (by decide +kernel) (by decide +kernel)), TX7, 39, rfl⟩
theorem xk_M_207 : xMk "DrumTongueModel" 207 (1, m_M_doubtOf, 2, 7) := ⟨⟨Or.inl (xin_tb 1045 (by decide +kernel) (by decide +kernel)), cm_M_doubtOf, ik_7, (by decide +kernel), (by decide +kernel), pm_M_doubtOf⟩, (xin_tb 1047 (by decide +kernel) (by decide +kernel)), (xin_tb 45 (by decide +kernel) (by decide +kernel)), TX7, 39, rfl⟩
theorem xk_M_212 : xMk "DrumTongueModel" 212 (0, m_M_isHill, 1, 0) := ⟨⟨Or.inl (xin_tb 1061 (by decide +kernel) (by decide +kernel)), cm_M_isHill, ik_7, (by decide +kernel), (by decide +kernel), pm_M_isHill⟩, (xin_tb 1062 (by decide +kernel) (by decide +kernel))⟩
theorem xk_M_230 : xMk "DrumTongueModel" 230 (0, m_M_areHills, 2, 0) := ⟨⟨Or.inl (xin_tb 1071 (by decide +kernel) (by decide +kernel)), cm_M_areHills, ik_7, (by decide +kernel), (by decide +kernel), pm_M_areHills⟩, (xin_tb 1072 (by decide +kernel) (by decide +kernel))⟩
theorem xk_M_233 : xMk "DrumTongueModel" 233 (1, m_M_look, 2, 7) := ⟨⟨Or.inl (xin_tb 1074 (by decide +kernel) (by decide +kernel)), cm_M_look, ik_7, (by decide +kernel), (by decide +kernel), pm_M_look⟩, (xin_tb 1076 (by decide +kernel) (by decide +kernel)), (xin_tb 47 (by decide +kernel) (by decide +kernel)), TX7, 39, rfl⟩
theorem xk_M_237 : xMk "DrumTongueModel" 237 (1, m_M_enoughFor, 3, 7) := ⟨⟨Or.inl (xin_tb 1091 (by decide +kernel) (by decide +kernel)), cm_M_enoughFor, ik_7, (by decide +kernel), (by decide +kernel), pm_M_enoughFor⟩, (xin_tb 1093 (by decide +kernel) (by decide +kernel)), (xin_tb 48 (by decide +kernel) (by decide +kernel)), TX7, 39, rfl⟩
theorem xk_M_247 : xMk "DrumTongueModel" 247 (1, m_M_count, 1, 7) := ⟨⟨Or.inl (xin_tb 1110 (by decide +kernel) (by decide +kernel)), cm_M_count, ik_7, (by decide +kernel), (by decide +kernel), pm_M_count⟩, (xin_tb 1100 (by decide +kernel) (by decide +kernel)), (xin_tb 1101 (by decide +kernel) (by decide +kernel)), TX7, 39, rfl⟩
theorem xk_M_250 : xMk "DrumTongueModel" 250 (1, m_M_endingAt, 2, 7) := ⟨⟨Or.inl (xin_tb 1111 (by decide +kernel) (by decide +kernel)), cm_M_endingAt, ik_7, (by decide +kernel), (by decide +kernel), pm_M_endingAt⟩, (xin_tb 985 (by decide +kernel) (by decide +kernel)), (xin_tb 986 (by decide +kernel) (by decide +kernel)), TX7, 39, rfl⟩
abbrev tb_M : xTb := ([(7, 7, 1, .array .int, true, false), (13, 7, 2, .array .int, true, false), (16, 7, 4, .array .int, true, false), (19, 7, 5, .array .int, true, false), (22, 7, 6, .int, false, false), (26, 7, 7, .array .int, true, false), (29, 7, 8, .array .int, true, false), (32, 7, 9, .array .int, true, false), (35, 7, 10, .array .int, true, false), (38, 7, 11, .array .int, true, false), (41, 7, 12, .array .int, true, false), (44, 7, 14, .array .int, true, false), (47, 7, 16, .array .int, true, false), (50, 7, 17, .array .int, true, false), (53, 7, 18, .array .int, true, false), (56, 7, 19, .array .int, true, false), (59, 7, 20, .array .int, true, false), (62, 7, 21, .array .int, true, false), (65, 7, 22, .array .int, true, false), (68, 7, 23, .array .int, true, false), (71, 7, 24, .array .int, true, false), (74, 7, 25, .array .int, true, false), (77, 7, 27, .array .int, true, false), (80, 7, 28, .array .int, true, false), (83, 7, 30, .array .int, true, false), (86, 7, 33, .array .int, true, false), (89, 7, 34, .array .int, true, false), (92, 7, 35, .array .long, true, false), (96, 7, 36, .array .int, true, false), (99, 7, 37, .array .int, true, false), (102, 7, 38, .array .int, true, false), (115, 7, 0, .int, false, false), (121, 7, 3, .int, false, false), (174, 7, 13, .int, false, false), (189, 7, 26, .int, false, false), (201, 7, 15, .int, false, false), (219, 7, 31, .int, false, false), (222, 7, 32, .int, false, false), (225, 7, 29, .int, false, false)], [(1, 3, (objectInit, ⟨#[0xb1]⟩, 1, none), 0, 0), (107, 0, m_M_in, 3, 0), (111, 0, m_M_isRow, 2, 0), (118, 1, m_M_gone, 0, 7), (126, 1, m_M_isLater, 5, 7), (130, 1, m_M_come, 4, 7), (134, 1, m_M_bitsOf, 2, 7), (138, 0, m_M_ones, 1, 0), (142, 1, m_M_apart, 4, 7), (146, 1, m_M_isApart, 4, 7), (150, 1, m_M_order, 0, 7), (153, 1, m_M_isFree, 3, 7), (157, 1, m_M_phrased, 0, 7), (162, 1, m_M_lengthOf, 1, 7), (165, 1, m_M_isWord, 1, 7), (169, 1, m_M_beatOf, 2, 7), (179, 0, m_M_lesser, 2, 0), (182, 1, m_M_off, 2, 7), (185, 1, m_M_ahead, 1, 7), (192, 1, m_M_restFrom, 1, 7), (195, 1, m_M_behind, 1, 7), (198, 1, m_M_reading, 0, 7), (204, 1, m_M_offWith, 2, 7), (207, 1, m_M_doubtOf, 2, 7), (212, 0, m_M_isHill, 1, 0), (230, 0, m_M_areHills, 2, 0), (233, 1, m_M_look, 2, 7), (237, 1, m_M_enoughFor, 3, 7), (247, 1, m_M_count, 1, 7), (250, 1, m_M_endingAt, 2, 7)], [], [(161, 1000000)], [(105, 6), (124, 9), (172, -1), (177, 2), (210, 5), (215, 1000), (217, 20), (228, 1000000000), (241, 7), (243, 241), (245, 31)], [])
theorem tk_M : xTbOk "DrumTongueModel" tb_M := ⟨xall (List.forall_mem_cons.mpr ⟨xf_M_7, List.forall_mem_cons.mpr ⟨xf_M_13, List.forall_mem_cons.mpr ⟨xf_M_16, List.forall_mem_cons.mpr ⟨xf_M_19, List.forall_mem_cons.mpr ⟨xf_M_22, List.forall_mem_cons.mpr ⟨xf_M_26, List.forall_mem_cons.mpr ⟨xf_M_29, List.forall_mem_cons.mpr ⟨xf_M_32, List.forall_mem_cons.mpr ⟨xf_M_35, List.forall_mem_cons.mpr ⟨xf_M_38, List.forall_mem_cons.mpr ⟨xf_M_41, List.forall_mem_cons.mpr ⟨xf_M_44, List.forall_mem_cons.mpr ⟨xf_M_47, List.forall_mem_cons.mpr ⟨xf_M_50, List.forall_mem_cons.mpr ⟨xf_M_53, List.forall_mem_cons.mpr ⟨xf_M_56, List.forall_mem_cons.mpr ⟨xf_M_59, List.forall_mem_cons.mpr ⟨xf_M_62, List.forall_mem_cons.mpr ⟨xf_M_65, List.forall_mem_cons.mpr ⟨xf_M_68, List.forall_mem_cons.mpr ⟨xf_M_71, List.forall_mem_cons.mpr ⟨xf_M_74, List.forall_mem_cons.mpr ⟨xf_M_77, List.forall_mem_cons.mpr ⟨xf_M_80, List.forall_mem_cons.mpr ⟨xf_M_83, List.forall_mem_cons.mpr ⟨xf_M_86, List.forall_mem_cons.mpr ⟨xf_M_89, List.forall_mem_cons.mpr ⟨xf_M_92, List.forall_mem_cons.mpr ⟨xf_M_96, List.forall_mem_cons.mpr ⟨xf_M_99, List.forall_mem_cons.mpr ⟨xf_M_102, List.forall_mem_cons.mpr ⟨xf_M_115, List.forall_mem_cons.mpr ⟨xf_M_121, List.forall_mem_cons.mpr ⟨xf_M_174, List.forall_mem_cons.mpr ⟨xf_M_189, List.forall_mem_cons.mpr ⟨xf_M_201, List.forall_mem_cons.mpr ⟨xf_M_219, List.forall_mem_cons.mpr ⟨xf_M_222, List.forall_mem_cons.mpr ⟨xf_M_225, fun _ h => absurd h List.not_mem_nil⟩⟩⟩⟩⟩⟩⟩⟩⟩⟩⟩⟩⟩⟩⟩⟩⟩⟩⟩⟩⟩⟩⟩⟩⟩⟩⟩⟩⟩⟩⟩⟩⟩⟩⟩⟩⟩⟩⟩), xall (List.forall_mem_cons.mpr ⟨xk_M_1, List.forall_mem_cons.mpr ⟨xk_M_107, List.forall_mem_cons.mpr ⟨xk_M_111, List.forall_mem_cons.mpr ⟨xk_M_118, List.forall_mem_cons.mpr ⟨xk_M_126, List.forall_mem_cons.mpr ⟨xk_M_130, List.forall_mem_cons.mpr ⟨xk_M_134, List.forall_mem_cons.mpr ⟨xk_M_138, List.forall_mem_cons.mpr ⟨xk_M_142, List.forall_mem_cons.mpr ⟨xk_M_146, List.forall_mem_cons.mpr ⟨xk_M_150, List.forall_mem_cons.mpr ⟨xk_M_153, List.forall_mem_cons.mpr ⟨xk_M_157, List.forall_mem_cons.mpr ⟨xk_M_162, List.forall_mem_cons.mpr ⟨xk_M_165, List.forall_mem_cons.mpr ⟨xk_M_169, List.forall_mem_cons.mpr ⟨xk_M_179, List.forall_mem_cons.mpr ⟨xk_M_182, List.forall_mem_cons.mpr ⟨xk_M_185, List.forall_mem_cons.mpr ⟨xk_M_192, List.forall_mem_cons.mpr ⟨xk_M_195, List.forall_mem_cons.mpr ⟨xk_M_198, List.forall_mem_cons.mpr ⟨xk_M_204, List.forall_mem_cons.mpr ⟨xk_M_207, List.forall_mem_cons.mpr ⟨xk_M_212, List.forall_mem_cons.mpr ⟨xk_M_230, List.forall_mem_cons.mpr ⟨xk_M_233, List.forall_mem_cons.mpr ⟨xk_M_237, List.forall_mem_cons.mpr ⟨xk_M_247, List.forall_mem_cons.mpr ⟨xk_M_250, fun _ h => absurd h List.not_mem_nil⟩⟩⟩⟩⟩⟩⟩⟩⟩⟩⟩⟩⟩⟩⟩⟩⟩⟩⟩⟩⟩⟩⟩⟩⟩⟩⟩⟩⟩⟩), xall (fun _ h => absurd h List.not_mem_nil), xall (List.forall_mem_cons.mpr ⟨xin_tb 963 (by decide +kernel) (by decide +kernel), fun _ h => absurd h List.not_mem_nil⟩), xall (List.forall_mem_cons.mpr ⟨xin_tb 903 (by decide +kernel) (by decide +kernel), List.forall_mem_cons.mpr ⟨xin_tb 919 (by decide +kernel) (by decide +kernel), List.forall_mem_cons.mpr ⟨xin_tb 996 (by decide +kernel) (by decide +kernel), List.forall_mem_cons.mpr ⟨xin_tb 1005 (by decide +kernel) (by decide +kernel), List.forall_mem_cons.mpr ⟨xin_tb 1064 (by decide +kernel) (by decide +kernel), List.forall_mem_cons.mpr ⟨xin_tb 1065 (by decide +kernel) (by decide +kernel), List.forall_mem_cons.mpr ⟨xin_tb 1066 (by decide +kernel) (by decide +kernel), List.forall_mem_cons.mpr ⟨xin_tb 1078 (by decide +kernel) (by decide +kernel), List.forall_mem_cons.mpr ⟨xin_tb 1103 (by decide +kernel) (by decide +kernel), List.forall_mem_cons.mpr ⟨xin_tb 1108 (by decide +kernel) (by decide +kernel), List.forall_mem_cons.mpr ⟨xin_tb 1109 (by decide +kernel) (by decide +kernel), fun _ h => absurd h List.not_mem_nil⟩⟩⟩⟩⟩⟩⟩⟩⟩⟩⟩), fun _ h => absurd h List.not_mem_nil⟩
abbrev tb_Integer : xTb := ([], [], [], [(265, 1431655765), (266, 858993459), (267, 252645135)], [], [])
theorem tk_Integer : xTbOk "java/lang/Integer" tb_Integer := ⟨xall (fun _ h => absurd h List.not_mem_nil), xall (fun _ h => absurd h List.not_mem_nil), xall (fun _ h => absurd h List.not_mem_nil), xall (List.forall_mem_cons.mpr ⟨xin_tb 386 (by decide +kernel) (by decide +kernel), List.forall_mem_cons.mpr ⟨xin_tb 387 (by decide +kernel) (by decide +kernel), List.forall_mem_cons.mpr ⟨xin_tb 388 (by decide +kernel) (by decide +kernel), fun _ h => absurd h List.not_mem_nil⟩⟩⟩), xall (fun _ h => absurd h List.not_mem_nil), fun _ h => absurd h List.not_mem_nil⟩
abbrev tb_Math : xTb := ([], [], [], [], [], [])
theorem tk_Math : xTbOk "java/lang/Math" tb_Math := ⟨fun _ _ h => absurd h List.not_mem_nil, fun _ _ h => absurd h List.not_mem_nil, fun _ _ h => absurd h List.not_mem_nil, fun _ _ h => absurd h List.not_mem_nil, fun _ _ h => absurd h List.not_mem_nil, fun _ h => absurd h List.not_mem_nil⟩
abbrev tb_Arrays : xTb := ([], [], [], [], [], [])
theorem tk_Arrays : xTbOk "java/util/Arrays" tb_Arrays := ⟨fun _ _ h => absurd h List.not_mem_nil, fun _ _ h => absurd h List.not_mem_nil, fun _ _ h => absurd h List.not_mem_nil, fun _ _ h => absurd h List.not_mem_nil, fun _ _ h => absurd h List.not_mem_nil, fun _ h => absurd h List.not_mem_nil⟩
abbrev tb_System : xTb := ([], [], [], [], [], [])
theorem tk_System : xTbOk "java/lang/System" tb_System := ⟨fun _ _ h => absurd h List.not_mem_nil, fun _ _ h => absurd h List.not_mem_nil, fun _ _ h => absurd h List.not_mem_nil, fun _ _ h => absurd h List.not_mem_nil, fun _ _ h => absurd h List.not_mem_nil, fun _ h => absurd h List.not_mem_nil⟩
end
section
abbrev b_X_init : xBk := [(0, [(.aload_n 0, 1, 0), (.invokespecial 1, 4, 0), (.aload_n 0, 5, 0), (.new 7, 8, 0), (.dup, 9, 0), (.invokespecial 9, 12, 0), (.putfield 10, 15, 0), (.aload_n 0, 16, 0), (.new 16, 19, 0), (.dup, 20, 0), (.invokespecial 18, 23, 0), (.putfield 19, 26, 0), (.aload_n 0, 27, 0), (.new 23, 30, 0), (.dup, 31, 0), (.aload_n 0, 32, 0), (.getfield 10, 35, 0), (.aload_n 0, 36, 0), (.getfield 19, 39, 0), (.invokespecial 25, 42, 0), (.putfield 28, 45, 0), (.aload_n 0, 46, 0), (.new 32, 49, 0), (.dup, 50, 0), (.invokespecial 34, 53, 0), (.putfield 35, 56, 0), (.return_, 57, 0)])]
theorem k_X_init : xck prog_1_method_1_code b_X_init = true := by decide +kernel
abbrev b_Tongue_init : xBk := [(0, [(.aload_n 0, 1, 0), (.invokespecial 3, 4, 0), (.aload_n 0, 5, 0), (.new 9, 8, 0), (.dup, 9, 0), (.bipush 10, 11, 0), (.invokespecial 13, 14, 0), (.putfield 16, 17, 0), (.aload_n 0, 18, 0), (.new 9, 21, 0), (.dup, 22, 0), (.iconst 5, 23, 0), (.invokespecial 13, 26, 0), (.putfield 20, 29, 0), (.aload_n 0, 30, 0), (.new 23, 33, 0), (.dup, 34, 0), (.invokespecial 25, 37, 0), (.putfield 26, 40, 0), (.aload_n 0, 41, 0), (.bipush 10, 43, 0), (.newarray .int, 45, 0), (.putfield 30, 48, 0), (.aload_n 0, 49, 0), (.bipush 10, 51, 0), (.newarray .int, 53, 0), (.putfield 34, 56, 0), (.aload_n 0, 57, 0), (.bipush 10, 59, 0), (.newarray .int, 61, 0), (.putfield 37, 64, 0), (.aload_n 0, 65, 0), (.iconst 1, 66, 0), (.putfield 40, 69, 0), (.aload_n 0, 70, 0), (.new 9, 73, 0), (.dup, 74, 0), (.bipush 10, 76, 0), (.invokespecial 13, 79, 0), (.putfield 44, 82, 0), (.aload_n 0, 83, 0), (.bipush 10, 85, 0), (.newarray .int, 87, 0), (.putfield 47, 90, 0), (.aload_n 0, 91, 0), (.bipush 10, 93, 0), (.newarray .int, 95, 0), (.putfield 50, 98, 0), (.aload_n 0, 99, 0), (.invokevirtual 53, 102, 0), (.return_, 103, 0)])]
theorem k_Tongue_init : xck prog_7_method_1_code b_Tongue_init = true := by decide +kernel
abbrev b_Rows_init : xBk := [(0, [(.aload_n 0, 1, 0), (.invokespecial 1, 4, 0), (.aload_n 0, 5, 0), (.iload_n 1, 6, 0), (.iconst 0, 7, 0), (.invokestatic 7, 10, 0), (.newarray .int, 12, 0), (.putfield 13, 15, 0), (.aload_n 0, 16, 0), (.iload_n 1, 17, 0), (.iconst 0, 18, 0), (.invokestatic 7, 21, 0), (.newarray .int, 23, 0), (.putfield 19, 26, 0), (.return_, 27, 0)])]
theorem k_Rows_init : xck prog_5_method_1_code b_Rows_init = true := by decide +kernel
abbrev b_Math_max : xBk := [(0, [(.iload_n 0, 1, 0), (.iload_n 1, 2, 0), (.if_icmp .lt 7, 5, 9), (.iload_n 0, 6, 0), (.goto 4, 9, 10)]), (9, [(.iload_n 1, 10, 0)]), (10, [(.ireturn, 11, 0)])]
theorem k_Math_max : xck prog_11_method_65_code b_Math_max = true := by decide +kernel
abbrev b_Tails_init : xBk := [(0, [(.aload_n 0, 1, 0), (.invokespecial 5, 4, 0), (.aload_n 0, 5, 0), (.new 11, 8, 0), (.dup, 9, 0), (.bipush 31, 11, 0), (.invokespecial 15, 14, 0), (.putfield 18, 17, 0), (.aload_n 0, 18, 0), (.bipush 31, 20, 0), (.newarray .int, 22, 0), (.putfield 22, 25, 0), (.aload_n 0, 26, 0), (.bipush 31, 28, 0), (.newarray .int, 30, 0), (.putfield 26, 33, 0), (.aload_n 0, 34, 0), (.iconst 0, 35, 0), (.iconst 0, 36, 0), (.iconst (-1), 37, 0), (.iconst (-1), 38, 0), (.invokevirtual 29, 41, 0), (.return_, 42, 0)])]
theorem k_Tails_init : xck prog_6_method_1_code b_Tails_init = true := by decide +kernel
abbrev b_Tails_add : xBk := [(0, [(.aload_n 0, 1, 0), (.getfield 18, 4, 0), (.invokevirtual 33, 7, 0), (.istore 5, 9, 0), (.iload 5, 11, 0), (.bipush 31, 13, 0), (.if_icmp .lt 4, 16, 17), (.return_, 17, 0)]), (17, [(.aload_n 0, 18, 0), (.getfield 22, 21, 0), (.iload 5, 23, 0), (.iload_n 3, 24, 0), (.iastore, 25, 0), (.aload_n 0, 26, 0), (.getfield 26, 29, 0), (.iload 5, 31, 0), (.iload 4, 33, 0), (.iastore, 34, 0), (.aload_n 0, 35, 0), (.getfield 18, 38, 0), (.iload_n 1, 39, 0), (.iload_n 2, 40, 0), (.invokevirtual 54, 43, 0), (.return_, 44, 0)])]
theorem k_Tails_add : xck prog_6_method_9_code b_Tails_add = true := by decide +kernel
abbrev b_Rows_used : xBk := [(0, [(.aload_n 0, 1, 0), (.getfield 22, 4, 0), (.ireturn, 5, 0)])]
theorem k_Rows_used : xck prog_5_method_3_code b_Rows_used = true := by decide +kernel
abbrev b_Rows_add : xBk := [(0, [(.aload_n 0, 1, 0), (.invokevirtual 26, 4, 0), (.ifCond .eq 4, 7, 8), (.return_, 8, 0)]), (8, [(.aload_n 0, 9, 0), (.getfield 13, 12, 0), (.aload_n 0, 13, 0), (.getfield 22, 16, 0), (.iload_n 1, 17, 0), (.iastore, 18, 0), (.aload_n 0, 19, 0), (.getfield 19, 22, 0), (.aload_n 0, 23, 0), (.getfield 22, 26, 0), (.iload_n 2, 27, 0), (.iastore, 28, 0), (.aload_n 0, 29, 0), (.dup, 30, 0), (.getfield 22, 33, 0), (.iconst 1, 34, 0), (.iadd, 35, 0), (.putfield 22, 38, 0), (.return_, 39, 0)])]
theorem k_Rows_add : xck prog_5_method_7_code b_Rows_add = true := by decide +kernel
abbrev b_Rows_isFull : xBk := [(0, [(.aload_n 0, 1, 0), (.getfield 22, 4, 0), (.aload_n 0, 5, 0), (.getfield 13, 8, 0), (.arraylength, 9, 0), (.if_icmp .lt 7, 12, 16), (.iconst 1, 13, 0), (.goto 4, 16, 17)]), (16, [(.iconst 0, 17, 0)]), (17, [(.ireturn, 18, 0)])]
theorem k_Rows_isFull : xck prog_5_method_4_code b_Rows_isFull = true := by decide +kernel
abbrev b_Tongue_forgetPhrases : xBk := [(0, [(.aload_n 0, 1, 0), (.getfield 30, 4, 0), (.iconst (-1), 5, 0), (.invokestatic 93, 8, 0), (.return_, 9, 0)])]
theorem k_Tongue_forgetPhrases : xck prog_7_method_16_code b_Tongue_forgetPhrases = true := by decide +kernel
abbrev b_Arrays_fill : xBk := [(0, [(.iconst 0, 1, 0), (.istore_n 2, 2, 0), (.aload_n 0, 3, 0), (.arraylength, 4, 0), (.istore_n 3, 5, 0)]), (5, [(.iload_n 2, 6, 0), (.iload_n 3, 7, 0), (.if_icmp .ge 13, 10, 20), (.aload_n 0, 11, 0), (.iload_n 2, 12, 0), (.iload_n 1, 13, 0), (.iastore, 14, 0), (.iinc 2 1, 17, 0), (.goto (-12), 20, 5)]), (20, [(.return_, 21, 0)])]
theorem k_Arrays_fill : xck prog_13_method_103_code b_Arrays_fill = true := by decide +kernel
abbrev b_Ear_init : xBk := [(0, [(.aload_n 0, 1, 0), (.invokespecial 3, 4, 0), (.aload_n 0, 5, 0), (.bipush 60, 7, 0), (.newarray .int, 9, 0), (.putfield 11, 12, 0), (.return_, 13, 0)])]
theorem k_Ear_init : xck prog_2_method_1_code b_Ear_init = true := by decide +kernel
abbrev b_Reader_init : xBk := [(0, [(.aload_n 0, 1, 0), (.invokespecial 5, 4, 0), (.aload_n 0, 5, 0), (.bipush 12, 7, 0), (.newarray .int, 9, 0), (.putfield 13, 12, 0), (.aload_n 0, 13, 0), (.bipush 12, 15, 0), (.newarray .int, 17, 0), (.putfield 17, 20, 0), (.aload_n 0, 21, 0), (.bipush 13, 23, 0), (.bipush 61, 25, 0), (.multianewarray 20 2, 29, 0), (.putfield 22, 32, 0), (.aload_n 0, 33, 0), (.bipush 61, 35, 0), (.newarray .int, 37, 0), (.putfield 25, 40, 0), (.aload_n 0, 41, 0), (.bipush 61, 43, 0), (.newarray .int, 45, 0), (.putfield 28, 48, 0), (.aload_n 0, 49, 0), (.bipush 61, 51, 0), (.newarray .int, 53, 0), (.putfield 31, 56, 0), (.aload_n 0, 57, 0), (.aload_n 1, 58, 0), (.putfield 34, 61, 0), (.aload_n 0, 62, 0), (.aload_n 2, 63, 0), (.putfield 38, 66, 0), (.return_, 67, 0)])]
theorem k_Reader_init : xck prog_4_method_1_code b_Reader_init = true := by decide +kernel
abbrev b_Hills_init : xBk := [(0, [(.aload_n 0, 1, 0), (.invokespecial 3, 4, 0), (.aload_n 0, 5, 0), (.bipush 6, 7, 0), (.bipush 6, 9, 0), (.multianewarray 11 2, 13, 0), (.putfield 13, 16, 0), (.aload_n 0, 17, 0), (.bipush 6, 19, 0), (.bipush 6, 21, 0), (.multianewarray 11 2, 25, 0), (.putfield 16, 28, 0), (.aload_n 0, 29, 0), (.bipush 6, 31, 0), (.newarray .int, 33, 0), (.putfield 19, 36, 0), (.aload_n 0, 37, 0), (.bipush 6, 39, 0), (.newarray .int, 41, 0), (.putfield 23, 44, 0), (.aload_n 0, 45, 0), (.bipush 6, 47, 0), (.newarray .int, 49, 0), (.putfield 26, 52, 0), (.aload_n 0, 53, 0), (.bipush 6, 55, 0), (.newarray .int, 57, 0), (.putfield 29, 60, 0), (.iconst 0, 61, 0), (.istore_n 1, 62, 0)]), (62, [(.iload_n 1, 63, 0), (.bipush 6, 65, 0), (.if_icmp .ge 19, 68, 84), (.aload_n 0, 69, 0), (.getfield 16, 72, 0), (.iload_n 1, 73, 0), (.aaload, 74, 0), (.iconst 1, 75, 0), (.invokestatic 32, 78, 0), (.iinc 1 1, 81, 0), (.goto (-19), 84, 62)]), (84, [(.return_, 85, 0)])]
theorem k_Hills_init : xck prog_3_method_1_code b_Hills_init = true := by decide +kernel
abbrev b_X_word : xBk := [(0, [(.iload_n 1, 1, 0), (.iload_n 2, 2, 0), (.invokestatic 39, 5, 0), (.ifCond .ne 6, 8, 11), (.bipush (-2), 10, 0), (.ireturn, 11, 0)]), (11, [(.aload_n 0, 12, 0), (.getfield 10, 15, 0), (.iload_n 1, 16, 0), (.iload_n 2, 17, 0), (.invokevirtual 45, 20, 0), (.ireturn, 21, 0)])]
theorem k_X_word : xck prog_1_method_2_code b_X_word = true := by decide +kernel
abbrev b_Rows_isRow : xBk := [(0, [(.iload_n 0, 1, 0), (.iconst 1, 2, 0), (.if_icmp .lt 24, 5, 26), (.iload_n 0, 6, 0), (.bipush 6, 8, 0), (.if_icmp .gt 18, 11, 26), (.iload_n 1, 12, 0), (.ifCond .lt 14, 15, 26), (.iload_n 1, 16, 0), (.iconst 1, 17, 0), (.iload_n 0, 18, 0), (.ishl, 19, 0), (.if_icmp .ge 7, 22, 26), (.iconst 1, 23, 0), (.goto 4, 26, 27)]), (26, [(.iconst 0, 27, 0)]), (27, [(.ireturn, 28, 0)])]
theorem k_Rows_isRow : xck prog_5_method_2_code b_Rows_isRow = true := by decide +kernel
abbrev b_Tongue_addWord : xBk := [(0, [(.aload_n 0, 1, 0), (.getfield 16, 4, 0), (.invokevirtual 56, 7, 0), (.ifCond .eq 6, 10, 13), (.bipush (-4), 12, 0), (.ireturn, 13, 0)]), (13, [(.aload_n 0, 14, 0), (.getfield 16, 17, 0), (.iload_n 1, 18, 0), (.iload_n 2, 19, 0), (.invokevirtual 60, 22, 0), (.aload_n 0, 23, 0), (.invokevirtual 53, 26, 0), (.aload_n 0, 27, 0), (.getfield 16, 30, 0), (.invokevirtual 64, 33, 0), (.iconst 1, 34, 0), (.isub, 35, 0), (.ireturn, 36, 0)])]
theorem k_Tongue_addWord : xck prog_7_method_2_code b_Tongue_addWord = true := by decide +kernel
abbrev b_X_ending : xBk := [(0, [(.iload_n 1, 1, 0), (.iload_n 2, 2, 0), (.invokestatic 39, 5, 0), (.ifCond .ne 6, 8, 11), (.bipush (-2), 10, 0), (.ireturn, 11, 0)]), (11, [(.aload_n 0, 12, 0), (.getfield 10, 15, 0), (.iload_n 1, 16, 0), (.iload_n 2, 17, 0), (.invokevirtual 49, 20, 0), (.ireturn, 21, 0)])]
theorem k_X_ending : xck prog_1_method_3_code b_X_ending = true := by decide +kernel
abbrev b_Tongue_addEnding : xBk := [(0, [(.aload_n 0, 1, 0), (.getfield 20, 4, 0), (.invokevirtual 56, 7, 0), (.ifCond .eq 6, 10, 13), (.bipush (-4), 12, 0), (.ireturn, 13, 0)]), (13, [(.aload_n 0, 14, 0), (.getfield 20, 17, 0), (.iload_n 1, 18, 0), (.iload_n 2, 19, 0), (.invokevirtual 60, 22, 0), (.aload_n 0, 23, 0), (.getfield 26, 26, 0), (.aload_n 0, 27, 0), (.getfield 20, 30, 0), (.invokevirtual 68, 33, 0), (.aload_n 0, 34, 0), (.invokevirtual 53, 37, 0), (.aload_n 0, 38, 0), (.getfield 20, 41, 0), (.invokevirtual 64, 44, 0), (.iconst 1, 45, 0), (.isub, 46, 0), (.ireturn, 47, 0)])]
theorem k_Tongue_addEnding : xck prog_7_method_3_code b_Tongue_addEnding = true := by decide +kernel
abbrev b_Tails_remake : xBk := [(0, [(.aload_n 0, 1, 0), (.getfield 18, 4, 0), (.iconst 1, 5, 0), (.invokevirtual 44, 8, 0), (.iconst 1, 9, 0), (.istore_n 2, 10, 0)]), (10, [(.iload_n 2, 11, 0), (.bipush 12, 13, 0), (.if_icmp .gt 21, 16, 34), (.aload_n 0, 17, 0), (.aload_n 1, 18, 0), (.iload_n 2, 19, 0), (.invokevirtual 47, 22, 0), (.aload_n 0, 23, 0), (.aload_n 1, 24, 0), (.iload_n 2, 25, 0), (.invokevirtual 51, 28, 0), (.iinc 2 1, 31, 0), (.goto (-21), 34, 10)]), (34, [(.return_, 35, 0)])]
theorem k_Tails_remake : xck prog_6_method_6_code b_Tails_remake = true := by decide +kernel
abbrev b_Rows_dropAllBehind : xBk := [(0, [(.iload_n 1, 1, 0), (.ifCond .lt 16, 4, 17), (.iload_n 1, 5, 0), (.aload_n 0, 6, 0), (.getfield 22, 9, 0), (.if_icmp .ge 8, 12, 17), (.aload_n 0, 13, 0), (.iload_n 1, 14, 0), (.putfield 22, 17, 0)]), (17, [(.return_, 18, 0)])]
theorem k_Rows_dropAllBehind : xck prog_5_method_8_code b_Rows_dropAllBehind = true := by decide +kernel
abbrev b_Tails_addSingles : xBk := [(0, [(.iconst 0, 1, 0), (.istore_n 3, 2, 0)]), (2, [(.iload_n 3, 3, 0), (.aload_n 1, 4, 0), (.invokevirtual 33, 7, 0), (.if_icmp .ge 30, 10, 37), (.aload_n 1, 11, 0), (.iload_n 3, 12, 0), (.invokevirtual 37, 15, 0), (.iload_n 2, 16, 0), (.if_icmp .ne 15, 19, 31), (.aload_n 0, 20, 0), (.iload_n 2, 21, 0), (.aload_n 1, 22, 0), (.iload_n 3, 23, 0), (.invokevirtual 41, 26, 0), (.iload_n 3, 27, 0), (.iconst (-1), 28, 0), (.invokevirtual 29, 31, 0)]), (31, [(.iinc 3 1, 34, 0), (.goto (-32), 37, 2)]), (37, [(.return_, 38, 0)])]
theorem k_Tails_addSingles : xck prog_6_method_7_code b_Tails_addSingles = true := by decide +kernel
abbrev b_Rows_size : xBk := [(0, [(.iload_n 1, 1, 0), (.ifCond .lt 20, 4, 21), (.iload_n 1, 5, 0), (.aload_n 0, 6, 0), (.getfield 22, 9, 0), (.if_icmp .ge 12, 12, 21), (.aload_n 0, 13, 0), (.getfield 13, 16, 0), (.iload_n 1, 17, 0), (.iaload, 18, 0), (.goto 4, 21, 22)]), (21, [(.iconst 0, 22, 0)]), (22, [(.ireturn, 23, 0)])]
theorem k_Rows_size : xck prog_5_method_5_code b_Rows_size = true := by decide +kernel
abbrev b_Rows_number : xBk := [(0, [(.iload_n 1, 1, 0), (.ifCond .lt 20, 4, 21), (.iload_n 1, 5, 0), (.aload_n 0, 6, 0), (.getfield 22, 9, 0), (.if_icmp .ge 12, 12, 21), (.aload_n 0, 13, 0), (.getfield 19, 16, 0), (.iload_n 1, 17, 0), (.iaload, 18, 0), (.goto 4, 21, 22)]), (21, [(.iconst 0, 22, 0)]), (22, [(.ireturn, 23, 0)])]
theorem k_Rows_number : xck prog_5_method_6_code b_Rows_number = true := by decide +kernel
abbrev b_Tails_addPairs : xBk := [(0, [(.iconst 0, 1, 0), (.istore_n 3, 2, 0)]), (2, [(.iload_n 3, 3, 0), (.aload_n 1, 4, 0), (.invokevirtual 33, 7, 0), (.if_icmp .ge 70, 10, 77), (.iconst 0, 11, 0), (.istore 4, 13, 0)]), (13, [(.iload 4, 15, 0), (.aload_n 1, 16, 0), (.invokevirtual 33, 19, 0), (.if_icmp .ge 52, 22, 71), (.aload_n 1, 23, 0), (.iload_n 3, 24, 0), (.invokevirtual 37, 27, 0), (.aload_n 1, 28, 0), (.iload 4, 30, 0), (.invokevirtual 37, 33, 0), (.iadd, 34, 0), (.iload_n 2, 35, 0), (.if_icmp .ne 30, 38, 65), (.aload_n 0, 39, 0), (.iload_n 2, 40, 0), (.aload_n 1, 41, 0), (.iload_n 3, 42, 0), (.invokevirtual 41, 45, 0), (.aload_n 1, 46, 0), (.iload 4, 48, 0), (.invokevirtual 37, 51, 0), (.ishl, 52, 0), (.aload_n 1, 53, 0), (.iload 4, 55, 0), (.invokevirtual 41, 58, 0), (.ior, 59, 0), (.iload_n 3, 60, 0), (.iload 4, 62, 0), (.invokevirtual 29, 65, 0)]), (65, [(.iinc 4 1, 68, 0), (.goto (-55), 71, 13)]), (71, [(.iinc 3 1, 74, 0), (.goto (-72), 77, 2)]), (77, [(.return_, 78, 0)])]
theorem k_Tails_addPairs : xck prog_6_method_8_code b_Tails_addPairs = true := by decide +kernel
abbrev b_X_bound : xBk := [(0, [(.iload_n 1, 1, 0), (.iconst 1, 2, 0), (.if_icmp .lt 9, 5, 11), (.iload_n 1, 6, 0), (.bipush 9, 8, 0), (.if_icmp .le 6, 11, 14)]), (11, [(.bipush (-2), 13, 0), (.ireturn, 14, 0)]), (14, [(.aload_n 0, 15, 0), (.getfield 10, 18, 0), (.iload_n 1, 19, 0), (.invokevirtual 52, 22, 0), (.ireturn, 23, 0)])]
theorem k_X_bound : xck prog_1_method_4_code b_X_bound = true := by decide +kernel
abbrev b_Tongue_changeBound : xBk := [(0, [(.aload_n 0, 1, 0), (.getfield 40, 4, 0), (.istore_n 2, 5, 0), (.aload_n 0, 6, 0), (.iload_n 1, 7, 0), (.putfield 40, 10, 0), (.aload_n 0, 11, 0), (.invokevirtual 53, 14, 0), (.iload_n 2, 15, 0), (.ireturn, 16, 0)])]
theorem k_Tongue_changeBound : xck prog_7_method_4_code b_Tongue_changeBound = true := by decide +kernel
abbrev b_X_choose : xBk := [(0, [(.aload_n 0, 1, 0), (.getfield 10, 4, 0), (.invokevirtual 56, 7, 0), (.ireturn, 8, 0)])]
theorem k_X_choose : xck prog_1_method_5_code b_X_choose = true := by decide +kernel
abbrev b_Tongue_chooseInTurn : xBk := [(0, [(.aload_n 0, 1, 0), (.invokevirtual 53, 4, 0), (.aload_n 0, 5, 0), (.getfield 44, 8, 0), (.iconst 0, 9, 0), (.invokevirtual 105, 12, 0), (.iconst 0, 13, 0), (.istore_n 1, 14, 0)]), (14, [(.iload_n 1, 15, 0), (.aload_n 0, 16, 0), (.getfield 16, 19, 0), (.invokevirtual 64, 22, 0), (.if_icmp .ge 51, 25, 73), (.iload_n 1, 26, 0), (.bipush 10, 28, 0), (.if_icmp .ge 45, 31, 73), (.aload_n 0, 32, 0), (.iload_n 1, 33, 0), (.invokevirtual 108, 36, 0), (.istore_n 2, 37, 0), (.iload_n 2, 38, 0), (.iconst (-1), 39, 0), (.if_icmp .eq 28, 42, 67), (.aload_n 0, 43, 0), (.iload_n 1, 44, 0), (.iload_n 2, 45, 0), (.invokevirtual 111, 48, 0), (.aload_n 0, 49, 0), (.getfield 44, 52, 0), (.aload_n 0, 53, 0), (.getfield 34, 56, 0), (.iload_n 1, 57, 0), (.iaload, 58, 0), (.aload_n 0, 59, 0), (.getfield 37, 62, 0), (.iload_n 1, 63, 0), (.iaload, 64, 0), (.invokevirtual 60, 67, 0)]), (67, [(.iinc 1 1, 70, 0), (.goto (-56), 73, 14)]), (73, [(.aload_n 0, 74, 0), (.getfield 44, 77, 0), (.invokevirtual 64, 80, 0), (.ireturn, 81, 0)])]
theorem k_Tongue_chooseInTurn : xck prog_7_method_18_code b_Tongue_chooseInTurn = true := by decide +kernel
abbrev b_Tongue_firstTailApart : xBk := [(0, [(.iconst 0, 1, 0), (.istore_n 2, 2, 0)]), (2, [(.iload_n 2, 3, 0), (.aload_n 0, 4, 0), (.getfield 26, 7, 0), (.invokevirtual 114, 10, 0), (.if_icmp .ge 37, 13, 47), (.aload_n 0, 14, 0), (.getfield 44, 17, 0), (.aload_n 0, 18, 0), (.iload_n 1, 19, 0), (.iload_n 2, 20, 0), (.invokevirtual 99, 23, 0), (.aload_n 0, 24, 0), (.iload_n 1, 25, 0), (.iload_n 2, 26, 0), (.invokevirtual 102, 29, 0), (.aload_n 0, 30, 0), (.getfield 40, 33, 0), (.invokevirtual 115, 36, 0), (.ifCond .eq 5, 39, 41), (.iload_n 2, 40, 0), (.ireturn, 41, 0)]), (41, [(.iinc 2 1, 44, 0), (.goto (-42), 47, 2)]), (47, [(.iconst (-1), 48, 0), (.ireturn, 49, 0)])]
theorem k_Tongue_firstTailApart : xck prog_7_method_19_code b_Tongue_firstTailApart = true := by decide +kernel
abbrev b_Tails_used : xBk := [(0, [(.aload_n 0, 1, 0), (.getfield 18, 4, 0), (.invokevirtual 33, 7, 0), (.ireturn, 8, 0)])]
theorem k_Tails_used : xck prog_6_method_2_code b_Tails_used = true := by decide +kernel
abbrev b_Tongue_sizeWith : xBk := [(0, [(.aload_n 0, 1, 0), (.getfield 16, 4, 0), (.iload_n 1, 5, 0), (.invokevirtual 135, 8, 0), (.aload_n 0, 9, 0), (.getfield 26, 12, 0), (.iload_n 2, 13, 0), (.invokevirtual 138, 16, 0), (.iadd, 17, 0), (.ireturn, 18, 0)])]
theorem k_Tongue_sizeWith : xck prog_7_method_22_code b_Tongue_sizeWith = true := by decide +kernel
abbrev b_Tails_size : xBk := [(0, [(.aload_n 0, 1, 0), (.getfield 18, 4, 0), (.iload_n 1, 5, 0), (.invokevirtual 37, 8, 0), (.ireturn, 9, 0)])]
theorem k_Tails_size : xck prog_6_method_3_code b_Tails_size = true := by decide +kernel
abbrev b_Tongue_numberWith : xBk := [(0, [(.aload_n 0, 1, 0), (.getfield 16, 4, 0), (.iload_n 1, 5, 0), (.invokevirtual 139, 8, 0), (.aload_n 0, 9, 0), (.getfield 26, 12, 0), (.iload_n 2, 13, 0), (.invokevirtual 138, 16, 0), (.ishl, 17, 0), (.aload_n 0, 18, 0), (.getfield 26, 21, 0), (.iload_n 2, 22, 0), (.invokevirtual 142, 25, 0), (.ior, 26, 0), (.ireturn, 27, 0)])]
theorem k_Tongue_numberWith : xck prog_7_method_23_code b_Tongue_numberWith = true := by decide +kernel
abbrev b_Tails_number : xBk := [(0, [(.aload_n 0, 1, 0), (.getfield 18, 4, 0), (.iload_n 1, 5, 0), (.invokevirtual 41, 8, 0), (.ireturn, 9, 0)])]
theorem k_Tails_number : xck prog_6_method_4_code b_Tails_number = true := by decide +kernel
abbrev b_Rows_allApartFrom : xBk := [(0, [(.iconst 0, 1, 0), (.istore 4, 3, 0)]), (3, [(.iload 4, 5, 0), (.aload_n 0, 6, 0), (.getfield 22, 9, 0), (.if_icmp .ge 34, 12, 43), (.aload_n 0, 13, 0), (.getfield 13, 16, 0), (.iload 4, 18, 0), (.iaload, 19, 0), (.aload_n 0, 20, 0), (.getfield 19, 23, 0), (.iload 4, 25, 0), (.iaload, 26, 0), (.iload_n 1, 27, 0), (.iload_n 2, 28, 0), (.iload_n 3, 29, 0), (.invokestatic 30, 32, 0), (.ifCond .ne 5, 35, 37), (.iconst 0, 36, 0), (.ireturn, 37, 0)]), (37, [(.iinc 4 1, 40, 0), (.goto (-37), 43, 3)]), (43, [(.iconst 1, 44, 0), (.ireturn, 45, 0)])]
theorem k_Rows_allApartFrom : xck prog_5_method_9_code b_Rows_allApartFrom = true := by decide +kernel
abbrev b_Rows_areApart : xBk := [(0, [(.iload_n 0, 1, 0), (.iload_n 1, 2, 0), (.iload_n 2, 3, 0), (.iload_n 3, 4, 0), (.invokestatic 43, 7, 0), (.istore 5, 9, 0), (.iload 5, 11, 0), (.ifCond .le 21, 14, 32), (.iload 5, 16, 0), (.iload_n 0, 17, 0), (.iload_n 2, 18, 0), (.isub, 19, 0), (.invokestatic 47, 22, 0), (.iadd, 23, 0), (.iload 4, 25, 0), (.if_icmp .lt 7, 28, 32), (.iconst 1, 29, 0), (.goto 4, 32, 33)]), (32, [(.iconst 0, 33, 0)]), (33, [(.ireturn, 34, 0)])]
theorem k_Rows_areApart : xck prog_5_method_11_code b_Rows_areApart = true := by decide +kernel
abbrev b_Rows_differing : xBk := [(0, [(.iload_n 0, 1, 0), (.iload_n 2, 2, 0), (.invokestatic 34, 5, 0), (.istore 4, 7, 0), (.iload_n 1, 8, 0), (.iload_n 0, 9, 0), (.iload 4, 11, 0), (.isub, 12, 0), (.ishr, 13, 0), (.iload_n 3, 14, 0), (.iload_n 2, 15, 0), (.iload 4, 17, 0), (.isub, 18, 0), (.ishr, 19, 0), (.ixor, 20, 0), (.invokestatic 37, 23, 0), (.ireturn, 24, 0)])]
theorem k_Rows_differing : xck prog_5_method_10_code b_Rows_differing = true := by decide +kernel
abbrev b_Math_min : xBk := [(0, [(.iload_n 0, 1, 0), (.iload_n 1, 2, 0), (.if_icmp .gt 7, 5, 9), (.iload_n 0, 6, 0), (.goto 4, 9, 10)]), (9, [(.iload_n 1, 10, 0)]), (10, [(.ireturn, 11, 0)])]
theorem k_Math_min : xck prog_11_method_69_code b_Math_min = true := by decide +kernel
abbrev b_Integer_bitCount : xBk := [(0, [(.iload_n 0, 1, 0), (.iload_n 0, 2, 0), (.iconst 1, 3, 0), (.iushr, 4, 0), (.ldc_w 265, 7, 0), (.iand, 8, 0), (.isub, 9, 0), (.istore_n 0, 10, 0), (.iload_n 0, 11, 0), (.ldc_w 266, 14, 0), (.iand, 15, 0), (.iload_n 0, 16, 0), (.iconst 2, 17, 0), (.iushr, 18, 0), (.ldc_w 266, 21, 0), (.iand, 22, 0), (.iadd, 23, 0), (.istore_n 0, 24, 0), (.iload_n 0, 25, 0), (.iload_n 0, 26, 0), (.iconst 4, 27, 0), (.iushr, 28, 0), (.iadd, 29, 0), (.ldc_w 267, 32, 0), (.iand, 33, 0), (.istore_n 0, 34, 0), (.iload_n 0, 35, 0), (.iload_n 0, 36, 0), (.bipush 8, 38, 0), (.iushr, 39, 0), (.iadd, 40, 0), (.istore_n 0, 41, 0), (.iload_n 0, 42, 0), (.iload_n 0, 43, 0), (.bipush 16, 45, 0), (.iushr, 46, 0), (.iadd, 47, 0), (.istore_n 0, 48, 0), (.iload_n 0, 49, 0), (.bipush 63, 51, 0), (.iand, 52, 0), (.ireturn, 53, 0)])]
theorem k_Integer_bitCount : xck prog_10_method_49_code b_Integer_bitCount = true := by decide +kernel
abbrev b_Math_abs : xBk := [(0, [(.iload_n 0, 1, 0), (.ifCond .ge 8, 4, 9), (.iload_n 0, 5, 0), (.ineg, 6, 0), (.goto 4, 9, 10)]), (9, [(.iload_n 0, 10, 0)]), (10, [(.ireturn, 11, 0)])]
theorem k_Math_abs : xck prog_11_method_59_code b_Math_abs = true := by decide +kernel
abbrev b_Tongue_give : xBk := [(0, [(.aload_n 0, 1, 0), (.getfield 30, 4, 0), (.iload_n 1, 5, 0), (.iload_n 2, 6, 0), (.iastore, 7, 0), (.aload_n 0, 8, 0), (.getfield 34, 11, 0), (.iload_n 1, 12, 0), (.aload_n 0, 13, 0), (.iload_n 1, 14, 0), (.iload_n 2, 15, 0), (.invokevirtual 99, 18, 0), (.iastore, 19, 0), (.aload_n 0, 20, 0), (.getfield 37, 23, 0), (.iload_n 1, 24, 0), (.aload_n 0, 25, 0), (.iload_n 1, 26, 0), (.iload_n 2, 27, 0), (.invokevirtual 102, 30, 0), (.iastore, 31, 0), (.return_, 32, 0)])]
theorem k_Tongue_give : xck prog_7_method_17_code b_Tongue_give = true := by decide +kernel
abbrev b_X_least : xBk := [(0, [(.aload_n 0, 1, 0), (.getfield 10, 4, 0), (.invokevirtual 60, 7, 0), (.ireturn, 8, 0)])]
theorem k_X_least : xck prog_1_method_6_code b_X_least = true := by decide +kernel
abbrev b_Tongue_chooseForTheLeast : xBk := [(0, [(.aload_n 0, 1, 0), (.getfield 44, 4, 0), (.iconst 0, 5, 0), (.invokevirtual 105, 8, 0), (.aload_n 0, 9, 0), (.ldc 119, 11, 0), (.putfield 120, 14, 0), (.aload_n 0, 15, 0), (.iconst 0, 16, 0), (.putfield 123, 19, 0), (.aload_n 0, 20, 0), (.iconst 0, 21, 0), (.iconst 0, 22, 0), (.invokevirtual 126, 25, 0), (.aload_n 0, 26, 0), (.getfield 123, 29, 0), (.sipush 20000, 32, 0), (.if_icmp .le 6, 35, 38), (.bipush (-5), 37, 0), (.ireturn, 38, 0)]), (38, [(.aload_n 0, 39, 0), (.getfield 120, 42, 0), (.ldc 119, 44, 0), (.if_icmp .ne 5, 47, 49), (.iconst (-1), 48, 0), (.ireturn, 49, 0)]), (49, [(.iconst 0, 50, 0), (.istore_n 1, 51, 0)]), (51, [(.iload_n 1, 52, 0), (.aload_n 0, 53, 0), (.getfield 16, 56, 0), (.invokevirtual 64, 59, 0), (.if_icmp .ge 26, 62, 85), (.iload_n 1, 63, 0), (.bipush 10, 65, 0), (.if_icmp .ge 20, 68, 85), (.aload_n 0, 69, 0), (.iload_n 1, 70, 0), (.aload_n 0, 71, 0), (.getfield 50, 74, 0), (.iload_n 1, 75, 0), (.iaload, 76, 0), (.invokevirtual 111, 79, 0), (.iinc 1 1, 82, 0), (.goto (-31), 85, 51)]), (85, [(.aload_n 0, 86, 0), (.getfield 120, 89, 0), (.ireturn, 90, 0)])]
theorem k_Tongue_chooseForTheLeast : xck prog_7_method_20_code b_Tongue_chooseForTheLeast = true := by decide +kernel
abbrev b_Tongue_lookFrom : xBk := [(0, [(.iload_n 1, 1, 0), (.aload_n 0, 2, 0), (.getfield 16, 5, 0), (.invokevirtual 64, 8, 0), (.if_icmp .ge 9, 11, 17), (.iload_n 1, 12, 0), (.bipush 10, 14, 0), (.if_icmp .lt 24, 17, 38)]), (17, [(.aload_n 0, 18, 0), (.iload_n 2, 19, 0), (.putfield 120, 22, 0), (.aload_n 0, 23, 0), (.getfield 47, 26, 0), (.iconst 0, 27, 0), (.aload_n 0, 28, 0), (.getfield 50, 31, 0), (.iconst 0, 32, 0), (.bipush 10, 34, 0), (.invokestatic 129, 37, 0), (.return_, 38, 0)]), (38, [(.iconst 0, 39, 0), (.istore_n 3, 40, 0)]), (40, [(.iload_n 3, 41, 0), (.aload_n 0, 42, 0), (.getfield 26, 45, 0), (.invokevirtual 114, 48, 0), (.if_icmp .ge 113, 51, 161), (.aload_n 0, 52, 0), (.iload_n 1, 53, 0), (.iload_n 3, 54, 0), (.invokevirtual 99, 57, 0), (.istore 4, 59, 0), (.iload_n 2, 60, 0), (.iload 4, 62, 0), (.iadd, 63, 0), (.aload_n 0, 64, 0), (.getfield 120, 67, 0), (.if_icmp .lt 4, 70, 71), (.return_, 71, 0)]), (71, [(.aload_n 0, 72, 0), (.dup, 73, 0), (.getfield 123, 76, 0), (.iconst 1, 77, 0), (.iadd, 78, 0), (.putfield 123, 81, 0), (.aload_n 0, 82, 0), (.getfield 123, 85, 0), (.sipush 20000, 88, 0), (.if_icmp .le 4, 91, 92), (.return_, 92, 0)]), (92, [(.aload_n 0, 93, 0), (.iload_n 1, 94, 0), (.iload_n 3, 95, 0), (.invokevirtual 102, 98, 0), (.istore 5, 100, 0), (.aload_n 0, 101, 0), (.getfield 44, 104, 0), (.iload 4, 106, 0), (.iload 5, 108, 0), (.aload_n 0, 109, 0), (.getfield 40, 112, 0), (.invokevirtual 115, 115, 0), (.ifCond .eq 40, 118, 155), (.aload_n 0, 119, 0), (.getfield 47, 122, 0), (.iload_n 1, 123, 0), (.iload_n 3, 124, 0), (.iastore, 125, 0), (.aload_n 0, 126, 0), (.getfield 44, 129, 0), (.iload 4, 131, 0), (.iload 5, 133, 0), (.invokevirtual 60, 136, 0), (.aload_n 0, 137, 0), (.iload_n 1, 138, 0), (.iconst 1, 139, 0), (.iadd, 140, 0), (.iload_n 2, 141, 0), (.iload 4, 143, 0), (.iadd, 144, 0), (.invokevirtual 126, 147, 0), (.aload_n 0, 148, 0), (.getfield 44, 151, 0), (.iload_n 1, 152, 0), (.invokevirtual 105, 155, 0)]), (155, [(.iinc 3 1, 158, 0), (.goto (-118), 161, 40)]), (161, [(.return_, 162, 0)])]
theorem k_Tongue_lookFrom : xck prog_7_method_21_code b_Tongue_lookFrom = true := by decide +kernel
abbrev b_X_length : xBk := [(0, [(.aload_n 0, 1, 0), (.getfield 10, 4, 0), (.iload_n 1, 5, 0), (.invokevirtual 63, 8, 0), (.ifCond .ne 6, 11, 14), (.bipush (-2), 13, 0), (.ireturn, 14, 0)]), (14, [(.aload_n 0, 15, 0), (.getfield 10, 18, 0), (.iload_n 1, 19, 0), (.invokevirtual 67, 22, 0), (.ifCond .eq 14, 25, 36), (.aload_n 0, 26, 0), (.getfield 10, 29, 0), (.iload_n 1, 30, 0), (.invokevirtual 70, 33, 0), (.goto 4, 36, 37)]), (36, [(.iconst (-1), 37, 0)]), (37, [(.ireturn, 38, 0)])]
theorem k_X_length : xck prog_1_method_7_code b_X_length = true := by decide +kernel
abbrev b_Tongue_isWord : xBk := [(0, [(.iload_n 1, 1, 0), (.ifCond .lt 18, 4, 19), (.iload_n 1, 5, 0), (.aload_n 0, 6, 0), (.getfield 16, 9, 0), (.invokevirtual 64, 12, 0), (.if_icmp .ge 7, 15, 19), (.iconst 1, 16, 0), (.goto 4, 19, 20)]), (19, [(.iconst 0, 20, 0)]), (20, [(.ireturn, 21, 0)])]
theorem k_Tongue_isWord : xck prog_7_method_8_code b_Tongue_isWord = true := by decide +kernel
abbrev b_Tongue_hasPhrase : xBk := [(0, [(.iload_n 1, 1, 0), (.ifCond .lt 23, 4, 24), (.iload_n 1, 5, 0), (.bipush 10, 7, 0), (.if_icmp .ge 17, 10, 24), (.aload_n 0, 11, 0), (.getfield 30, 14, 0), (.iload_n 1, 15, 0), (.iaload, 16, 0), (.iconst (-1), 17, 0), (.if_icmp .eq 7, 20, 24), (.iconst 1, 21, 0), (.goto 4, 24, 25)]), (24, [(.iconst 0, 25, 0)]), (25, [(.ireturn, 26, 0)])]
theorem k_Tongue_hasPhrase : xck prog_7_method_9_code b_Tongue_hasPhrase = true := by decide +kernel
abbrev b_Tongue_phraseSize : xBk := [(0, [(.aload_n 0, 1, 0), (.iload_n 1, 2, 0), (.invokevirtual 72, 5, 0), (.ifCond .eq 12, 8, 17), (.aload_n 0, 9, 0), (.getfield 34, 12, 0), (.iload_n 1, 13, 0), (.iaload, 14, 0), (.goto 4, 17, 18)]), (17, [(.iconst 0, 18, 0)]), (18, [(.ireturn, 19, 0)])]
theorem k_Tongue_phraseSize : xck prog_7_method_10_code b_Tongue_phraseSize = true := by decide +kernel
abbrev b_X_beat : xBk := [(0, [(.aload_n 0, 1, 0), (.getfield 10, 4, 0), (.iload_n 1, 5, 0), (.invokevirtual 63, 8, 0), (.ifCond .ne 6, 11, 14), (.bipush (-2), 13, 0), (.ireturn, 14, 0)]), (14, [(.aload_n 0, 15, 0), (.getfield 10, 18, 0), (.iload_n 1, 19, 0), (.iload_n 2, 20, 0), (.invokevirtual 73, 23, 0), (.ireturn, 24, 0)])]
theorem k_X_beat : xck prog_1_method_8_code b_X_beat = true := by decide +kernel
abbrev b_Tongue_phraseBeat : xBk := [(0, [(.aload_n 0, 1, 0), (.iload_n 1, 2, 0), (.invokevirtual 72, 5, 0), (.ifCond .eq 17, 8, 22), (.iload_n 2, 9, 0), (.ifCond .lt 13, 12, 22), (.iload_n 2, 13, 0), (.aload_n 0, 14, 0), (.getfield 34, 17, 0), (.iload_n 1, 18, 0), (.iaload, 19, 0), (.if_icmp .lt 5, 22, 24)]), (22, [(.iconst (-1), 23, 0), (.ireturn, 24, 0)]), (24, [(.aload_n 0, 25, 0), (.getfield 37, 28, 0), (.iload_n 1, 29, 0), (.iaload, 30, 0), (.aload_n 0, 31, 0), (.getfield 34, 34, 0), (.iload_n 1, 35, 0), (.iaload, 36, 0), (.iconst 1, 37, 0), (.isub, 38, 0), (.iload_n 2, 39, 0), (.isub, 40, 0), (.ishr, 41, 0), (.iconst 1, 42, 0), (.iand, 43, 0), (.ireturn, 44, 0)])]
theorem k_Tongue_phraseBeat : xck prog_7_method_11_code b_Tongue_phraseBeat = true := by decide +kernel
abbrev b_X_endingAt : xBk := [(0, [(.aload_n 0, 1, 0), (.getfield 10, 4, 0), (.iload_n 1, 5, 0), (.invokevirtual 63, 8, 0), (.ifCond .ne 6, 11, 14), (.bipush (-2), 13, 0), (.ireturn, 14, 0)]), (14, [(.aload_n 0, 15, 0), (.getfield 10, 18, 0), (.iload_n 1, 19, 0), (.iload_n 2, 20, 0), (.invokevirtual 76, 23, 0), (.ireturn, 24, 0)])]
theorem k_X_endingAt : xck prog_1_method_9_code b_X_endingAt = true := by decide +kernel
abbrev b_Tongue_phraseEnding : xBk := [(0, [(.aload_n 0, 1, 0), (.iload_n 1, 2, 0), (.invokevirtual 72, 5, 0), (.ifCond .eq 20, 8, 25), (.aload_n 0, 9, 0), (.getfield 26, 12, 0), (.aload_n 0, 13, 0), (.getfield 30, 16, 0), (.iload_n 1, 17, 0), (.iaload, 18, 0), (.iload_n 2, 19, 0), (.invokevirtual 76, 22, 0), (.goto 4, 25, 26)]), (25, [(.iconst (-1), 26, 0)]), (26, [(.ireturn, 27, 0)])]
theorem k_Tongue_phraseEnding : xck prog_7_method_12_code b_Tongue_phraseEnding = true := by decide +kernel
abbrev b_Tails_endingAt : xBk := [(0, [(.iload_n 1, 1, 0), (.ifCond .lt 14, 4, 15), (.iload_n 1, 5, 0), (.aload_n 0, 6, 0), (.getfield 18, 9, 0), (.invokevirtual 33, 12, 0), (.if_icmp .lt 5, 15, 17)]), (15, [(.iconst (-1), 16, 0), (.ireturn, 17, 0)]), (17, [(.iload_n 2, 18, 0), (.ifCond .ne 12, 21, 30), (.aload_n 0, 22, 0), (.getfield 22, 25, 0), (.iload_n 1, 26, 0), (.iaload, 27, 0), (.goto 18, 30, 45)]), (30, [(.iload_n 2, 31, 0), (.iconst 1, 32, 0), (.if_icmp .ne 12, 35, 44), (.aload_n 0, 36, 0), (.getfield 26, 39, 0), (.iload_n 1, 40, 0), (.iaload, 41, 0), (.goto 4, 44, 45)]), (44, [(.iconst (-1), 45, 0)]), (45, [(.ireturn, 46, 0)])]
theorem k_Tails_endingAt : xck prog_6_method_5_code b_Tails_endingAt = true := by decide +kernel
abbrev b_X_far : xBk := [(0, [(.aload_n 0, 1, 0), (.getfield 10, 4, 0), (.iload_n 1, 5, 0), (.invokevirtual 63, 8, 0), (.ifCond .eq 19, 11, 27), (.aload_n 0, 12, 0), (.getfield 10, 15, 0), (.iload_n 2, 16, 0), (.invokevirtual 63, 19, 0), (.ifCond .eq 8, 22, 27), (.iload_n 1, 23, 0), (.iload_n 2, 24, 0), (.if_icmp .ne 6, 27, 30)]), (27, [(.bipush (-2), 29, 0), (.ireturn, 30, 0)]), (30, [(.aload_n 0, 31, 0), (.getfield 10, 34, 0), (.iload_n 1, 35, 0), (.invokevirtual 67, 38, 0), (.ifCond .eq 14, 41, 52), (.aload_n 0, 42, 0), (.getfield 10, 45, 0), (.iload_n 2, 46, 0), (.invokevirtual 67, 49, 0), (.ifCond .ne 6, 52, 55)]), (52, [(.bipush (-3), 54, 0), (.ireturn, 55, 0)]), (55, [(.aload_n 0, 56, 0), (.getfield 10, 59, 0), (.iload_n 1, 60, 0), (.iload_n 2, 61, 0), (.invokevirtual 79, 64, 0), (.ireturn, 65, 0)])]
theorem k_X_far : xck prog_1_method_10_code b_X_far = true := by decide +kernel
abbrev b_Tongue_howFar : xBk := [(0, [(.aload_n 0, 1, 0), (.iload_n 1, 2, 0), (.invokevirtual 72, 5, 0), (.ifCond .eq 11, 8, 16), (.aload_n 0, 9, 0), (.iload_n 2, 10, 0), (.invokevirtual 72, 13, 0), (.ifCond .ne 5, 16, 18)]), (16, [(.iconst 0, 17, 0), (.ireturn, 18, 0)]), (18, [(.aload_n 0, 19, 0), (.getfield 34, 22, 0), (.iload_n 1, 23, 0), (.iaload, 24, 0), (.istore_n 3, 25, 0), (.aload_n 0, 26, 0), (.getfield 34, 29, 0), (.iload_n 2, 30, 0), (.iaload, 31, 0), (.istore 4, 33, 0), (.iload_n 3, 34, 0), (.aload_n 0, 35, 0), (.getfield 37, 38, 0), (.iload_n 1, 39, 0), (.iaload, 40, 0), (.iload 4, 42, 0), (.aload_n 0, 43, 0), (.getfield 37, 46, 0), (.iload_n 2, 47, 0), (.iaload, 48, 0), (.invokestatic 84, 51, 0), (.iload_n 3, 52, 0), (.iload 4, 54, 0), (.isub, 55, 0), (.invokestatic 88, 58, 0), (.iadd, 59, 0), (.ireturn, 60, 0)])]
theorem k_Tongue_howFar : xck prog_7_method_15_code b_Tongue_howFar = true := by decide +kernel
abbrev b_X_hear : xBk := [(0, [(.iload_n 1, 1, 0), (.iconst (-1), 2, 0), (.if_icmp .lt 8, 5, 10), (.iload_n 1, 6, 0), (.iconst 1, 7, 0), (.if_icmp .le 6, 10, 13)]), (10, [(.bipush (-2), 12, 0), (.ireturn, 13, 0)]), (13, [(.aload_n 0, 14, 0), (.getfield 19, 17, 0), (.invokevirtual 82, 20, 0), (.iconst 1, 21, 0), (.if_icmp .ge 8, 24, 29), (.bipush (-4), 26, 0), (.goto 11, 29, 37)]), (29, [(.aload_n 0, 30, 0), (.getfield 19, 33, 0), (.iload_n 1, 34, 0), (.invokevirtual 85, 37, 0)]), (37, [(.ireturn, 38, 0)])]
theorem k_X_hear : xck prog_1_method_11_code b_X_hear = true := by decide +kernel
abbrev b_Ear_room : xBk := [(0, [(.bipush 60, 2, 0), (.aload_n 0, 3, 0), (.getfield 15, 6, 0), (.isub, 7, 0), (.ireturn, 8, 0)])]
theorem k_Ear_room : xck prog_2_method_3_code b_Ear_room = true := by decide +kernel
abbrev b_Ear_add : xBk := [(0, [(.aload_n 0, 1, 0), (.getfield 15, 4, 0), (.bipush 60, 6, 0), (.if_icmp .ge 23, 9, 29), (.aload_n 0, 10, 0), (.getfield 11, 13, 0), (.aload_n 0, 14, 0), (.getfield 15, 17, 0), (.iload_n 1, 18, 0), (.iastore, 19, 0), (.aload_n 0, 20, 0), (.dup, 21, 0), (.getfield 15, 24, 0), (.iconst 1, 25, 0), (.iadd, 26, 0), (.putfield 15, 29, 0)]), (29, [(.aload_n 0, 30, 0), (.getfield 15, 33, 0), (.ireturn, 34, 0)])]
theorem k_Ear_add : xck prog_2_method_5_code b_Ear_add = true := by decide +kernel
abbrev b_X_drum : xBk := [(0, [(.aload_n 0, 1, 0), (.getfield 10, 4, 0), (.iload_n 1, 5, 0), (.invokevirtual 63, 8, 0), (.ifCond .ne 6, 11, 14), (.bipush (-2), 13, 0), (.ireturn, 14, 0)]), (14, [(.aload_n 0, 15, 0), (.getfield 10, 18, 0), (.iload_n 1, 19, 0), (.invokevirtual 67, 22, 0), (.ifCond .ne 6, 25, 28), (.bipush (-3), 27, 0), (.ireturn, 28, 0)]), (28, [(.aload_n 0, 29, 0), (.getfield 10, 32, 0), (.iload_n 1, 33, 0), (.invokevirtual 70, 36, 0), (.istore_n 2, 37, 0), (.aload_n 0, 38, 0), (.getfield 19, 41, 0), (.invokevirtual 82, 44, 0), (.iload_n 2, 45, 0), (.if_icmp .ge 6, 48, 51), (.bipush (-4), 50, 0), (.ireturn, 51, 0)]), (51, [(.iconst 0, 52, 0), (.istore_n 3, 53, 0)]), (53, [(.iload_n 3, 54, 0), (.iload_n 2, 55, 0), (.if_icmp .ge 26, 58, 81), (.aload_n 0, 59, 0), (.getfield 19, 62, 0), (.aload_n 0, 63, 0), (.getfield 10, 66, 0), (.iload_n 1, 67, 0), (.iload_n 3, 68, 0), (.invokevirtual 73, 71, 0), (.invokevirtual 85, 74, 0), (.pop, 75, 0), (.iinc 3 1, 78, 0), (.goto (-25), 81, 53)]), (81, [(.aload_n 0, 82, 0), (.getfield 19, 85, 0), (.invokevirtual 88, 88, 0), (.ireturn, 89, 0)])]
theorem k_X_drum : xck prog_1_method_12_code b_X_drum = true := by decide +kernel
abbrev b_Ear_size : xBk := [(0, [(.aload_n 0, 1, 0), (.getfield 15, 4, 0), (.ireturn, 5, 0)])]
theorem k_Ear_size : xck prog_2_method_2_code b_Ear_size = true := by decide +kernel
abbrev b_X_slip : xBk := [(0, [(.iload_n 2, 1, 0), (.iconst (-1), 2, 0), (.if_icmp .lt 23, 5, 25), (.iload_n 2, 6, 0), (.iconst 2, 7, 0), (.if_icmp .gt 18, 10, 25), (.iload_n 1, 11, 0), (.ifCond .lt 14, 14, 25), (.iload_n 1, 15, 0), (.aload_n 0, 16, 0), (.getfield 19, 19, 0), (.invokevirtual 88, 22, 0), (.if_icmp .lt 6, 25, 28)]), (25, [(.bipush (-100), 27, 0), (.ireturn, 28, 0)]), (28, [(.aload_n 0, 29, 0), (.getfield 19, 32, 0), (.iload_n 1, 33, 0), (.invokevirtual 91, 36, 0), (.istore_n 3, 37, 0), (.iload_n 2, 38, 0), (.iconst 2, 39, 0), (.if_icmp .ne 14, 42, 53), (.aload_n 0, 43, 0), (.getfield 19, 46, 0), (.iload_n 1, 47, 0), (.invokevirtual 94, 50, 0), (.goto 12, 53, 62)]), (53, [(.aload_n 0, 54, 0), (.getfield 19, 57, 0), (.iload_n 1, 58, 0), (.iload_n 2, 59, 0), (.invokevirtual 98, 62, 0)]), (62, [(.iload_n 3, 63, 0), (.ireturn, 64, 0)])]
theorem k_X_slip : xck prog_1_method_13_code b_X_slip = true := by decide +kernel
abbrev b_Ear_at : xBk := [(0, [(.iload_n 1, 1, 0), (.ifCond .lt 20, 4, 21), (.iload_n 1, 5, 0), (.aload_n 0, 6, 0), (.getfield 15, 9, 0), (.if_icmp .ge 12, 12, 21), (.aload_n 0, 13, 0), (.getfield 11, 16, 0), (.iload_n 1, 17, 0), (.iaload, 18, 0), (.goto 4, 21, 22)]), (21, [(.iconst (-1), 22, 0)]), (22, [(.ireturn, 23, 0)])]
theorem k_Ear_at : xck prog_2_method_4_code b_Ear_at = true := by decide +kernel
abbrev b_Ear_takeOut : xBk := [(0, [(.iload_n 1, 1, 0), (.ifCond .lt 11, 4, 12), (.iload_n 1, 5, 0), (.aload_n 0, 6, 0), (.getfield 15, 9, 0), (.if_icmp .lt 4, 12, 13)]), (12, [(.return_, 13, 0)]), (13, [(.iload_n 1, 14, 0), (.iconst 1, 15, 0), (.iadd, 16, 0), (.istore_n 2, 17, 0)]), (17, [(.iload_n 2, 18, 0), (.aload_n 0, 19, 0), (.getfield 15, 22, 0), (.if_icmp .ge 23, 25, 45), (.aload_n 0, 26, 0), (.getfield 11, 29, 0), (.iload_n 2, 30, 0), (.iconst 1, 31, 0), (.isub, 32, 0), (.aload_n 0, 33, 0), (.getfield 11, 36, 0), (.iload_n 2, 37, 0), (.iaload, 38, 0), (.iastore, 39, 0), (.iinc 2 1, 42, 0), (.goto (-25), 45, 17)]), (45, [(.aload_n 0, 46, 0), (.dup, 47, 0), (.getfield 15, 50, 0), (.iconst 1, 51, 0), (.isub, 52, 0), (.putfield 15, 55, 0), (.return_, 56, 0)])]
theorem k_Ear_takeOut : xck prog_2_method_7_code b_Ear_takeOut = true := by decide +kernel
abbrev b_Ear_change : xBk := [(0, [(.iload_n 1, 1, 0), (.ifCond .lt 18, 4, 19), (.iload_n 1, 5, 0), (.aload_n 0, 6, 0), (.getfield 15, 9, 0), (.if_icmp .ge 10, 12, 19), (.aload_n 0, 13, 0), (.getfield 11, 16, 0), (.iload_n 1, 17, 0), (.iload_n 2, 18, 0), (.iastore, 19, 0)]), (19, [(.return_, 20, 0)])]
theorem k_Ear_change : xck prog_2_method_6_code b_Ear_change = true := by decide +kernel
abbrev b_X_hush : xBk := [(0, [(.aload_n 0, 1, 0), (.getfield 19, 4, 0), (.invokevirtual 102, 7, 0), (.ireturn, 8, 0)])]
theorem k_X_hush : xck prog_1_method_14_code b_X_hush = true := by decide +kernel
abbrev b_Ear_empty : xBk := [(0, [(.aload_n 0, 1, 0), (.getfield 15, 4, 0), (.istore_n 1, 5, 0), (.aload_n 0, 6, 0), (.iconst 0, 7, 0), (.putfield 15, 10, 0), (.iload_n 1, 11, 0), (.ireturn, 12, 0)])]
theorem k_Ear_empty : xck prog_2_method_8_code b_Ear_empty = true := by decide +kernel
abbrev b_X_read : xBk := [(0, [(.aload_n 0, 1, 0), (.getfield 28, 4, 0), (.invokevirtual 105, 7, 0), (.ifCond .ne 6, 10, 13), (.bipush (-3), 12, 0), (.ireturn, 13, 0)]), (13, [(.aload_n 0, 14, 0), (.getfield 28, 17, 0), (.invokevirtual 109, 20, 0), (.aload_n 0, 21, 0), (.getfield 28, 24, 0), (.invokevirtual 112, 27, 0), (.ireturn, 28, 0)])]
theorem k_X_read : xck prog_1_method_15_code b_X_read = true := by decide +kernel
abbrev b_Reader_readNow : xBk := [(0, [(.aload_n 0, 1, 0), (.getfield 34, 4, 0), (.invokevirtual 42, 7, 0), (.ifCond .ne 5, 10, 12), (.iconst 0, 11, 0), (.ireturn, 12, 0)]), (12, [(.aload_n 0, 13, 0), (.invokevirtual 48, 16, 0), (.aload_n 0, 17, 0), (.invokevirtual 51, 20, 0), (.istore_n 1, 21, 0), (.aload_n 0, 22, 0), (.iload_n 1, 23, 0), (.putfield 54, 26, 0), (.aload_n 0, 27, 0), (.aload_n 0, 28, 0), (.getfield 22, 31, 0), (.iload_n 1, 32, 0), (.aaload, 33, 0), (.iconst 0, 34, 0), (.iaload, 35, 0), (.putfield 58, 38, 0), (.aload_n 0, 39, 0), (.invokevirtual 61, 42, 0), (.iconst 1, 43, 0), (.ireturn, 44, 0)])]
theorem k_Reader_readNow : xck prog_4_method_2_code b_Reader_readNow = true := by decide +kernel
abbrev b_Tongue_phraseCount : xBk := [(0, [(.iconst 0, 1, 0), (.istore_n 1, 2, 0), (.iconst 0, 3, 0), (.istore_n 2, 4, 0)]), (4, [(.iload_n 2, 5, 0), (.aload_n 0, 6, 0), (.getfield 16, 9, 0), (.invokevirtual 64, 12, 0), (.if_icmp .ge 25, 15, 37), (.iload_n 1, 16, 0), (.aload_n 0, 17, 0), (.iload_n 2, 18, 0), (.invokevirtual 72, 21, 0), (.ifCond .eq 7, 24, 28), (.iconst 1, 25, 0), (.goto 4, 28, 29)]), (28, [(.iconst 0, 29, 0)]), (29, [(.iadd, 30, 0), (.istore_n 1, 31, 0), (.iinc 2 1, 34, 0), (.goto (-30), 37, 4)]), (37, [(.iload_n 1, 38, 0), (.ireturn, 39, 0)])]
theorem k_Tongue_phraseCount : xck prog_7_method_13_code b_Tongue_phraseCount = true := by decide +kernel
abbrev b_Reader_weighAllCounts : xBk := [(0, [(.aload_n 0, 1, 0), (.aload_n 0, 2, 0), (.getfield 22, 5, 0), (.iconst 0, 6, 0), (.aaload, 7, 0), (.invokevirtual 73, 10, 0), (.iconst 1, 11, 0), (.istore_n 1, 12, 0)]), (12, [(.iload_n 1, 13, 0), (.bipush 12, 15, 0), (.if_icmp .gt 89, 18, 104), (.aload_n 0, 19, 0), (.getfield 22, 22, 0), (.iload_n 1, 23, 0), (.aaload, 24, 0), (.ldc 77, 26, 0), (.invokestatic 78, 29, 0), (.iconst 0, 30, 0), (.istore_n 2, 31, 0)]), (31, [(.iload_n 2, 32, 0), (.aload_n 0, 33, 0), (.getfield 34, 36, 0), (.invokevirtual 84, 39, 0), (.if_icmp .ge 59, 42, 98), (.aload_n 0, 43, 0), (.getfield 34, 46, 0), (.iload_n 2, 47, 0), (.invokevirtual 87, 50, 0), (.ifCond .eq 42, 53, 92), (.aload_n 0, 54, 0), (.aload_n 0, 55, 0), (.getfield 22, 58, 0), (.iload_n 1, 59, 0), (.iconst 1, 60, 0), (.isub, 61, 0), (.aaload, 62, 0), (.aload_n 0, 63, 0), (.getfield 31, 66, 0), (.invokevirtual 91, 69, 0), (.aload_n 0, 70, 0), (.iload_n 2, 71, 0), (.aload_n 0, 72, 0), (.getfield 31, 75, 0), (.invokevirtual 95, 78, 0), (.aload_n 0, 79, 0), (.aload_n 0, 80, 0), (.getfield 31, 83, 0), (.aload_n 0, 84, 0), (.getfield 22, 87, 0), (.iload_n 1, 88, 0), (.aaload, 89, 0), (.invokevirtual 99, 92, 0)]), (92, [(.iinc 2 1, 95, 0), (.goto (-64), 98, 31)]), (98, [(.iinc 1 1, 101, 0), (.goto (-89), 104, 12)]), (104, [(.return_, 105, 0)])]
theorem k_Reader_weighAllCounts : xck prog_4_method_8_code b_Reader_weighAllCounts = true := by decide +kernel
abbrev b_Reader_startFrom : xBk := [(0, [(.iconst 0, 1, 0), (.istore_n 2, 2, 0)]), (2, [(.iload_n 2, 3, 0), (.aload_n 0, 4, 0), (.getfield 38, 7, 0), (.invokevirtual 129, 10, 0), (.if_icmp .gt 29, 13, 39), (.iload_n 2, 14, 0), (.aload_n 1, 15, 0), (.arraylength, 16, 0), (.if_icmp .ge 23, 19, 39), (.aload_n 1, 20, 0), (.iload_n 2, 21, 0), (.iconst 3, 22, 0), (.aload_n 0, 23, 0), (.getfield 38, 26, 0), (.invokevirtual 129, 29, 0), (.iload_n 2, 30, 0), (.isub, 31, 0), (.imul, 32, 0), (.iastore, 33, 0), (.iinc 2 1, 36, 0), (.goto (-34), 39, 2)]), (39, [(.return_, 40, 0)])]
theorem k_Reader_startFrom : xck prog_4_method_16_code b_Reader_startFrom = true := by decide +kernel
abbrev b_Tongue_wordCount : xBk := [(0, [(.aload_n 0, 1, 0), (.getfield 16, 4, 0), (.invokevirtual 64, 7, 0), (.ireturn, 8, 0)])]
theorem k_Tongue_wordCount : xck prog_7_method_6_code b_Tongue_wordCount = true := by decide +kernel
abbrev b_Reader_copy : xBk := [(0, [(.aload_n 1, 1, 0), (.iconst 0, 2, 0), (.aload_n 2, 3, 0), (.iconst 0, 4, 0), (.aload_n 1, 5, 0), (.arraylength, 6, 0), (.aload_n 2, 7, 0), (.arraylength, 8, 0), (.invokestatic 123, 11, 0), (.invokestatic 64, 14, 0), (.return_, 15, 0)])]
theorem k_Reader_copy : xck prog_4_method_24_code b_Reader_copy = true := by decide +kernel
abbrev b_Reader_putInFront : xBk := [(0, [(.aload_n 0, 1, 0), (.getfield 34, 4, 0), (.iload_n 1, 5, 0), (.invokevirtual 132, 8, 0), (.iconst 1, 9, 0), (.isub, 10, 0), (.istore_n 3, 11, 0)]), (11, [(.iload_n 3, 12, 0), (.ifCond .lt 23, 15, 35), (.aload_n 0, 16, 0), (.aload_n 0, 17, 0), (.getfield 34, 20, 0), (.iload_n 1, 21, 0), (.iload_n 3, 22, 0), (.invokevirtual 135, 25, 0), (.aload_n 2, 26, 0), (.invokevirtual 141, 29, 0), (.iinc 3 (-1), 32, 0), (.goto (-21), 35, 11)]), (35, [(.return_, 36, 0)])]
theorem k_Reader_putInFront : xck prog_4_method_18_code b_Reader_putInFront = true := by decide +kernel
abbrev b_Reader_putBeatInFront : xBk := [(0, [(.aload_n 0, 1, 0), (.getfield 38, 4, 0), (.invokevirtual 129, 7, 0), (.aload_n 2, 8, 0), (.arraylength, 9, 0), (.iconst 1, 10, 0), (.isub, 11, 0), (.invokestatic 123, 14, 0), (.istore_n 3, 15, 0), (.iload_n 3, 16, 0), (.ifCond .lt 9, 19, 25), (.aload_n 2, 20, 0), (.iload_n 3, 21, 0), (.iaload, 22, 0), (.goto 4, 25, 26)]), (25, [(.iconst 0, 26, 0)]), (26, [(.istore 4, 28, 0), (.iload_n 3, 29, 0), (.ifCond .lt 10, 32, 39), (.aload_n 2, 33, 0), (.iload_n 3, 34, 0), (.dup2, 35, 0), (.iaload, 36, 0), (.iconst 3, 37, 0), (.iadd, 38, 0), (.iastore, 39, 0)]), (39, [(.iload_n 3, 40, 0), (.iconst 1, 41, 0), (.isub, 42, 0), (.istore 5, 44, 0)]), (44, [(.iload 5, 46, 0), (.ifCond .lt 61, 49, 107), (.aload_n 2, 50, 0), (.iload 5, 52, 0), (.iaload, 53, 0), (.istore 6, 55, 0), (.iload 4, 57, 0), (.aload_n 0, 58, 0), (.getfield 38, 61, 0), (.iload 5, 63, 0), (.invokevirtual 144, 66, 0), (.iload_n 1, 67, 0), (.invokestatic 147, 70, 0), (.iadd, 71, 0), (.istore 7, 73, 0), (.aload_n 2, 74, 0), (.iload 5, 76, 0), (.iload 7, 78, 0), (.iload 6, 80, 0), (.iconst 3, 81, 0), (.iadd, 82, 0), (.aload_n 2, 83, 0), (.iload 5, 85, 0), (.iconst 1, 86, 0), (.iadd, 87, 0), (.iaload, 88, 0), (.iconst 3, 89, 0), (.iadd, 90, 0), (.invokestatic 123, 93, 0), (.invokestatic 123, 96, 0), (.iastore, 97, 0), (.iload 6, 99, 0), (.istore 4, 101, 0), (.iinc 5 (-1), 104, 0), (.goto (-60), 107, 44)]), (107, [(.return_, 108, 0)])]
theorem k_Reader_putBeatInFront : xck prog_4_method_20_code b_Reader_putBeatInFront = true := by decide +kernel
abbrev b_Reader_costOf : xBk := [(0, [(.iload_n 0, 1, 0), (.iconst (-1), 2, 0), (.if_icmp .eq 8, 5, 10), (.iload_n 0, 6, 0), (.iload_n 1, 7, 0), (.if_icmp .ne 7, 10, 14)]), (10, [(.iconst 0, 11, 0), (.goto 4, 14, 15)]), (14, [(.iconst 2, 15, 0)]), (15, [(.ireturn, 16, 0)])]
theorem k_Reader_costOf : xck prog_4_method_21_code b_Reader_costOf = true := by decide +kernel
abbrev b_Reader_takeLower : xBk := [(0, [(.iconst 0, 1, 0), (.istore_n 3, 2, 0)]), (2, [(.iload_n 3, 3, 0), (.aload_n 0, 4, 0), (.getfield 38, 7, 0), (.invokevirtual 129, 10, 0), (.if_icmp .gt 33, 13, 43), (.iload_n 3, 14, 0), (.aload_n 1, 15, 0), (.arraylength, 16, 0), (.if_icmp .ge 27, 19, 43), (.iload_n 3, 20, 0), (.aload_n 2, 21, 0), (.arraylength, 22, 0), (.if_icmp .ge 21, 25, 43), (.aload_n 2, 26, 0), (.iload_n 3, 27, 0), (.aload_n 2, 28, 0), (.iload_n 3, 29, 0), (.iaload, 30, 0), (.aload_n 1, 31, 0), (.iload_n 3, 32, 0), (.iaload, 33, 0), (.invokestatic 123, 36, 0), (.iastore, 37, 0), (.iinc 3 1, 40, 0), (.goto (-38), 43, 2)]), (43, [(.return_, 44, 0)])]
theorem k_Reader_takeLower : xck prog_4_method_23_code b_Reader_takeLower = true := by decide +kernel
abbrev b_Reader_bestCount : xBk := [(0, [(.iconst 0, 1, 0), (.istore_n 1, 2, 0), (.iconst 1, 3, 0), (.istore_n 2, 4, 0)]), (4, [(.iload_n 2, 5, 0), (.bipush 12, 7, 0), (.if_icmp .gt 30, 10, 37), (.aload_n 0, 11, 0), (.getfield 22, 14, 0), (.iload_n 2, 15, 0), (.aaload, 16, 0), (.iconst 0, 17, 0), (.iaload, 18, 0), (.aload_n 0, 19, 0), (.getfield 22, 22, 0), (.iload_n 1, 23, 0), (.aaload, 24, 0), (.iconst 0, 25, 0), (.iaload, 26, 0), (.if_icmp .ge 5, 29, 31), (.iload_n 2, 30, 0), (.istore_n 1, 31, 0)]), (31, [(.iinc 2 1, 34, 0), (.goto (-30), 37, 4)]), (37, [(.iload_n 1, 38, 0), (.ireturn, 39, 0)])]
theorem k_Reader_bestCount : xck prog_4_method_9_code b_Reader_bestCount = true := by decide +kernel
abbrev b_Reader_spellFirstByNumbers : xBk := [(0, [(.aload_n 0, 1, 0), (.aload_n 0, 2, 0), (.getfield 25, 5, 0), (.invokevirtual 102, 8, 0), (.iconst 0, 9, 0), (.istore_n 1, 10, 0)]), (10, [(.iload_n 1, 11, 0), (.aload_n 0, 12, 0), (.getfield 54, 15, 0), (.if_icmp .ge 47, 18, 62), (.iload_n 1, 19, 0), (.bipush 12, 21, 0), (.if_icmp .ge 41, 24, 62), (.aload_n 0, 25, 0), (.getfield 17, 28, 0), (.iload_n 1, 29, 0), (.aload_n 0, 30, 0), (.aload_n 0, 31, 0), (.getfield 54, 34, 0), (.iload_n 1, 35, 0), (.isub, 36, 0), (.iconst 1, 37, 0), (.isub, 38, 0), (.invokevirtual 105, 41, 0), (.iastore, 42, 0), (.aload_n 0, 43, 0), (.aload_n 0, 44, 0), (.getfield 17, 47, 0), (.iload_n 1, 48, 0), (.iaload, 49, 0), (.aload_n 0, 50, 0), (.getfield 25, 53, 0), (.invokevirtual 109, 56, 0), (.iinc 1 1, 59, 0), (.goto (-49), 62, 10)]), (62, [(.return_, 63, 0)])]
theorem k_Reader_spellFirstByNumbers : xck prog_4_method_10_code b_Reader_spellFirstByNumbers = true := by decide +kernel
abbrev b_Reader_startUpTo : xBk := [(0, [(.iconst 0, 1, 0), (.istore_n 2, 2, 0)]), (2, [(.iload_n 2, 3, 0), (.aload_n 0, 4, 0), (.getfield 38, 7, 0), (.invokevirtual 129, 10, 0), (.if_icmp .gt 21, 13, 31), (.iload_n 2, 14, 0), (.aload_n 1, 15, 0), (.arraylength, 16, 0), (.if_icmp .ge 15, 19, 31), (.aload_n 1, 20, 0), (.iload_n 2, 21, 0), (.iconst 3, 22, 0), (.iload_n 2, 23, 0), (.imul, 24, 0), (.iastore, 25, 0), (.iinc 2 1, 28, 0), (.goto (-26), 31, 2)]), (31, [(.return_, 32, 0)])]
theorem k_Reader_startUpTo : xck prog_4_method_15_code b_Reader_startUpTo = true := by decide +kernel
abbrev b_Reader_firstWordThatKeepsTheLeast : xBk := [(0, [(.iload_n 1, 1, 0), (.ifCond .lt 9, 4, 10), (.iload_n 1, 5, 0), (.bipush 12, 7, 0), (.if_icmp .le 5, 10, 12)]), (10, [(.iconst 0, 11, 0), (.ireturn, 12, 0)]), (12, [(.iconst 0, 13, 0), (.istore_n 2, 14, 0)]), (14, [(.iload_n 2, 15, 0), (.aload_n 0, 16, 0), (.getfield 34, 19, 0), (.invokevirtual 84, 22, 0), (.if_icmp .ge 64, 25, 86), (.aload_n 0, 26, 0), (.getfield 34, 29, 0), (.iload_n 2, 30, 0), (.invokevirtual 87, 33, 0), (.ifCond .eq 47, 36, 80), (.aload_n 0, 37, 0), (.aload_n 0, 38, 0), (.getfield 25, 41, 0), (.aload_n 0, 42, 0), (.getfield 31, 45, 0), (.invokevirtual 91, 48, 0), (.aload_n 0, 49, 0), (.iload_n 2, 50, 0), (.aload_n 0, 51, 0), (.getfield 31, 54, 0), (.invokevirtual 109, 57, 0), (.aload_n 0, 58, 0), (.aload_n 0, 59, 0), (.getfield 31, 62, 0), (.aload_n 0, 63, 0), (.getfield 22, 66, 0), (.iload_n 1, 67, 0), (.aaload, 68, 0), (.invokevirtual 112, 71, 0), (.aload_n 0, 72, 0), (.getfield 58, 75, 0), (.if_icmp .ne 5, 78, 80), (.iload_n 2, 79, 0), (.ireturn, 80, 0)]), (80, [(.iinc 2 1, 83, 0), (.goto (-69), 86, 14)]), (86, [(.iconst 0, 87, 0), (.ireturn, 88, 0)])]
theorem k_Reader_firstWordThatKeepsTheLeast : xck prog_4_method_11_code b_Reader_firstWordThatKeepsTheLeast = true := by decide +kernel
abbrev b_Reader_putBehind : xBk := [(0, [(.aload_n 0, 1, 0), (.getfield 34, 4, 0), (.iload_n 1, 5, 0), (.invokevirtual 132, 8, 0), (.istore_n 3, 9, 0), (.iconst 0, 10, 0), (.istore 4, 12, 0)]), (12, [(.iload 4, 14, 0), (.iload_n 3, 15, 0), (.if_icmp .ge 24, 18, 39), (.aload_n 0, 19, 0), (.aload_n 0, 20, 0), (.getfield 34, 23, 0), (.iload_n 1, 24, 0), (.iload 4, 26, 0), (.invokevirtual 135, 29, 0), (.aload_n 2, 30, 0), (.invokevirtual 138, 33, 0), (.iinc 4 1, 36, 0), (.goto (-24), 39, 12)]), (39, [(.return_, 40, 0)])]
theorem k_Reader_putBehind : xck prog_4_method_17_code b_Reader_putBehind = true := by decide +kernel
abbrev b_Reader_putBeatBehind : xBk := [(0, [(.aload_n 2, 1, 0), (.arraylength, 2, 0), (.ifCond .le 9, 5, 11), (.aload_n 2, 6, 0), (.iconst 0, 7, 0), (.iaload, 8, 0), (.goto 4, 11, 12)]), (11, [(.iconst 0, 12, 0)]), (12, [(.istore_n 3, 13, 0), (.aload_n 2, 14, 0), (.arraylength, 15, 0), (.ifCond .le 10, 18, 25), (.aload_n 2, 19, 0), (.iconst 0, 20, 0), (.dup2, 21, 0), (.iaload, 22, 0), (.iconst 3, 23, 0), (.iadd, 24, 0), (.iastore, 25, 0)]), (25, [(.iconst 1, 26, 0), (.istore 4, 28, 0)]), (28, [(.iload 4, 30, 0), (.aload_n 0, 31, 0), (.getfield 38, 34, 0), (.invokevirtual 129, 37, 0), (.if_icmp .gt 68, 40, 105), (.iload 4, 42, 0), (.aload_n 2, 43, 0), (.arraylength, 44, 0), (.if_icmp .ge 61, 47, 105), (.aload_n 2, 48, 0), (.iload 4, 50, 0), (.iaload, 51, 0), (.istore 5, 53, 0), (.iload_n 3, 54, 0), (.aload_n 0, 55, 0), (.getfield 38, 58, 0), (.iload 4, 60, 0), (.iconst 1, 61, 0), (.isub, 62, 0), (.invokevirtual 144, 65, 0), (.iload_n 1, 66, 0), (.invokestatic 147, 69, 0), (.iadd, 70, 0), (.istore 6, 72, 0), (.aload_n 2, 73, 0), (.iload 4, 75, 0), (.iload 6, 77, 0), (.iload 5, 79, 0), (.iconst 3, 80, 0), (.iadd, 81, 0), (.aload_n 2, 82, 0), (.iload 4, 84, 0), (.iconst 1, 85, 0), (.isub, 86, 0), (.iaload, 87, 0), (.iconst 3, 88, 0), (.iadd, 89, 0), (.invokestatic 123, 92, 0), (.invokestatic 123, 95, 0), (.iastore, 96, 0), (.iload 5, 98, 0), (.istore_n 3, 99, 0), (.iinc 4 1, 102, 0), (.goto (-74), 105, 28)]), (105, [(.return_, 106, 0)])]
theorem k_Reader_putBeatBehind : xck prog_4_method_19_code b_Reader_putBeatBehind = true := by decide +kernel
abbrev b_Reader_leastTogether : xBk := [(0, [(.ldc 77, 2, 0), (.istore_n 3, 3, 0), (.iconst 0, 4, 0), (.istore 4, 6, 0)]), (6, [(.iload 4, 8, 0), (.aload_n 0, 9, 0), (.getfield 38, 12, 0), (.invokevirtual 129, 15, 0), (.if_icmp .gt 37, 18, 52), (.iload 4, 20, 0), (.aload_n 1, 21, 0), (.arraylength, 22, 0), (.if_icmp .ge 30, 25, 52), (.iload 4, 27, 0), (.aload_n 2, 28, 0), (.arraylength, 29, 0), (.if_icmp .ge 23, 32, 52), (.iload_n 3, 33, 0), (.aload_n 1, 34, 0), (.iload 4, 36, 0), (.iaload, 37, 0), (.aload_n 2, 38, 0), (.iload 4, 40, 0), (.iaload, 41, 0), (.iadd, 42, 0), (.invokestatic 123, 45, 0), (.istore_n 3, 46, 0), (.iinc 4 1, 49, 0), (.goto (-43), 52, 6)]), (52, [(.iload_n 3, 53, 0), (.ireturn, 54, 0)])]
theorem k_Reader_leastTogether : xck prog_4_method_22_code b_Reader_leastTogether = true := by decide +kernel
abbrev b_Reader_keepAsLast : xBk := [(0, [(.aload_n 0, 1, 0), (.getfield 17, 4, 0), (.iconst 0, 5, 0), (.aload_n 0, 6, 0), (.getfield 13, 9, 0), (.iconst 0, 10, 0), (.bipush 12, 12, 0), (.invokestatic 64, 15, 0), (.aload_n 0, 16, 0), (.aload_n 0, 17, 0), (.getfield 54, 20, 0), (.putfield 70, 23, 0), (.return_, 24, 0)])]
theorem k_Reader_keepAsLast : xck prog_4_method_3_code b_Reader_keepAsLast = true := by decide +kernel
abbrev b_Reader_offNow : xBk := [(0, [(.aload_n 0, 1, 0), (.getfield 58, 4, 0), (.ireturn, 5, 0)])]
theorem k_Reader_offNow : xck prog_4_method_4_code b_Reader_offNow = true := by decide +kernel
abbrev b_X_readAt : xBk := [(0, [(.aload_n 0, 1, 0), (.getfield 28, 4, 0), (.iload_n 1, 5, 0), (.invokevirtual 115, 8, 0), (.ireturn, 9, 0)])]
theorem k_X_readAt : xck prog_1_method_16_code b_X_readAt = true := by decide +kernel
abbrev b_Reader_lastAt : xBk := [(0, [(.iload_n 1, 1, 0), (.ifCond .lt 20, 4, 21), (.iload_n 1, 5, 0), (.aload_n 0, 6, 0), (.getfield 70, 9, 0), (.if_icmp .ge 12, 12, 21), (.aload_n 0, 13, 0), (.getfield 13, 16, 0), (.iload_n 1, 17, 0), (.iaload, 18, 0), (.goto 4, 21, 22)]), (21, [(.iconst (-1), 22, 0)]), (22, [(.ireturn, 23, 0)])]
theorem k_Reader_lastAt : xck prog_4_method_7_code b_Reader_lastAt = true := by decide +kernel
abbrev b_X_doubt : xBk := [(0, [(.iload_n 1, 1, 0), (.ifCond .ge 6, 4, 7), (.bipush (-2), 6, 0), (.ireturn, 7, 0)]), (7, [(.aload_n 0, 8, 0), (.getfield 28, 11, 0), (.invokevirtual 105, 14, 0), (.ifCond .ne 6, 17, 20), (.bipush (-3), 19, 0), (.ireturn, 20, 0)]), (20, [(.iload_n 1, 21, 0), (.aload_n 0, 22, 0), (.getfield 28, 25, 0), (.invokevirtual 118, 28, 0), (.if_icmp .ge 14, 31, 42), (.aload_n 0, 32, 0), (.getfield 28, 35, 0), (.iload_n 1, 36, 0), (.invokevirtual 121, 39, 0), (.goto 5, 42, 44)]), (42, [(.bipush (-2), 44, 0)]), (44, [(.ireturn, 45, 0)])]
theorem k_X_doubt : xck prog_1_method_17_code b_X_doubt = true := by decide +kernel
abbrev b_Reader_sizeNow : xBk := [(0, [(.aload_n 0, 1, 0), (.getfield 54, 4, 0), (.ireturn, 5, 0)])]
theorem k_Reader_sizeNow : xck prog_4_method_5_code b_Reader_sizeNow = true := by decide +kernel
abbrev b_Reader_doubtAt : xBk := [(0, [(.iload_n 1, 1, 0), (.ifCond .lt 17, 4, 18), (.iload_n 1, 5, 0), (.aload_n 0, 6, 0), (.getfield 54, 9, 0), (.if_icmp .ge 9, 12, 18), (.iload_n 1, 13, 0), (.bipush 12, 15, 0), (.if_icmp .lt 5, 18, 20)]), (18, [(.iconst (-1), 19, 0), (.ireturn, 20, 0)]), (20, [(.aload_n 0, 21, 0), (.iload_n 1, 22, 0), (.invokevirtual 119, 25, 0), (.iconst (-1), 26, 0), (.istore_n 2, 27, 0), (.iconst 0, 28, 0), (.istore_n 3, 29, 0)]), (29, [(.iload_n 3, 30, 0), (.aload_n 0, 31, 0), (.getfield 34, 34, 0), (.invokevirtual 84, 37, 0), (.if_icmp .ge 87, 40, 124), (.iload_n 3, 41, 0), (.aload_n 0, 42, 0), (.getfield 17, 45, 0), (.iload_n 1, 46, 0), (.iaload, 47, 0), (.if_icmp .eq 71, 50, 118), (.aload_n 0, 51, 0), (.getfield 34, 54, 0), (.iload_n 3, 55, 0), (.invokevirtual 87, 58, 0), (.ifCond .eq 60, 61, 118), (.aload_n 0, 62, 0), (.aload_n 0, 63, 0), (.getfield 25, 66, 0), (.aload_n 0, 67, 0), (.getfield 31, 70, 0), (.invokevirtual 91, 73, 0), (.aload_n 0, 74, 0), (.iload_n 3, 75, 0), (.aload_n 0, 76, 0), (.getfield 31, 79, 0), (.invokevirtual 109, 82, 0), (.aload_n 0, 83, 0), (.aload_n 0, 84, 0), (.getfield 31, 87, 0), (.aload_n 0, 88, 0), (.getfield 28, 91, 0), (.invokevirtual 112, 94, 0), (.aload_n 0, 95, 0), (.getfield 58, 98, 0), (.isub, 99, 0), (.istore 4, 101, 0), (.iload_n 2, 102, 0), (.iconst (-1), 103, 0), (.if_icmp .ne 8, 106, 111), (.iload 4, 108, 0), (.goto 9, 111, 117)]), (111, [(.iload_n 2, 112, 0), (.iload 4, 114, 0), (.invokestatic 123, 117, 0)]), (117, [(.istore_n 2, 118, 0)]), (118, [(.iinc 3 1, 121, 0), (.goto (-92), 124, 29)]), (124, [(.iload_n 2, 125, 0), (.ireturn, 126, 0)])]
theorem k_Reader_doubtAt : xck prog_4_method_13_code b_Reader_doubtAt = true := by decide +kernel
abbrev b_Reader_weighAround : xBk := [(0, [(.aload_n 0, 1, 0), (.aload_n 0, 2, 0), (.getfield 25, 5, 0), (.invokevirtual 102, 8, 0), (.iconst 0, 9, 0), (.istore_n 2, 10, 0)]), (10, [(.iload_n 2, 11, 0), (.iload_n 1, 12, 0), (.if_icmp .ge 29, 15, 41), (.iload_n 2, 16, 0), (.bipush 12, 18, 0), (.if_icmp .ge 23, 21, 41), (.aload_n 0, 22, 0), (.aload_n 0, 23, 0), (.getfield 17, 26, 0), (.iload_n 2, 27, 0), (.iaload, 28, 0), (.aload_n 0, 29, 0), (.getfield 25, 32, 0), (.invokevirtual 109, 35, 0), (.iinc 2 1, 38, 0), (.goto (-28), 41, 10)]), (41, [(.aload_n 0, 42, 0), (.aload_n 0, 43, 0), (.getfield 28, 46, 0), (.invokevirtual 73, 49, 0), (.aload_n 0, 50, 0), (.getfield 54, 53, 0), (.bipush 12, 55, 0), (.invokestatic 123, 58, 0), (.iconst 1, 59, 0), (.isub, 60, 0), (.istore_n 2, 61, 0)]), (61, [(.iload_n 2, 62, 0), (.iload_n 1, 63, 0), (.if_icmp .le 27, 66, 90), (.iload_n 2, 67, 0), (.ifCond .lt 23, 70, 90), (.aload_n 0, 71, 0), (.aload_n 0, 72, 0), (.getfield 17, 75, 0), (.iload_n 2, 76, 0), (.iaload, 77, 0), (.aload_n 0, 78, 0), (.getfield 28, 81, 0), (.invokevirtual 95, 84, 0), (.iinc 2 (-1), 87, 0), (.goto (-26), 90, 61)]), (90, [(.return_, 91, 0)])]
theorem k_Reader_weighAround : xck prog_4_method_14_code b_Reader_weighAround = true := by decide +kernel
abbrev b_X_most : xBk := [(0, [(.aload_n 0, 1, 0), (.getfield 28, 4, 0), (.invokevirtual 105, 7, 0), (.ifCond .eq 13, 10, 20), (.aload_n 0, 11, 0), (.getfield 28, 14, 0), (.invokevirtual 124, 17, 0), (.goto 5, 20, 22)]), (20, [(.bipush (-3), 22, 0)]), (22, [(.ireturn, 23, 0)])]
theorem k_X_most : xck prog_1_method_18_code b_X_most = true := by decide +kernel
abbrev b_Reader_mostInDoubt : xBk := [(0, [(.iconst (-1), 1, 0), (.istore_n 1, 2, 0), (.iconst (-1), 3, 0), (.istore_n 2, 4, 0), (.iconst 0, 5, 0), (.istore_n 3, 6, 0)]), (6, [(.iload_n 3, 7, 0), (.aload_n 0, 8, 0), (.getfield 54, 11, 0), (.if_icmp .ge 38, 14, 49), (.aload_n 0, 15, 0), (.iload_n 3, 16, 0), (.invokevirtual 116, 19, 0), (.istore 4, 21, 0), (.iload 4, 23, 0), (.iconst (-1), 24, 0), (.if_icmp .eq 19, 27, 43), (.iload_n 1, 28, 0), (.iconst (-1), 29, 0), (.if_icmp .eq 9, 32, 38), (.iload 4, 34, 0), (.iload_n 2, 35, 0), (.if_icmp .ge 8, 38, 43)]), (38, [(.iload_n 3, 39, 0), (.istore_n 1, 40, 0), (.iload 4, 42, 0), (.istore_n 2, 43, 0)]), (43, [(.iinc 3 1, 46, 0), (.goto (-40), 49, 6)]), (49, [(.iload_n 1, 50, 0), (.ireturn, 51, 0)])]
theorem k_Reader_mostInDoubt : xck prog_4_method_12_code b_Reader_mostInDoubt = true := by decide +kernel
abbrev b_X_hill : xBk := [(0, [(.iload_n 1, 1, 0), (.iload_n 2, 2, 0), (.invokestatic 127, 5, 0), (.ifCond .eq 14, 8, 19), (.iload_n 3, 9, 0), (.ifCond .lt 10, 12, 19), (.iload_n 3, 13, 0), (.sipush 1000, 16, 0), (.if_icmp .le 6, 19, 22)]), (19, [(.bipush (-2), 21, 0), (.ireturn, 22, 0)]), (22, [(.iload 4, 24, 0), (.iconst 1, 25, 0), (.if_icmp .lt 10, 28, 35), (.iload 4, 30, 0), (.bipush 20, 32, 0), (.if_icmp .le 6, 35, 38)]), (35, [(.bipush (-2), 37, 0), (.ireturn, 38, 0)]), (38, [(.aload_n 0, 39, 0), (.getfield 35, 42, 0), (.iload_n 1, 43, 0), (.iload_n 2, 44, 0), (.iload_n 3, 45, 0), (.iload 4, 47, 0), (.invokevirtual 130, 50, 0), (.iconst 1, 51, 0), (.ireturn, 52, 0)])]
theorem k_X_hill : xck prog_1_method_19_code b_X_hill = true := by decide +kernel
abbrev b_Hills_arePair : xBk := [(0, [(.iload_n 0, 1, 0), (.invokestatic 38, 4, 0), (.ifCond .eq 19, 7, 23), (.iload_n 1, 8, 0), (.invokestatic 38, 11, 0), (.ifCond .eq 12, 14, 23), (.iload_n 0, 15, 0), (.iload_n 1, 16, 0), (.if_icmp .eq 7, 19, 23), (.iconst 1, 20, 0), (.goto 4, 23, 24)]), (23, [(.iconst 0, 24, 0)]), (24, [(.ireturn, 25, 0)])]
theorem k_Hills_arePair : xck prog_3_method_3_code b_Hills_arePair = true := by decide +kernel
abbrev b_Hills_isHill : xBk := [(0, [(.iload_n 0, 1, 0), (.ifCond .lt 13, 4, 14), (.iload_n 0, 5, 0), (.bipush 6, 7, 0), (.if_icmp .ge 7, 10, 14), (.iconst 1, 11, 0), (.goto 4, 14, 15)]), (14, [(.iconst 0, 15, 0)]), (15, [(.ireturn, 16, 0)])]
theorem k_Hills_isHill : xck prog_3_method_2_code b_Hills_isHill = true := by decide +kernel
abbrev b_Hills_join : xBk := [(0, [(.iload_n 1, 1, 0), (.iload_n 2, 2, 0), (.invokestatic 42, 5, 0), (.ifCond .eq 22, 8, 27), (.aload_n 0, 9, 0), (.getfield 13, 12, 0), (.iload_n 1, 13, 0), (.aaload, 14, 0), (.iload_n 2, 15, 0), (.iload_n 3, 16, 0), (.iastore, 17, 0), (.aload_n 0, 18, 0), (.getfield 16, 21, 0), (.iload_n 1, 22, 0), (.aaload, 23, 0), (.iload_n 2, 24, 0), (.iload 4, 26, 0), (.iastore, 27, 0)]), (27, [(.return_, 28, 0)])]
theorem k_Hills_join : xck prog_3_method_4_code b_Hills_join = true := by decide +kernel
abbrev b_X_way : xBk := [(0, [(.iload_n 1, 1, 0), (.iload_n 2, 2, 0), (.invokestatic 127, 5, 0), (.ifCond .ne 6, 8, 11), (.bipush (-2), 10, 0), (.ireturn, 11, 0)]), (11, [(.aload_n 0, 12, 0), (.getfield 35, 15, 0), (.iload_n 1, 16, 0), (.iload_n 2, 17, 0), (.invokevirtual 134, 20, 0), (.ifCond .eq 13, 23, 33), (.aload_n 0, 24, 0), (.getfield 35, 27, 0), (.invokevirtual 137, 30, 0), (.goto 4, 33, 34)]), (33, [(.iconst (-1), 34, 0)]), (34, [(.ireturn, 35, 0)])]
theorem k_X_way : xck prog_1_method_20_code b_X_way = true := by decide +kernel
abbrev b_Hills_findBest : xBk := [(0, [(.aload_n 0, 1, 0), (.iconst 0, 2, 0), (.putfield 46, 5, 0), (.aload_n 0, 6, 0), (.lconst 0, 7, 0), (.putfield 50, 10, 0), (.aload_n 0, 11, 0), (.iconst 0, 12, 0), (.putfield 54, 15, 0), (.iload_n 1, 16, 0), (.iload_n 2, 17, 0), (.invokestatic 42, 20, 0), (.ifCond .ne 5, 23, 25), (.iconst 0, 24, 0), (.ireturn, 25, 0)]), (25, [(.aload_n 0, 26, 0), (.getfield 19, 29, 0), (.iconst 0, 30, 0), (.iload_n 1, 31, 0), (.iastore, 32, 0), (.aload_n 0, 33, 0), (.iconst 1, 34, 0), (.iload_n 2, 35, 0), (.ldc2_w 57, 38, 0), (.iconst 0, 39, 0), (.invokevirtual 59, 42, 0), (.aload_n 0, 43, 0), (.getfield 46, 46, 0), (.ifCond .le 7, 49, 53), (.iconst 1, 50, 0), (.goto 4, 53, 54)]), (53, [(.iconst 0, 54, 0)]), (54, [(.ireturn, 55, 0)])]
theorem k_Hills_findBest : xck prog_3_method_5_code b_Hills_findBest = true := by decide +kernel
abbrev b_Hills_walk : xBk := [(0, [(.iload_n 1, 1, 0), (.iconst 1, 2, 0), (.if_icmp .lt 15, 5, 17), (.iload_n 1, 6, 0), (.bipush 6, 8, 0), (.if_icmp .gt 9, 11, 17), (.lload_n 3, 12, 0), (.lconst 0, 13, 0), (.lcmp, 14, 0), (.ifCond .gt 4, 17, 18)]), (17, [(.return_, 18, 0)]), (18, [(.aload_n 0, 19, 0), (.getfield 19, 22, 0), (.iload_n 1, 23, 0), (.iconst 1, 24, 0), (.isub, 25, 0), (.iaload, 26, 0), (.istore 6, 28, 0), (.iload 6, 30, 0), (.iload_n 2, 31, 0), (.if_icmp .ne 12, 34, 43), (.aload_n 0, 35, 0), (.iload_n 1, 36, 0), (.lload_n 3, 37, 0), (.iload 5, 39, 0), (.invokevirtual 63, 42, 0), (.return_, 43, 0)]), (43, [(.iconst 0, 44, 0), (.istore 7, 46, 0)]), (46, [(.iload 7, 48, 0), (.bipush 6, 50, 0), (.if_icmp .ge 79, 53, 129), (.iload_n 1, 54, 0), (.bipush 6, 56, 0), (.if_icmp .ge 73, 59, 129), (.iload 6, 61, 0), (.invokestatic 38, 64, 0), (.ifCond .eq 59, 67, 123), (.aload_n 0, 68, 0), (.iload 7, 70, 0), (.iload_n 1, 71, 0), (.invokevirtual 67, 74, 0), (.ifCond .ne 49, 77, 123), (.aload_n 0, 78, 0), (.getfield 19, 81, 0), (.iload_n 1, 82, 0), (.iload 7, 84, 0), (.iastore, 85, 0), (.aload_n 0, 86, 0), (.iload_n 1, 87, 0), (.iconst 1, 88, 0), (.iadd, 89, 0), (.iload_n 2, 90, 0), (.lload_n 3, 91, 0), (.aload_n 0, 92, 0), (.getfield 13, 95, 0), (.iload 6, 97, 0), (.aaload, 98, 0), (.iload 7, 100, 0), (.iaload, 101, 0), (.i2l, 102, 0), (.lmul, 103, 0), (.ldc2_w 70, 106, 0), (.ldiv, 107, 0), (.iload 5, 109, 0), (.aload_n 0, 110, 0), (.getfield 16, 113, 0), (.iload 6, 115, 0), (.aaload, 116, 0), (.iload 7, 118, 0), (.iaload, 119, 0), (.iadd, 120, 0), (.invokevirtual 59, 123, 0)]), (123, [(.iinc 7 1, 126, 0), (.goto (-80), 129, 46)]), (129, [(.return_, 130, 0)])]
theorem k_Hills_walk : xck prog_3_method_9_code b_Hills_walk = true := by decide +kernel
abbrev b_Hills_keepIfBetter : xBk := [(0, [(.lload_n 2, 1, 0), (.aload_n 0, 2, 0), (.getfield 50, 5, 0), (.lcmp, 6, 0), (.ifCond .gt 21, 9, 27), (.lload_n 2, 10, 0), (.aload_n 0, 11, 0), (.getfield 50, 14, 0), (.lcmp, 15, 0), (.ifCond .ne 43, 18, 58), (.iload 4, 20, 0), (.aload_n 0, 21, 0), (.getfield 54, 24, 0), (.if_icmp .ge 34, 27, 58)]), (27, [(.aload_n 0, 28, 0), (.lload_n 2, 29, 0), (.putfield 50, 32, 0), (.aload_n 0, 33, 0), (.iload 4, 35, 0), (.putfield 54, 38, 0), (.aload_n 0, 39, 0), (.iload_n 1, 40, 0), (.putfield 46, 43, 0), (.aload_n 0, 44, 0), (.getfield 19, 47, 0), (.iconst 0, 48, 0), (.aload_n 0, 49, 0), (.getfield 23, 52, 0), (.iconst 0, 53, 0), (.bipush 6, 55, 0), (.invokestatic 72, 58, 0)]), (58, [(.return_, 59, 0)])]
theorem k_Hills_keepIfBetter : xck prog_3_method_11_code b_Hills_keepIfBetter = true := by decide +kernel
abbrev b_Hills_isOnPath : xBk := [(0, [(.iconst 0, 1, 0), (.istore_n 3, 2, 0)]), (2, [(.iload_n 3, 3, 0), (.iload_n 2, 4, 0), (.if_icmp .ge 27, 7, 31), (.iload_n 3, 8, 0), (.bipush 6, 10, 0), (.if_icmp .ge 21, 13, 31), (.aload_n 0, 14, 0), (.getfield 19, 17, 0), (.iload_n 3, 18, 0), (.iaload, 19, 0), (.iload_n 1, 20, 0), (.if_icmp .ne 5, 23, 25), (.iconst 1, 24, 0), (.ireturn, 25, 0)]), (25, [(.iinc 3 1, 28, 0), (.goto (-26), 31, 2)]), (31, [(.iconst 0, 32, 0), (.ireturn, 33, 0)])]
theorem k_Hills_isOnPath : xck prog_3_method_10_code b_Hills_isOnPath = true := by decide +kernel
abbrev b_Hills_bestChance : xBk := [(0, [(.aload_n 0, 1, 0), (.getfield 50, 4, 0), (.l2i, 5, 0), (.ireturn, 6, 0)])]
theorem k_Hills_bestChance : xck prog_3_method_6_code b_Hills_bestChance = true := by decide +kernel
abbrev b_X_wayAt : xBk := [(0, [(.iload_n 1, 1, 0), (.iload_n 2, 2, 0), (.invokestatic 127, 5, 0), (.ifCond .ne 6, 8, 11), (.bipush (-2), 10, 0), (.ireturn, 11, 0)]), (11, [(.aload_n 0, 12, 0), (.getfield 35, 15, 0), (.iload_n 1, 16, 0), (.iload_n 2, 17, 0), (.invokevirtual 134, 20, 0), (.ifCond .eq 14, 23, 34), (.aload_n 0, 24, 0), (.getfield 35, 27, 0), (.iload_n 3, 28, 0), (.invokevirtual 140, 31, 0), (.goto 4, 34, 35)]), (34, [(.iconst (-1), 35, 0)]), (35, [(.ireturn, 36, 0)])]
theorem k_X_wayAt : xck prog_1_method_21_code b_X_wayAt = true := by decide +kernel
abbrev b_Hills_bestAt : xBk := [(0, [(.iload_n 1, 1, 0), (.ifCond .lt 26, 4, 27), (.iload_n 1, 5, 0), (.aload_n 0, 6, 0), (.getfield 46, 9, 0), (.if_icmp .ge 18, 12, 27), (.iload_n 1, 13, 0), (.bipush 6, 15, 0), (.if_icmp .ge 12, 18, 27), (.aload_n 0, 19, 0), (.getfield 23, 22, 0), (.iload_n 1, 23, 0), (.iaload, 24, 0), (.goto 4, 27, 28)]), (27, [(.iconst (-1), 28, 0)]), (28, [(.ireturn, 29, 0)])]
theorem k_Hills_bestAt : xck prog_3_method_8_code b_Hills_bestAt = true := by decide +kernel
abbrev b_X_age : xBk := [(0, [(.iload_n 1, 1, 0), (.iload_n 2, 2, 0), (.invokestatic 127, 5, 0), (.ifCond .ne 6, 8, 11), (.bipush (-2), 10, 0), (.ireturn, 11, 0)]), (11, [(.aload_n 0, 12, 0), (.getfield 35, 15, 0), (.iload_n 1, 16, 0), (.iload_n 2, 17, 0), (.invokevirtual 134, 20, 0), (.ifCond .eq 13, 23, 33), (.aload_n 0, 24, 0), (.getfield 35, 27, 0), (.invokevirtual 143, 30, 0), (.goto 4, 33, 34)]), (33, [(.iconst (-1), 34, 0)]), (34, [(.ireturn, 35, 0)])]
theorem k_X_age : xck prog_1_method_22_code b_X_age = true := by decide +kernel
abbrev b_Hills_bestHours : xBk := [(0, [(.aload_n 0, 1, 0), (.getfield 54, 4, 0), (.ireturn, 5, 0)])]
theorem k_Hills_bestHours : xck prog_3_method_7_code b_Hills_bestHours = true := by decide +kernel
abbrev b_X_enough : xBk := [(0, [(.iload_n 1, 1, 0), (.iload_n 2, 2, 0), (.invokestatic 127, 5, 0), (.ifCond .eq 14, 8, 19), (.iload_n 3, 9, 0), (.iconst 1, 10, 0), (.if_icmp .lt 9, 13, 19), (.iload_n 3, 14, 0), (.ldc 146, 16, 0), (.if_icmp .le 6, 19, 22)]), (19, [(.bipush (-2), 21, 0), (.ireturn, 22, 0)]), (22, [(.aload_n 0, 23, 0), (.getfield 35, 26, 0), (.iload_n 1, 27, 0), (.iload_n 2, 28, 0), (.iload_n 3, 29, 0), (.invokevirtual 147, 32, 0), (.ifCond .eq 13, 35, 45), (.aload_n 0, 36, 0), (.getfield 35, 39, 0), (.invokevirtual 151, 42, 0), (.goto 4, 45, 46)]), (45, [(.iconst (-1), 46, 0)]), (46, [(.ireturn, 47, 0)])]
theorem k_X_enough : xck prog_1_method_23_code b_X_enough = true := by decide +kernel
abbrev b_Hills_findEnough : xBk := [(0, [(.aload_n 0, 1, 0), (.iconst 0, 2, 0), (.putfield 78, 5, 0), (.aload_n 0, 6, 0), (.iload_n 1, 7, 0), (.iload_n 2, 8, 0), (.invokevirtual 81, 11, 0), (.ifCond .ne 5, 14, 16), (.iconst 0, 15, 0), (.ireturn, 16, 0)]), (16, [(.aload_n 0, 17, 0), (.iconst 0, 18, 0), (.iconst 0, 19, 0), (.ldc2_w 57, 22, 0), (.iload_n 3, 23, 0), (.invokevirtual 84, 26, 0), (.aload_n 0, 27, 0), (.getfield 78, 30, 0), (.ifCond .le 7, 33, 37), (.iconst 1, 34, 0), (.goto 4, 37, 38)]), (37, [(.iconst 0, 38, 0)]), (38, [(.ireturn, 39, 0)])]
theorem k_Hills_findEnough : xck prog_3_method_12_code b_Hills_findEnough = true := by decide +kernel
abbrev b_Hills_tryTimes : xBk := [(0, [(.lload_n 3, 1, 0), (.iload 5, 3, 0), (.i2l, 4, 0), (.lcmp, 5, 0), (.ifCond .lt 18, 8, 23), (.aload_n 0, 9, 0), (.getfield 78, 12, 0), (.ifCond .le 12, 15, 24), (.iload_n 2, 16, 0), (.aload_n 0, 17, 0), (.getfield 78, 20, 0), (.if_icmp .lt 4, 23, 24)]), (23, [(.return_, 24, 0)]), (24, [(.iload_n 1, 25, 0), (.aload_n 0, 26, 0), (.getfield 46, 29, 0), (.iconst 1, 30, 0), (.isub, 31, 0), (.if_icmp .ge 8, 34, 39), (.iload_n 1, 35, 0), (.iconst 5, 36, 0), (.if_icmp .lt 24, 39, 60)]), (39, [(.aload_n 0, 40, 0), (.iload_n 2, 41, 0), (.putfield 78, 44, 0), (.aload_n 0, 45, 0), (.getfield 26, 48, 0), (.iconst 0, 49, 0), (.aload_n 0, 50, 0), (.getfield 29, 53, 0), (.iconst 0, 54, 0), (.bipush 6, 56, 0), (.invokestatic 72, 59, 0), (.return_, 60, 0)]), (60, [(.aload_n 0, 61, 0), (.aload_n 0, 62, 0), (.getfield 23, 65, 0), (.iload_n 1, 66, 0), (.iaload, 67, 0), (.aload_n 0, 68, 0), (.getfield 23, 71, 0), (.iload_n 1, 72, 0), (.iconst 1, 73, 0), (.iadd, 74, 0), (.iaload, 75, 0), (.invokevirtual 87, 78, 0), (.istore 6, 80, 0), (.iconst 1, 81, 0), (.istore 7, 83, 0)]), (83, [(.iload 7, 85, 0), (.iconst 3, 86, 0), (.if_icmp .gt 43, 89, 129), (.aload_n 0, 90, 0), (.getfield 26, 93, 0), (.iload_n 1, 94, 0), (.iload 7, 96, 0), (.iastore, 97, 0), (.aload_n 0, 98, 0), (.iload_n 1, 99, 0), (.iconst 1, 100, 0), (.iadd, 101, 0), (.iload_n 2, 102, 0), (.iload 7, 104, 0), (.iadd, 105, 0), (.lload_n 3, 106, 0), (.iload 6, 108, 0), (.iload 7, 110, 0), (.invokestatic 91, 113, 0), (.lmul, 114, 0), (.ldc2_w 57, 117, 0), (.ldiv, 118, 0), (.iload 5, 120, 0), (.invokevirtual 84, 123, 0), (.iinc 7 1, 126, 0), (.goto (-43), 129, 83)]), (129, [(.return_, 130, 0)])]
theorem k_Hills_tryTimes : xck prog_3_method_15_code b_Hills_tryTimes = true := by decide +kernel
abbrev b_Hills_chanceBetween : xBk := [(0, [(.iload_n 1, 1, 0), (.iload_n 2, 2, 0), (.invokestatic 42, 5, 0), (.ifCond .eq 14, 8, 19), (.aload_n 0, 9, 0), (.getfield 13, 12, 0), (.iload_n 1, 13, 0), (.aaload, 14, 0), (.iload_n 2, 15, 0), (.iaload, 16, 0), (.goto 4, 19, 20)]), (19, [(.iconst 0, 20, 0)]), (20, [(.ireturn, 21, 0)])]
theorem k_Hills_chanceBetween : xck prog_3_method_16_code b_Hills_chanceBetween = true := by decide +kernel
abbrev b_Hills_heardBy : xBk := [(0, [(.lconst 1, 1, 0), (.lstore_n 2, 2, 0), (.iconst 0, 3, 0), (.istore 4, 5, 0)]), (5, [(.iload 4, 7, 0), (.iconst 3, 8, 0), (.if_icmp .ge 30, 11, 38), (.lload_n 2, 12, 0), (.iload 4, 14, 0), (.iload_n 1, 15, 0), (.if_icmp .ge 12, 18, 27), (.sipush 1000, 21, 0), (.iload_n 0, 22, 0), (.isub, 23, 0), (.i2l, 24, 0), (.goto 6, 27, 30)]), (27, [(.ldc2_w 70, 30, 0)]), (30, [(.lmul, 31, 0), (.lstore_n 2, 32, 0), (.iinc 4 1, 35, 0), (.goto (-30), 38, 5)]), (38, [(.ldc2_w 57, 41, 0), (.lload_n 2, 42, 0), (.lsub, 43, 0), (.lreturn, 44, 0)])]
theorem k_Hills_heardBy : xck prog_3_method_17_code b_Hills_heardBy = true := by decide +kernel
abbrev b_Hills_enoughSum : xBk := [(0, [(.aload_n 0, 1, 0), (.getfield 78, 4, 0), (.ireturn, 5, 0)])]
theorem k_Hills_enoughSum : xck prog_3_method_13_code b_Hills_enoughSum = true := by decide +kernel
abbrev b_X_times : xBk := [(0, [(.iload_n 1, 1, 0), (.iload_n 2, 2, 0), (.invokestatic 127, 5, 0), (.ifCond .eq 14, 8, 19), (.iload_n 3, 9, 0), (.iconst 1, 10, 0), (.if_icmp .lt 9, 13, 19), (.iload_n 3, 14, 0), (.ldc 146, 16, 0), (.if_icmp .le 6, 19, 22)]), (19, [(.bipush (-2), 21, 0), (.ireturn, 22, 0)]), (22, [(.aload_n 0, 23, 0), (.getfield 35, 26, 0), (.iload_n 1, 27, 0), (.iload_n 2, 28, 0), (.iload_n 3, 29, 0), (.invokevirtual 147, 32, 0), (.ifCond .eq 15, 35, 47), (.aload_n 0, 36, 0), (.getfield 35, 39, 0), (.iload 4, 41, 0), (.invokevirtual 154, 44, 0), (.goto 4, 47, 48)]), (47, [(.iconst (-1), 48, 0)]), (48, [(.ireturn, 49, 0)])]
theorem k_X_times : xck prog_1_method_24_code b_X_times = true := by decide +kernel
abbrev b_Hills_enoughAt : xBk := [(0, [(.iload_n 1, 1, 0), (.ifCond .lt 28, 4, 29), (.iload_n 1, 5, 0), (.aload_n 0, 6, 0), (.getfield 46, 9, 0), (.iconst 1, 10, 0), (.isub, 11, 0), (.if_icmp .ge 18, 14, 29), (.iload_n 1, 15, 0), (.bipush 6, 17, 0), (.if_icmp .ge 12, 20, 29), (.aload_n 0, 21, 0), (.getfield 29, 24, 0), (.iload_n 1, 25, 0), (.iaload, 26, 0), (.goto 4, 29, 30)]), (29, [(.iconst (-1), 30, 0)]), (30, [(.ireturn, 31, 0)])]
theorem k_Hills_enoughAt : xck prog_3_method_14_code b_Hills_enoughAt = true := by decide +kernel
abbrev b_X_count : xBk := [(0, [(.iload_n 1, 1, 0), (.tableswitch 111 0 7 #[47, 55, 63, 71, 79, 87, 95, 103], 48, 0)]), (48, [(.aload_n 0, 49, 0), (.getfield 10, 52, 0), (.invokevirtual 157, 55, 0), (.ireturn, 56, 0)]), (56, [(.aload_n 0, 57, 0), (.getfield 10, 60, 0), (.invokevirtual 160, 63, 0), (.ireturn, 64, 0)]), (64, [(.aload_n 0, 65, 0), (.getfield 10, 68, 0), (.invokevirtual 163, 71, 0), (.ireturn, 72, 0)]), (72, [(.aload_n 0, 73, 0), (.getfield 10, 76, 0), (.invokevirtual 166, 79, 0), (.ireturn, 80, 0)]), (80, [(.aload_n 0, 81, 0), (.getfield 10, 84, 0), (.invokevirtual 169, 87, 0), (.ireturn, 88, 0)]), (88, [(.aload_n 0, 89, 0), (.getfield 19, 92, 0), (.invokevirtual 88, 95, 0), (.ireturn, 96, 0)]), (96, [(.aload_n 0, 97, 0), (.getfield 19, 100, 0), (.invokevirtual 172, 103, 0), (.ireturn, 104, 0)]), (104, [(.aload_n 0, 105, 0), (.getfield 28, 108, 0), (.invokevirtual 175, 111, 0), (.ireturn, 112, 0)]), (112, [(.bipush (-2), 114, 0), (.ireturn, 115, 0)])]
theorem k_X_count : xck prog_1_method_25_code b_X_count = true := by decide +kernel
abbrev b_Tongue_endingCount : xBk := [(0, [(.aload_n 0, 1, 0), (.getfield 20, 4, 0), (.invokevirtual 64, 7, 0), (.ireturn, 8, 0)])]
theorem k_Tongue_endingCount : xck prog_7_method_7_code b_Tongue_endingCount = true := by decide +kernel
abbrev b_Tongue_boundNow : xBk := [(0, [(.aload_n 0, 1, 0), (.getfield 40, 4, 0), (.ireturn, 5, 0)])]
theorem k_Tongue_boundNow : xck prog_7_method_5_code b_Tongue_boundNow = true := by decide +kernel
abbrev b_Tongue_beatsOfAllPhrases : xBk := [(0, [(.iconst 0, 1, 0), (.istore_n 1, 2, 0), (.iconst 0, 3, 0), (.istore_n 2, 4, 0)]), (4, [(.iload_n 2, 5, 0), (.aload_n 0, 6, 0), (.getfield 16, 9, 0), (.invokevirtual 64, 12, 0), (.if_icmp .ge 17, 15, 29), (.iload_n 1, 16, 0), (.aload_n 0, 17, 0), (.iload_n 2, 18, 0), (.invokevirtual 80, 21, 0), (.iadd, 22, 0), (.istore_n 1, 23, 0), (.iinc 2 1, 26, 0), (.goto (-22), 29, 4)]), (29, [(.iload_n 1, 30, 0), (.ireturn, 31, 0)])]
theorem k_Tongue_beatsOfAllPhrases : xck prog_7_method_14_code b_Tongue_beatsOfAllPhrases = true := by decide +kernel
abbrev b_Ear_gaps : xBk := [(0, [(.iconst 0, 1, 0), (.istore_n 1, 2, 0), (.iconst 0, 3, 0), (.istore_n 2, 4, 0)]), (4, [(.iload_n 2, 5, 0), (.aload_n 0, 6, 0), (.getfield 15, 9, 0), (.if_icmp .ge 27, 12, 36), (.iload_n 1, 13, 0), (.aload_n 0, 14, 0), (.getfield 11, 17, 0), (.iload_n 2, 18, 0), (.iaload, 19, 0), (.iconst (-1), 20, 0), (.if_icmp .ne 7, 23, 27), (.iconst 1, 24, 0), (.goto 4, 27, 28)]), (27, [(.iconst 0, 28, 0)]), (28, [(.iadd, 29, 0), (.istore_n 1, 30, 0), (.iinc 2 1, 33, 0), (.goto (-29), 36, 4)]), (36, [(.iload_n 1, 37, 0), (.ireturn, 38, 0)])]
theorem k_Ear_gaps : xck prog_2_method_9_code b_Ear_gaps = true := by decide +kernel
abbrev b_Reader_lastSize : xBk := [(0, [(.aload_n 0, 1, 0), (.getfield 70, 4, 0), (.ireturn, 5, 0)])]
theorem k_Reader_lastSize : xck prog_4_method_6_code b_Reader_lastSize = true := by decide +kernel
abbrev b_X_digest : xBk := [(0, [(.ldc2_w 178, 3, 0), (.lstore_n 1, 4, 0), (.iconst 0, 5, 0), (.istore_n 3, 6, 0)]), (6, [(.iload_n 3, 7, 0), (.bipush 8, 9, 0), (.if_icmp .ge 22, 12, 31), (.ldc2_w 180, 15, 0), (.lload_n 1, 16, 0), (.lmul, 17, 0), (.aload_n 0, 18, 0), (.iload_n 3, 19, 0), (.invokevirtual 182, 22, 0), (.i2l, 23, 0), (.ladd, 24, 0), (.lstore_n 1, 25, 0), (.iinc 3 1, 28, 0), (.goto (-22), 31, 6)]), (31, [(.aload_n 0, 32, 0), (.getfield 10, 35, 0), (.lload_n 1, 36, 0), (.invokevirtual 185, 39, 0), (.lstore_n 1, 40, 0), (.aload_n 0, 41, 0), (.getfield 19, 44, 0), (.lload_n 1, 45, 0), (.invokevirtual 189, 48, 0), (.lstore_n 1, 49, 0), (.aload_n 0, 50, 0), (.getfield 28, 53, 0), (.lload_n 1, 54, 0), (.invokevirtual 190, 57, 0), (.lstore_n 1, 58, 0), (.aload_n 0, 59, 0), (.getfield 35, 62, 0), (.lload_n 1, 63, 0), (.invokevirtual 191, 66, 0), (.lreturn, 67, 0)])]
theorem k_X_digest : xck prog_1_method_26_code b_X_digest = true := by decide +kernel
abbrev b_Tongue_mixInto : xBk := [(0, [(.lload_n 1, 1, 0), (.lstore_n 3, 2, 0), (.iconst 0, 3, 0), (.istore 5, 5, 0)]), (5, [(.iload 5, 7, 0), (.aload_n 0, 8, 0), (.getfield 16, 11, 0), (.invokevirtual 64, 14, 0), (.if_icmp .ge 102, 17, 116), (.aload_n 0, 18, 0), (.iload 5, 20, 0), (.invokevirtual 80, 23, 0), (.istore 6, 25, 0), (.ldc2_w 143, 28, 0), (.lload_n 3, 29, 0), (.lmul, 30, 0), (.aload_n 0, 31, 0), (.iload 5, 33, 0), (.invokevirtual 72, 36, 0), (.ifCond .eq 8, 39, 44), (.iload 6, 41, 0), (.goto 4, 44, 45)]), (44, [(.iconst (-1), 45, 0)]), (45, [(.i2l, 46, 0), (.ladd, 47, 0), (.lstore_n 3, 48, 0), (.iconst 0, 49, 0), (.istore 7, 51, 0)]), (51, [(.iload 7, 53, 0), (.iload 6, 55, 0), (.if_icmp .ge 25, 58, 80), (.ldc2_w 143, 61, 0), (.lload_n 3, 62, 0), (.lmul, 63, 0), (.aload_n 0, 64, 0), (.iload 5, 66, 0), (.iload 7, 68, 0), (.invokevirtual 145, 71, 0), (.i2l, 72, 0), (.ladd, 73, 0), (.lstore_n 3, 74, 0), (.iinc 7 1, 77, 0), (.goto (-26), 80, 51)]), (80, [(.ldc2_w 143, 83, 0), (.lload_n 3, 84, 0), (.lmul, 85, 0), (.aload_n 0, 86, 0), (.iload 5, 88, 0), (.iconst 0, 89, 0), (.invokevirtual 148, 92, 0), (.i2l, 93, 0), (.ladd, 94, 0), (.lstore_n 3, 95, 0), (.ldc2_w 143, 98, 0), (.lload_n 3, 99, 0), (.lmul, 100, 0), (.aload_n 0, 101, 0), (.iload 5, 103, 0), (.iconst 1, 104, 0), (.invokevirtual 148, 107, 0), (.i2l, 108, 0), (.ladd, 109, 0), (.lstore_n 3, 110, 0), (.iinc 5 1, 113, 0), (.goto (-108), 116, 5)]), (116, [(.lload_n 3, 117, 0), (.lreturn, 118, 0)])]
theorem k_Tongue_mixInto : xck prog_7_method_24_code b_Tongue_mixInto = true := by decide +kernel
abbrev b_Ear_mixInto : xBk := [(0, [(.lload_n 1, 1, 0), (.lstore_n 3, 2, 0), (.iconst 0, 3, 0), (.istore 5, 5, 0)]), (5, [(.iload 5, 7, 0), (.aload_n 0, 8, 0), (.getfield 15, 11, 0), (.if_icmp .ge 24, 14, 35), (.ldc2_w 19, 17, 0), (.lload_n 3, 18, 0), (.lmul, 19, 0), (.aload_n 0, 20, 0), (.getfield 11, 23, 0), (.iload 5, 25, 0), (.iaload, 26, 0), (.i2l, 27, 0), (.ladd, 28, 0), (.lstore_n 3, 29, 0), (.iinc 5 1, 32, 0), (.goto (-27), 35, 5)]), (35, [(.lload_n 3, 36, 0), (.lreturn, 37, 0)])]
theorem k_Ear_mixInto : xck prog_2_method_10_code b_Ear_mixInto = true := by decide +kernel
abbrev b_Reader_mixInto : xBk := [(0, [(.lload_n 1, 1, 0), (.lstore_n 3, 2, 0), (.iconst 0, 3, 0), (.istore 5, 5, 0)]), (5, [(.iload 5, 7, 0), (.aload_n 0, 8, 0), (.getfield 70, 11, 0), (.if_icmp .ge 31, 14, 42), (.iload 5, 16, 0), (.bipush 12, 18, 0), (.if_icmp .ge 24, 21, 42), (.ldc2_w 150, 24, 0), (.lload_n 3, 25, 0), (.lmul, 26, 0), (.aload_n 0, 27, 0), (.getfield 13, 30, 0), (.iload 5, 32, 0), (.iaload, 33, 0), (.i2l, 34, 0), (.ladd, 35, 0), (.lstore_n 3, 36, 0), (.iinc 5 1, 39, 0), (.goto (-34), 42, 5)]), (42, [(.lload_n 3, 43, 0), (.lreturn, 44, 0)])]
theorem k_Reader_mixInto : xck prog_4_method_25_code b_Reader_mixInto = true := by decide +kernel
abbrev b_Hills_mixInto : xBk := [(0, [(.lload_n 1, 1, 0), (.lstore_n 3, 2, 0), (.iconst 0, 3, 0), (.istore 5, 5, 0)]), (5, [(.iload 5, 7, 0), (.bipush 6, 9, 0), (.if_icmp .ge 68, 12, 77), (.iconst 0, 13, 0), (.istore 6, 15, 0)]), (15, [(.iload 6, 17, 0), (.bipush 6, 19, 0), (.if_icmp .ge 52, 22, 71), (.iload 5, 24, 0), (.iload 6, 26, 0), (.if_icmp .eq 39, 29, 65), (.ldc2_w 95, 32, 0), (.lload_n 3, 33, 0), (.lmul, 34, 0), (.aload_n 0, 35, 0), (.getfield 13, 38, 0), (.iload 5, 40, 0), (.aaload, 41, 0), (.iload 6, 43, 0), (.iaload, 44, 0), (.i2l, 45, 0), (.ladd, 46, 0), (.lstore_n 3, 47, 0), (.ldc2_w 95, 50, 0), (.lload_n 3, 51, 0), (.lmul, 52, 0), (.aload_n 0, 53, 0), (.getfield 16, 56, 0), (.iload 5, 58, 0), (.aaload, 59, 0), (.iload 6, 61, 0), (.iaload, 62, 0), (.i2l, 63, 0), (.ladd, 64, 0), (.lstore_n 3, 65, 0)]), (65, [(.iinc 6 1, 68, 0), (.goto (-53), 71, 15)]), (71, [(.iinc 5 1, 74, 0), (.goto (-69), 77, 5)]), (77, [(.lload_n 3, 78, 0), (.lreturn, 79, 0)])]
theorem k_Hills_mixInto : xck prog_3_method_18_code b_Hills_mixInto = true := by decide +kernel
abbrev b_M_init : xBk := [(0, [(.aload_n 0, 1, 0), (.invokespecial 1, 4, 0), (.aload_n 0, 5, 0), (.bipush 10, 7, 0), (.newarray .int, 9, 0), (.putfield 7, 12, 0), (.aload_n 0, 13, 0), (.bipush 10, 15, 0), (.newarray .int, 17, 0), (.putfield 13, 20, 0), (.aload_n 0, 21, 0), (.iconst 5, 22, 0), (.newarray .int, 24, 0), (.putfield 16, 27, 0), (.aload_n 0, 28, 0), (.iconst 5, 29, 0), (.newarray .int, 31, 0), (.putfield 19, 34, 0), (.aload_n 0, 35, 0), (.iconst 1, 36, 0), (.putfield 22, 39, 0), (.aload_n 0, 40, 0), (.bipush 10, 42, 0), (.newarray .int, 44, 0), (.putfield 26, 47, 0), (.aload_n 0, 48, 0), (.sipush 310, 51, 0), (.newarray .int, 53, 0), (.putfield 29, 56, 0), (.aload_n 0, 57, 0), (.sipush 310, 60, 0), (.newarray .int, 62, 0), (.putfield 32, 65, 0), (.aload_n 0, 66, 0), (.sipush 310, 69, 0), (.newarray .int, 71, 0), (.putfield 35, 74, 0), (.aload_n 0, 75, 0), (.sipush 310, 78, 0), (.newarray .int, 80, 0), (.putfield 38, 83, 0), (.aload_n 0, 84, 0), (.bipush 10, 86, 0), (.newarray .int, 88, 0), (.putfield 41, 91, 0), (.aload_n 0, 92, 0), (.bipush 60, 94, 0), (.newarray .int, 96, 0), (.putfield 44, 99, 0), (.aload_n 0, 100, 0), (.bipush 12, 102, 0), (.newarray .int, 104, 0), (.putfield 47, 107, 0), (.aload_n 0, 108, 0), (.bipush 36, 110, 0), (.newarray .int, 112, 0), (.putfield 50, 115, 0), (.aload_n 0, 116, 0), (.bipush 36, 118, 0), (.newarray .int, 120, 0), (.putfield 53, 123, 0), (.aload_n 0, 124, 0), (.bipush 10, 126, 0), (.newarray .int, 128, 0), (.putfield 56, 131, 0), (.aload_n 0, 132, 0), (.bipush 10, 134, 0), (.newarray .int, 136, 0), (.putfield 59, 139, 0), (.aload_n 0, 140, 0), (.bipush 11, 142, 0), (.newarray .int, 144, 0), (.putfield 62, 147, 0), (.aload_n 0, 148, 0), (.bipush 10, 150, 0), (.newarray .int, 152, 0), (.putfield 65, 155, 0), (.aload_n 0, 156, 0), (.sipush 793, 159, 0), (.newarray .int, 161, 0), (.putfield 68, 164, 0), (.aload_n 0, 165, 0), (.bipush 61, 167, 0), (.newarray .int, 169, 0), (.putfield 71, 172, 0), (.aload_n 0, 173, 0), (.bipush 61, 175, 0), (.newarray .int, 177, 0), (.putfield 74, 180, 0), (.aload_n 0, 181, 0), (.bipush 12, 183, 0), (.newarray .int, 185, 0), (.putfield 77, 188, 0), (.aload_n 0, 189, 0), (.bipush 61, 191, 0), (.newarray .int, 193, 0), (.putfield 80, 196, 0), (.aload_n 0, 197, 0), (.bipush 6, 199, 0), (.newarray .int, 201, 0), (.putfield 83, 204, 0), (.aload_n 0, 205, 0), (.bipush 6, 207, 0), (.newarray .int, 209, 0), (.putfield 86, 212, 0), (.aload_n 0, 213, 0), (.bipush 6, 215, 0), (.newarray .int, 217, 0), (.putfield 89, 220, 0), (.aload_n 0, 221, 0), (.bipush 6, 223, 0), (.newarray .long, 225, 0), (.putfield 92, 228, 0), (.aload_n 0, 229, 0), (.bipush 6, 231, 0), (.newarray .int, 233, 0), (.putfield 96, 236, 0), (.aload_n 0, 237, 0), (.bipush 6, 239, 0), (.newarray .int, 241, 0), (.putfield 99, 244, 0), (.aload_n 0, 245, 0), (.bipush 6, 247, 0), (.newarray .int, 249, 0), (.putfield 102, 252, 0), (.iconst 0, 253, 0), (.istore_n 1, 254, 0)]), (254, [(.iload_n 1, 255, 0), (.bipush 36, 257, 0), (.if_icmp .ge 16, 260, 273), (.aload_n 0, 261, 0), (.getfield 53, 264, 0), (.iload_n 1, 265, 0), (.iconst 1, 266, 0), (.iastore, 267, 0), (.iinc 1 1, 270, 0), (.goto (-16), 273, 254)]), (273, [(.iconst 0, 274, 0), (.istore_n 1, 275, 0)]), (275, [(.iload_n 1, 276, 0), (.bipush 10, 278, 0), (.if_icmp .ge 16, 281, 294), (.aload_n 0, 282, 0), (.getfield 41, 285, 0), (.iload_n 1, 286, 0), (.iconst (-1), 287, 0), (.iastore, 288, 0), (.iinc 1 1, 291, 0), (.goto (-16), 294, 275)]), (294, [(.return_, 295, 0)])]
theorem k_M_init : xck prog_9_method_1_code b_M_init = true := by decide +kernel
abbrev b_M_word : xBk := [(0, [(.iload_n 1, 1, 0), (.iload_n 2, 2, 0), (.invokestatic 111, 5, 0), (.ifCond .ne 6, 8, 11), (.bipush (-2), 10, 0), (.ireturn, 11, 0)]), (11, [(.aload_n 0, 12, 0), (.getfield 115, 15, 0), (.bipush 10, 17, 0), (.if_icmp .ne 6, 20, 23), (.bipush (-4), 22, 0), (.ireturn, 23, 0)]), (23, [(.aload_n 0, 24, 0), (.getfield 7, 27, 0), (.aload_n 0, 28, 0), (.getfield 115, 31, 0), (.iload_n 1, 32, 0), (.iastore, 33, 0), (.aload_n 0, 34, 0), (.getfield 13, 37, 0), (.aload_n 0, 38, 0), (.getfield 115, 41, 0), (.iload_n 2, 42, 0), (.iastore, 43, 0), (.aload_n 0, 44, 0), (.dup, 45, 0), (.getfield 115, 48, 0), (.iconst 1, 49, 0), (.iadd, 50, 0), (.putfield 115, 53, 0), (.aload_n 0, 54, 0), (.invokevirtual 118, 57, 0), (.aload_n 0, 58, 0), (.getfield 115, 61, 0), (.iconst 1, 62, 0), (.isub, 63, 0), (.ireturn, 64, 0)])]
theorem k_M_word : xck prog_9_method_5_code b_M_word = true := by decide +kernel
abbrev b_M_isRow : xBk := [(0, [(.iload_n 0, 1, 0), (.i2l, 2, 0), (.lconst 1, 3, 0), (.ldc2_w 105, 6, 0), (.invokestatic 107, 9, 0), (.ifCond .eq 22, 12, 31), (.iload_n 1, 13, 0), (.i2l, 14, 0), (.lconst 0, 15, 0), (.iconst 1, 16, 0), (.iload_n 0, 17, 0), (.ishl, 18, 0), (.iconst 1, 19, 0), (.isub, 20, 0), (.i2l, 21, 0), (.invokestatic 107, 24, 0), (.ifCond .eq 7, 27, 31), (.iconst 1, 28, 0), (.goto 4, 31, 32)]), (31, [(.iconst 0, 32, 0)]), (32, [(.ireturn, 33, 0)])]
theorem k_M_isRow : xck prog_9_method_4_code b_M_isRow = true := by decide +kernel
abbrev b_M_in : xBk := [(0, [(.lload_n 0, 1, 0), (.lload_n 2, 2, 0), (.lcmp, 3, 0), (.ifCond .lt 14, 6, 17), (.lload_n 0, 7, 0), (.lload 4, 9, 0), (.lcmp, 10, 0), (.ifCond .gt 7, 13, 17), (.iconst 1, 14, 0), (.goto 4, 17, 18)]), (17, [(.iconst 0, 18, 0)]), (18, [(.ireturn, 19, 0)])]
theorem k_M_in : xck prog_9_method_2_code b_M_in = true := by decide +kernel
abbrev b_M_gone : xBk := [(0, [(.iconst 0, 1, 0), (.istore_n 1, 2, 0)]), (2, [(.iload_n 1, 3, 0), (.bipush 10, 5, 0), (.if_icmp .ge 16, 8, 21), (.aload_n 0, 9, 0), (.getfield 41, 12, 0), (.iload_n 1, 13, 0), (.iconst (-1), 14, 0), (.iastore, 15, 0), (.iinc 1 1, 18, 0), (.goto (-16), 21, 2)]), (21, [(.return_, 22, 0)])]
theorem k_M_gone : xck prog_9_method_3_code b_M_gone = true := by decide +kernel
abbrev b_M_ending : xBk := [(0, [(.iload_n 1, 1, 0), (.iload_n 2, 2, 0), (.invokestatic 111, 5, 0), (.ifCond .ne 6, 8, 11), (.bipush (-2), 10, 0), (.ireturn, 11, 0)]), (11, [(.aload_n 0, 12, 0), (.getfield 121, 15, 0), (.iconst 5, 16, 0), (.if_icmp .ne 6, 19, 22), (.bipush (-4), 21, 0), (.ireturn, 22, 0)]), (22, [(.aload_n 0, 23, 0), (.getfield 16, 26, 0), (.aload_n 0, 27, 0), (.getfield 121, 30, 0), (.iload_n 1, 31, 0), (.iastore, 32, 0), (.aload_n 0, 33, 0), (.getfield 19, 36, 0), (.aload_n 0, 37, 0), (.getfield 121, 40, 0), (.iload_n 2, 41, 0), (.iastore, 42, 0), (.aload_n 0, 43, 0), (.dup, 44, 0), (.getfield 121, 47, 0), (.iconst 1, 48, 0), (.iadd, 49, 0), (.putfield 121, 52, 0), (.aload_n 0, 53, 0), (.invokevirtual 118, 56, 0), (.aload_n 0, 57, 0), (.getfield 121, 60, 0), (.iconst 1, 61, 0), (.isub, 62, 0), (.ireturn, 63, 0)])]
theorem k_M_ending : xck prog_9_method_6_code b_M_ending = true := by decide +kernel
abbrev b_M_bound : xBk := [(0, [(.iload_n 1, 1, 0), (.i2l, 2, 0), (.lconst 1, 3, 0), (.ldc2_w 124, 6, 0), (.invokestatic 107, 9, 0), (.ifCond .ne 6, 12, 15), (.bipush (-2), 14, 0), (.ireturn, 15, 0)]), (15, [(.aload_n 0, 16, 0), (.getfield 22, 19, 0), (.istore_n 2, 20, 0), (.aload_n 0, 21, 0), (.iload_n 1, 22, 0), (.putfield 22, 25, 0), (.aload_n 0, 26, 0), (.invokevirtual 118, 29, 0), (.iload_n 2, 30, 0), (.ireturn, 31, 0)])]
theorem k_M_bound : xck prog_9_method_7_code b_M_bound = true := by decide +kernel
abbrev b_M_choose : xBk := [(0, [(.aload_n 0, 1, 0), (.invokevirtual 150, 4, 0), (.iconst 0, 5, 0), (.istore_n 1, 6, 0)]), (6, [(.iload_n 1, 7, 0), (.aload_n 0, 8, 0), (.getfield 115, 11, 0), (.if_icmp .ge 64, 14, 75), (.aload_n 0, 15, 0), (.getfield 41, 18, 0), (.iload_n 1, 19, 0), (.iconst (-1), 20, 0), (.iastore, 21, 0), (.iconst 0, 22, 0), (.istore_n 2, 23, 0)]), (23, [(.iload_n 2, 24, 0), (.aload_n 0, 25, 0), (.getfield 26, 28, 0), (.iload_n 1, 29, 0), (.iaload, 30, 0), (.if_icmp .ge 39, 33, 69), (.aload_n 0, 34, 0), (.getfield 41, 37, 0), (.iload_n 1, 38, 0), (.iaload, 39, 0), (.iconst (-1), 40, 0), (.if_icmp .ne 29, 43, 69), (.aload_n 0, 44, 0), (.iload_n 1, 45, 0), (.iload_n 2, 46, 0), (.aload_n 0, 47, 0), (.getfield 41, 50, 0), (.invokevirtual 153, 53, 0), (.ifCond .eq 10, 56, 63), (.aload_n 0, 57, 0), (.getfield 41, 60, 0), (.iload_n 1, 61, 0), (.iload_n 2, 62, 0), (.iastore, 63, 0)]), (63, [(.iinc 2 1, 66, 0), (.goto (-43), 69, 23)]), (69, [(.iinc 1 1, 72, 0), (.goto (-66), 75, 6)]), (75, [(.aload_n 0, 76, 0), (.invokevirtual 157, 79, 0), (.ireturn, 80, 0)])]
theorem k_M_choose : xck prog_9_method_17_code b_M_choose = true := by decide +kernel
abbrev b_M_order : xBk := [(0, [(.iconst 0, 1, 0), (.istore_n 1, 2, 0)]), (2, [(.iload_n 1, 3, 0), (.aload_n 0, 4, 0), (.getfield 115, 7, 0), (.if_icmp .ge 72, 10, 79), (.aload_n 0, 11, 0), (.getfield 26, 14, 0), (.iload_n 1, 15, 0), (.iconst 0, 16, 0), (.iastore, 17, 0), (.aload_n 0, 18, 0), (.iload_n 1, 19, 0), (.iconst 0, 20, 0), (.iconst 0, 21, 0), (.iconst 0, 22, 0), (.invokevirtual 130, 25, 0), (.iconst 0, 26, 0), (.istore_n 2, 27, 0)]), (27, [(.iload_n 2, 28, 0), (.aload_n 0, 29, 0), (.getfield 121, 32, 0), (.if_icmp .ge 41, 35, 73), (.aload_n 0, 36, 0), (.iload_n 1, 37, 0), (.iconst 1, 38, 0), (.iload_n 2, 39, 0), (.iconst 0, 40, 0), (.invokevirtual 130, 43, 0), (.iconst 0, 44, 0), (.istore_n 3, 45, 0)]), (45, [(.iload_n 3, 46, 0), (.aload_n 0, 47, 0), (.getfield 121, 50, 0), (.if_icmp .ge 17, 53, 67), (.aload_n 0, 54, 0), (.iload_n 1, 55, 0), (.iconst 2, 56, 0), (.iload_n 2, 57, 0), (.iload_n 3, 58, 0), (.invokevirtual 130, 61, 0), (.iinc 3 1, 64, 0), (.goto (-19), 67, 45)]), (67, [(.iinc 2 1, 70, 0), (.goto (-43), 73, 27)]), (73, [(.iinc 1 1, 76, 0), (.goto (-74), 79, 2)]), (79, [(.return_, 80, 0)])]
theorem k_M_order : xck prog_9_method_10_code b_M_order = true := by decide +kernel
abbrev b_M_come : xBk := [(0, [(.aload_n 0, 1, 0), (.getfield 7, 4, 0), (.iload_n 1, 5, 0), (.iaload, 6, 0), (.iload_n 2, 7, 0), (.ifCond .le 12, 10, 19), (.aload_n 0, 11, 0), (.getfield 16, 14, 0), (.iload_n 3, 15, 0), (.iaload, 16, 0), (.goto 4, 19, 20)]), (19, [(.iconst 0, 20, 0)]), (20, [(.iadd, 21, 0), (.iload_n 2, 22, 0), (.iconst 1, 23, 0), (.if_icmp .le 13, 26, 36), (.aload_n 0, 27, 0), (.getfield 16, 30, 0), (.iload 4, 32, 0), (.iaload, 33, 0), (.goto 4, 36, 37)]), (36, [(.iconst 0, 37, 0)]), (37, [(.iadd, 38, 0), (.istore 5, 40, 0), (.bipush 31, 42, 0), (.iload_n 1, 43, 0), (.imul, 44, 0), (.aload_n 0, 45, 0), (.getfield 26, 48, 0), (.iload_n 1, 49, 0), (.iaload, 50, 0), (.iadd, 51, 0), (.istore 6, 53, 0)]), (53, [(.iload 6, 55, 0), (.bipush 31, 57, 0), (.iload_n 1, 58, 0), (.imul, 59, 0), (.if_icmp .le 90, 62, 149), (.aload_n 0, 63, 0), (.iload 6, 65, 0), (.iconst 1, 66, 0), (.isub, 67, 0), (.iload 5, 69, 0), (.iload_n 2, 70, 0), (.iload_n 3, 71, 0), (.iload 4, 73, 0), (.invokevirtual 126, 76, 0), (.ifCond .eq 73, 79, 149), (.aload_n 0, 80, 0), (.getfield 29, 83, 0), (.iload 6, 85, 0), (.aload_n 0, 86, 0), (.getfield 29, 89, 0), (.iload 6, 91, 0), (.iconst 1, 92, 0), (.isub, 93, 0), (.iaload, 94, 0), (.iastore, 95, 0), (.aload_n 0, 96, 0), (.getfield 32, 99, 0), (.iload 6, 101, 0), (.aload_n 0, 102, 0), (.getfield 32, 105, 0), (.iload 6, 107, 0), (.iconst 1, 108, 0), (.isub, 109, 0), (.iaload, 110, 0), (.iastore, 111, 0), (.aload_n 0, 112, 0), (.getfield 35, 115, 0), (.iload 6, 117, 0), (.aload_n 0, 118, 0), (.getfield 35, 121, 0), (.iload 6, 123, 0), (.iconst 1, 124, 0), (.isub, 125, 0), (.iaload, 126, 0), (.iastore, 127, 0), (.aload_n 0, 128, 0), (.getfield 38, 131, 0), (.iload 6, 133, 0), (.aload_n 0, 134, 0), (.getfield 38, 137, 0), (.iload 6, 139, 0), (.iconst 1, 140, 0), (.isub, 141, 0), (.iaload, 142, 0), (.iastore, 143, 0), (.iinc 6 (-1), 146, 0), (.goto (-93), 149, 53)]), (149, [(.aload_n 0, 150, 0), (.getfield 29, 153, 0), (.iload 6, 155, 0), (.iload 5, 157, 0), (.iastore, 158, 0), (.aload_n 0, 159, 0), (.getfield 32, 162, 0), (.iload 6, 164, 0), (.iload_n 2, 165, 0), (.iastore, 166, 0), (.aload_n 0, 167, 0), (.getfield 35, 170, 0), (.iload 6, 172, 0), (.iload_n 3, 173, 0), (.iastore, 174, 0), (.aload_n 0, 175, 0), (.getfield 38, 178, 0), (.iload 6, 180, 0), (.iload 4, 182, 0), (.iastore, 183, 0), (.aload_n 0, 184, 0), (.getfield 26, 187, 0), (.iload_n 1, 188, 0), (.dup2, 189, 0), (.iaload, 190, 0), (.iconst 1, 191, 0), (.iadd, 192, 0), (.iastore, 193, 0), (.return_, 194, 0)])]
theorem k_M_come : xck prog_9_method_8_code b_M_come = true := by decide +kernel
abbrev b_M_isLater : xBk := [(0, [(.aload_n 0, 1, 0), (.getfield 29, 4, 0), (.iload_n 1, 5, 0), (.iaload, 6, 0), (.iload_n 2, 7, 0), (.if_icmp .eq 19, 10, 26), (.aload_n 0, 11, 0), (.getfield 29, 14, 0), (.iload_n 1, 15, 0), (.iaload, 16, 0), (.iload_n 2, 17, 0), (.if_icmp .le 7, 20, 24), (.iconst 1, 21, 0), (.goto 4, 24, 25)]), (24, [(.iconst 0, 25, 0)]), (25, [(.ireturn, 26, 0)]), (26, [(.aload_n 0, 27, 0), (.getfield 32, 30, 0), (.iload_n 1, 31, 0), (.iaload, 32, 0), (.iload_n 3, 33, 0), (.if_icmp .eq 19, 36, 52), (.aload_n 0, 37, 0), (.getfield 32, 40, 0), (.iload_n 1, 41, 0), (.iaload, 42, 0), (.iload_n 3, 43, 0), (.if_icmp .le 7, 46, 50), (.iconst 1, 47, 0), (.goto 4, 50, 51)]), (50, [(.iconst 0, 51, 0)]), (51, [(.ireturn, 52, 0)]), (52, [(.aload_n 0, 53, 0), (.getfield 35, 56, 0), (.iload_n 1, 57, 0), (.iaload, 58, 0), (.iload 4, 60, 0), (.if_icmp .gt 25, 63, 85), (.aload_n 0, 64, 0), (.getfield 35, 67, 0), (.iload_n 1, 68, 0), (.iaload, 69, 0), (.iload 4, 71, 0), (.if_icmp .ne 18, 74, 89), (.aload_n 0, 75, 0), (.getfield 38, 78, 0), (.iload_n 1, 79, 0), (.iaload, 80, 0), (.iload 5, 82, 0), (.if_icmp .le 7, 85, 89)]), (85, [(.iconst 1, 86, 0), (.goto 4, 89, 90)]), (89, [(.iconst 0, 90, 0)]), (90, [(.ireturn, 91, 0)])]
theorem k_M_isLater : xck prog_9_method_9_code b_M_isLater = true := by decide +kernel
abbrev b_M_isFree : xBk := [(0, [(.iconst 0, 1, 0), (.istore 4, 3, 0)]), (3, [(.iload 4, 5, 0), (.iload_n 1, 6, 0), (.if_icmp .ge 34, 9, 40), (.aload_n 3, 10, 0), (.iload 4, 12, 0), (.iaload, 13, 0), (.iconst (-1), 14, 0), (.if_icmp .eq 20, 17, 34), (.aload_n 0, 18, 0), (.iload_n 1, 19, 0), (.iload_n 2, 20, 0), (.iload 4, 22, 0), (.aload_n 3, 23, 0), (.iload 4, 25, 0), (.iaload, 26, 0), (.invokevirtual 146, 29, 0), (.ifCond .ne 5, 32, 34), (.iconst 0, 33, 0), (.ireturn, 34, 0)]), (34, [(.iinc 4 1, 37, 0), (.goto (-34), 40, 3)]), (40, [(.iconst 1, 41, 0), (.ireturn, 42, 0)])]
theorem k_M_isFree : xck prog_9_method_15_code b_M_isFree = true := by decide +kernel
abbrev b_M_isApart : xBk := [(0, [(.aload_n 0, 1, 0), (.getfield 29, 4, 0), (.bipush 31, 6, 0), (.iload_n 1, 7, 0), (.imul, 8, 0), (.iload_n 2, 9, 0), (.iadd, 10, 0), (.iaload, 11, 0), (.istore 5, 13, 0), (.aload_n 0, 14, 0), (.getfield 29, 17, 0), (.bipush 31, 19, 0), (.iload_n 3, 20, 0), (.imul, 21, 0), (.iload 4, 23, 0), (.iadd, 24, 0), (.iaload, 25, 0), (.istore 6, 27, 0), (.aload_n 0, 28, 0), (.iload_n 1, 29, 0), (.iload_n 2, 30, 0), (.invokevirtual 134, 33, 0), (.istore 7, 35, 0), (.aload_n 0, 36, 0), (.iload_n 3, 37, 0), (.iload 4, 39, 0), (.invokevirtual 134, 42, 0), (.istore 8, 44, 0), (.iload 5, 46, 0), (.iload 6, 48, 0), (.if_icmp .le 24, 51, 72), (.iload 7, 53, 0), (.iload 5, 55, 0), (.iload 6, 57, 0), (.isub, 58, 0), (.ishr, 59, 0), (.iload 8, 61, 0), (.if_icmp .ne 7, 64, 68), (.iconst 1, 65, 0), (.goto 25, 68, 90)]), (68, [(.iconst 0, 69, 0), (.goto 21, 72, 90)]), (72, [(.iload 7, 74, 0), (.iload 8, 76, 0), (.iload 6, 78, 0), (.iload 5, 80, 0), (.isub, 81, 0), (.ishr, 82, 0), (.if_icmp .ne 7, 85, 89), (.iconst 1, 86, 0), (.goto 4, 89, 90)]), (89, [(.iconst 0, 90, 0)]), (90, [(.istore 9, 92, 0), (.iload 9, 94, 0), (.ifCond .ne 23, 97, 117), (.aload_n 0, 98, 0), (.iload_n 1, 99, 0), (.iload_n 2, 100, 0), (.iload_n 3, 101, 0), (.iload 4, 103, 0), (.invokevirtual 142, 106, 0), (.aload_n 0, 107, 0), (.getfield 22, 110, 0), (.if_icmp .lt 7, 113, 117), (.iconst 1, 114, 0), (.goto 4, 117, 118)]), (117, [(.iconst 0, 118, 0)]), (118, [(.ireturn, 119, 0)])]
theorem k_M_isApart : xck prog_9_method_14_code b_M_isApart = true := by decide +kernel
abbrev b_M_bitsOf : xBk := [(0, [(.bipush 31, 2, 0), (.iload_n 1, 3, 0), (.imul, 4, 0), (.iload_n 2, 5, 0), (.iadd, 6, 0), (.istore_n 3, 7, 0), (.aload_n 0, 8, 0), (.getfield 13, 11, 0), (.iload_n 1, 12, 0), (.iaload, 13, 0), (.istore 4, 15, 0), (.aload_n 0, 16, 0), (.getfield 32, 19, 0), (.iload_n 3, 20, 0), (.iaload, 21, 0), (.ifCond .le 31, 24, 52), (.iload 4, 26, 0), (.aload_n 0, 27, 0), (.getfield 16, 30, 0), (.aload_n 0, 31, 0), (.getfield 35, 34, 0), (.iload_n 3, 35, 0), (.iaload, 36, 0), (.iaload, 37, 0), (.ishl, 38, 0), (.aload_n 0, 39, 0), (.getfield 19, 42, 0), (.aload_n 0, 43, 0), (.getfield 35, 46, 0), (.iload_n 3, 47, 0), (.iaload, 48, 0), (.iaload, 49, 0), (.ior, 50, 0), (.istore 4, 52, 0)]), (52, [(.aload_n 0, 53, 0), (.getfield 32, 56, 0), (.iload_n 3, 57, 0), (.iaload, 58, 0), (.iconst 1, 59, 0), (.if_icmp .le 31, 62, 90), (.iload 4, 64, 0), (.aload_n 0, 65, 0), (.getfield 16, 68, 0), (.aload_n 0, 69, 0), (.getfield 38, 72, 0), (.iload_n 3, 73, 0), (.iaload, 74, 0), (.iaload, 75, 0), (.ishl, 76, 0), (.aload_n 0, 77, 0), (.getfield 19, 80, 0), (.aload_n 0, 81, 0), (.getfield 38, 84, 0), (.iload_n 3, 85, 0), (.iaload, 86, 0), (.iaload, 87, 0), (.ior, 88, 0), (.istore 4, 90, 0)]), (90, [(.iload 4, 92, 0), (.ireturn, 93, 0)])]
theorem k_M_bitsOf : xck prog_9_method_11_code b_M_bitsOf = true := by decide +kernel
abbrev b_M_apart : xBk := [(0, [(.aload_n 0, 1, 0), (.getfield 29, 4, 0), (.bipush 31, 6, 0), (.iload_n 1, 7, 0), (.imul, 8, 0), (.iload_n 2, 9, 0), (.iadd, 10, 0), (.iaload, 11, 0), (.istore 5, 13, 0), (.aload_n 0, 14, 0), (.getfield 29, 17, 0), (.bipush 31, 19, 0), (.iload_n 3, 20, 0), (.imul, 21, 0), (.iload 4, 23, 0), (.iadd, 24, 0), (.iaload, 25, 0), (.istore 6, 27, 0), (.aload_n 0, 28, 0), (.iload_n 1, 29, 0), (.iload_n 2, 30, 0), (.invokevirtual 134, 33, 0), (.istore 7, 35, 0), (.aload_n 0, 36, 0), (.iload_n 3, 37, 0), (.iload 4, 39, 0), (.invokevirtual 134, 42, 0), (.istore 8, 44, 0), (.iload 5, 46, 0), (.iload 6, 48, 0), (.if_icmp .le 26, 51, 74), (.iload 7, 53, 0), (.iload 5, 55, 0), (.iload 6, 57, 0), (.isub, 58, 0), (.ishr, 59, 0), (.iload 8, 61, 0), (.ixor, 62, 0), (.invokestatic 138, 65, 0), (.iload 5, 67, 0), (.iadd, 68, 0), (.iload 6, 70, 0), (.isub, 71, 0), (.goto 23, 74, 94)]), (74, [(.iload 7, 76, 0), (.iload 8, 78, 0), (.iload 6, 80, 0), (.iload 5, 82, 0), (.isub, 83, 0), (.ishr, 84, 0), (.ixor, 85, 0), (.invokestatic 138, 88, 0), (.iload 6, 90, 0), (.iadd, 91, 0), (.iload 5, 93, 0), (.isub, 94, 0)]), (94, [(.ireturn, 95, 0)])]
theorem k_M_apart : xck prog_9_method_13_code b_M_apart = true := by decide +kernel
abbrev b_M_ones : xBk := [(0, [(.iconst 0, 1, 0), (.istore_n 1, 2, 0), (.iconst 0, 3, 0), (.istore_n 2, 4, 0)]), (4, [(.iload_n 2, 5, 0), (.bipush 20, 7, 0), (.if_icmp .ge 17, 10, 24), (.iload_n 1, 11, 0), (.iload_n 0, 12, 0), (.iload_n 2, 13, 0), (.ishr, 14, 0), (.iconst 1, 15, 0), (.iand, 16, 0), (.iadd, 17, 0), (.istore_n 1, 18, 0), (.iinc 2 1, 21, 0), (.goto (-17), 24, 4)]), (24, [(.iload_n 1, 25, 0), (.ireturn, 26, 0)])]
theorem k_M_ones : xck prog_9_method_12_code b_M_ones = true := by decide +kernel
abbrev b_M_phrased : xBk := [(0, [(.iconst 0, 1, 0), (.istore_n 1, 2, 0), (.iconst 0, 3, 0), (.istore_n 2, 4, 0)]), (4, [(.iload_n 2, 5, 0), (.aload_n 0, 6, 0), (.getfield 115, 9, 0), (.if_icmp .ge 27, 12, 36), (.iload_n 1, 13, 0), (.aload_n 0, 14, 0), (.getfield 41, 17, 0), (.iload_n 2, 18, 0), (.iaload, 19, 0), (.iconst (-1), 20, 0), (.if_icmp .ne 7, 23, 27), (.iconst 0, 24, 0), (.goto 4, 27, 28)]), (27, [(.iconst 1, 28, 0)]), (28, [(.iadd, 29, 0), (.istore_n 1, 30, 0), (.iinc 2 1, 33, 0), (.goto (-29), 36, 4)]), (36, [(.iload_n 1, 37, 0), (.ireturn, 38, 0)])]
theorem k_M_phrased : xck prog_9_method_16_code b_M_phrased = true := by decide +kernel
abbrev b_M_least : xBk := [(0, [(.aload_n 0, 1, 0), (.getfield 115, 4, 0), (.ifCond .ne 5, 7, 9), (.iconst 0, 8, 0), (.ireturn, 9, 0)]), (9, [(.aload_n 0, 10, 0), (.invokevirtual 150, 13, 0), (.ldc 161, 15, 0), (.istore_n 1, 16, 0), (.iconst 0, 17, 0), (.istore_n 2, 18, 0), (.iconst 0, 19, 0), (.istore_n 3, 20, 0), (.aload_n 0, 21, 0), (.getfield 65, 24, 0), (.iconst 0, 25, 0), (.iconst 0, 26, 0), (.iastore, 27, 0), (.aload_n 0, 28, 0), (.getfield 62, 31, 0), (.iconst 0, 32, 0), (.iconst 0, 33, 0), (.iastore, 34, 0)]), (34, [(.iload_n 3, 35, 0), (.ifCond .lt 191, 38, 226), (.aload_n 0, 39, 0), (.getfield 65, 42, 0), (.iload_n 3, 43, 0), (.iaload, 44, 0), (.istore 4, 46, 0), (.iload 4, 48, 0), (.aload_n 0, 49, 0), (.getfield 26, 52, 0), (.iload_n 3, 53, 0), (.iaload, 54, 0), (.if_icmp .eq 26, 57, 80), (.aload_n 0, 58, 0), (.getfield 62, 61, 0), (.iload_n 3, 62, 0), (.iaload, 63, 0), (.aload_n 0, 64, 0), (.getfield 29, 67, 0), (.bipush 31, 69, 0), (.iload_n 3, 70, 0), (.imul, 71, 0), (.iload 4, 73, 0), (.iadd, 74, 0), (.iaload, 75, 0), (.iadd, 76, 0), (.iload_n 1, 77, 0), (.if_icmp .lt 9, 80, 86)]), (80, [(.iinc 3 (-1), 83, 0), (.goto 140, 86, 223)]), (86, [(.aload_n 0, 87, 0), (.getfield 65, 90, 0), (.iload_n 3, 91, 0), (.dup2, 92, 0), (.iaload, 93, 0), (.iconst 1, 94, 0), (.iadd, 95, 0), (.iastore, 96, 0), (.iinc 2 1, 99, 0), (.iload_n 2, 100, 0), (.sipush 20000, 103, 0), (.if_icmp .le 6, 106, 109), (.bipush (-5), 108, 0), (.ireturn, 109, 0)]), (109, [(.aload_n 0, 110, 0), (.iload_n 3, 111, 0), (.iload 4, 113, 0), (.aload_n 0, 114, 0), (.getfield 56, 117, 0), (.invokevirtual 153, 120, 0), (.ifCond .eq 103, 123, 223), (.aload_n 0, 124, 0), (.getfield 56, 127, 0), (.iload_n 3, 128, 0), (.iload 4, 130, 0), (.iastore, 131, 0), (.aload_n 0, 132, 0), (.getfield 62, 135, 0), (.iload_n 3, 136, 0), (.iconst 1, 137, 0), (.iadd, 138, 0), (.aload_n 0, 139, 0), (.getfield 62, 142, 0), (.iload_n 3, 143, 0), (.iaload, 144, 0), (.aload_n 0, 145, 0), (.getfield 29, 148, 0), (.bipush 31, 150, 0), (.iload_n 3, 151, 0), (.imul, 152, 0), (.iload 4, 154, 0), (.iadd, 155, 0), (.iaload, 156, 0), (.iadd, 157, 0), (.iastore, 158, 0), (.iload_n 3, 159, 0), (.aload_n 0, 160, 0), (.getfield 115, 163, 0), (.iconst 1, 164, 0), (.isub, 165, 0), (.if_icmp .ne 48, 168, 213), (.aload_n 0, 169, 0), (.getfield 62, 172, 0), (.aload_n 0, 173, 0), (.getfield 115, 176, 0), (.iaload, 177, 0), (.istore_n 1, 178, 0), (.iconst 0, 179, 0), (.istore 5, 181, 0)]), (181, [(.iload 5, 183, 0), (.aload_n 0, 184, 0), (.getfield 115, 187, 0), (.if_icmp .ge 23, 190, 210), (.aload_n 0, 191, 0), (.getfield 59, 194, 0), (.iload 5, 196, 0), (.aload_n 0, 197, 0), (.getfield 56, 200, 0), (.iload 5, 202, 0), (.iaload, 203, 0), (.iastore, 204, 0), (.iinc 5 1, 207, 0), (.goto (-26), 210, 181)]), (210, [(.goto 13, 213, 223)]), (213, [(.iinc 3 1, 216, 0), (.aload_n 0, 217, 0), (.getfield 65, 220, 0), (.iload_n 3, 221, 0), (.iconst 0, 222, 0), (.iastore, 223, 0)]), (223, [(.goto (-189), 226, 34)]), (226, [(.iload_n 1, 227, 0), (.ldc 161, 229, 0), (.if_icmp .ne 5, 232, 234), (.iconst (-1), 233, 0), (.ireturn, 234, 0)]), (234, [(.iconst 0, 235, 0), (.istore 4, 237, 0)]), (237, [(.iload 4, 239, 0), (.aload_n 0, 240, 0), (.getfield 115, 243, 0), (.if_icmp .ge 23, 246, 266), (.aload_n 0, 247, 0), (.getfield 41, 250, 0), (.iload 4, 252, 0), (.aload_n 0, 253, 0), (.getfield 59, 256, 0), (.iload 4, 258, 0), (.iaload, 259, 0), (.iastore, 260, 0), (.iinc 4 1, 263, 0), (.goto (-26), 266, 237)]), (266, [(.iload_n 1, 267, 0), (.ireturn, 268, 0)])]
theorem k_M_least : xck prog_9_method_18_code b_M_least = true := by decide +kernel
abbrev b_M_length : xBk := [(0, [(.aload_n 0, 1, 0), (.iload_n 1, 2, 0), (.invokevirtual 165, 5, 0), (.ifCond .eq 11, 8, 16), (.aload_n 0, 9, 0), (.iload_n 1, 10, 0), (.invokevirtual 162, 13, 0), (.goto 5, 16, 18)]), (16, [(.bipush (-2), 18, 0)]), (18, [(.ireturn, 19, 0)])]
theorem k_M_length : xck prog_9_method_22_code b_M_length = true := by decide +kernel
abbrev b_M_isWord : xBk := [(0, [(.iload_n 1, 1, 0), (.i2l, 2, 0), (.lconst 0, 3, 0), (.aload_n 0, 4, 0), (.getfield 115, 7, 0), (.iconst 1, 8, 0), (.isub, 9, 0), (.i2l, 10, 0), (.invokestatic 107, 13, 0), (.ireturn, 14, 0)])]
theorem k_M_isWord : xck prog_9_method_19_code b_M_isWord = true := by decide +kernel
abbrev b_M_lengthOf : xBk := [(0, [(.aload_n 0, 1, 0), (.getfield 41, 4, 0), (.iload_n 1, 5, 0), (.iaload, 6, 0), (.iconst (-1), 7, 0), (.if_icmp .ne 7, 10, 14), (.iconst (-1), 11, 0), (.goto 19, 14, 30)]), (14, [(.aload_n 0, 15, 0), (.getfield 29, 18, 0), (.bipush 31, 20, 0), (.iload_n 1, 21, 0), (.imul, 22, 0), (.aload_n 0, 23, 0), (.getfield 41, 26, 0), (.iload_n 1, 27, 0), (.iaload, 28, 0), (.iadd, 29, 0), (.iaload, 30, 0)]), (30, [(.ireturn, 31, 0)])]
theorem k_M_lengthOf : xck prog_9_method_20_code b_M_lengthOf = true := by decide +kernel
abbrev b_M_beat : xBk := [(0, [(.aload_n 0, 1, 0), (.iload_n 1, 2, 0), (.invokevirtual 165, 5, 0), (.ifCond .ne 6, 8, 11), (.bipush (-2), 10, 0), (.ireturn, 11, 0)]), (11, [(.aload_n 0, 12, 0), (.getfield 41, 15, 0), (.iload_n 1, 16, 0), (.iaload, 17, 0), (.iconst (-1), 18, 0), (.if_icmp .eq 29, 21, 47), (.iload_n 2, 22, 0), (.i2l, 23, 0), (.lconst 0, 24, 0), (.aload_n 0, 25, 0), (.iload_n 1, 26, 0), (.invokevirtual 162, 29, 0), (.iconst 1, 30, 0), (.isub, 31, 0), (.i2l, 32, 0), (.invokestatic 107, 35, 0), (.ifCond .eq 12, 38, 47), (.aload_n 0, 39, 0), (.iload_n 1, 40, 0), (.iload_n 2, 41, 0), (.invokevirtual 169, 44, 0), (.goto 4, 47, 48)]), (47, [(.iconst (-1), 48, 0)]), (48, [(.ireturn, 49, 0)])]
theorem k_M_beat : xck prog_9_method_23_code b_M_beat = true := by decide +kernel
abbrev b_M_beatOf : xBk := [(0, [(.aload_n 0, 1, 0), (.iload_n 1, 2, 0), (.aload_n 0, 3, 0), (.getfield 41, 6, 0), (.iload_n 1, 7, 0), (.iaload, 8, 0), (.invokevirtual 134, 11, 0), (.aload_n 0, 12, 0), (.iload_n 1, 13, 0), (.invokevirtual 162, 16, 0), (.iconst 1, 17, 0), (.isub, 18, 0), (.iload_n 2, 19, 0), (.isub, 20, 0), (.ishr, 21, 0), (.iconst 1, 22, 0), (.iand, 23, 0), (.ireturn, 24, 0)])]
theorem k_M_beatOf : xck prog_9_method_21_code b_M_beatOf = true := by decide +kernel
abbrev b_M_endingAt : xBk := [(0, [(.aload_n 0, 1, 0), (.iload_n 1, 2, 0), (.invokevirtual 165, 5, 0), (.ifCond .ne 6, 8, 11), (.bipush (-2), 10, 0), (.ireturn, 11, 0)]), (11, [(.aload_n 0, 12, 0), (.getfield 41, 15, 0), (.iload_n 1, 16, 0), (.iaload, 17, 0), (.iconst (-1), 18, 0), (.if_icmp .ne 5, 21, 23), (.iconst (-1), 22, 0), (.ireturn, 23, 0)]), (23, [(.bipush 31, 25, 0), (.iload_n 1, 26, 0), (.imul, 27, 0), (.aload_n 0, 28, 0), (.getfield 41, 31, 0), (.iload_n 1, 32, 0), (.iaload, 33, 0), (.iadd, 34, 0), (.istore_n 3, 35, 0), (.iload_n 2, 36, 0), (.i2l, 37, 0), (.lconst 0, 38, 0), (.aload_n 0, 39, 0), (.getfield 32, 42, 0), (.iload_n 3, 43, 0), (.iaload, 44, 0), (.iconst 1, 45, 0), (.isub, 46, 0), (.i2l, 47, 0), (.invokestatic 107, 50, 0), (.ifCond .ne 7, 53, 57), (.iconst (-1), 54, 0), (.goto 22, 57, 76)]), (57, [(.iload_n 2, 58, 0), (.ifCond .ne 12, 61, 70), (.aload_n 0, 62, 0), (.getfield 35, 65, 0), (.iload_n 3, 66, 0), (.iaload, 67, 0), (.goto 9, 70, 76)]), (70, [(.aload_n 0, 71, 0), (.getfield 38, 74, 0), (.iload_n 3, 75, 0), (.iaload, 76, 0)]), (76, [(.ireturn, 77, 0)])]
theorem k_M_endingAt : xck prog_9_method_24_code b_M_endingAt = true := by decide +kernel
abbrev b_M_far : xBk := [(0, [(.aload_n 0, 1, 0), (.iload_n 1, 2, 0), (.invokevirtual 165, 5, 0), (.ifCond .eq 16, 8, 21), (.aload_n 0, 9, 0), (.iload_n 2, 10, 0), (.invokevirtual 165, 13, 0), (.ifCond .eq 8, 16, 21), (.iload_n 1, 17, 0), (.iload_n 2, 18, 0), (.if_icmp .ne 6, 21, 24)]), (21, [(.bipush (-2), 23, 0), (.ireturn, 24, 0)]), (24, [(.aload_n 0, 25, 0), (.getfield 41, 28, 0), (.iload_n 1, 29, 0), (.iaload, 30, 0), (.iconst (-1), 31, 0), (.if_icmp .eq 13, 34, 44), (.aload_n 0, 35, 0), (.getfield 41, 38, 0), (.iload_n 2, 39, 0), (.iaload, 40, 0), (.iconst (-1), 41, 0), (.if_icmp .ne 8, 44, 49)]), (44, [(.bipush (-3), 46, 0), (.goto 21, 49, 67)]), (49, [(.aload_n 0, 50, 0), (.iload_n 1, 51, 0), (.aload_n 0, 52, 0), (.getfield 41, 55, 0), (.iload_n 1, 56, 0), (.iaload, 57, 0), (.iload_n 2, 58, 0), (.aload_n 0, 59, 0), (.getfield 41, 62, 0), (.iload_n 2, 63, 0), (.iaload, 64, 0), (.invokevirtual 142, 67, 0)]), (67, [(.ireturn, 68, 0)])]
theorem k_M_far : xck prog_9_method_25_code b_M_far = true := by decide +kernel
abbrev b_M_hear : xBk := [(0, [(.iload_n 1, 1, 0), (.i2l, 2, 0), (.ldc2_w 172, 5, 0), (.lconst 1, 6, 0), (.invokestatic 107, 9, 0), (.ifCond .ne 6, 12, 15), (.bipush (-2), 14, 0), (.ireturn, 15, 0)]), (15, [(.aload_n 0, 16, 0), (.getfield 174, 19, 0), (.bipush 60, 21, 0), (.if_icmp .ne 6, 24, 27), (.bipush (-4), 26, 0), (.ireturn, 27, 0)]), (27, [(.aload_n 0, 28, 0), (.getfield 44, 31, 0), (.aload_n 0, 32, 0), (.getfield 174, 35, 0), (.iload_n 1, 36, 0), (.iastore, 37, 0), (.aload_n 0, 38, 0), (.dup, 39, 0), (.getfield 174, 42, 0), (.iconst 1, 43, 0), (.iadd, 44, 0), (.putfield 174, 47, 0), (.aload_n 0, 48, 0), (.getfield 174, 51, 0), (.ireturn, 52, 0)])]
theorem k_M_hear : xck prog_9_method_26_code b_M_hear = true := by decide +kernel
abbrev b_M_drum : xBk := [(0, [(.aload_n 0, 1, 0), (.iload_n 1, 2, 0), (.invokevirtual 165, 5, 0), (.ifCond .ne 6, 8, 11), (.bipush (-2), 10, 0), (.ireturn, 11, 0)]), (11, [(.aload_n 0, 12, 0), (.getfield 41, 15, 0), (.iload_n 1, 16, 0), (.iaload, 17, 0), (.iconst (-1), 18, 0), (.if_icmp .ne 6, 21, 24), (.bipush (-3), 23, 0), (.ireturn, 24, 0)]), (24, [(.aload_n 0, 25, 0), (.iload_n 1, 26, 0), (.invokevirtual 162, 29, 0), (.istore_n 2, 30, 0), (.aload_n 0, 31, 0), (.getfield 174, 34, 0), (.iload_n 2, 35, 0), (.iadd, 36, 0), (.bipush 60, 38, 0), (.if_icmp .le 6, 41, 44), (.bipush (-4), 43, 0), (.ireturn, 44, 0)]), (44, [(.iconst 0, 45, 0), (.istore_n 3, 46, 0)]), (46, [(.iload_n 3, 47, 0), (.iload_n 2, 48, 0), (.if_icmp .ge 26, 51, 74), (.aload_n 0, 52, 0), (.getfield 44, 55, 0), (.aload_n 0, 56, 0), (.getfield 174, 59, 0), (.iload_n 3, 60, 0), (.iadd, 61, 0), (.aload_n 0, 62, 0), (.iload_n 1, 63, 0), (.iload_n 3, 64, 0), (.invokevirtual 169, 67, 0), (.iastore, 68, 0), (.iinc 3 1, 71, 0), (.goto (-25), 74, 46)]), (74, [(.aload_n 0, 75, 0), (.dup, 76, 0), (.getfield 174, 79, 0), (.iload_n 2, 80, 0), (.iadd, 81, 0), (.putfield 174, 84, 0), (.aload_n 0, 85, 0), (.getfield 174, 88, 0), (.ireturn, 89, 0)])]
theorem k_M_drum : xck prog_9_method_27_code b_M_drum = true := by decide +kernel
abbrev b_M_slip : xBk := [(0, [(.iload_n 2, 1, 0), (.i2l, 2, 0), (.ldc2_w 172, 5, 0), (.ldc2_w 177, 8, 0), (.invokestatic 107, 11, 0), (.ifCond .eq 19, 14, 30), (.iload_n 1, 15, 0), (.i2l, 16, 0), (.lconst 0, 17, 0), (.aload_n 0, 18, 0), (.getfield 174, 21, 0), (.iconst 1, 22, 0), (.isub, 23, 0), (.i2l, 24, 0), (.invokestatic 107, 27, 0), (.ifCond .ne 6, 30, 33)]), (30, [(.bipush (-100), 32, 0), (.ireturn, 33, 0)]), (33, [(.aload_n 0, 34, 0), (.getfield 44, 37, 0), (.iload_n 1, 38, 0), (.iaload, 39, 0), (.istore_n 3, 40, 0), (.iload_n 2, 41, 0), (.iconst 2, 42, 0), (.if_icmp .ne 50, 45, 92), (.aload_n 0, 46, 0), (.dup, 47, 0), (.getfield 174, 50, 0), (.iconst 1, 51, 0), (.isub, 52, 0), (.putfield 174, 55, 0), (.iload_n 1, 56, 0), (.istore 4, 58, 0)]), (58, [(.iload 4, 60, 0), (.aload_n 0, 61, 0), (.getfield 174, 64, 0), (.if_icmp .ge 25, 67, 89), (.aload_n 0, 68, 0), (.getfield 44, 71, 0), (.iload 4, 73, 0), (.aload_n 0, 74, 0), (.getfield 44, 77, 0), (.iload 4, 79, 0), (.iconst 1, 80, 0), (.iadd, 81, 0), (.iaload, 82, 0), (.iastore, 83, 0), (.iinc 4 1, 86, 0), (.goto (-28), 89, 58)]), (89, [(.goto 10, 92, 99)]), (92, [(.aload_n 0, 93, 0), (.getfield 44, 96, 0), (.iload_n 1, 97, 0), (.iload_n 2, 98, 0), (.iastore, 99, 0)]), (99, [(.iload_n 3, 100, 0), (.ireturn, 101, 0)])]
theorem k_M_slip : xck prog_9_method_28_code b_M_slip = true := by decide +kernel
abbrev b_M_hush : xBk := [(0, [(.aload_n 0, 1, 0), (.getfield 174, 4, 0), (.istore_n 1, 5, 0), (.aload_n 0, 6, 0), (.iconst 0, 7, 0), (.putfield 174, 10, 0), (.iload_n 1, 11, 0), (.ireturn, 12, 0)])]
theorem k_M_hush : xck prog_9_method_29_code b_M_hush = true := by decide +kernel
abbrev b_M_read : xBk := [(0, [(.aload_n 0, 1, 0), (.invokevirtual 157, 4, 0), (.ifCond .ne 6, 7, 10), (.bipush (-3), 9, 0), (.ireturn, 10, 0)]), (10, [(.aload_n 0, 11, 0), (.invokevirtual 198, 14, 0), (.istore_n 1, 15, 0), (.aload_n 0, 16, 0), (.aload_n 0, 17, 0), (.getfield 189, 20, 0), (.putfield 201, 23, 0), (.iconst 0, 24, 0), (.istore_n 2, 25, 0)]), (25, [(.iload_n 2, 26, 0), (.aload_n 0, 27, 0), (.getfield 189, 30, 0), (.if_icmp .ge 21, 33, 51), (.aload_n 0, 34, 0), (.getfield 47, 37, 0), (.iload_n 2, 38, 0), (.aload_n 0, 39, 0), (.getfield 77, 42, 0), (.iload_n 2, 43, 0), (.iaload, 44, 0), (.iastore, 45, 0), (.iinc 2 1, 48, 0), (.goto (-23), 51, 25)]), (51, [(.iload_n 1, 52, 0), (.ireturn, 53, 0)])]
theorem k_M_read : xck prog_9_method_36_code b_M_read = true := by decide +kernel
abbrev b_M_reading : xBk := [(0, [(.ldc 161, 2, 0), (.istore_n 1, 3, 0), (.aload_n 0, 4, 0), (.iconst 0, 5, 0), (.putfield 189, 8, 0), (.iconst 0, 9, 0), (.istore_n 2, 10, 0)]), (10, [(.iload_n 2, 11, 0), (.bipush 13, 13, 0), (.if_icmp .ge 42, 16, 55), (.aload_n 0, 17, 0), (.iload_n 2, 18, 0), (.invokevirtual 192, 21, 0), (.aload_n 0, 22, 0), (.getfield 68, 25, 0), (.bipush 61, 27, 0), (.iload_n 2, 28, 0), (.imul, 29, 0), (.iaload, 30, 0), (.iload_n 1, 31, 0), (.if_icmp .ge 18, 34, 49), (.aload_n 0, 35, 0), (.getfield 68, 38, 0), (.bipush 61, 40, 0), (.iload_n 2, 41, 0), (.imul, 42, 0), (.iaload, 43, 0), (.istore_n 1, 44, 0), (.aload_n 0, 45, 0), (.iload_n 2, 46, 0), (.putfield 189, 49, 0)]), (49, [(.iinc 2 1, 52, 0), (.goto (-42), 55, 10)]), (55, [(.iconst 0, 56, 0), (.istore_n 2, 57, 0)]), (57, [(.iload_n 2, 58, 0), (.aload_n 0, 59, 0), (.getfield 174, 62, 0), (.if_icmp .gt 18, 65, 80), (.aload_n 0, 66, 0), (.getfield 80, 69, 0), (.iload_n 2, 70, 0), (.iconst 3, 71, 0), (.iload_n 2, 72, 0), (.imul, 73, 0), (.iastore, 74, 0), (.iinc 2 1, 77, 0), (.goto (-20), 80, 57)]), (80, [(.iconst 0, 81, 0), (.istore_n 2, 82, 0)]), (82, [(.iload_n 2, 83, 0), (.aload_n 0, 84, 0), (.getfield 189, 87, 0), (.if_icmp .ge 172, 90, 259), (.iconst (-1), 91, 0), (.istore_n 3, 92, 0), (.iconst 0, 93, 0), (.istore 4, 95, 0)]), (95, [(.iload 4, 97, 0), (.ifCond .ne 117, 100, 214), (.iinc 3 1, 103, 0), (.aload_n 0, 104, 0), (.getfield 41, 107, 0), (.iload_n 3, 108, 0), (.iaload, 109, 0), (.iconst (-1), 110, 0), (.if_icmp .eq (-15), 113, 95), (.iconst 0, 114, 0), (.istore 5, 116, 0)]), (116, [(.iload 5, 118, 0), (.aload_n 0, 119, 0), (.getfield 174, 122, 0), (.if_icmp .gt 23, 125, 145), (.aload_n 0, 126, 0), (.getfield 71, 129, 0), (.iload 5, 131, 0), (.aload_n 0, 132, 0), (.getfield 80, 135, 0), (.iload 5, 137, 0), (.iaload, 138, 0), (.iastore, 139, 0), (.iinc 5 1, 142, 0), (.goto (-26), 145, 116)]), (145, [(.aload_n 0, 146, 0), (.iload_n 3, 147, 0), (.invokevirtual 195, 150, 0), (.iconst 0, 151, 0), (.istore 5, 153, 0)]), (153, [(.iload 5, 155, 0), (.aload_n 0, 156, 0), (.getfield 174, 159, 0), (.if_icmp .gt 52, 162, 211), (.iload 4, 164, 0), (.ifCond .ne 34, 167, 198), (.aload_n 0, 168, 0), (.getfield 71, 171, 0), (.iload 5, 173, 0), (.iaload, 174, 0), (.aload_n 0, 175, 0), (.getfield 68, 178, 0), (.bipush 61, 180, 0), (.aload_n 0, 181, 0), (.getfield 189, 184, 0), (.iconst 1, 185, 0), (.isub, 186, 0), (.iload_n 2, 187, 0), (.isub, 188, 0), (.imul, 189, 0), (.iload 5, 191, 0), (.iadd, 192, 0), (.iaload, 193, 0), (.iadd, 194, 0), (.iload_n 1, 195, 0), (.if_icmp .ne 7, 198, 202)]), (198, [(.iconst 1, 199, 0), (.goto 4, 202, 203)]), (202, [(.iconst 0, 203, 0)]), (203, [(.istore 4, 205, 0), (.iinc 5 1, 208, 0), (.goto (-55), 211, 153)]), (211, [(.goto (-116), 214, 95)]), (214, [(.aload_n 0, 215, 0), (.getfield 77, 218, 0), (.iload_n 2, 219, 0), (.iload_n 3, 220, 0), (.iastore, 221, 0), (.iconst 0, 222, 0), (.istore 5, 224, 0)]), (224, [(.iload 5, 226, 0), (.aload_n 0, 227, 0), (.getfield 174, 230, 0), (.if_icmp .gt 23, 233, 253), (.aload_n 0, 234, 0), (.getfield 80, 237, 0), (.iload 5, 239, 0), (.aload_n 0, 240, 0), (.getfield 71, 243, 0), (.iload 5, 245, 0), (.iaload, 246, 0), (.iastore, 247, 0), (.iinc 5 1, 250, 0), (.goto (-26), 253, 224)]), (253, [(.iinc 2 1, 256, 0), (.goto (-174), 259, 82)]), (259, [(.iload_n 1, 260, 0), (.ireturn, 261, 0)])]
theorem k_M_reading : xck prog_9_method_35_code b_M_reading = true := by decide +kernel
abbrev b_M_restFrom : xBk := [(0, [(.iconst 0, 1, 0), (.istore_n 2, 2, 0)]), (2, [(.iload_n 2, 3, 0), (.aload_n 0, 4, 0), (.getfield 174, 7, 0), (.if_icmp .gt 37, 10, 44), (.aload_n 0, 11, 0), (.getfield 68, 14, 0), (.bipush 61, 16, 0), (.iload_n 1, 17, 0), (.imul, 18, 0), (.iload_n 2, 19, 0), (.iadd, 20, 0), (.iload_n 1, 21, 0), (.ifCond .ne 14, 24, 35), (.iconst 3, 25, 0), (.aload_n 0, 26, 0), (.getfield 174, 29, 0), (.iload_n 2, 30, 0), (.isub, 31, 0), (.imul, 32, 0), (.goto 5, 35, 37)]), (35, [(.ldc 161, 37, 0)]), (37, [(.iastore, 38, 0), (.iinc 2 1, 41, 0), (.goto (-39), 44, 2)]), (44, [(.iconst 0, 45, 0), (.istore_n 2, 46, 0)]), (46, [(.iload_n 2, 47, 0), (.aload_n 0, 48, 0), (.getfield 115, 51, 0), (.if_icmp .ge 110, 54, 161), (.iload_n 1, 55, 0), (.ifCond .le 106, 58, 161), (.aload_n 0, 59, 0), (.getfield 41, 62, 0), (.iload_n 2, 63, 0), (.iaload, 64, 0), (.iconst (-1), 65, 0), (.if_icmp .eq 90, 68, 155), (.iconst 0, 69, 0), (.istore_n 3, 70, 0)]), (70, [(.iload_n 3, 71, 0), (.aload_n 0, 72, 0), (.getfield 174, 75, 0), (.if_icmp .gt 28, 78, 103), (.aload_n 0, 79, 0), (.getfield 71, 82, 0), (.iload_n 3, 83, 0), (.aload_n 0, 84, 0), (.getfield 68, 87, 0), (.bipush 61, 89, 0), (.iload_n 1, 90, 0), (.iconst 1, 91, 0), (.isub, 92, 0), (.imul, 93, 0), (.iload_n 3, 94, 0), (.iadd, 95, 0), (.iaload, 96, 0), (.iastore, 97, 0), (.iinc 3 1, 100, 0), (.goto (-30), 103, 70)]), (103, [(.aload_n 0, 104, 0), (.iload_n 2, 105, 0), (.invokevirtual 185, 108, 0), (.iconst 0, 109, 0), (.istore_n 3, 110, 0)]), (110, [(.iload_n 3, 111, 0), (.aload_n 0, 112, 0), (.getfield 174, 115, 0), (.if_icmp .gt 40, 118, 155), (.aload_n 0, 119, 0), (.getfield 68, 122, 0), (.bipush 61, 124, 0), (.iload_n 1, 125, 0), (.imul, 126, 0), (.iload_n 3, 127, 0), (.iadd, 128, 0), (.aload_n 0, 129, 0), (.getfield 68, 132, 0), (.bipush 61, 134, 0), (.iload_n 1, 135, 0), (.imul, 136, 0), (.iload_n 3, 137, 0), (.iadd, 138, 0), (.iaload, 139, 0), (.aload_n 0, 140, 0), (.getfield 71, 143, 0), (.iload_n 3, 144, 0), (.iaload, 145, 0), (.invokestatic 179, 148, 0), (.iastore, 149, 0), (.iinc 3 1, 152, 0), (.goto (-42), 155, 110)]), (155, [(.iinc 2 1, 158, 0), (.goto (-112), 161, 46)]), (161, [(.return_, 162, 0)])]
theorem k_M_restFrom : xck prog_9_method_34_code b_M_restFrom = true := by decide +kernel
abbrev b_M_ahead : xBk := [(0, [(.aload_n 0, 1, 0), (.getfield 174, 4, 0), (.iconst 1, 5, 0), (.isub, 6, 0), (.istore_n 2, 7, 0)]), (7, [(.iload_n 2, 8, 0), (.ifCond .lt 34, 11, 42), (.aload_n 0, 12, 0), (.getfield 71, 15, 0), (.iload_n 2, 16, 0), (.aload_n 0, 17, 0), (.getfield 71, 20, 0), (.iload_n 2, 21, 0), (.iaload, 22, 0), (.aload_n 0, 23, 0), (.getfield 71, 26, 0), (.iload_n 2, 27, 0), (.iconst 1, 28, 0), (.iadd, 29, 0), (.iaload, 30, 0), (.iconst 3, 31, 0), (.iadd, 32, 0), (.invokestatic 179, 35, 0), (.iastore, 36, 0), (.iinc 2 (-1), 39, 0), (.goto (-32), 42, 7)]), (42, [(.aload_n 0, 43, 0), (.iload_n 1, 44, 0), (.invokevirtual 162, 47, 0), (.iconst 1, 48, 0), (.isub, 49, 0), (.istore_n 2, 50, 0)]), (50, [(.iload_n 2, 51, 0), (.ifCond .lt 172, 54, 223), (.aload_n 0, 55, 0), (.iload_n 1, 56, 0), (.iload_n 2, 57, 0), (.invokevirtual 169, 60, 0), (.istore_n 3, 61, 0), (.iconst 0, 62, 0), (.istore 4, 64, 0)]), (64, [(.iload 4, 66, 0), (.aload_n 0, 67, 0), (.getfield 174, 70, 0), (.if_icmp .gt 68, 73, 138), (.aload_n 0, 74, 0), (.getfield 74, 77, 0), (.iload 4, 79, 0), (.aload_n 0, 80, 0), (.getfield 71, 83, 0), (.iload 4, 85, 0), (.iaload, 86, 0), (.iconst 3, 87, 0), (.iadd, 88, 0), (.iastore, 89, 0), (.iload 4, 91, 0), (.aload_n 0, 92, 0), (.getfield 174, 95, 0), (.if_icmp .ge 37, 98, 132), (.aload_n 0, 99, 0), (.getfield 74, 102, 0), (.iload 4, 104, 0), (.aload_n 0, 105, 0), (.getfield 74, 108, 0), (.iload 4, 110, 0), (.iaload, 111, 0), (.aload_n 0, 112, 0), (.getfield 71, 115, 0), (.iload 4, 117, 0), (.iconst 1, 118, 0), (.iadd, 119, 0), (.iaload, 120, 0), (.aload_n 0, 121, 0), (.iload 4, 123, 0), (.iload_n 3, 124, 0), (.invokevirtual 182, 127, 0), (.iadd, 128, 0), (.invokestatic 179, 131, 0), (.iastore, 132, 0)]), (132, [(.iinc 4 1, 135, 0), (.goto (-71), 138, 64)]), (138, [(.aload_n 0, 139, 0), (.getfield 174, 142, 0), (.iconst 1, 143, 0), (.isub, 144, 0), (.istore 4, 146, 0)]), (146, [(.iload 4, 148, 0), (.ifCond .lt 37, 151, 185), (.aload_n 0, 152, 0), (.getfield 74, 155, 0), (.iload 4, 157, 0), (.aload_n 0, 158, 0), (.getfield 74, 161, 0), (.iload 4, 163, 0), (.iaload, 164, 0), (.aload_n 0, 165, 0), (.getfield 74, 168, 0), (.iload 4, 170, 0), (.iconst 1, 171, 0), (.iadd, 172, 0), (.iaload, 173, 0), (.iconst 3, 174, 0), (.iadd, 175, 0), (.invokestatic 179, 178, 0), (.iastore, 179, 0), (.iinc 4 (-1), 182, 0), (.goto (-36), 185, 146)]), (185, [(.iconst 0, 186, 0), (.istore 4, 188, 0)]), (188, [(.iload 4, 190, 0), (.aload_n 0, 191, 0), (.getfield 174, 194, 0), (.if_icmp .gt 23, 197, 217), (.aload_n 0, 198, 0), (.getfield 71, 201, 0), (.iload 4, 203, 0), (.aload_n 0, 204, 0), (.getfield 74, 207, 0), (.iload 4, 209, 0), (.iaload, 210, 0), (.iastore, 211, 0), (.iinc 4 1, 214, 0), (.goto (-26), 217, 188)]), (217, [(.iinc 2 (-1), 220, 0), (.goto (-170), 223, 50)]), (223, [(.return_, 224, 0)])]
theorem k_M_ahead : xck prog_9_method_32_code b_M_ahead = true := by decide +kernel
abbrev b_M_lesser : xBk := [(0, [(.iload_n 0, 1, 0), (.iload_n 1, 2, 0), (.if_icmp .ge 7, 5, 9), (.iload_n 0, 6, 0), (.goto 4, 9, 10)]), (9, [(.iload_n 1, 10, 0)]), (10, [(.ireturn, 11, 0)])]
theorem k_M_lesser : xck prog_9_method_30_code b_M_lesser = true := by decide +kernel
abbrev b_M_off : xBk := [(0, [(.aload_n 0, 1, 0), (.getfield 44, 4, 0), (.iload_n 1, 5, 0), (.iaload, 6, 0), (.iconst (-1), 7, 0), (.if_icmp .eq 13, 10, 20), (.aload_n 0, 11, 0), (.getfield 44, 14, 0), (.iload_n 1, 15, 0), (.iaload, 16, 0), (.iload_n 2, 17, 0), (.if_icmp .ne 7, 20, 24)]), (20, [(.iconst 0, 21, 0), (.goto 4, 24, 25)]), (24, [(.iconst 2, 25, 0)]), (25, [(.ireturn, 26, 0)])]
theorem k_M_off : xck prog_9_method_31_code b_M_off = true := by decide +kernel
abbrev b_M_behind : xBk := [(0, [(.iconst 1, 1, 0), (.istore_n 2, 2, 0)]), (2, [(.iload_n 2, 3, 0), (.aload_n 0, 4, 0), (.getfield 174, 7, 0), (.if_icmp .gt 34, 10, 41), (.aload_n 0, 11, 0), (.getfield 71, 14, 0), (.iload_n 2, 15, 0), (.aload_n 0, 16, 0), (.getfield 71, 19, 0), (.iload_n 2, 20, 0), (.iaload, 21, 0), (.aload_n 0, 22, 0), (.getfield 71, 25, 0), (.iload_n 2, 26, 0), (.iconst 1, 27, 0), (.isub, 28, 0), (.iaload, 29, 0), (.iconst 3, 30, 0), (.iadd, 31, 0), (.invokestatic 179, 34, 0), (.iastore, 35, 0), (.iinc 2 1, 38, 0), (.goto (-36), 41, 2)]), (41, [(.aload_n 0, 42, 0), (.iload_n 1, 43, 0), (.invokevirtual 162, 46, 0), (.istore_n 2, 47, 0), (.iconst 0, 48, 0), (.istore_n 3, 49, 0)]), (49, [(.iload_n 3, 50, 0), (.iload_n 2, 51, 0), (.if_icmp .ge 171, 54, 222), (.aload_n 0, 55, 0), (.iload_n 1, 56, 0), (.iload_n 3, 57, 0), (.invokevirtual 169, 60, 0), (.istore 4, 62, 0), (.iconst 0, 63, 0), (.istore 5, 65, 0)]), (65, [(.iload 5, 67, 0), (.aload_n 0, 68, 0), (.getfield 174, 71, 0), (.if_icmp .gt 67, 74, 138), (.aload_n 0, 75, 0), (.getfield 74, 78, 0), (.iload 5, 80, 0), (.aload_n 0, 81, 0), (.getfield 71, 84, 0), (.iload 5, 86, 0), (.iaload, 87, 0), (.iconst 3, 88, 0), (.iadd, 89, 0), (.iastore, 90, 0), (.iload 5, 92, 0), (.ifCond .le 40, 95, 132), (.aload_n 0, 96, 0), (.getfield 74, 99, 0), (.iload 5, 101, 0), (.aload_n 0, 102, 0), (.getfield 74, 105, 0), (.iload 5, 107, 0), (.iaload, 108, 0), (.aload_n 0, 109, 0), (.getfield 71, 112, 0), (.iload 5, 114, 0), (.iconst 1, 115, 0), (.isub, 116, 0), (.iaload, 117, 0), (.aload_n 0, 118, 0), (.iload 5, 120, 0), (.iconst 1, 121, 0), (.isub, 122, 0), (.iload 4, 124, 0), (.invokevirtual 182, 127, 0), (.iadd, 128, 0), (.invokestatic 179, 131, 0), (.iastore, 132, 0)]), (132, [(.iinc 5 1, 135, 0), (.goto (-70), 138, 65)]), (138, [(.iconst 1, 139, 0), (.istore 5, 141, 0)]), (141, [(.iload 5, 143, 0), (.aload_n 0, 144, 0), (.getfield 174, 147, 0), (.if_icmp .gt 37, 150, 184), (.aload_n 0, 151, 0), (.getfield 74, 154, 0), (.iload 5, 156, 0), (.aload_n 0, 157, 0), (.getfield 74, 160, 0), (.iload 5, 162, 0), (.iaload, 163, 0), (.aload_n 0, 164, 0), (.getfield 74, 167, 0), (.iload 5, 169, 0), (.iconst 1, 170, 0), (.isub, 171, 0), (.iaload, 172, 0), (.iconst 3, 173, 0), (.iadd, 174, 0), (.invokestatic 179, 177, 0), (.iastore, 178, 0), (.iinc 5 1, 181, 0), (.goto (-40), 184, 141)]), (184, [(.iconst 0, 185, 0), (.istore 5, 187, 0)]), (187, [(.iload 5, 189, 0), (.aload_n 0, 190, 0), (.getfield 174, 193, 0), (.if_icmp .gt 23, 196, 216), (.aload_n 0, 197, 0), (.getfield 71, 200, 0), (.iload 5, 202, 0), (.aload_n 0, 203, 0), (.getfield 74, 206, 0), (.iload 5, 208, 0), (.iaload, 209, 0), (.iastore, 210, 0), (.iinc 5 1, 213, 0), (.goto (-26), 216, 187)]), (216, [(.iinc 3 1, 219, 0), (.goto (-170), 222, 49)]), (222, [(.return_, 223, 0)])]
theorem k_M_behind : xck prog_9_method_33_code b_M_behind = true := by decide +kernel
abbrev b_M_readAt : xBk := [(0, [(.iload_n 1, 1, 0), (.i2l, 2, 0), (.lconst 0, 3, 0), (.aload_n 0, 4, 0), (.getfield 201, 7, 0), (.iconst 1, 8, 0), (.isub, 9, 0), (.i2l, 10, 0), (.invokestatic 107, 13, 0), (.ifCond .eq 12, 16, 25), (.aload_n 0, 17, 0), (.getfield 47, 20, 0), (.iload_n 1, 21, 0), (.iaload, 22, 0), (.goto 4, 25, 26)]), (25, [(.iconst (-1), 26, 0)]), (26, [(.ireturn, 27, 0)])]
theorem k_M_readAt : xck prog_9_method_37_code b_M_readAt = true := by decide +kernel
abbrev b_M_doubt : xBk := [(0, [(.iload_n 1, 1, 0), (.ifCond .ge 6, 4, 7), (.bipush (-2), 6, 0), (.ireturn, 7, 0)]), (7, [(.aload_n 0, 8, 0), (.invokevirtual 157, 11, 0), (.ifCond .ne 6, 14, 17), (.bipush (-3), 16, 0), (.ireturn, 17, 0)]), (17, [(.aload_n 0, 18, 0), (.invokevirtual 198, 21, 0), (.istore_n 2, 22, 0), (.iload_n 1, 23, 0), (.aload_n 0, 24, 0), (.getfield 189, 27, 0), (.if_icmp .lt 8, 30, 35), (.bipush (-2), 32, 0), (.goto 9, 35, 41)]), (35, [(.aload_n 0, 36, 0), (.iload_n 1, 37, 0), (.iload_n 2, 38, 0), (.invokevirtual 207, 41, 0)]), (41, [(.ireturn, 42, 0)])]
theorem k_M_doubt : xck prog_9_method_40_code b_M_doubt = true := by decide +kernel
abbrev b_M_doubtOf : xBk := [(0, [(.ldc 161, 2, 0), (.istore_n 3, 3, 0), (.iconst 0, 4, 0), (.istore 4, 6, 0)]), (6, [(.iload 4, 8, 0), (.aload_n 0, 9, 0), (.getfield 115, 12, 0), (.if_icmp .ge 43, 15, 55), (.aload_n 0, 16, 0), (.getfield 41, 19, 0), (.iload 4, 21, 0), (.iaload, 22, 0), (.iconst (-1), 23, 0), (.if_icmp .eq 26, 26, 49), (.iload 4, 28, 0), (.aload_n 0, 29, 0), (.getfield 77, 32, 0), (.iload_n 1, 33, 0), (.iaload, 34, 0), (.if_icmp .eq 15, 37, 49), (.iload_n 3, 38, 0), (.aload_n 0, 39, 0), (.iload_n 1, 40, 0), (.iload 4, 42, 0), (.invokevirtual 204, 45, 0), (.invokestatic 179, 48, 0), (.istore_n 3, 49, 0)]), (49, [(.iinc 4 1, 52, 0), (.goto (-46), 55, 6)]), (55, [(.iload_n 3, 56, 0), (.ldc 161, 58, 0), (.if_icmp .ne 7, 61, 65), (.iconst (-1), 62, 0), (.goto 6, 65, 68)]), (65, [(.iload_n 3, 66, 0), (.iload_n 2, 67, 0), (.isub, 68, 0)]), (68, [(.ireturn, 69, 0)])]
theorem k_M_doubtOf : xck prog_9_method_39_code b_M_doubtOf = true := by decide +kernel
abbrev b_M_offWith : xBk := [(0, [(.iconst 0, 1, 0), (.istore_n 3, 2, 0)]), (2, [(.iload_n 3, 3, 0), (.aload_n 0, 4, 0), (.getfield 174, 7, 0), (.if_icmp .gt 18, 10, 25), (.aload_n 0, 11, 0), (.getfield 71, 14, 0), (.iload_n 3, 15, 0), (.iconst 3, 16, 0), (.iload_n 3, 17, 0), (.imul, 18, 0), (.iastore, 19, 0), (.iinc 3 1, 22, 0), (.goto (-20), 25, 2)]), (25, [(.iconst 0, 26, 0), (.istore_n 3, 27, 0)]), (27, [(.iload_n 3, 28, 0), (.aload_n 0, 29, 0), (.getfield 189, 32, 0), (.if_icmp .ge 28, 35, 60), (.aload_n 0, 36, 0), (.iload_n 3, 37, 0), (.iload_n 1, 38, 0), (.if_icmp .ne 7, 41, 45), (.iload_n 2, 42, 0), (.goto 9, 45, 51)]), (45, [(.aload_n 0, 46, 0), (.getfield 77, 49, 0), (.iload_n 3, 50, 0), (.iaload, 51, 0)]), (51, [(.invokevirtual 195, 54, 0), (.iinc 3 1, 57, 0), (.goto (-30), 60, 27)]), (60, [(.aload_n 0, 61, 0), (.getfield 71, 64, 0), (.aload_n 0, 65, 0), (.getfield 174, 68, 0), (.iaload, 69, 0), (.ireturn, 70, 0)])]
theorem k_M_offWith : xck prog_9_method_38_code b_M_offWith = true := by decide +kernel
abbrev b_M_most : xBk := [(0, [(.aload_n 0, 1, 0), (.invokevirtual 157, 4, 0), (.ifCond .ne 6, 7, 10), (.bipush (-3), 9, 0), (.ireturn, 10, 0)]), (10, [(.aload_n 0, 11, 0), (.invokevirtual 198, 14, 0), (.istore_n 1, 15, 0), (.iconst (-1), 16, 0), (.istore_n 2, 17, 0), (.ldc 161, 19, 0), (.istore_n 3, 20, 0), (.iconst 0, 21, 0), (.istore 4, 23, 0)]), (23, [(.iload 4, 25, 0), (.aload_n 0, 26, 0), (.getfield 189, 29, 0), (.if_icmp .ge 36, 32, 65), (.aload_n 0, 33, 0), (.iload 4, 35, 0), (.iload_n 1, 36, 0), (.invokevirtual 207, 39, 0), (.istore 5, 41, 0), (.iload 5, 43, 0), (.iconst (-1), 44, 0), (.if_icmp .eq 15, 47, 59), (.iload 5, 49, 0), (.iload_n 3, 50, 0), (.if_icmp .ge 9, 53, 59), (.iload 5, 55, 0), (.istore_n 3, 56, 0), (.iload 4, 58, 0), (.istore_n 2, 59, 0)]), (59, [(.iinc 4 1, 62, 0), (.goto (-39), 65, 23)]), (65, [(.iload_n 2, 66, 0), (.ireturn, 67, 0)])]
theorem k_M_most : xck prog_9_method_41_code b_M_most = true := by decide +kernel
abbrev b_M_hill : xBk := [(0, [(.iload_n 1, 1, 0), (.invokestatic 212, 4, 0), (.ifCond .eq 40, 7, 44), (.iload_n 2, 8, 0), (.invokestatic 212, 11, 0), (.ifCond .eq 33, 14, 44), (.iload_n 1, 15, 0), (.iload_n 2, 16, 0), (.if_icmp .eq 28, 19, 44), (.iload_n 3, 20, 0), (.i2l, 21, 0), (.lconst 0, 22, 0), (.ldc2_w 215, 25, 0), (.invokestatic 107, 28, 0), (.ifCond .eq 16, 31, 44), (.iload 4, 33, 0), (.i2l, 34, 0), (.lconst 1, 35, 0), (.ldc2_w 217, 38, 0), (.invokestatic 107, 41, 0), (.ifCond .ne 6, 44, 47)]), (44, [(.bipush (-2), 46, 0), (.ireturn, 47, 0)]), (47, [(.aload_n 0, 48, 0), (.getfield 50, 51, 0), (.bipush 6, 53, 0), (.iload_n 1, 54, 0), (.imul, 55, 0), (.iload_n 2, 56, 0), (.iadd, 57, 0), (.iload_n 3, 58, 0), (.iastore, 59, 0), (.aload_n 0, 60, 0), (.getfield 53, 63, 0), (.bipush 6, 65, 0), (.iload_n 1, 66, 0), (.imul, 67, 0), (.iload_n 2, 68, 0), (.iadd, 69, 0), (.iload 4, 71, 0), (.iastore, 72, 0), (.iconst 1, 73, 0), (.ireturn, 74, 0)])]
theorem k_M_hill : xck prog_9_method_43_code b_M_hill = true := by decide +kernel
abbrev b_M_isHill : xBk := [(0, [(.iload_n 0, 1, 0), (.i2l, 2, 0), (.lconst 0, 3, 0), (.ldc2_w 210, 6, 0), (.invokestatic 107, 9, 0), (.ireturn, 10, 0)])]
theorem k_M_isHill : xck prog_9_method_42_code b_M_isHill = true := by decide +kernel
abbrev b_M_way : xBk := [(0, [(.iload_n 1, 1, 0), (.iload_n 2, 2, 0), (.invokestatic 230, 5, 0), (.ifCond .ne 6, 8, 11), (.bipush (-2), 10, 0), (.ireturn, 11, 0)]), (11, [(.aload_n 0, 12, 0), (.iload_n 1, 13, 0), (.iload_n 2, 14, 0), (.invokevirtual 233, 17, 0), (.aload_n 0, 18, 0), (.getfield 219, 21, 0), (.ifCond .ne 7, 24, 28), (.iconst (-1), 25, 0), (.goto 7, 28, 32)]), (28, [(.aload_n 0, 29, 0), (.getfield 219, 32, 0)]), (32, [(.ireturn, 33, 0)])]
theorem k_M_way : xck prog_9_method_46_code b_M_way = true := by decide +kernel
abbrev b_M_areHills : xBk := [(0, [(.iload_n 0, 1, 0), (.invokestatic 212, 4, 0), (.ifCond .eq 19, 7, 23), (.iload_n 1, 8, 0), (.invokestatic 212, 11, 0), (.ifCond .eq 12, 14, 23), (.iload_n 0, 15, 0), (.iload_n 1, 16, 0), (.if_icmp .eq 7, 19, 23), (.iconst 1, 20, 0), (.goto 4, 23, 24)]), (23, [(.iconst 0, 24, 0)]), (24, [(.ireturn, 25, 0)])]
theorem k_M_areHills : xck prog_9_method_45_code b_M_areHills = true := by decide +kernel
abbrev b_M_look : xBk := [(0, [(.aload_n 0, 1, 0), (.iconst 0, 2, 0), (.putfield 219, 5, 0), (.aload_n 0, 6, 0), (.iconst 0, 7, 0), (.putfield 222, 10, 0), (.aload_n 0, 11, 0), (.iconst 0, 12, 0), (.putfield 225, 15, 0), (.iconst 0, 16, 0), (.istore_n 3, 17, 0), (.aload_n 0, 18, 0), (.getfield 86, 21, 0), (.iconst 0, 22, 0), (.iload_n 1, 23, 0), (.iastore, 24, 0), (.aload_n 0, 25, 0), (.getfield 89, 28, 0), (.iconst 0, 29, 0), (.iconst 0, 30, 0), (.iastore, 31, 0), (.aload_n 0, 32, 0), (.getfield 92, 35, 0), (.iconst 0, 36, 0), (.ldc2_w 228, 39, 0), (.lastore, 40, 0), (.aload_n 0, 41, 0), (.getfield 96, 44, 0), (.iconst 0, 45, 0), (.iconst 0, 46, 0), (.iastore, 47, 0)]), (47, [(.iload_n 3, 48, 0), (.ifCond .lt 275, 51, 323), (.aload_n 0, 52, 0), (.getfield 89, 55, 0), (.iload_n 3, 56, 0), (.iaload, 57, 0), (.istore 4, 59, 0), (.iload 4, 61, 0), (.bipush 6, 63, 0), (.if_icmp .ne 9, 66, 72), (.iinc 3 (-1), 69, 0), (.goto 251, 72, 320)]), (72, [(.aload_n 0, 73, 0), (.getfield 89, 76, 0), (.iload_n 3, 77, 0), (.dup2, 78, 0), (.iaload, 79, 0), (.iconst 1, 80, 0), (.iadd, 81, 0), (.iastore, 82, 0), (.iconst 1, 83, 0), (.istore 5, 85, 0), (.iconst 0, 86, 0), (.istore 6, 88, 0)]), (88, [(.iload 6, 90, 0), (.iload_n 3, 91, 0), (.if_icmp .gt 33, 94, 124), (.iload 5, 96, 0), (.ifCond .eq 19, 99, 115), (.aload_n 0, 100, 0), (.getfield 86, 103, 0), (.iload 6, 105, 0), (.iaload, 106, 0), (.iload 4, 108, 0), (.if_icmp .eq 7, 111, 115), (.iconst 1, 112, 0), (.goto 4, 115, 116)]), (115, [(.iconst 0, 116, 0)]), (116, [(.istore 5, 118, 0), (.iinc 6 1, 121, 0), (.goto (-33), 124, 88)]), (124, [(.iload 5, 126, 0), (.ifCond .eq 194, 129, 320), (.bipush 6, 131, 0), (.aload_n 0, 132, 0), (.getfield 86, 135, 0), (.iload_n 3, 136, 0), (.iaload, 137, 0), (.imul, 138, 0), (.iload 4, 140, 0), (.iadd, 141, 0), (.istore 6, 143, 0), (.aload_n 0, 144, 0), (.getfield 92, 147, 0), (.iload_n 3, 148, 0), (.laload, 149, 0), (.aload_n 0, 150, 0), (.getfield 50, 153, 0), (.iload 6, 155, 0), (.iaload, 156, 0), (.i2l, 157, 0), (.lmul, 158, 0), (.ldc2_w 215, 161, 0), (.ldiv, 162, 0), (.lstore 7, 164, 0), (.aload_n 0, 165, 0), (.getfield 96, 168, 0), (.iload_n 3, 169, 0), (.iaload, 170, 0), (.aload_n 0, 171, 0), (.getfield 53, 174, 0), (.iload 6, 176, 0), (.iaload, 177, 0), (.iadd, 178, 0), (.istore 9, 180, 0), (.iload 4, 182, 0), (.iload_n 2, 183, 0), (.if_icmp .eq 40, 186, 223), (.iinc 3 1, 189, 0), (.aload_n 0, 190, 0), (.getfield 86, 193, 0), (.iload_n 3, 194, 0), (.iload 4, 196, 0), (.iastore, 197, 0), (.aload_n 0, 198, 0), (.getfield 89, 201, 0), (.iload_n 3, 202, 0), (.iconst 0, 203, 0), (.iastore, 204, 0), (.aload_n 0, 205, 0), (.getfield 92, 208, 0), (.iload_n 3, 209, 0), (.lload 7, 211, 0), (.lastore, 212, 0), (.aload_n 0, 213, 0), (.getfield 96, 216, 0), (.iload_n 3, 217, 0), (.iload 9, 219, 0), (.iastore, 220, 0), (.goto 100, 223, 320)]), (223, [(.lload 7, 225, 0), (.aload_n 0, 226, 0), (.getfield 219, 229, 0), (.i2l, 230, 0), (.lcmp, 231, 0), (.ifCond .gt 30, 234, 261), (.lload 7, 236, 0), (.lconst 0, 237, 0), (.lcmp, 238, 0), (.ifCond .le 82, 241, 320), (.lload 7, 243, 0), (.aload_n 0, 244, 0), (.getfield 219, 247, 0), (.i2l, 248, 0), (.lcmp, 249, 0), (.ifCond .ne 71, 252, 320), (.iload 9, 254, 0), (.aload_n 0, 255, 0), (.getfield 222, 258, 0), (.if_icmp .ge 62, 261, 320)]), (261, [(.aload_n 0, 262, 0), (.lload 7, 264, 0), (.l2i, 265, 0), (.putfield 219, 268, 0), (.aload_n 0, 269, 0), (.iload 9, 271, 0), (.putfield 222, 274, 0), (.aload_n 0, 275, 0), (.iload_n 3, 276, 0), (.iconst 1, 277, 0), (.iadd, 278, 0), (.putfield 225, 281, 0), (.iconst 0, 282, 0), (.istore 10, 284, 0)]), (284, [(.iload 10, 286, 0), (.iload_n 3, 287, 0), (.if_icmp .gt 23, 290, 310), (.aload_n 0, 291, 0), (.getfield 83, 294, 0), (.iload 10, 296, 0), (.aload_n 0, 297, 0), (.getfield 86, 300, 0), (.iload 10, 302, 0), (.iaload, 303, 0), (.iastore, 304, 0), (.iinc 10 1, 307, 0), (.goto (-23), 310, 284)]), (310, [(.aload_n 0, 311, 0), (.getfield 83, 314, 0), (.aload_n 0, 315, 0), (.getfield 225, 318, 0), (.iload_n 2, 319, 0), (.iastore, 320, 0)]), (320, [(.goto (-273), 323, 47)]), (323, [(.return_, 324, 0)])]
theorem k_M_look : xck prog_9_method_44_code b_M_look = true := by decide +kernel
abbrev b_M_wayAt : xBk := [(0, [(.iload_n 1, 1, 0), (.iload_n 2, 2, 0), (.invokestatic 230, 5, 0), (.ifCond .ne 6, 8, 11), (.bipush (-2), 10, 0), (.ireturn, 11, 0)]), (11, [(.aload_n 0, 12, 0), (.iload_n 1, 13, 0), (.iload_n 2, 14, 0), (.invokevirtual 233, 17, 0), (.aload_n 0, 18, 0), (.getfield 219, 21, 0), (.ifCond .le 26, 24, 47), (.iload_n 3, 25, 0), (.i2l, 26, 0), (.lconst 0, 27, 0), (.aload_n 0, 28, 0), (.getfield 225, 31, 0), (.i2l, 32, 0), (.invokestatic 107, 35, 0), (.ifCond .eq 12, 38, 47), (.aload_n 0, 39, 0), (.getfield 83, 42, 0), (.iload_n 3, 43, 0), (.iaload, 44, 0), (.goto 4, 47, 48)]), (47, [(.iconst (-1), 48, 0)]), (48, [(.ireturn, 49, 0)])]
theorem k_M_wayAt : xck prog_9_method_47_code b_M_wayAt = true := by decide +kernel
abbrev b_M_age : xBk := [(0, [(.iload_n 1, 1, 0), (.iload_n 2, 2, 0), (.invokestatic 230, 5, 0), (.ifCond .ne 6, 8, 11), (.bipush (-2), 10, 0), (.ireturn, 11, 0)]), (11, [(.aload_n 0, 12, 0), (.iload_n 1, 13, 0), (.iload_n 2, 14, 0), (.invokevirtual 233, 17, 0), (.aload_n 0, 18, 0), (.getfield 219, 21, 0), (.ifCond .ne 7, 24, 28), (.iconst (-1), 25, 0), (.goto 7, 28, 32)]), (28, [(.aload_n 0, 29, 0), (.getfield 222, 32, 0)]), (32, [(.ireturn, 33, 0)])]
theorem k_M_age : xck prog_9_method_48_code b_M_age = true := by decide +kernel
abbrev b_M_enough : xBk := [(0, [(.iload_n 1, 1, 0), (.iload_n 2, 2, 0), (.invokestatic 230, 5, 0), (.ifCond .eq 25, 8, 30), (.iload_n 3, 9, 0), (.i2l, 10, 0), (.lconst 1, 11, 0), (.ldc2_w 228, 14, 0), (.invokestatic 107, 17, 0), (.ifCond .eq 13, 20, 30), (.aload_n 0, 21, 0), (.iload_n 1, 22, 0), (.iload_n 2, 23, 0), (.iload_n 3, 24, 0), (.invokevirtual 237, 27, 0), (.goto 5, 30, 32)]), (30, [(.bipush (-2), 32, 0)]), (32, [(.ireturn, 33, 0)])]
theorem k_M_enough : xck prog_9_method_50_code b_M_enough = true := by decide +kernel
abbrev b_M_enoughFor : xBk := [(0, [(.aload_n 0, 1, 0), (.iload_n 1, 2, 0), (.iload_n 2, 3, 0), (.invokevirtual 233, 6, 0), (.aload_n 0, 7, 0), (.getfield 219, 10, 0), (.ifCond .ne 5, 13, 15), (.iconst (-1), 14, 0), (.ireturn, 15, 0)]), (15, [(.iconst (-1), 16, 0), (.istore 4, 18, 0), (.iconst 0, 19, 0), (.istore 5, 21, 0)]), (21, [(.iload 5, 23, 0), (.aload_n 0, 24, 0), (.getfield 225, 27, 0), (.if_icmp .ge 17, 30, 44), (.aload_n 0, 31, 0), (.getfield 99, 34, 0), (.iload 5, 36, 0), (.iconst 1, 37, 0), (.iastore, 38, 0), (.iinc 5 1, 41, 0), (.goto (-20), 44, 21)]), (44, [(.iconst 1, 45, 0), (.istore 5, 47, 0)]), (47, [(.iload 5, 49, 0), (.ifCond .eq 257, 52, 306), (.ldc2_w 228, 55, 0), (.lstore 6, 57, 0), (.iconst 0, 58, 0), (.istore 8, 60, 0), (.iconst 0, 61, 0), (.istore 9, 63, 0)]), (63, [(.iload 9, 65, 0), (.aload_n 0, 66, 0), (.getfield 225, 69, 0), (.if_icmp .ge 111, 72, 180), (.bipush 6, 74, 0), (.aload_n 0, 75, 0), (.getfield 83, 78, 0), (.iload 9, 80, 0), (.iaload, 81, 0), (.imul, 82, 0), (.aload_n 0, 83, 0), (.getfield 83, 86, 0), (.iload 9, 88, 0), (.iconst 1, 89, 0), (.iadd, 90, 0), (.iaload, 91, 0), (.iadd, 92, 0), (.istore 10, 94, 0), (.lconst 1, 95, 0), (.lstore 11, 97, 0), (.iconst 0, 98, 0), (.istore 13, 100, 0)]), (100, [(.iload 13, 102, 0), (.iconst 3, 103, 0), (.if_icmp .ge 44, 106, 147), (.lload 11, 108, 0), (.iload 13, 110, 0), (.aload_n 0, 111, 0), (.getfield 99, 114, 0), (.iload 9, 116, 0), (.iaload, 117, 0), (.if_icmp .ge 18, 120, 135), (.sipush 1000, 123, 0), (.aload_n 0, 124, 0), (.getfield 50, 127, 0), (.iload 10, 129, 0), (.iaload, 130, 0), (.isub, 131, 0), (.i2l, 132, 0), (.goto 6, 135, 138)]), (135, [(.ldc2_w 215, 138, 0)]), (138, [(.lmul, 139, 0), (.lstore 11, 141, 0), (.iinc 13 1, 144, 0), (.goto (-44), 147, 100)]), (147, [(.lload 6, 149, 0), (.ldc2_w 228, 152, 0), (.lload 11, 154, 0), (.lsub, 155, 0), (.lmul, 156, 0), (.ldc2_w 228, 159, 0), (.ldiv, 160, 0), (.lstore 6, 162, 0), (.iload 8, 164, 0), (.aload_n 0, 165, 0), (.getfield 99, 168, 0), (.iload 9, 170, 0), (.iaload, 171, 0), (.iadd, 172, 0), (.istore 8, 174, 0), (.iinc 9 1, 177, 0), (.goto (-114), 180, 63)]), (180, [(.lload 6, 182, 0), (.iload_n 3, 183, 0), (.i2l, 184, 0), (.lcmp, 185, 0), (.ifCond .lt 52, 188, 237), (.iload 4, 190, 0), (.iconst (-1), 191, 0), (.if_icmp .eq 10, 194, 201), (.iload 8, 196, 0), (.iload 4, 198, 0), (.if_icmp .ge 39, 201, 237)]), (201, [(.iload 8, 203, 0), (.istore 4, 205, 0), (.iconst 0, 206, 0), (.istore 9, 208, 0)]), (208, [(.iload 9, 210, 0), (.aload_n 0, 211, 0), (.getfield 225, 214, 0), (.if_icmp .ge 23, 217, 237), (.aload_n 0, 218, 0), (.getfield 102, 221, 0), (.iload 9, 223, 0), (.aload_n 0, 224, 0), (.getfield 99, 227, 0), (.iload 9, 229, 0), (.iaload, 230, 0), (.iastore, 231, 0), (.iinc 9 1, 234, 0), (.goto (-26), 237, 208)]), (237, [(.aload_n 0, 238, 0), (.getfield 225, 241, 0), (.iconst 1, 242, 0), (.isub, 243, 0), (.istore 9, 245, 0)]), (245, [(.iload 9, 247, 0), (.ifCond .lt 28, 250, 275), (.aload_n 0, 251, 0), (.getfield 99, 254, 0), (.iload 9, 256, 0), (.iaload, 257, 0), (.iconst 3, 258, 0), (.if_icmp .ne 17, 261, 275), (.aload_n 0, 262, 0), (.getfield 99, 265, 0), (.iload 9, 267, 0), (.iconst 1, 268, 0), (.iastore, 269, 0), (.iinc 9 (-1), 272, 0), (.goto (-27), 275, 245)]), (275, [(.iload 9, 277, 0), (.ifCond .lt 7, 280, 284), (.iconst 1, 281, 0), (.goto 4, 284, 285)]), (284, [(.iconst 0, 285, 0)]), (285, [(.istore 5, 287, 0), (.iload 5, 289, 0), (.ifCond .eq 14, 292, 303), (.aload_n 0, 293, 0), (.getfield 99, 296, 0), (.iload 9, 298, 0), (.dup2, 299, 0), (.iaload, 300, 0), (.iconst 1, 301, 0), (.iadd, 302, 0), (.iastore, 303, 0)]), (303, [(.goto (-256), 306, 47)]), (306, [(.iload 4, 308, 0), (.ireturn, 309, 0)])]
theorem k_M_enoughFor : xck prog_9_method_49_code b_M_enoughFor = true := by decide +kernel
abbrev b_M_times : xBk := [(0, [(.iload_n 1, 1, 0), (.iload_n 2, 2, 0), (.invokestatic 230, 5, 0), (.ifCond .eq 15, 8, 20), (.iload_n 3, 9, 0), (.i2l, 10, 0), (.lconst 1, 11, 0), (.ldc2_w 228, 14, 0), (.invokestatic 107, 17, 0), (.ifCond .ne 6, 20, 23)]), (20, [(.bipush (-2), 22, 0), (.ireturn, 23, 0)]), (23, [(.aload_n 0, 24, 0), (.iload_n 1, 25, 0), (.iload_n 2, 26, 0), (.iload_n 3, 27, 0), (.invokevirtual 237, 30, 0), (.iconst (-1), 31, 0), (.if_icmp .eq 30, 34, 61), (.iload 4, 36, 0), (.i2l, 37, 0), (.lconst 0, 38, 0), (.aload_n 0, 39, 0), (.getfield 225, 42, 0), (.iconst 1, 43, 0), (.isub, 44, 0), (.i2l, 45, 0), (.invokestatic 107, 48, 0), (.ifCond .eq 13, 51, 61), (.aload_n 0, 52, 0), (.getfield 102, 55, 0), (.iload 4, 57, 0), (.iaload, 58, 0), (.goto 4, 61, 62)]), (61, [(.iconst (-1), 62, 0)]), (62, [(.ireturn, 63, 0)])]
theorem k_M_times : xck prog_9_method_51_code b_M_times = true := by decide +kernel
abbrev b_M_count : xBk := [(0, [(.iload_n 1, 1, 0), (.i2l, 2, 0), (.lconst 0, 3, 0), (.ldc2_w 241, 6, 0), (.invokestatic 107, 9, 0), (.ifCond .ne 6, 12, 15), (.bipush (-2), 14, 0), (.ireturn, 15, 0)]), (15, [(.iconst 0, 16, 0), (.istore_n 2, 17, 0), (.iconst 0, 18, 0), (.istore_n 3, 19, 0)]), (19, [(.iload_n 3, 20, 0), (.aload_n 0, 21, 0), (.getfield 115, 24, 0), (.if_icmp .ge 31, 27, 55), (.iload_n 2, 28, 0), (.aload_n 0, 29, 0), (.getfield 41, 32, 0), (.iload_n 3, 33, 0), (.iaload, 34, 0), (.iconst (-1), 35, 0), (.if_icmp .ne 7, 38, 42), (.iconst 0, 39, 0), (.goto 8, 42, 47)]), (42, [(.aload_n 0, 43, 0), (.iload_n 3, 44, 0), (.invokevirtual 162, 47, 0)]), (47, [(.iadd, 48, 0), (.istore_n 2, 49, 0), (.iinc 3 1, 52, 0), (.goto (-33), 55, 19)]), (55, [(.iconst 0, 56, 0), (.istore_n 3, 57, 0), (.iconst 0, 58, 0), (.istore 4, 60, 0)]), (60, [(.iload 4, 62, 0), (.aload_n 0, 63, 0), (.getfield 174, 66, 0), (.if_icmp .ge 28, 69, 94), (.iload_n 3, 70, 0), (.aload_n 0, 71, 0), (.getfield 44, 74, 0), (.iload 4, 76, 0), (.iaload, 77, 0), (.iconst (-1), 78, 0), (.if_icmp .ne 7, 81, 85), (.iconst 1, 82, 0), (.goto 4, 85, 86)]), (85, [(.iconst 0, 86, 0)]), (86, [(.iadd, 87, 0), (.istore_n 3, 88, 0), (.iinc 4 1, 91, 0), (.goto (-31), 94, 60)]), (94, [(.iload_n 1, 95, 0), (.ifCond .ne 10, 98, 105), (.aload_n 0, 99, 0), (.getfield 115, 102, 0), (.goto 74, 105, 176)]), (105, [(.iload_n 1, 106, 0), (.iconst 1, 107, 0), (.if_icmp .ne 10, 110, 117), (.aload_n 0, 111, 0), (.getfield 121, 114, 0), (.goto 62, 117, 176)]), (117, [(.iload_n 1, 118, 0), (.iconst 2, 119, 0), (.if_icmp .ne 10, 122, 129), (.aload_n 0, 123, 0), (.getfield 22, 126, 0), (.goto 50, 129, 176)]), (129, [(.iload_n 1, 130, 0), (.iconst 3, 131, 0), (.if_icmp .ne 10, 134, 141), (.aload_n 0, 135, 0), (.invokevirtual 157, 138, 0), (.goto 38, 141, 176)]), (141, [(.iload_n 1, 142, 0), (.iconst 4, 143, 0), (.if_icmp .ne 7, 146, 150), (.iload_n 2, 147, 0), (.goto 29, 150, 176)]), (150, [(.iload_n 1, 151, 0), (.iconst 5, 152, 0), (.if_icmp .ne 10, 155, 162), (.aload_n 0, 156, 0), (.getfield 174, 159, 0), (.goto 17, 162, 176)]), (162, [(.iload_n 1, 163, 0), (.bipush 6, 165, 0), (.if_icmp .ne 7, 168, 172), (.iload_n 3, 169, 0), (.goto 7, 172, 176)]), (172, [(.aload_n 0, 173, 0), (.getfield 201, 176, 0)]), (176, [(.ireturn, 177, 0)])]
theorem k_M_count : xck prog_9_method_52_code b_M_count = true := by decide +kernel
abbrev b_M_digest : xBk := [(0, [(.ldc2_w 243, 3, 0), (.lstore_n 1, 4, 0), (.iconst 0, 5, 0), (.istore_n 3, 6, 0)]), (6, [(.iload_n 3, 7, 0), (.bipush 8, 9, 0), (.if_icmp .ge 22, 12, 31), (.ldc2_w 245, 15, 0), (.lload_n 1, 16, 0), (.lmul, 17, 0), (.aload_n 0, 18, 0), (.iload_n 3, 19, 0), (.invokevirtual 247, 22, 0), (.i2l, 23, 0), (.ladd, 24, 0), (.lstore_n 1, 25, 0), (.iinc 3 1, 28, 0), (.goto (-22), 31, 6)]), (31, [(.iconst 0, 32, 0), (.istore_n 3, 33, 0)]), (33, [(.iload_n 3, 34, 0), (.aload_n 0, 35, 0), (.getfield 115, 38, 0), (.if_icmp .ge 84, 41, 122), (.ldc2_w 245, 44, 0), (.lload_n 1, 45, 0), (.lmul, 46, 0), (.aload_n 0, 47, 0), (.iload_n 3, 48, 0), (.invokevirtual 162, 51, 0), (.i2l, 52, 0), (.ladd, 53, 0), (.lstore_n 1, 54, 0), (.iconst 0, 55, 0), (.istore 4, 57, 0)]), (57, [(.iload 4, 59, 0), (.aload_n 0, 60, 0), (.iload_n 3, 61, 0), (.invokevirtual 162, 64, 0), (.if_icmp .ge 24, 67, 88), (.ldc2_w 245, 70, 0), (.lload_n 1, 71, 0), (.lmul, 72, 0), (.aload_n 0, 73, 0), (.iload_n 3, 74, 0), (.iload 4, 76, 0), (.invokevirtual 169, 79, 0), (.i2l, 80, 0), (.ladd, 81, 0), (.lstore_n 1, 82, 0), (.iinc 4 1, 85, 0), (.goto (-28), 88, 57)]), (88, [(.ldc2_w 245, 91, 0), (.lload_n 1, 92, 0), (.lmul, 93, 0), (.aload_n 0, 94, 0), (.iload_n 3, 95, 0), (.iconst 0, 96, 0), (.invokevirtual 250, 99, 0), (.i2l, 100, 0), (.ladd, 101, 0), (.lstore_n 1, 102, 0), (.ldc2_w 245, 105, 0), (.lload_n 1, 106, 0), (.lmul, 107, 0), (.aload_n 0, 108, 0), (.iload_n 3, 109, 0), (.iconst 1, 110, 0), (.invokevirtual 250, 113, 0), (.i2l, 114, 0), (.ladd, 115, 0), (.lstore_n 1, 116, 0), (.iinc 3 1, 119, 0), (.goto (-86), 122, 33)]), (122, [(.iconst 0, 123, 0), (.istore_n 3, 124, 0)]), (124, [(.iload_n 3, 125, 0), (.aload_n 0, 126, 0), (.getfield 174, 129, 0), (.if_icmp .ge 23, 132, 152), (.ldc2_w 245, 135, 0), (.lload_n 1, 136, 0), (.lmul, 137, 0), (.aload_n 0, 138, 0), (.getfield 44, 141, 0), (.iload_n 3, 142, 0), (.iaload, 143, 0), (.i2l, 144, 0), (.ladd, 145, 0), (.lstore_n 1, 146, 0), (.iinc 3 1, 149, 0), (.goto (-25), 152, 124)]), (152, [(.iconst 0, 153, 0), (.istore_n 3, 154, 0)]), (154, [(.iload_n 3, 155, 0), (.aload_n 0, 156, 0), (.getfield 201, 159, 0), (.if_icmp .ge 23, 162, 182), (.ldc2_w 245, 165, 0), (.lload_n 1, 166, 0), (.lmul, 167, 0), (.aload_n 0, 168, 0), (.getfield 47, 171, 0), (.iload_n 3, 172, 0), (.iaload, 173, 0), (.i2l, 174, 0), (.ladd, 175, 0), (.lstore_n 1, 176, 0), (.iinc 3 1, 179, 0), (.goto (-25), 182, 154)]), (182, [(.iconst 0, 183, 0), (.istore_n 3, 184, 0)]), (184, [(.iload_n 3, 185, 0), (.bipush 36, 187, 0), (.if_icmp .ge 44, 190, 231), (.iload_n 3, 191, 0), (.bipush 7, 193, 0), (.irem, 194, 0), (.ifCond .eq 31, 197, 225), (.ldc2_w 245, 200, 0), (.lload_n 1, 201, 0), (.lmul, 202, 0), (.aload_n 0, 203, 0), (.getfield 50, 206, 0), (.iload_n 3, 207, 0), (.iaload, 208, 0), (.i2l, 209, 0), (.ladd, 210, 0), (.lstore_n 1, 211, 0), (.ldc2_w 245, 214, 0), (.lload_n 1, 215, 0), (.lmul, 216, 0), (.aload_n 0, 217, 0), (.getfield 53, 220, 0), (.iload_n 3, 221, 0), (.iaload, 222, 0), (.i2l, 223, 0), (.ladd, 224, 0), (.lstore_n 1, 225, 0)]), (225, [(.iinc 3 1, 228, 0), (.goto (-44), 231, 184)]), (231, [(.lload_n 1, 232, 0), (.lreturn, 233, 0)])]
theorem k_M_digest : xck prog_9_method_53_code b_M_digest = true := by decide +kernel
end
section
theorem xmono {l : Launch} {y : MethodName} {ws : List Cond} {rm : Room} {Pc : Array Value → State → Prop} {Qc Qd : Array Value → State → Outcome → State → Prop} {mc ms : Nat} {free : Addr → Prop} (h : Met l y ws rm Pc Qc mc ms free) (hq : ∀ a st o t, Qc a st o t → Qd a st o t) : Met l y ws rm Pc Qd mc ms free := by
  intro p e h1 h2 h3 s m args below hf ha hp hk
  obtain ⟨n, o, a, b, c, d⟩ := h p e h1 h2 h3 s m args below hf ha hp hk
  exact ⟨n, o, a, b, c, hq _ _ _ _ d.1, d.2⟩
/-- the fixed objects of the law: the class and the reference, by the order of their making -/
def xT0 : xT := fun a => cond (Nat.beq a 0) none (cond (Nat.ble 95 a) none (cond (Nat.blt a 48) (cond (Nat.blt a 24) (cond (Nat.blt a 12) (cond (Nat.blt a 6) (cond (Nat.blt a 3) (cond (Nat.blt a 2) (some (.inl (6, [.inl (some 2), .inl (some 23), .inl (some 25), .inl (some 45)]))) (some (.inl (5, [.inl (some 3), .inl (some 6), .inl (some 9), .inl (some 15), .inl (some 16), .inl (some 17), .inr false, .inl (some 18), .inl (some 21), .inl (some 22), .inr false, .inr false])))) (cond (Nat.blt a 4) (some (.inl (3, [.inl (some 4), .inl (some 5), .inr false]))) (cond (Nat.blt a 5) (some (.inr (0, 10, none))) (some (.inr (0, 10, none)))))) (cond (Nat.blt a 9) (cond (Nat.blt a 7) (some (.inl (3, [.inl (some 7), .inl (some 8), .inr false]))) (cond (Nat.blt a 8) (some (.inr (0, 5, none))) (some (.inr (0, 5, none))))) (cond (Nat.blt a 10) (some (.inl (4, [.inl (some 10), .inl (some 13), .inl (some 14)]))) (cond (Nat.blt a 11) (some (.inl (3, [.inl (some 11), .inl (some 12), .inr false]))) (some (.inr (0, 31, none))))))) (cond (Nat.blt a 18) (cond (Nat.blt a 15) (cond (Nat.blt a 13) (some (.inr (0, 31, none))) (cond (Nat.blt a 14) (some (.inr (0, 31, none))) (some (.inr (0, 31, none))))) (cond (Nat.blt a 16) (some (.inr (0, 10, none))) (cond (Nat.blt a 17) (some (.inr (0, 10, none))) (some (.inr (0, 10, none)))))) (cond (Nat.blt a 21) (cond (Nat.blt a 19) (some (.inl (3, [.inl (some 19), .inl (some 20), .inr false]))) (cond (Nat.blt a 20) (some (.inr (0, 10, none))) (some (.inr (0, 10, none))))) (cond (Nat.blt a 22) (some (.inr (0, 10, none))) (cond (Nat.blt a 23) (some (.inr (0, 10, none))) (some (.inl (0, [.inl (some 24), .inr false])))))))) (cond (Nat.blt a 36) (cond (Nat.blt a 30) (cond (Nat.blt a 27) (cond (Nat.blt a 25) (some (.inr (0, 60, none))) (cond (Nat.blt a 26) (some (.inl (2, [.inl (some 2), .inl (some 23), .inl (some 26), .inr false, .inl (some 27), .inr false, .inr false, .inl (some 28), .inl (some 42), .inl (some 43), .inl (some 44)]))) (some (.inr (0, 12, none))))) (cond (Nat.blt a 28) (some (.inr (0, 12, none))) (cond (Nat.blt a 29) (some (.inr (2, 13, some (fun j => some (29 + j))))) (some (.inr (0, 61, none)))))) (cond (Nat.blt a 33) (cond (Nat.blt a 31) (some (.inr (0, 61, none))) (cond (Nat.blt a 32) (some (.inr (0, 61, none))) (some (.inr (0, 61, none))))) (cond (Nat.blt a 34) (some (.inr (0, 61, none))) (cond (Nat.blt a 35) (some (.inr (0, 61, none))) (some (.inr (0, 61, none))))))) (cond (Nat.blt a 42) (cond (Nat.blt a 39) (cond (Nat.blt a 37) (some (.inr (0, 61, none))) (cond (Nat.blt a 38) (some (.inr (0, 61, none))) (some (.inr (0, 61, none))))) (cond (Nat.blt a 40) (some (.inr (0, 61, none))) (cond (Nat.blt a 41) (some (.inr (0, 61, none))) (some (.inr (0, 61, none)))))) (cond (Nat.blt a 45) (cond (Nat.blt a 43) (some (.inr (0, 61, none))) (cond (Nat.blt a 44) (some (.inr (0, 61, none))) (some (.inr (0, 61, none))))) (cond (Nat.blt a 46) (some (.inl (1, [.inl (some 46), .inl (some 53), .inl (some 60), .inl (some 61), .inr false, .inr true, .inr false, .inl (some 62), .inl (some 63), .inr false]))) (cond (Nat.blt a 47) (some (.inr (2, 6, some (fun j => some (47 + j))))) (some (.inr (0, 6, none))))))))) (cond (Nat.blt a 71) (cond (Nat.blt a 59) (cond (Nat.blt a 53) (cond (Nat.blt a 50) (cond (Nat.blt a 49) (some (.inr (0, 6, none))) (some (.inr (0, 6, none)))) (cond (Nat.blt a 51) (some (.inr (0, 6, none))) (cond (Nat.blt a 52) (some (.inr (0, 6, none))) (some (.inr (0, 6, none)))))) (cond (Nat.blt a 56) (cond (Nat.blt a 54) (some (.inr (2, 6, some (fun j => some (54 + j))))) (cond (Nat.blt a 55) (some (.inr (0, 6, none))) (some (.inr (0, 6, none))))) (cond (Nat.blt a 57) (some (.inr (0, 6, none))) (cond (Nat.blt a 58) (some (.inr (0, 6, none))) (some (.inr (0, 6, none))))))) (cond (Nat.blt a 65) (cond (Nat.blt a 62) (cond (Nat.blt a 60) (some (.inr (0, 6, none))) (cond (Nat.blt a 61) (some (.inr (0, 6, none))) (some (.inr (0, 6, none))))) (cond (Nat.blt a 63) (some (.inr (0, 6, none))) (cond (Nat.blt a 64) (some (.inr (0, 6, none))) (some (.inl (7, [.inr false, .inl (some 65), .inl (some 66), .inr false, .inl (some 67), .inl (some 68), .inr false, .inl (some 69), .inl (some 70), .inl (some 71), .inl (some 72), .inl (some 73), .inl (some 74), .inr false, .inl (some 75), .inr false, .inl (some 76), .inl (some 77), .inl (some 78), .inl (some 79), .inl (some 80), .inl (some 81), .inl (some 82), .inl (some 83), .inl (some 84), .inl (some 85), .inr false, .inl (some 86), .inl (some 87), .inr false, .inl (some 88), .inr false, .inr false, .inl (some 89), .inl (some 90), .inl (some 91), .inl (some 92), .inl (some 93), .inl (some 94)])))))) (cond (Nat.blt a 68) (cond (Nat.blt a 66) (some (.inr (0, 10, none))) (cond (Nat.blt a 67) (some (.inr (0, 10, none))) (some (.inr (0, 5, none))))) (cond (Nat.blt a 69) (some (.inr (0, 5, none))) (cond (Nat.blt a 70) (some (.inr (0, 10, none))) (some (.inr (0, 310, none)))))))) (cond (Nat.blt a 83) (cond (Nat.blt a 77) (cond (Nat.blt a 74) (cond (Nat.blt a 72) (some (.inr (0, 310, none))) (cond (Nat.blt a 73) (some (.inr (0, 310, none))) (some (.inr (0, 310, none))))) (cond (Nat.blt a 75) (some (.inr (0, 10, none))) (cond (Nat.blt a 76) (some (.inr (0, 60, none))) (some (.inr (0, 12, none)))))) (cond (Nat.blt a 80) (cond (Nat.blt a 78) (some (.inr (0, 36, none))) (cond (Nat.blt a 79) (some (.inr (0, 36, none))) (some (.inr (0, 10, none))))) (cond (Nat.blt a 81) (some (.inr (0, 10, none))) (cond (Nat.blt a 82) (some (.inr (0, 11, none))) (some (.inr (0, 10, none))))))) (cond (Nat.blt a 89) (cond (Nat.blt a 86) (cond (Nat.blt a 84) (some (.inr (0, 793, none))) (cond (Nat.blt a 85) (some (.inr (0, 61, none))) (some (.inr (0, 61, none))))) (cond (Nat.blt a 87) (some (.inr (0, 12, none))) (cond (Nat.blt a 88) (some (.inr (0, 61, none))) (some (.inr (0, 6, none)))))) (cond (Nat.blt a 92) (cond (Nat.blt a 90) (some (.inr (0, 6, none))) (cond (Nat.blt a 91) (some (.inr (0, 6, none))) (some (.inr (1, 6, none))))) (cond (Nat.blt a 93) (some (.inr (0, 6, none))) (cond (Nat.blt a 94) (some (.inr (0, 6, none))) (some (.inr (0, 6, none)))))))))))
/-- a method's contract on the fixed objects: called with as where their numbers are M, at most d frames deep, it comes back, and Q holds of the answer and the new numbers -/
def xm (d : Nat) (μ : xMd) (as : List xV) (M : xM) (Q : Option xV → xM → Prop) : Prop :=
  ∀ (G : xG) (D : Nat → Option xE) (nx : Nat), xCt xT0 G μ d (40 * d) 0 0 as (M, D, nx) (fun r h => ∃ M', h = (M', D, nx) ∧ Q r M')
/-- what a walk of a method's body may use -/
def xWk (d : Nat) (μ : xMd) (tb : xTb) (Q : Option xV → xM → Prop) (D : Nat → Option xE) (nx : Nat) (X : xS) (C : xC) (P : xP) : Prop :=
  (∀ (μ' : xMd) (as : List xV) (M : xM) (rest : List xV) (K : List xV → xH → Nat → Nat → Prop) (dd : Nat), xm dd μ' as M (fun r M' => xrt μ'.2.2.2 r fun w => K (w ++ rest) (M', D, nx) 0 0) → dd < d → μ'.2.2.1 ≤ 21 → xct rest ≤ 8 → C μ' as (M, D, nx) 0 0 rest K) ∧ (∀ r M', Q r M' → P r (M', D, nx)) ∧ xClo μ.2.1 tb xT0 (d, 40 * d, 0, 0) μ.2.2.2 false C P X
theorem xm_of {d : Nat} {μ : xMd} {as : List xV} {M : xM} {Q : Option xV → xM → Prop} {own : String} {tb : xTb} (hcls : μ.1.cls = own) (hpl : plainName own = true) (htb : xTbOk own tb) (L0 : xLs) (hlen : (xen as).length ≤ μ.2.2.1) (hL0 : xen as ++ List.replicate (μ.2.2.1 - (xen as).length) none = L0)
    (body : ∀ (D : Nat → Option xE) (nx : Nat) (X : xS) (C : xC) (P : xP), xWk d μ tb Q D nx X C P → X 0 L0 [] (M, D, nx) 0 0) : xm d μ as M Q := by
  intro G D nx
  refine xCt_of false hcls hpl htb (fun q => by cases q) L0 hlen hL0 fun X C hC hX => body D nx X C _ ⟨?_, fun r M' hq => ⟨M', rfl, hq⟩, hX⟩
  intro μ' as' M1 rest K dd hm hd hml hct
  refine hC _ _ _ _ _ _ _ ⟨hct, dd, 40 * dd, 0, 0, ⟨hd, by show 8 + (μ'.2.2.1 + 11) + 40 * dd ≤ 40 * d; omega, Nat.le_refl _, Nat.le_refl _⟩, ?_⟩
  have h1 := hm G D nx
  intro l
  refine xmono (h1 l) fun a st o t hq => ?_
  obtain ⟨r, h', e1, ⟨M', rfl, hk⟩, e2, e3⟩ := hq
  exact ⟨r, _, e1, hk, e2, e3⟩
/-- from pc on -/
theorem xg {d : Nat} {μ : xMd} {tb : xTb} {Q : Option xV → xM → Prop} {D : Nat → Option xE} {nx : Nat} {X : xS} {C : xC} {P : xP} (hW : xWk d μ tb Q D nx X C P) {B : xBk} (hB : xck μ.2.1 B = true) (cut : List Nat) (f : Nat) {pc : Nat} {L : xLs} {st : List xV} {M : xM} (hs : xsq tb xT0 (d, 40 * d, 0, 0) μ.2.2.2 false C P (xwp tb xT0 (d, 40 * d, 0, 0) μ.2.2.2 false C P cut B X f) (xfd B pc) pc L st (M, D, nx) 0 0) : X pc L st (M, D, nx) 0 0 := xgo hW.2.2 hB cut f hs
end
section
/-! whole numbers' bits: the machine's own operations on small numbers that aren't negative -/
theorem xb_bv (a : Nat) : (Int32.ofInt (a : Int)).toBitVec = BitVec.ofNat 32 a := by
  show BitVec.ofInt 32 (a : Int) = _
  exact BitVec.ofInt_natCast 32 a
theorem xb_int {v : Int32} {n : Nat} (h : v.toBitVec = BitVec.ofNat 32 n) (hn : n < 2 ^ 31) : v.toInt = (n : Int) := by
  show v.toBitVec.toInt = _
  rw [h, BitVec.toInt_eq_toNat_of_lt (by rw [BitVec.toNat_ofNat]; omega), BitVec.toNat_ofNat, Nat.mod_eq_of_lt (by omega)]
theorem xn_and {a b : Nat} (ha : a < 2 ^ 31) : x_iand (a : Int) (b : Int) = ((a &&& b : Nat) : Int) := by
  refine xb_int ?_ (Nat.lt_of_le_of_lt Nat.and_le_left ha)
  rw [Int32.toBitVec_and, xb_bv, xb_bv, BitVec.ofNat_and]
theorem xn_or {a b : Nat} (ha : a < 2 ^ 31) (hb : b < 2 ^ 31) : x_ior (a : Int) (b : Int) = ((a ||| b : Nat) : Int) := by
  refine xb_int ?_ (Nat.or_lt_two_pow ha hb)
  rw [Int32.toBitVec_or, xb_bv, xb_bv, BitVec.ofNat_or]
theorem xn_xor {a b : Nat} (ha : a < 2 ^ 31) (hb : b < 2 ^ 31) : x_ixor (a : Int) (b : Int) = ((a ^^^ b : Nat) : Int) := by
  refine xb_int ?_ (Nat.xor_lt_two_pow ha hb)
  rw [Int32.toBitVec_xor, xb_bv, xb_bv, BitVec.ofNat_xor]
theorem xb_sh : ∀ k : Fin 32, ((Int32.ofInt ((k : Nat) : Int) &&& 31).toBitVec.smod 32) = BitVec.ofNat 32 k := by decide +kernel
theorem xn_shl {a k : Nat} (hk : k < 32) (ha : a * 2 ^ k < 2 ^ 31) : x_ishl (a : Int) (k : Int) = ((a * 2 ^ k : Nat) : Int) := by
  refine xb_int ?_ ha
  rw [Int32.toBitVec_shiftLeft, xb_sh ⟨k, hk⟩, xb_bv]
  apply BitVec.eq_of_toNat_eq
  simp only [BitVec.shiftLeft_eq', BitVec.toNat_shiftLeft, BitVec.toNat_ofNat, Nat.shiftLeft_eq]
  rw [Nat.mod_eq_of_lt (show k < 2 ^ 32 by omega)]
  rw [Nat.mod_mul_mod]
theorem xn_shr {a k : Nat} (hk : k < 32) (ha : a < 2 ^ 31) : x_ishr (a : Int) (k : Int) = ((a >>> k : Nat) : Int) := by
  unfold x_ishr
  show (Int32.ofInt (a : Int) >>> (Int32.ofInt (k : Int) &&& 31)).toBitVec.toInt = _
  rw [Int32.toBitVec_shiftRight, xb_sh ⟨k, hk⟩, xb_bv]
  simp only [BitVec.sshiftRight_eq', BitVec.toInt_sshiftRight, BitVec.toNat_ofNat]
  rw [Nat.mod_eq_of_lt (show k < 2 ^ 32 by omega), BitVec.toInt_eq_toNat_of_lt (by rw [BitVec.toNat_ofNat]; omega), BitVec.toNat_ofNat, Nat.mod_eq_of_lt (show a < 2 ^ 32 by omega)]
  rfl
theorem xn_ushr {a k : Nat} (hk : k < 32) (ha : a < 2 ^ 31) : x_iushr (a : Int) (k : Int) = ((a >>> k : Nat) : Int) := by
  unfold x_iushr
  refine xb_int ?_ (Nat.lt_of_le_of_lt (Nat.shiftRight_le _ _) ha)
  show (((Int32.ofInt (a : Int)).toUInt32 >>> ((Int32.ofInt (k : Int)).toUInt32 &&& Int32.toUInt32 31)).toBitVec) = _
  have e : ∀ k : Fin 32, ((Int32.ofInt ((k : Nat) : Int)).toUInt32.toBitVec &&& (Int32.toUInt32 31).toBitVec) % 32 = BitVec.ofNat 32 k := by decide +kernel
  rw [UInt32.toBitVec_shiftRight, UInt32.toBitVec_and, e ⟨k, hk⟩, show (Int32.ofInt (a : Int)).toUInt32.toBitVec = BitVec.ofNat 32 a from xb_bv a]
  apply BitVec.eq_of_toNat_eq
  simp only [BitVec.ushiftRight_eq', BitVec.toNat_ushiftRight, BitVec.toNat_ofNat]
  rw [Nat.mod_eq_of_lt (show k < 2 ^ 32 by omega), Nat.mod_eq_of_lt (show a < 2 ^ 32 by omega), Nat.mod_eq_of_lt (show a >>> k < 2 ^ 32 from Nat.lt_of_le_of_lt (Nat.shiftRight_le _ _) (by omega))]
/-- how many of the first k bits are ones -/
def onesU (n : Nat) : Nat → Nat
  | 0 => 0
  | k + 1 => onesU n k + (n >>> k) % 2
abbrev ones (n : Nat) : Nat := onesU n 20
/-- v, counted out before it is used -/
def bfc {β : Type} (n : Nat) (f : Nat → β) : β := Nat.rec (f 0) (fun m _ => f (m + 1)) n
theorem bfc_eq {β : Type} (n : Nat) (f : Nat → β) : bfc n f = f n := by cases n <;> rfl
def bcf (n : Nat) : Nat := bfc (n - ((n >>> 1) &&& 1431655765)) fun i => bfc ((i &&& 858993459) + ((i >>> 2) &&& 858993459)) fun i => bfc ((i + (i >>> 4)) &&& 252645135) fun i => bfc (i + (i >>> 8)) fun i => bfc (i + (i >>> 16)) fun i => i &&& 63
def bchk (k : Nat) : Nat → Nat → Bool := Nat.rec (fun v c => bfc v fun v => Nat.beq (bcf v) c) (fun _ ih v c => bfc v fun v => bfc c fun c => and (ih (2 * v) c) (ih (2 * v + 1) (c + 1))) k
theorem onesU_two (n b : Nat) (hb : b < 2) : ∀ k, onesU (2 * n + b) (k + 1) = onesU n k + b
  | 0 => by simp [onesU]; omega
  | k + 1 => by
    rw [onesU, onesU_two n b hb k, onesU, Nat.shiftRight_succ_inside, show (2 * n + b) / 2 = n by omega]
    omega
theorem onesU_small {n : Nat} : ∀ {k j : Nat}, n < 2 ^ k → onesU n (k + j) = onesU n k
  | k, 0, _ => rfl
  | k, j + 1, h => by
    rw [show k + (j + 1) = (k + j) + 1 by omega, onesU, onesU_small h, Nat.shiftRight_eq_div_pow, Nat.div_eq_of_lt (Nat.lt_of_lt_of_le h (Nat.pow_le_pow_right (by decide) (by omega)))]
    rfl
theorem bchk_ok : ∀ (k v c j : Nat), bchk k v c = true → onesU v j = c → ∀ w, w < 2 ^ k → bcf (v * 2 ^ k + w) = onesU (v * 2 ^ k + w) (k + j)
  | 0, v, c, j, h, hc, w, hw => by
    have h1 : (bfc v fun v => Nat.beq (bcf v) c) = true := h
    rw [bfc_eq] at h1
    have h2 := Nat.eq_of_beq_eq_true h1
    have hw0 : w = 0 := by simpa using hw
    subst hw0
    simp only [Nat.pow_zero, Nat.mul_one, Nat.add_zero, Nat.zero_add]
    rw [h2, hc]
  | k + 1, v, c, j, h, hc, w, hw => by
    have h1 : (bfc v fun v => bfc c fun c => and (bchk k (2 * v) c) (bchk k (2 * v + 1) (c + 1))) = true := h
    rw [bfc_eq, bfc_eq, Bool.and_eq_true] at h1
    have e : 2 ^ (k + 1) = 2 * 2 ^ k := by rw [Nat.pow_succ, Nat.mul_comm]
    rw [e] at hw
    by_cases hq : w < 2 ^ k
    · have := bchk_ok k (2 * v) c (j + 1) h1.1 (by have := onesU_two v 0 (by decide) j; rw [Nat.add_zero] at this; rw [this, hc]; rfl) w hq
      rw [e, show v * (2 * 2 ^ k) = 2 * v * 2 ^ k by rw [← Nat.mul_assoc, Nat.mul_comm v 2], this]
      congr 1
      omega
    · have := bchk_ok k (2 * v + 1) (c + 1) (j + 1) h1.2 (by rw [onesU_two v 1 (by decide) j, hc]) (w - 2 ^ k) (by omega)
      rw [e, show v * (2 * 2 ^ k) + w = (2 * v + 1) * 2 ^ k + (w - 2 ^ k) by rw [Nat.add_mul, ← Nat.mul_assoc, Nat.mul_comm v 2]; omega, this]
      congr 1
      omega
theorem bchk_18 : bchk 18 0 0 = true := by decide +kernel
theorem bcf_ones {v : Nat} (h : v < 2 ^ 18) : bcf v = ones v := by
  have := bchk_ok 18 0 0 0 bchk_18 rfl v h
  rw [Nat.zero_mul, Nat.zero_add, Nat.add_zero] at this
  rw [this]
  exact (onesU_small (j := 2) h).symm
end
section
/-! leaves: the library's own methods -/
theorem xq {Q : Option xV → xM → Prop} {v w : Int} {M : xM} (h : Q (some (xI w)) M) (e : w = v) : Q (some (xI v)) M := e ▸ h
theorem xqm {Q : Option xV → xM → Prop} {r : Option xV} {M M' : xM} (h : Q r M') (e : M' = M) : Q r M := e ▸ h
theorem xar_of {M : xM} {D : Nat → Option xE} {nx a j n : Nat} {K : Nat → Nat → xV → Prop} (hT : xT0 a = some (.inr (0, n, none))) (hk : K 0 n (xI (M a j))) : xar xT0 (M, D, nx) a j K := by
  simp only [xar, hT]
  exact hk
theorem xwa_of {M : xM} {D : Nat → Option xE} {nx a k n : Nat} {z : Int} {K : xH → Prop} (hT : xT0 a = some (.inr (0, n, none))) (hk : K (xup M a (xup (M a) k z), D, nx)) : xwa xT0 (M, D, nx) a k (xI z) K := by
  simp only [xwa, hT]
  exact hk
/-- the first n places hold v -/
def xfill (f : Nat → Int) (n : Nat) (v : Int) : Nat → Int := fun j => if j < n then v else f j
theorem xfill_0 (f : Nat → Int) (v : Int) : xfill f 0 v = f := by
  funext j
  simp [xfill]
theorem xfill_s (f : Nat → Int) (n : Nat) (v : Int) : xup (xfill f n v) n v = xfill f (n + 1) v := by
  funext j
  simp only [xup, xfill]
  by_cases h1 : j = n
  · rw [if_pos h1, if_pos (by omega)]
  · rw [if_neg h1]
    by_cases h2 : j < n
    · rw [if_pos h2, if_pos (by omega)]
    · rw [if_neg h2, if_neg (by omega)]
theorem xup_id {α : Type} (f : Nat → α) (k : Nat) : xup f k (f k) = f := by
  funext j
  simp only [xup]
  split
  · rename_i h; rw [h]
  · rfl
theorem xup_up {α : Type} (f : Nat → α) (k : Nat) (v w : α) : xup (xup f k v) k w = xup f k w := by
  funext j
  simp only [xup]
  split <;> rfl
set_option maxRecDepth 100000 in
theorem c_fill {M : xM} {Q : Option xV → xM → Prop} {a n : Nat} {v : Int} (hT : xT0 a = some (.inr (0, n, none))) (hn : n < 1000) (h : Q none (xup M a (xfill (M a) n v))) : xm 1 m_Arrays_fill [xR (some a), xI v] M Q := by
  (refine xm_of (own := "java/util/Arrays") rfl (by decide +kernel) tk_Arrays [some (xR (some a)), some (xI v), none, none] (Nat.le_of_ble_eq_true rfl) rfl ?_; intro D nx X C P hW)
  have loop : ∀ (m i : Nat), i + m = n → X 5 [some (xR (some a)), some (xI v), some (xI (i : Int)), some (xI (n : Int))] [] (xup M a (xfill (M a) i v), D, nx) 0 0 := by
    intro m
    induction m with
    | zero =>
      intro i hi
      refine xg hW k_Arrays_fill [5] 40 ?_
      ((repeat' (first | (with_reducible refine And.intro ?_ ?_) | (intro h0; exact absurd h0 (by decide)) | (intro _) | ((conv => whnf); (first | (with_reducible refine And.intro ?_ ?_) | (intro h0; exact absurd h0 (by decide)) | (intro _) | (rw [hT]))))); (all_goals (try omega)); (all_goals (try exact Nat.le_of_ble_eq_true rfl)); (all_goals (try ((conv => whnf); (first | (refine hW.2.1 _ _ ?_) | (change X _ _ _ _ _ _) | (change C _ _ _ _ _ _ _))))); (all_goals (try simp only [xup_at, xup_ne, xup_up, ne_eq, Nat.reduceEqDiff, not_false_eq_true, Int.toNat_natCast] at *)); (all_goals (try omega)))
      obtain rfl : i = n := by omega
      exact h
    | succ m ih =>
      intro i hi
      refine xg hW k_Arrays_fill [5] 40 ?_
      ((repeat' (first | (with_reducible refine And.intro ?_ ?_) | (intro h0; exact absurd h0 (by decide)) | (intro _) | ((conv => whnf); (first | (with_reducible refine And.intro ?_ ?_) | (intro h0; exact absurd h0 (by decide)) | (intro _) | (rw [hT]))))); (all_goals (try omega)); (all_goals (try exact Nat.le_of_ble_eq_true rfl)); (all_goals (try ((conv => whnf); (first | (refine hW.2.1 _ _ ?_) | (change X _ _ _ _ _ _) | (change C _ _ _ _ _ _ _))))); (all_goals (try simp only [xup_at, xup_ne, xup_up, ne_eq, Nat.reduceEqDiff, not_false_eq_true, Int.toNat_natCast] at *)); (all_goals (try omega)))
      have h1 := ih (i + 1) (by omega)
      rw [← xfill_s] at h1
      exact h1
  refine xg hW k_Arrays_fill [5] 40 ?_
  ((repeat' (first | (with_reducible refine And.intro ?_ ?_) | (intro h0; exact absurd h0 (by decide)) | (intro _) | ((conv => whnf); (first | (with_reducible refine And.intro ?_ ?_) | (intro h0; exact absurd h0 (by decide)) | (intro _) | (rw [hT]))))); (all_goals (try omega)); (all_goals (try exact Nat.le_of_ble_eq_true rfl)); (all_goals (try ((conv => whnf); (first | (refine hW.2.1 _ _ ?_) | (change X _ _ _ _ _ _) | (change C _ _ _ _ _ _ _))))); (all_goals (try simp only [xup_at, xup_ne, xup_up, ne_eq, Nat.reduceEqDiff, not_false_eq_true, Int.toNat_natCast] at *)); (all_goals (try omega)))
  have h1 := loop n 0 (by omega)
  rw [xfill_0, xup_id] at h1
  exact h1
theorem bcf_eq (n : Nat) : bcf n = (let i := n - ((n >>> 1) &&& 1431655765); let i := (i &&& 858993459) + ((i >>> 2) &&& 858993459); let i := (i + (i >>> 4)) &&& 252645135; let i := i + (i >>> 8); let i := i + (i >>> 16); i &&& 63) := by
  unfold bcf
  simp only [bfc_eq]
theorem xu_1 {a : Nat} (ha : a < 2 ^ 31) : x_iushr (a : Int) 1 = ((a >>> 1 : Nat) : Int) := xn_ushr (k := 1) (by decide) ha
theorem xu_2 {a : Nat} (ha : a < 2 ^ 31) : x_iushr (a : Int) 2 = ((a >>> 2 : Nat) : Int) := xn_ushr (k := 2) (by decide) ha
theorem xu_4 {a : Nat} (ha : a < 2 ^ 31) : x_iushr (a : Int) 4 = ((a >>> 4 : Nat) : Int) := xn_ushr (k := 4) (by decide) ha
theorem xu_8 {a : Nat} (ha : a < 2 ^ 31) : x_iushr (a : Int) 8 = ((a >>> 8 : Nat) : Int) := xn_ushr (k := 8) (by decide) ha
theorem xu_16 {a : Nat} (ha : a < 2 ^ 31) : x_iushr (a : Int) 16 = ((a >>> 16 : Nat) : Int) := xn_ushr (k := 16) (by decide) ha
theorem xu_a (b : Nat) {a : Nat} (ha : a < 2 ^ 31) : x_iand (a : Int) (b : Int) = ((a &&& b : Nat) : Int) := xn_and ha
set_option maxRecDepth 100000 in
theorem c_bitCount {M : xM} {Q : Option xV → xM → Prop} {v : Nat} (h : v < 2 ^ 18 ∧ Q (some (xI (ones v))) M) : xm 1 m_Integer_bitCount [xI (v : Int)] M Q := by
  obtain ⟨hv, hq⟩ := h
  (refine xm_of (own := "java/lang/Integer") rfl (by decide +kernel) tk_Integer [some (xI (v : Int))] (Nat.le_of_ble_eq_true rfl) rfl ?_; intro D nx X C P hW)
  refine xg hW k_Integer_bitCount [] 40 ?_
  ((repeat' (first | (with_reducible refine And.intro ?_ ?_) | (intro h0; exact absurd h0 (by decide)) | (intro _) | ((conv => whnf); (first | (with_reducible refine And.intro ?_ ?_) | (intro h0; exact absurd h0 (by decide)) | (intro _))))); (all_goals (try omega)); (all_goals (try exact Nat.le_of_ble_eq_true rfl)); (all_goals (try ((conv => whnf); (first | (refine hW.2.1 _ _ ?_) | (change X _ _ _ _ _ _) | (change C _ _ _ _ _ _ _))))); (all_goals (try simp only [xup_at, xup_ne, xup_up, ne_eq, Nat.reduceEqDiff, not_false_eq_true, Int.toNat_natCast] at *)); (all_goals (try omega)))
  refine xq hq ?_
  rw [← bcf_ones hv, bcf_eq]
  have b1 : (v >>> 1) &&& 1431655765 ≤ v := Nat.le_trans Nat.and_le_left (Nat.shiftRight_le _ _)
  have e1 : (v : Int) - x_iand (x_iushr v 1) 1431655765 = ((v - ((v >>> 1) &&& 1431655765) : Nat) : Int) := by
    rw [xu_1 (by omega), show (1431655765 : Int) = ((1431655765 : Nat) : Int) from rfl, xu_a _ (Nat.lt_of_le_of_lt (Nat.shiftRight_le _ _) (by omega)), Int.ofNat_sub b1]
  rw [e1]
  simp only
  have l1 : v - ((v >>> 1) &&& 1431655765) < 2 ^ 18 := by omega
  generalize v - ((v >>> 1) &&& 1431655765) = i1 at l1 ⊢
  have l2 : (i1 &&& 858993459) + ((i1 >>> 2) &&& 858993459) < 2 ^ 19 := by
    have := Nat.and_le_left (n := i1) (m := 858993459)
    have := Nat.le_trans (Nat.and_le_left (n := i1 >>> 2) (m := 858993459)) (Nat.shiftRight_le i1 2)
    omega
  have e2 : x_iand (i1 : Int) 858993459 + x_iand (x_iushr (i1 : Int) 2) 858993459 = (((i1 &&& 858993459) + ((i1 >>> 2) &&& 858993459) : Nat) : Int) := by
    rw [xu_2 (by omega), show (858993459 : Int) = ((858993459 : Nat) : Int) from rfl, xu_a _ (by omega), xu_a _ (Nat.lt_of_le_of_lt (Nat.shiftRight_le _ _) (by omega))]
    exact (Int.natCast_add _ _).symm
  rw [e2]
  generalize (i1 &&& 858993459) + ((i1 >>> 2) &&& 858993459) = i2 at l2 ⊢
  have q3 := Nat.shiftRight_le i2 4
  have l3 : (i2 + (i2 >>> 4)) &&& 252645135 < 2 ^ 20 := Nat.lt_of_le_of_lt Nat.and_le_left (by omega)
  have e3 : x_iand ((i2 : Int) + x_iushr (i2 : Int) 4) 252645135 = (((i2 + (i2 >>> 4)) &&& 252645135 : Nat) : Int) := by
    rw [xu_4 (by omega), ← Int.natCast_add, show (252645135 : Int) = ((252645135 : Nat) : Int) from rfl, xu_a _ (by omega)]
  rw [e3]
  generalize (i2 + (i2 >>> 4)) &&& 252645135 = i3 at l3 ⊢
  have q4 := Nat.shiftRight_le i3 8
  rw [xu_8 (show i3 < 2 ^ 31 by omega), ← Int.natCast_add]
  generalize hi4 : i3 + i3 >>> 8 = i4
  have q5 := Nat.shiftRight_le i4 16
  rw [xu_16 (show i4 < 2 ^ 31 by omega), ← Int.natCast_add, show (63 : Int) = ((63 : Nat) : Int) from rfl, xu_a _ (by omega)]
/-! rows of beats, told by size and number -/
def isRow (n b : Int) : Prop := 1 ≤ n ∧ n ≤ 6 ∧ 0 ≤ b ∧ b < 2 ^ n.toNat
theorem xshl1 {n : Int} (h1 : 0 ≤ n) (h2 : n ≤ 30) : x_ishl 1 n = 2 ^ n.toNat := by
  obtain ⟨k, rfl⟩ := Int.eq_ofNat_of_zero_le h1
  have hk : (2 : Nat) ^ k < 2 ^ 31 := Nat.pow_lt_pow_right (by decide) (by omega)
  have := xn_shl (a := 1) (k := k) (by omega) (by rw [Nat.one_mul]; exact hk)
  rw [Nat.one_mul] at this
  rw [Int.toNat_natCast]
  refine Eq.trans this ?_
  exact Int.natCast_pow 2 k
theorem xpow_rg {n : Int} (h2 : n ≤ 30) : (1 : Int) ≤ 2 ^ n.toNat ∧ (2 : Int) ^ n.toNat ≤ 1073741824 := by
  have h : (2 : Nat) ^ n.toNat ≤ 2 ^ 30 := Nat.pow_le_pow_right (by decide) (by omega)
  have h0 : 1 ≤ (2 : Nat) ^ n.toNat := Nat.one_le_two_pow
  have e : ((2 ^ n.toNat : Nat) : Int) = 2 ^ n.toNat := Int.natCast_pow 2 _
  rw [← e]
  omega
set_option maxRecDepth 100000 in
theorem c_isRow {M : xM} {Q : Option xV → xM → Prop} {n b : Int} (h : (xrg n ∧ xrg b) ∧ (isRow n b → Q (some (xI 1)) M) ∧ (¬ isRow n b → Q (some (xI 0)) M)) : xm 1 m_Rows_isRow [xI n, xI b] M Q := by
  obtain ⟨⟨h1, h2⟩, h3, h4⟩ := h
  have e : ¬ (0 ≤ n ∧ n ≤ 30) ∨ (x_ishl 1 n = 2 ^ n.toNat ∧ (1 : Int) ≤ 2 ^ n.toNat ∧ (2 : Int) ^ n.toNat ≤ 1073741824) := by
    by_cases hq : 0 ≤ n ∧ n ≤ 30
    · exact Or.inr ⟨xshl1 hq.1 hq.2, xpow_rg hq.2⟩
    · exact Or.inl hq
  unfold isRow at h3 h4
  (refine xm_of (own := "DrumTongue$Rows") rfl (by decide +kernel) tk_Rows [some (xI n), some (xI b)] (Nat.le_of_ble_eq_true rfl) rfl ?_; intro D nx X C P hW)
  refine xg hW k_Rows_isRow [] 40 ?_
  ((repeat' (first | (with_reducible refine And.intro ?_ ?_) | (intro h0; exact absurd h0 (by decide)) | (intro _) | ((conv => whnf); (first | (with_reducible refine And.intro ?_ ?_) | (intro h0; exact absurd h0 (by decide)) | (intro _))))); (all_goals (try omega)); (all_goals (try exact Nat.le_of_ble_eq_true rfl)); (all_goals (try ((conv => whnf); (first | (refine hW.2.1 _ _ ?_) | (change X _ _ _ _ _ _) | (change C _ _ _ _ _ _ _))))); (all_goals (try simp only [xup_at, xup_ne, xup_up, ne_eq, Nat.reduceEqDiff, not_false_eq_true, Int.toNat_natCast] at *)); (all_goals (try omega)))
  all_goals generalize (2 : Int) ^ n.toNat = pw at e h3 h4
  all_goals first | omega | exact h4 (by omega) | exact h3 (by omega)
end
section
/-! THE HEARD against rows of BEATS: costs by places, from the front (fwd) and from the end (bwd) -/
def cst (h b : Int) : Int := if h = -1 ∨ h = b then 0 else 2
theorem cst_0 (h b : Int) : 0 ≤ cst h b := by unfold cst; split <;> omega
theorem cst_2 (h b : Int) : cst h b ≤ 2 := by unfold cst; split <;> omega
/-- one more beat b behind: f j is the least for the heard up to place j -/
def fwd (H : Nat → Int) (b : Int) (f : Nat → Int) : Nat → Int
  | 0 => f 0 + 3
  | j + 1 => min (f j + cst (H j) b) (min (f (j + 1) + 3) (fwd H b f j + 3))
def bwk (H : Nat → Int) (b : Int) (n : Nat) (g : Nat → Int) : Nat → Int
  | 0 => g n + 3
  | k + 1 => min (g (n - k) + cst (H (n - (k + 1))) b) (min (g (n - (k + 1)) + 3) (bwk H b n g k + 3))
/-- one more beat b in front: g j is the least for the heard from place j on, n in all -/
def bwd (H : Nat → Int) (b : Int) (n : Nat) (g : Nat → Int) (j : Nat) : Int := bwk H b n g (n - j)
theorem bwd_n (H : Nat → Int) (b : Int) (n : Nat) (g : Nat → Int) : bwd H b n g n = g n + 3 := by
  unfold bwd
  rw [Nat.sub_self]
  rfl
theorem bwd_lt {H : Nat → Int} {b : Int} {n : Nat} {g : Nat → Int} {j : Nat} (h : j < n) : bwd H b n g j = min (g (j + 1) + cst (H j) b) (min (g j + 3) (bwd H b n g (j + 1) + 3)) := by
  unfold bwd
  obtain ⟨k, hk⟩ : ∃ k, n - j = k + 1 := ⟨n - j - 1, by omega⟩
  rw [hk, show n - (j + 1) = k by omega, bwk, show n - k = j + 1 by omega, show n - (k + 1) = j by omega]
def clF (n : Nat) (f : Nat → Int) : Prop := ∀ j, j < n → f (j + 1) ≤ f j + 3
def clB (n : Nat) (g : Nat → Int) : Prop := ∀ j, j < n → g j ≤ g (j + 1) + 3
theorem fwd_cl (H : Nat → Int) (b : Int) (f : Nat → Int) (n : Nat) : clF n (fwd H b f) := fun j _ => by
  rw [fwd]; omega
theorem bwd_cl (H : Nat → Int) (b : Int) (g : Nat → Int) (n : Nat) : clB n (bwd H b n g) := fun j hj => by
  rw [bwd_lt hj]; omega
theorem fwd_lost (H : Nat → Int) (b : Int) (f : Nat → Int) : ∀ j, fwd H b f j ≤ f j + 3
  | 0 => by rw [fwd]; omega
  | j + 1 => by rw [fwd]; omega
theorem fwd_met (H : Nat → Int) (b : Int) (f : Nat → Int) (j : Nat) : fwd H b f (j + 1) ≤ f j + cst (H j) b := by rw [fwd]; omega
theorem bwd_lost {H : Nat → Int} {b : Int} {n : Nat} {g : Nat → Int} {j : Nat} (h : j ≤ n) : bwd H b n g j ≤ g j + 3 := by
  rcases Nat.lt_or_ge j n with q | q
  · rw [bwd_lt q]; omega
  · rw [show j = n by omega, bwd_n]; omega
theorem bwd_met {H : Nat → Int} {b : Int} {n : Nat} {g : Nat → Int} {j : Nat} (h : j < n) : bwd H b n g j ≤ g (j + 1) + cst (H j) b := by
  rw [bwd_lt h]; omega
/-- the least of the two together, over the places 0 .. n -/
def mt (f g : Nat → Int) : Nat → Int
  | 0 => f 0 + g 0
  | n + 1 => min (mt f g n) (f (n + 1) + g (n + 1))
theorem mt_le {f g : Nat → Int} : ∀ {n j : Nat}, j ≤ n → mt f g n ≤ f j + g j
  | 0, j, h => by rw [show j = 0 by omega, mt]; omega
  | n + 1, j, h => by
    rw [mt]
    rcases Nat.lt_or_ge n j with q | q
    · rw [show j = n + 1 by omega]; omega
    · have := mt_le (f := f) (g := g) q; omega
theorem mt_at {f g : Nat → Int} : ∀ (n : Nat), ∃ j, j ≤ n ∧ mt f g n = f j + g j
  | 0 => ⟨0, Nat.le_refl _, rfl⟩
  | n + 1 => by
    obtain ⟨j, h1, h2⟩ := mt_at (f := f) (g := g) n
    by_cases q : mt f g n ≤ f (n + 1) + g (n + 1)
    · exact ⟨j, by omega, by rw [mt, ← h2]; omega⟩
    · exact ⟨n + 1, Nat.le_refl _, by rw [mt]; omega⟩
theorem mt_congr {f f' g g' : Nat → Int} {n : Nat} (h : ∀ j, j ≤ n → f j = f' j) (h' : ∀ j, j ≤ n → g j = g' j) : mt f g n = mt f' g' n := by
  induction n with
  | zero => rw [mt, mt, h 0 (Nat.le_refl _), h' 0 (Nat.le_refl _)]
  | succ n ih => rw [mt, mt, ih (fun j q => h j (by omega)) (fun j q => h' j (by omega)), h _ (Nat.le_refl _), h' _ (Nat.le_refl _)]
theorem mt_swap {H : Nat → Int} {b : Int} {n : Nat} {f g : Nat → Int} (hf : clF n f) (hg : clB n g) : mt (fwd H b f) g n = mt f (bwd H b n g) n := by
  have h1 : ∀ k i, i + k = n → mt (fwd H b f) g n ≤ f i + bwd H b n g i := by
    intro k
    induction k with
    | zero =>
      intro i hi
      have h2 := mt_le (f := fwd H b f) (g := g) (show n ≤ n from Nat.le_refl _)
      have h3 := fwd_lost H b f n
      rw [show i = n by omega, bwd_n]
      omega
    | succ k ih =>
      intro i hi
      have h2 := ih (i + 1) (by omega)
      have h3 := mt_le (f := fwd H b f) (g := g) (show i ≤ n by omega)
      have h4 := mt_le (f := fwd H b f) (g := g) (show i + 1 ≤ n by omega)
      have h5 := fwd_lost H b f i
      have h6 := fwd_met H b f i
      have h7 := hf i (by omega)
      rw [bwd_lt (show i < n by omega)]
      omega
  have h2 : ∀ j, j ≤ n → mt f (bwd H b n g) n ≤ fwd H b f j + g j := by
    intro j
    induction j with
    | zero =>
      intro hj
      have h3 := mt_le (f := f) (g := bwd H b n g) (show 0 ≤ n from hj)
      have h4 := bwd_lost (H := H) (b := b) (g := g) (show 0 ≤ n from hj)
      rw [fwd]
      omega
    | succ j ih =>
      intro hj
      have h3 := ih (by omega)
      have h4 := mt_le (f := f) (g := bwd H b n g) (show j ≤ n by omega)
      have h5 := mt_le (f := f) (g := bwd H b n g) (show j + 1 ≤ n by omega)
      have h6 := bwd_lost (H := H) (b := b) (g := g) (show j + 1 ≤ n by omega)
      have h7 := bwd_met (H := H) (b := b) (g := g) (show j < n by omega)
      have h8 := hg j (by omega)
      rw [fwd]
      omega
  obtain ⟨i, h3, h4⟩ := mt_at (f := f) (g := bwd H b n g) n
  obtain ⟨j, h5, h6⟩ := mt_at (f := fwd H b f) (g := g) n
  have h7 := h1 (n - i) i (by omega)
  have h8 := h2 j h5
  omega
/-- k beats, one behind the other -/
def fwN (H β : Nat → Int) (f : Nat → Int) : Nat → Nat → Int
  | 0 => f
  | k + 1 => fwd H (β k) (fwN H β f k)
/-- the last k of m beats, in front -/
def bwN (H β : Nat → Int) (n m : Nat) (g : Nat → Int) : Nat → Nat → Int
  | 0 => g
  | k + 1 => bwd H (β (m - 1 - k)) n (bwN H β n m g k)
theorem fwN_cl {H β : Nat → Int} {f : Nat → Int} {n : Nat} (h : clF n f) : ∀ k, clF n (fwN H β f k)
  | 0 => h
  | k + 1 => fwd_cl _ _ _ _
theorem bwN_cl {H β : Nat → Int} {g : Nat → Int} {n m : Nat} (h : clB n g) : ∀ k, clB n (bwN H β n m g k)
  | 0 => h
  | k + 1 => bwd_cl _ _ _ _
theorem mt_swapN {H β : Nat → Int} {n m : Nat} {f g : Nat → Int} (hf : clF n f) (hg : clB n g) : mt (fwN H β f m) g n = mt f (bwN H β n m g m) n := by
  have : ∀ k, k ≤ m → mt (fwN H β f m) g n = mt (fwN H β f (m - k)) (bwN H β n m g k) n := by
    intro k
    induction k with
    | zero => intro _; rfl
    | succ k ih =>
      intro hk
      rw [ih (by omega), show m - k = (m - (k + 1)) + 1 by omega, fwN, mt_swap (fwN_cl hf _) (bwN_cl hg _), show m - (k + 1) = m - 1 - k by omega, bwN]
  have h1 := this m (Nat.le_refl _)
  rw [Nat.sub_self, fwN] at h1
  exact h1
theorem fwd_rg {H : Nat → Int} {b : Int} {f : Nat → Int} {n : Nat} {B : Int} (h : ∀ j, j ≤ n → 0 ≤ f j ∧ f j ≤ B) : ∀ j, j ≤ n → 0 ≤ fwd H b f j ∧ fwd H b f j ≤ B + 3 := by
  intro j
  induction j with
  | zero => intro hj; have := h 0 hj; rw [fwd]; omega
  | succ j ih =>
    intro hj
    have h1 := ih (by omega)
    have h2 := h j (by omega)
    have h3 := h (j + 1) hj
    have h4 := cst_0 (H j) b
    rw [fwd]; omega
theorem bwd_rg {H : Nat → Int} {b : Int} {g : Nat → Int} {n : Nat} {B : Int} (h : ∀ j, j ≤ n → 0 ≤ g j ∧ g j ≤ B) : ∀ j, j ≤ n → 0 ≤ bwd H b n g j ∧ bwd H b n g j ≤ B + 3 := by
  have : ∀ k j, j + k = n → 0 ≤ bwd H b n g j ∧ bwd H b n g j ≤ B + 3 := by
    intro k
    induction k with
    | zero => intro j hj; have := h n (Nat.le_refl _); rw [show j = n by omega, bwd_n]; omega
    | succ k ih =>
      intro j hj
      have h1 := ih (j + 1) (by omega)
      have h2 := h j (by omega)
      have h3 := h (j + 1) (by omega)
      have h4 := cst_0 (H j) b
      rw [bwd_lt (by omega)]; omega
  exact fun j hj => this (n - j) j (by omega)
theorem fwN_rg {H β : Nat → Int} {f : Nat → Int} {n : Nat} {B : Int} (h : ∀ j, j ≤ n → 0 ≤ f j ∧ f j ≤ B) : ∀ k j, j ≤ n → 0 ≤ fwN H β f k j ∧ fwN H β f k j ≤ B + 3 * k
  | 0, j, hj => by have := h j hj; rw [fwN]; omega
  | k + 1, j, hj => by have := fwd_rg (H := H) (b := β k) (fwN_rg (H := H) (β := β) h k) j hj; rw [fwN]; omega
theorem bwN_rg {H β : Nat → Int} {g : Nat → Int} {n m : Nat} {B : Int} (h : ∀ j, j ≤ n → 0 ≤ g j ∧ g j ≤ B) : ∀ k j, j ≤ n → 0 ≤ bwN H β n m g k j ∧ bwN H β n m g k j ≤ B + 3 * k
  | 0, j, hj => by have := h j hj; rw [bwN]; omega
  | k + 1, j, hj => by have := bwd_rg (H := H) (b := β (m - 1 - k)) (bwN_rg (H := H) (β := β) (m := m) h k) j hj; rw [bwN]; omega
theorem fwd_congr {H : Nat → Int} {b : Int} {f f' : Nat → Int} {n : Nat} (h : ∀ j, j ≤ n → f j = f' j) : ∀ j, j ≤ n → fwd H b f j = fwd H b f' j
  | 0, hj => by rw [fwd, fwd, h 0 hj]
  | j + 1, hj => by rw [fwd, fwd, h j (by omega), h (j + 1) hj, fwd_congr h j (by omega)]
theorem bwd_congr {H : Nat → Int} {b : Int} {g g' : Nat → Int} {n : Nat} (h : ∀ j, j ≤ n → g j = g' j) : ∀ j, j ≤ n → bwd H b n g j = bwd H b n g' j := by
  have : ∀ k j, j + k = n → bwd H b n g j = bwd H b n g' j := by
    intro k
    induction k with
    | zero => intro j hj; rw [show j = n by omega, bwd_n, bwd_n, h n (Nat.le_refl _)]
    | succ k ih =>
      intro j hj
      rw [bwd_lt (g := g) (show j < n by omega), bwd_lt (g := g') (show j < n by omega), h j (by omega), h (j + 1) (by omega), ih (j + 1) (by omega)]
  exact fun j hj => this (n - j) j (by omega)
theorem fwN_congr {H β : Nat → Int} {f f' : Nat → Int} {n : Nat} (h : ∀ j, j ≤ n → f j = f' j) : ∀ k j, j ≤ n → fwN H β f k j = fwN H β f' k j
  | 0, j, hj => h j hj
  | k + 1, j, hj => fwd_congr (fwN_congr h k) j hj
theorem bwN_congr {H β : Nat → Int} {g g' : Nat → Int} {n m : Nat} (h : ∀ j, j ≤ n → g j = g' j) : ∀ k j, j ≤ n → bwN H β n m g k j = bwN H β n m g' k j
  | 0, j, hj => h j hj
  | k + 1, j, hj => bwd_congr (bwN_congr h k) j hj
end
section
/-! rows: size and number of each; how far two are apart -/
/-- at how many of the places that both rows have they differ -/
def dif (a n b m : Int) : Int := (ones ((n.toNat >>> (a - min a b).toNat) ^^^ (m.toNat >>> (b - min a b).toNat)) : Nat)
theorem onesU_le (v : Nat) : ∀ k, onesU v k ≤ k
  | 0 => Nat.le_refl _
  | k + 1 => by have := onesU_le v k; rw [onesU]; omega
theorem dif_rg {a n b m : Int} : 0 ≤ dif a n b m ∧ dif a n b m ≤ 20 :=
  ⟨Int.natCast_nonneg _, Int.ofNat_le.mpr (onesU_le _ 20)⟩
def isB (a n : Int) : Prop := 0 ≤ a ∧ a ≤ 18 ∧ 0 ≤ n ∧ n < 262144
def apart (a n b m v : Int) : Prop := 0 < dif a n b m ∧ v ≤ dif a n b m + (if 0 ≤ a - b then a - b else -(a - b))
theorem xshr_i {n k : Int} (h1 : 0 ≤ n) (h2 : n < 2147483648) (h3 : 0 ≤ k) (h4 : k < 32) : x_ishr n k = ((n.toNat >>> k.toNat : Nat) : Int) := by
  obtain ⟨a, rfl⟩ := Int.eq_ofNat_of_zero_le h1
  obtain ⟨b, rfl⟩ := Int.eq_ofNat_of_zero_le h3
  rw [Int.toNat_natCast, Int.toNat_natCast]
  exact xn_shr (by omega) (by omega)
set_option maxRecDepth 100000 in
theorem c_differing {M : xM} {Q : Option xV → xM → Prop} {a n b m : Int} (h : (isB a n ∧ isB b m) ∧ Q (some (xI (dif a n b m))) M) : xm 2 m_Rows_differing [xI a, xI n, xI b, xI m] M Q := by
  obtain ⟨⟨⟨h1, h2, h3, h4⟩, h5, h6, h7, h8⟩, hq⟩ := h
  (refine xm_of (own := "DrumTongue$Rows") rfl (by decide +kernel) tk_Rows [some (xI a), some (xI n), some (xI b), some (xI m), none] (Nat.le_of_ble_eq_true rfl) rfl ?_; intro D nx X C P hW)
  refine xg hW k_Rows_differing [] 40 ?_
  have e1 := xshr_i (k := a - min a b) h3 (by omega) (by omega) (by omega)
  have e2 := xshr_i (k := b - min a b) h7 (by omega) (by omega) (by omega)
  have b1 := Nat.shiftRight_le n.toNat (a - min a b).toNat
  have b2 := Nat.shiftRight_le m.toNat (b - min a b).toNat
  have e3 := xn_xor (a := n.toNat >>> (a - min a b).toNat) (b := m.toNat >>> (b - min a b).toNat) (by omega) (by omega)
  have b3 : (n.toNat >>> (a - min a b).toNat) ^^^ (m.toNat >>> (b - min a b).toNat) < 2 ^ 18 := Nat.xor_lt_two_pow (by omega) (by omega)
  ((repeat' (first | (with_reducible refine And.intro ?_ ?_) | (intro h0; exact absurd h0 (by decide)) | (intro _) | ((conv => whnf); (first | (with_reducible refine And.intro ?_ ?_) | (intro h0; exact absurd h0 (by decide)) | (intro _))))); (all_goals (try omega)); (all_goals (try exact Nat.le_of_ble_eq_true rfl)); (all_goals (try ((conv => whnf); (first | (refine hW.2.1 _ _ ?_) | (change X _ _ _ _ _ _) | (change C _ _ _ _ _ _ _))))); (all_goals (try simp only [xup_at, xup_ne, xup_up, ne_eq, Nat.reduceEqDiff, not_false_eq_true, Int.toNat_natCast] at *)); (all_goals (try omega)))
  rw [e1, e2, e3]
  refine hW.1 _ _ _ _ _ _ (c_bitCount ⟨b3, ?_⟩) (by decide) (by decide) (Nat.le_of_ble_eq_true rfl)
  ((repeat' (first | (with_reducible refine And.intro ?_ ?_) | (intro h0; exact absurd h0 (by decide)) | (intro _) | ((conv => whnf); (first | (with_reducible refine And.intro ?_ ?_) | (intro h0; exact absurd h0 (by decide)) | (intro _))))); (all_goals (try omega)); (all_goals (try exact Nat.le_of_ble_eq_true rfl)); (all_goals (try ((conv => whnf); (first | (refine hW.2.1 _ _ ?_) | (change X _ _ _ _ _ _) | (change C _ _ _ _ _ _ _))))); (all_goals (try simp only [xup_at, xup_ne, xup_up, ne_eq, Nat.reduceEqDiff, not_false_eq_true, Int.toNat_natCast] at *)); (all_goals (try omega)))
  exact hq
set_option maxRecDepth 100000 in
theorem c_areApart {M : xM} {Q : Option xV → xM → Prop} {a n b m v : Int} (h : (isB a n ∧ isB b m ∧ xrg v) ∧ (apart a n b m v → Q (some (xI 1)) M) ∧ (¬ apart a n b m v → Q (some (xI 0)) M)) : xm 3 m_Rows_areApart [xI a, xI n, xI b, xI m, xI v] M Q := by
  obtain ⟨⟨⟨a1, a2, a3, a4⟩, ⟨b1, b2, b3, b4⟩, hv1, hv2⟩, h3, h4⟩ := h
  have hd := dif_rg (a := a) (n := n) (b := b) (m := m)
  (refine xm_of (own := "DrumTongue$Rows") rfl (by decide +kernel) tk_Rows [some (xI a), some (xI n), some (xI b), some (xI m), some (xI v), none] (Nat.le_of_ble_eq_true rfl) rfl ?_; intro D nx X C P hW)
  refine xg hW k_Rows_areApart [] 40 ?_
  ((repeat' (first | (with_reducible refine And.intro ?_ ?_) | (intro h0; exact absurd h0 (by decide)) | (intro _) | ((conv => whnf); (first | (with_reducible refine And.intro ?_ ?_) | (intro h0; exact absurd h0 (by decide)) | (intro _) | (refine hW.1 _ _ _ _ _ _ (c_differing ?_) (by first | decide | omega) (by decide) (Nat.le_of_ble_eq_true rfl)))))); (all_goals (try omega)); (all_goals (try exact Nat.le_of_ble_eq_true rfl)); (all_goals (try ((conv => whnf); (first | (refine hW.2.1 _ _ ?_) | (change X _ _ _ _ _ _) | (change C _ _ _ _ _ _ _))))); (all_goals (try simp only [xup_at, xup_ne, xup_up, ne_eq, Nat.reduceEqDiff, not_false_eq_true, Int.toNat_natCast] at *)); (all_goals (try omega)))
  all_goals first | exact h4 (by unfold apart; omega) | exact h3 (by unfold apart; omega)
set_option maxRecDepth 100000 in
theorem c_used_W {M : xM} {Q : Option xV → xM → Prop} (h : Q (some (xI (M 3 2))) M) : xm 1 m_Rows_used [xR (some 3)] M Q := by
  (refine xm_of (own := "DrumTongue$Rows") rfl (by decide +kernel) tk_Rows [some (xR (some 3))] (Nat.le_of_ble_eq_true rfl) rfl ?_; intro D nx X C P hW)
  refine xg hW k_Rows_used [] 40 ?_
  ((repeat' (first | (with_reducible refine And.intro ?_ ?_) | (intro h0; exact absurd h0 (by decide)) | (intro _) | ((conv => whnf); (first | (with_reducible refine And.intro ?_ ?_) | (intro h0; exact absurd h0 (by decide)) | (intro _))))); (all_goals (try omega)); (all_goals (try exact Nat.le_of_ble_eq_true rfl)); (all_goals (try ((conv => whnf); (first | (refine hW.2.1 _ _ ?_) | (change X _ _ _ _ _ _) | (change C _ _ _ _ _ _ _))))); (all_goals (try simp only [xup_at, xup_ne, xup_up, ne_eq, Nat.reduceEqDiff, not_false_eq_true, Int.toNat_natCast] at *)); (all_goals (try omega)))
  all_goals exact h
set_option maxRecDepth 100000 in
theorem c_isFull_W {M : xM} {Q : Option xV → xM → Prop} (h : (0 ≤ M 3 2 ∧ M 3 2 ≤ 10) ∧ (M 3 2 = 10 → Q (some (xI 1)) M) ∧ (M 3 2 < 10 → Q (some (xI 0)) M)) : xm 1 m_Rows_isFull [xR (some 3)] M Q := by
  obtain ⟨⟨h1, h2⟩, h3, h4⟩ := h
  (refine xm_of (own := "DrumTongue$Rows") rfl (by decide +kernel) tk_Rows [some (xR (some 3))] (Nat.le_of_ble_eq_true rfl) rfl ?_; intro D nx X C P hW)
  refine xg hW k_Rows_isFull [] 40 ?_
  ((repeat' (first | (with_reducible refine And.intro ?_ ?_) | (intro h0; exact absurd h0 (by decide)) | (intro _) | ((conv => whnf); (first | (with_reducible refine And.intro ?_ ?_) | (intro h0; exact absurd h0 (by decide)) | (intro _))))); (all_goals (try omega)); (all_goals (try exact Nat.le_of_ble_eq_true rfl)); (all_goals (try ((conv => whnf); (first | (refine hW.2.1 _ _ ?_) | (change X _ _ _ _ _ _) | (change C _ _ _ _ _ _ _))))); (all_goals (try simp only [xup_at, xup_ne, xup_up, ne_eq, Nat.reduceEqDiff, not_false_eq_true, Int.toNat_natCast] at *)); (all_goals (try omega)))
  all_goals first | exact h3 (by omega) | exact h4 (by omega)
set_option maxRecDepth 100000 in
theorem c_size_W {M : xM} {Q : Option xV → xM → Prop} {i : Int} (h : (xrg i ∧ 0 ≤ M 3 2 ∧ M 3 2 ≤ 10) ∧ (0 ≤ i → i < M 3 2 → Q (some (xI (M 4 i.toNat))) M) ∧ (i < 0 ∨ M 3 2 ≤ i → Q (some (xI 0)) M)) : xm 1 m_Rows_size [xR (some 3), xI i] M Q := by
  obtain ⟨⟨h1, h2⟩, h3, h4⟩ := h
  (refine xm_of (own := "DrumTongue$Rows") rfl (by decide +kernel) tk_Rows [some (xR (some 3)), some (xI i)] (Nat.le_of_ble_eq_true rfl) rfl ?_; intro D nx X C P hW)
  refine xg hW k_Rows_size [] 40 ?_
  ((repeat' (first | (with_reducible refine And.intro ?_ ?_) | (intro h0; exact absurd h0 (by decide)) | (intro _) | ((conv => whnf); (first | (with_reducible refine And.intro ?_ ?_) | (intro h0; exact absurd h0 (by decide)) | (intro _))))); (all_goals (try omega)); (all_goals (try exact Nat.le_of_ble_eq_true rfl)); (all_goals (try ((conv => whnf); (first | (refine hW.2.1 _ _ ?_) | (change X _ _ _ _ _ _) | (change C _ _ _ _ _ _ _))))); (all_goals (try simp only [xup_at, xup_ne, xup_up, ne_eq, Nat.reduceEqDiff, not_false_eq_true, Int.toNat_natCast] at *)); (all_goals (try omega)))
  all_goals first | exact h3 (by omega) (by omega) | exact h4 (by omega)
set_option maxRecDepth 100000 in
theorem c_number_W {M : xM} {Q : Option xV → xM → Prop} {i : Int} (h : (xrg i ∧ 0 ≤ M 3 2 ∧ M 3 2 ≤ 10) ∧ (0 ≤ i → i < M 3 2 → Q (some (xI (M 5 i.toNat))) M) ∧ (i < 0 ∨ M 3 2 ≤ i → Q (some (xI 0)) M)) : xm 1 m_Rows_number [xR (some 3), xI i] M Q := by
  obtain ⟨⟨h1, h2⟩, h3, h4⟩ := h
  (refine xm_of (own := "DrumTongue$Rows") rfl (by decide +kernel) tk_Rows [some (xR (some 3)), some (xI i)] (Nat.le_of_ble_eq_true rfl) rfl ?_; intro D nx X C P hW)
  refine xg hW k_Rows_number [] 40 ?_
  ((repeat' (first | (with_reducible refine And.intro ?_ ?_) | (intro h0; exact absurd h0 (by decide)) | (intro _) | ((conv => whnf); (first | (with_reducible refine And.intro ?_ ?_) | (intro h0; exact absurd h0 (by decide)) | (intro _))))); (all_goals (try omega)); (all_goals (try exact Nat.le_of_ble_eq_true rfl)); (all_goals (try ((conv => whnf); (first | (refine hW.2.1 _ _ ?_) | (change X _ _ _ _ _ _) | (change C _ _ _ _ _ _ _))))); (all_goals (try simp only [xup_at, xup_ne, xup_up, ne_eq, Nat.reduceEqDiff, not_false_eq_true, Int.toNat_natCast] at *)); (all_goals (try omega)))
  all_goals first | exact h3 (by omega) (by omega) | exact h4 (by omega)
set_option maxRecDepth 100000 in
theorem c_sizeI_W {M : xM} {Q : Option xV → xM → Prop} {i : Int} (h : (0 ≤ i ∧ i < M 3 2 ∧ M 3 2 ≤ 10) ∧ Q (some (xI (M 4 i.toNat))) M) : xm 1 m_Rows_size [xR (some 3), xI i] M Q :=
  c_size_W ⟨⟨⟨by omega, by omega⟩, by omega, by omega⟩, fun _ _ => h.2, fun q => by omega⟩
set_option maxRecDepth 100000 in
theorem c_numberI_W {M : xM} {Q : Option xV → xM → Prop} {i : Int} (h : (0 ≤ i ∧ i < M 3 2 ∧ M 3 2 ≤ 10) ∧ Q (some (xI (M 5 i.toNat))) M) : xm 1 m_Rows_number [xR (some 3), xI i] M Q :=
  c_number_W ⟨⟨⟨by omega, by omega⟩, by omega, by omega⟩, fun _ _ => h.2, fun q => by omega⟩
/-- one more row -/
def rAdd_W (M : xM) (size number : Int) : xM := xup (xup (xup M 4 (xup (M 4) (M 3 2).toNat size)) 5 (xup (M 5) (M 3 2).toNat number)) 3 (xup (M 3) 2 (M 3 2 + 1))
set_option maxRecDepth 100000 in
theorem c_add_W {M : xM} {Q : Option xV → xM → Prop} {size number : Int} (h : (0 ≤ M 3 2 ∧ M 3 2 ≤ 10) ∧ (M 3 2 = 10 → Q none M) ∧ (M 3 2 < 10 → Q none (rAdd_W M size number))) : xm 2 m_Rows_add [xR (some 3), xI size, xI number] M Q := by
  obtain ⟨⟨h1, h2⟩, h3, h4⟩ := h
  (refine xm_of (own := "DrumTongue$Rows") rfl (by decide +kernel) tk_Rows [some (xR (some 3)), some (xI size), some (xI number)] (Nat.le_of_ble_eq_true rfl) rfl ?_; intro D nx X C P hW)
  refine xg hW k_Rows_add [] 40 ?_
  ((repeat' (first | (with_reducible refine And.intro ?_ ?_) | (intro h0; exact absurd h0 (by decide)) | (intro _) | ((conv => whnf); (first | (with_reducible refine And.intro ?_ ?_) | (intro h0; exact absurd h0 (by decide)) | (intro _) | (refine hW.1 _ _ _ _ _ _ (c_isFull_W ?_) (by first | decide | omega) (by decide) (Nat.le_of_ble_eq_true rfl)))))); (all_goals (try omega)); (all_goals (try exact Nat.le_of_ble_eq_true rfl)); (all_goals (try ((conv => whnf); (first | (refine hW.2.1 _ _ ?_) | (change X _ _ _ _ _ _) | (change C _ _ _ _ _ _ _))))); (all_goals (try simp only [xup_at, xup_ne, xup_up, ne_eq, Nat.reduceEqDiff, not_false_eq_true, Int.toNat_natCast] at *)); (all_goals (try omega)))
  all_goals (try simp only [xup_at, xup_ne, xup_up, ne_eq, Nat.reduceEqDiff, not_false_eq_true, Int.toNat_natCast])
  all_goals first | omega | exact h3 (by omega) | exact h4 (by omega)
set_option maxRecDepth 100000 in
theorem c_drop_W {M : xM} {Q : Option xV → xM → Prop} {keep : Int} (h : (xrg keep ∧ 0 ≤ M 3 2 ∧ M 3 2 ≤ 10) ∧ (0 ≤ keep → keep < M 3 2 → Q none (xup M 3 (xup (M 3) 2 keep))) ∧ (keep < 0 ∨ M 3 2 ≤ keep → Q none M)) : xm 1 m_Rows_dropAllBehind [xR (some 3), xI keep] M Q := by
  obtain ⟨⟨h1, h2⟩, h3, h4⟩ := h
  (refine xm_of (own := "DrumTongue$Rows") rfl (by decide +kernel) tk_Rows [some (xR (some 3)), some (xI keep)] (Nat.le_of_ble_eq_true rfl) rfl ?_; intro D nx X C P hW)
  refine xg hW k_Rows_dropAllBehind [] 40 ?_
  ((repeat' (first | (with_reducible refine And.intro ?_ ?_) | (intro h0; exact absurd h0 (by decide)) | (intro _) | ((conv => whnf); (first | (with_reducible refine And.intro ?_ ?_) | (intro h0; exact absurd h0 (by decide)) | (intro _))))); (all_goals (try omega)); (all_goals (try exact Nat.le_of_ble_eq_true rfl)); (all_goals (try ((conv => whnf); (first | (refine hW.2.1 _ _ ?_) | (change X _ _ _ _ _ _) | (change C _ _ _ _ _ _ _))))); (all_goals (try simp only [xup_at, xup_ne, xup_up, ne_eq, Nat.reduceEqDiff, not_false_eq_true, Int.toNat_natCast] at *)); (all_goals (try omega)))
  all_goals first | exact h3 (by omega) (by omega) | exact h4 (by omega)
set_option maxRecDepth 100000 in
theorem c_used_E {M : xM} {Q : Option xV → xM → Prop} (h : Q (some (xI (M 6 2))) M) : xm 1 m_Rows_used [xR (some 6)] M Q := by
  (refine xm_of (own := "DrumTongue$Rows") rfl (by decide +kernel) tk_Rows [some (xR (some 6))] (Nat.le_of_ble_eq_true rfl) rfl ?_; intro D nx X C P hW)
  refine xg hW k_Rows_used [] 40 ?_
  ((repeat' (first | (with_reducible refine And.intro ?_ ?_) | (intro h0; exact absurd h0 (by decide)) | (intro _) | ((conv => whnf); (first | (with_reducible refine And.intro ?_ ?_) | (intro h0; exact absurd h0 (by decide)) | (intro _))))); (all_goals (try omega)); (all_goals (try exact Nat.le_of_ble_eq_true rfl)); (all_goals (try ((conv => whnf); (first | (refine hW.2.1 _ _ ?_) | (change X _ _ _ _ _ _) | (change C _ _ _ _ _ _ _))))); (all_goals (try simp only [xup_at, xup_ne, xup_up, ne_eq, Nat.reduceEqDiff, not_false_eq_true, Int.toNat_natCast] at *)); (all_goals (try omega)))
  all_goals exact h
set_option maxRecDepth 100000 in
theorem c_isFull_E {M : xM} {Q : Option xV → xM → Prop} (h : (0 ≤ M 6 2 ∧ M 6 2 ≤ 5) ∧ (M 6 2 = 5 → Q (some (xI 1)) M) ∧ (M 6 2 < 5 → Q (some (xI 0)) M)) : xm 1 m_Rows_isFull [xR (some 6)] M Q := by
  obtain ⟨⟨h1, h2⟩, h3, h4⟩ := h
  (refine xm_of (own := "DrumTongue$Rows") rfl (by decide +kernel) tk_Rows [some (xR (some 6))] (Nat.le_of_ble_eq_true rfl) rfl ?_; intro D nx X C P hW)
  refine xg hW k_Rows_isFull [] 40 ?_
  ((repeat' (first | (with_reducible refine And.intro ?_ ?_) | (intro h0; exact absurd h0 (by decide)) | (intro _) | ((conv => whnf); (first | (with_reducible refine And.intro ?_ ?_) | (intro h0; exact absurd h0 (by decide)) | (intro _))))); (all_goals (try omega)); (all_goals (try exact Nat.le_of_ble_eq_true rfl)); (all_goals (try ((conv => whnf); (first | (refine hW.2.1 _ _ ?_) | (change X _ _ _ _ _ _) | (change C _ _ _ _ _ _ _))))); (all_goals (try simp only [xup_at, xup_ne, xup_up, ne_eq, Nat.reduceEqDiff, not_false_eq_true, Int.toNat_natCast] at *)); (all_goals (try omega)))
  all_goals first | exact h3 (by omega) | exact h4 (by omega)
set_option maxRecDepth 100000 in
theorem c_size_E {M : xM} {Q : Option xV → xM → Prop} {i : Int} (h : (xrg i ∧ 0 ≤ M 6 2 ∧ M 6 2 ≤ 5) ∧ (0 ≤ i → i < M 6 2 → Q (some (xI (M 7 i.toNat))) M) ∧ (i < 0 ∨ M 6 2 ≤ i → Q (some (xI 0)) M)) : xm 1 m_Rows_size [xR (some 6), xI i] M Q := by
  obtain ⟨⟨h1, h2⟩, h3, h4⟩ := h
  (refine xm_of (own := "DrumTongue$Rows") rfl (by decide +kernel) tk_Rows [some (xR (some 6)), some (xI i)] (Nat.le_of_ble_eq_true rfl) rfl ?_; intro D nx X C P hW)
  refine xg hW k_Rows_size [] 40 ?_
  ((repeat' (first | (with_reducible refine And.intro ?_ ?_) | (intro h0; exact absurd h0 (by decide)) | (intro _) | ((conv => whnf); (first | (with_reducible refine And.intro ?_ ?_) | (intro h0; exact absurd h0 (by decide)) | (intro _))))); (all_goals (try omega)); (all_goals (try exact Nat.le_of_ble_eq_true rfl)); (all_goals (try ((conv => whnf); (first | (refine hW.2.1 _ _ ?_) | (change X _ _ _ _ _ _) | (change C _ _ _ _ _ _ _))))); (all_goals (try simp only [xup_at, xup_ne, xup_up, ne_eq, Nat.reduceEqDiff, not_false_eq_true, Int.toNat_natCast] at *)); (all_goals (try omega)))
  all_goals first | exact h3 (by omega) (by omega) | exact h4 (by omega)
set_option maxRecDepth 100000 in
theorem c_number_E {M : xM} {Q : Option xV → xM → Prop} {i : Int} (h : (xrg i ∧ 0 ≤ M 6 2 ∧ M 6 2 ≤ 5) ∧ (0 ≤ i → i < M 6 2 → Q (some (xI (M 8 i.toNat))) M) ∧ (i < 0 ∨ M 6 2 ≤ i → Q (some (xI 0)) M)) : xm 1 m_Rows_number [xR (some 6), xI i] M Q := by
  obtain ⟨⟨h1, h2⟩, h3, h4⟩ := h
  (refine xm_of (own := "DrumTongue$Rows") rfl (by decide +kernel) tk_Rows [some (xR (some 6)), some (xI i)] (Nat.le_of_ble_eq_true rfl) rfl ?_; intro D nx X C P hW)
  refine xg hW k_Rows_number [] 40 ?_
  ((repeat' (first | (with_reducible refine And.intro ?_ ?_) | (intro h0; exact absurd h0 (by decide)) | (intro _) | ((conv => whnf); (first | (with_reducible refine And.intro ?_ ?_) | (intro h0; exact absurd h0 (by decide)) | (intro _))))); (all_goals (try omega)); (all_goals (try exact Nat.le_of_ble_eq_true rfl)); (all_goals (try ((conv => whnf); (first | (refine hW.2.1 _ _ ?_) | (change X _ _ _ _ _ _) | (change C _ _ _ _ _ _ _))))); (all_goals (try simp only [xup_at, xup_ne, xup_up, ne_eq, Nat.reduceEqDiff, not_false_eq_true, Int.toNat_natCast] at *)); (all_goals (try omega)))
  all_goals first | exact h3 (by omega) (by omega) | exact h4 (by omega)
set_option maxRecDepth 100000 in
theorem c_sizeI_E {M : xM} {Q : Option xV → xM → Prop} {i : Int} (h : (0 ≤ i ∧ i < M 6 2 ∧ M 6 2 ≤ 5) ∧ Q (some (xI (M 7 i.toNat))) M) : xm 1 m_Rows_size [xR (some 6), xI i] M Q :=
  c_size_E ⟨⟨⟨by omega, by omega⟩, by omega, by omega⟩, fun _ _ => h.2, fun q => by omega⟩
set_option maxRecDepth 100000 in
theorem c_numberI_E {M : xM} {Q : Option xV → xM → Prop} {i : Int} (h : (0 ≤ i ∧ i < M 6 2 ∧ M 6 2 ≤ 5) ∧ Q (some (xI (M 8 i.toNat))) M) : xm 1 m_Rows_number [xR (some 6), xI i] M Q :=
  c_number_E ⟨⟨⟨by omega, by omega⟩, by omega, by omega⟩, fun _ _ => h.2, fun q => by omega⟩
/-- one more row -/
def rAdd_E (M : xM) (size number : Int) : xM := xup (xup (xup M 7 (xup (M 7) (M 6 2).toNat size)) 8 (xup (M 8) (M 6 2).toNat number)) 6 (xup (M 6) 2 (M 6 2 + 1))
set_option maxRecDepth 100000 in
theorem c_add_E {M : xM} {Q : Option xV → xM → Prop} {size number : Int} (h : (0 ≤ M 6 2 ∧ M 6 2 ≤ 5) ∧ (M 6 2 = 5 → Q none M) ∧ (M 6 2 < 5 → Q none (rAdd_E M size number))) : xm 2 m_Rows_add [xR (some 6), xI size, xI number] M Q := by
  obtain ⟨⟨h1, h2⟩, h3, h4⟩ := h
  (refine xm_of (own := "DrumTongue$Rows") rfl (by decide +kernel) tk_Rows [some (xR (some 6)), some (xI size), some (xI number)] (Nat.le_of_ble_eq_true rfl) rfl ?_; intro D nx X C P hW)
  refine xg hW k_Rows_add [] 40 ?_
  ((repeat' (first | (with_reducible refine And.intro ?_ ?_) | (intro h0; exact absurd h0 (by decide)) | (intro _) | ((conv => whnf); (first | (with_reducible refine And.intro ?_ ?_) | (intro h0; exact absurd h0 (by decide)) | (intro _) | (refine hW.1 _ _ _ _ _ _ (c_isFull_E ?_) (by first | decide | omega) (by decide) (Nat.le_of_ble_eq_true rfl)))))); (all_goals (try omega)); (all_goals (try exact Nat.le_of_ble_eq_true rfl)); (all_goals (try ((conv => whnf); (first | (refine hW.2.1 _ _ ?_) | (change X _ _ _ _ _ _) | (change C _ _ _ _ _ _ _))))); (all_goals (try simp only [xup_at, xup_ne, xup_up, ne_eq, Nat.reduceEqDiff, not_false_eq_true, Int.toNat_natCast] at *)); (all_goals (try omega)))
  all_goals (try simp only [xup_at, xup_ne, xup_up, ne_eq, Nat.reduceEqDiff, not_false_eq_true, Int.toNat_natCast])
  all_goals first | omega | exact h3 (by omega) | exact h4 (by omega)
set_option maxRecDepth 100000 in
theorem c_drop_E {M : xM} {Q : Option xV → xM → Prop} {keep : Int} (h : (xrg keep ∧ 0 ≤ M 6 2 ∧ M 6 2 ≤ 5) ∧ (0 ≤ keep → keep < M 6 2 → Q none (xup M 6 (xup (M 6) 2 keep))) ∧ (keep < 0 ∨ M 6 2 ≤ keep → Q none M)) : xm 1 m_Rows_dropAllBehind [xR (some 6), xI keep] M Q := by
  obtain ⟨⟨h1, h2⟩, h3, h4⟩ := h
  (refine xm_of (own := "DrumTongue$Rows") rfl (by decide +kernel) tk_Rows [some (xR (some 6)), some (xI keep)] (Nat.le_of_ble_eq_true rfl) rfl ?_; intro D nx X C P hW)
  refine xg hW k_Rows_dropAllBehind [] 40 ?_
  ((repeat' (first | (with_reducible refine And.intro ?_ ?_) | (intro h0; exact absurd h0 (by decide)) | (intro _) | ((conv => whnf); (first | (with_reducible refine And.intro ?_ ?_) | (intro h0; exact absurd h0 (by decide)) | (intro _))))); (all_goals (try omega)); (all_goals (try exact Nat.le_of_ble_eq_true rfl)); (all_goals (try ((conv => whnf); (first | (refine hW.2.1 _ _ ?_) | (change X _ _ _ _ _ _) | (change C _ _ _ _ _ _ _))))); (all_goals (try simp only [xup_at, xup_ne, xup_up, ne_eq, Nat.reduceEqDiff, not_false_eq_true, Int.toNat_natCast] at *)); (all_goals (try omega)))
  all_goals first | exact h3 (by omega) (by omega) | exact h4 (by omega)
set_option maxRecDepth 100000 in
theorem c_used_LR {M : xM} {Q : Option xV → xM → Prop} (h : Q (some (xI (M 10 2))) M) : xm 1 m_Rows_used [xR (some 10)] M Q := by
  (refine xm_of (own := "DrumTongue$Rows") rfl (by decide +kernel) tk_Rows [some (xR (some 10))] (Nat.le_of_ble_eq_true rfl) rfl ?_; intro D nx X C P hW)
  refine xg hW k_Rows_used [] 40 ?_
  ((repeat' (first | (with_reducible refine And.intro ?_ ?_) | (intro h0; exact absurd h0 (by decide)) | (intro _) | ((conv => whnf); (first | (with_reducible refine And.intro ?_ ?_) | (intro h0; exact absurd h0 (by decide)) | (intro _))))); (all_goals (try omega)); (all_goals (try exact Nat.le_of_ble_eq_true rfl)); (all_goals (try ((conv => whnf); (first | (refine hW.2.1 _ _ ?_) | (change X _ _ _ _ _ _) | (change C _ _ _ _ _ _ _))))); (all_goals (try simp only [xup_at, xup_ne, xup_up, ne_eq, Nat.reduceEqDiff, not_false_eq_true, Int.toNat_natCast] at *)); (all_goals (try omega)))
  all_goals exact h
set_option maxRecDepth 100000 in
theorem c_isFull_LR {M : xM} {Q : Option xV → xM → Prop} (h : (0 ≤ M 10 2 ∧ M 10 2 ≤ 31) ∧ (M 10 2 = 31 → Q (some (xI 1)) M) ∧ (M 10 2 < 31 → Q (some (xI 0)) M)) : xm 1 m_Rows_isFull [xR (some 10)] M Q := by
  obtain ⟨⟨h1, h2⟩, h3, h4⟩ := h
  (refine xm_of (own := "DrumTongue$Rows") rfl (by decide +kernel) tk_Rows [some (xR (some 10))] (Nat.le_of_ble_eq_true rfl) rfl ?_; intro D nx X C P hW)
  refine xg hW k_Rows_isFull [] 40 ?_
  ((repeat' (first | (with_reducible refine And.intro ?_ ?_) | (intro h0; exact absurd h0 (by decide)) | (intro _) | ((conv => whnf); (first | (with_reducible refine And.intro ?_ ?_) | (intro h0; exact absurd h0 (by decide)) | (intro _))))); (all_goals (try omega)); (all_goals (try exact Nat.le_of_ble_eq_true rfl)); (all_goals (try ((conv => whnf); (first | (refine hW.2.1 _ _ ?_) | (change X _ _ _ _ _ _) | (change C _ _ _ _ _ _ _))))); (all_goals (try simp only [xup_at, xup_ne, xup_up, ne_eq, Nat.reduceEqDiff, not_false_eq_true, Int.toNat_natCast] at *)); (all_goals (try omega)))
  all_goals first | exact h3 (by omega) | exact h4 (by omega)
set_option maxRecDepth 100000 in
theorem c_size_LR {M : xM} {Q : Option xV → xM → Prop} {i : Int} (h : (xrg i ∧ 0 ≤ M 10 2 ∧ M 10 2 ≤ 31) ∧ (0 ≤ i → i < M 10 2 → Q (some (xI (M 11 i.toNat))) M) ∧ (i < 0 ∨ M 10 2 ≤ i → Q (some (xI 0)) M)) : xm 1 m_Rows_size [xR (some 10), xI i] M Q := by
  obtain ⟨⟨h1, h2⟩, h3, h4⟩ := h
  (refine xm_of (own := "DrumTongue$Rows") rfl (by decide +kernel) tk_Rows [some (xR (some 10)), some (xI i)] (Nat.le_of_ble_eq_true rfl) rfl ?_; intro D nx X C P hW)
  refine xg hW k_Rows_size [] 40 ?_
  ((repeat' (first | (with_reducible refine And.intro ?_ ?_) | (intro h0; exact absurd h0 (by decide)) | (intro _) | ((conv => whnf); (first | (with_reducible refine And.intro ?_ ?_) | (intro h0; exact absurd h0 (by decide)) | (intro _))))); (all_goals (try omega)); (all_goals (try exact Nat.le_of_ble_eq_true rfl)); (all_goals (try ((conv => whnf); (first | (refine hW.2.1 _ _ ?_) | (change X _ _ _ _ _ _) | (change C _ _ _ _ _ _ _))))); (all_goals (try simp only [xup_at, xup_ne, xup_up, ne_eq, Nat.reduceEqDiff, not_false_eq_true, Int.toNat_natCast] at *)); (all_goals (try omega)))
  all_goals first | exact h3 (by omega) (by omega) | exact h4 (by omega)
set_option maxRecDepth 100000 in
theorem c_number_LR {M : xM} {Q : Option xV → xM → Prop} {i : Int} (h : (xrg i ∧ 0 ≤ M 10 2 ∧ M 10 2 ≤ 31) ∧ (0 ≤ i → i < M 10 2 → Q (some (xI (M 12 i.toNat))) M) ∧ (i < 0 ∨ M 10 2 ≤ i → Q (some (xI 0)) M)) : xm 1 m_Rows_number [xR (some 10), xI i] M Q := by
  obtain ⟨⟨h1, h2⟩, h3, h4⟩ := h
  (refine xm_of (own := "DrumTongue$Rows") rfl (by decide +kernel) tk_Rows [some (xR (some 10)), some (xI i)] (Nat.le_of_ble_eq_true rfl) rfl ?_; intro D nx X C P hW)
  refine xg hW k_Rows_number [] 40 ?_
  ((repeat' (first | (with_reducible refine And.intro ?_ ?_) | (intro h0; exact absurd h0 (by decide)) | (intro _) | ((conv => whnf); (first | (with_reducible refine And.intro ?_ ?_) | (intro h0; exact absurd h0 (by decide)) | (intro _))))); (all_goals (try omega)); (all_goals (try exact Nat.le_of_ble_eq_true rfl)); (all_goals (try ((conv => whnf); (first | (refine hW.2.1 _ _ ?_) | (change X _ _ _ _ _ _) | (change C _ _ _ _ _ _ _))))); (all_goals (try simp only [xup_at, xup_ne, xup_up, ne_eq, Nat.reduceEqDiff, not_false_eq_true, Int.toNat_natCast] at *)); (all_goals (try omega)))
  all_goals first | exact h3 (by omega) (by omega) | exact h4 (by omega)
set_option maxRecDepth 100000 in
theorem c_sizeI_LR {M : xM} {Q : Option xV → xM → Prop} {i : Int} (h : (0 ≤ i ∧ i < M 10 2 ∧ M 10 2 ≤ 31) ∧ Q (some (xI (M 11 i.toNat))) M) : xm 1 m_Rows_size [xR (some 10), xI i] M Q :=
  c_size_LR ⟨⟨⟨by omega, by omega⟩, by omega, by omega⟩, fun _ _ => h.2, fun q => by omega⟩
set_option maxRecDepth 100000 in
theorem c_numberI_LR {M : xM} {Q : Option xV → xM → Prop} {i : Int} (h : (0 ≤ i ∧ i < M 10 2 ∧ M 10 2 ≤ 31) ∧ Q (some (xI (M 12 i.toNat))) M) : xm 1 m_Rows_number [xR (some 10), xI i] M Q :=
  c_number_LR ⟨⟨⟨by omega, by omega⟩, by omega, by omega⟩, fun _ _ => h.2, fun q => by omega⟩
/-- one more row -/
def rAdd_LR (M : xM) (size number : Int) : xM := xup (xup (xup M 11 (xup (M 11) (M 10 2).toNat size)) 12 (xup (M 12) (M 10 2).toNat number)) 10 (xup (M 10) 2 (M 10 2 + 1))
set_option maxRecDepth 100000 in
theorem c_add_LR {M : xM} {Q : Option xV → xM → Prop} {size number : Int} (h : (0 ≤ M 10 2 ∧ M 10 2 ≤ 31) ∧ (M 10 2 = 31 → Q none M) ∧ (M 10 2 < 31 → Q none (rAdd_LR M size number))) : xm 2 m_Rows_add [xR (some 10), xI size, xI number] M Q := by
  obtain ⟨⟨h1, h2⟩, h3, h4⟩ := h
  (refine xm_of (own := "DrumTongue$Rows") rfl (by decide +kernel) tk_Rows [some (xR (some 10)), some (xI size), some (xI number)] (Nat.le_of_ble_eq_true rfl) rfl ?_; intro D nx X C P hW)
  refine xg hW k_Rows_add [] 40 ?_
  ((repeat' (first | (with_reducible refine And.intro ?_ ?_) | (intro h0; exact absurd h0 (by decide)) | (intro _) | ((conv => whnf); (first | (with_reducible refine And.intro ?_ ?_) | (intro h0; exact absurd h0 (by decide)) | (intro _) | (refine hW.1 _ _ _ _ _ _ (c_isFull_LR ?_) (by first | decide | omega) (by decide) (Nat.le_of_ble_eq_true rfl)))))); (all_goals (try omega)); (all_goals (try exact Nat.le_of_ble_eq_true rfl)); (all_goals (try ((conv => whnf); (first | (refine hW.2.1 _ _ ?_) | (change X _ _ _ _ _ _) | (change C _ _ _ _ _ _ _))))); (all_goals (try simp only [xup_at, xup_ne, xup_up, ne_eq, Nat.reduceEqDiff, not_false_eq_true, Int.toNat_natCast] at *)); (all_goals (try omega)))
  all_goals (try simp only [xup_at, xup_ne, xup_up, ne_eq, Nat.reduceEqDiff, not_false_eq_true, Int.toNat_natCast])
  all_goals first | omega | exact h3 (by omega) | exact h4 (by omega)
set_option maxRecDepth 100000 in
theorem c_drop_LR {M : xM} {Q : Option xV → xM → Prop} {keep : Int} (h : (xrg keep ∧ 0 ≤ M 10 2 ∧ M 10 2 ≤ 31) ∧ (0 ≤ keep → keep < M 10 2 → Q none (xup M 10 (xup (M 10) 2 keep))) ∧ (keep < 0 ∨ M 10 2 ≤ keep → Q none M)) : xm 1 m_Rows_dropAllBehind [xR (some 10), xI keep] M Q := by
  obtain ⟨⟨h1, h2⟩, h3, h4⟩ := h
  (refine xm_of (own := "DrumTongue$Rows") rfl (by decide +kernel) tk_Rows [some (xR (some 10)), some (xI keep)] (Nat.le_of_ble_eq_true rfl) rfl ?_; intro D nx X C P hW)
  refine xg hW k_Rows_dropAllBehind [] 40 ?_
  ((repeat' (first | (with_reducible refine And.intro ?_ ?_) | (intro h0; exact absurd h0 (by decide)) | (intro _) | ((conv => whnf); (first | (with_reducible refine And.intro ?_ ?_) | (intro h0; exact absurd h0 (by decide)) | (intro _))))); (all_goals (try omega)); (all_goals (try exact Nat.le_of_ble_eq_true rfl)); (all_goals (try ((conv => whnf); (first | (refine hW.2.1 _ _ ?_) | (change X _ _ _ _ _ _) | (change C _ _ _ _ _ _ _))))); (all_goals (try simp only [xup_at, xup_ne, xup_up, ne_eq, Nat.reduceEqDiff, not_false_eq_true, Int.toNat_natCast] at *)); (all_goals (try omega)))
  all_goals first | exact h3 (by omega) (by omega) | exact h4 (by omega)
set_option maxRecDepth 100000 in
theorem c_used_H {M : xM} {Q : Option xV → xM → Prop} (h : Q (some (xI (M 18 2))) M) : xm 1 m_Rows_used [xR (some 18)] M Q := by
  (refine xm_of (own := "DrumTongue$Rows") rfl (by decide +kernel) tk_Rows [some (xR (some 18))] (Nat.le_of_ble_eq_true rfl) rfl ?_; intro D nx X C P hW)
  refine xg hW k_Rows_used [] 40 ?_
  ((repeat' (first | (with_reducible refine And.intro ?_ ?_) | (intro h0; exact absurd h0 (by decide)) | (intro _) | ((conv => whnf); (first | (with_reducible refine And.intro ?_ ?_) | (intro h0; exact absurd h0 (by decide)) | (intro _))))); (all_goals (try omega)); (all_goals (try exact Nat.le_of_ble_eq_true rfl)); (all_goals (try ((conv => whnf); (first | (refine hW.2.1 _ _ ?_) | (change X _ _ _ _ _ _) | (change C _ _ _ _ _ _ _))))); (all_goals (try simp only [xup_at, xup_ne, xup_up, ne_eq, Nat.reduceEqDiff, not_false_eq_true, Int.toNat_natCast] at *)); (all_goals (try omega)))
  all_goals exact h
set_option maxRecDepth 100000 in
theorem c_isFull_H {M : xM} {Q : Option xV → xM → Prop} (h : (0 ≤ M 18 2 ∧ M 18 2 ≤ 10) ∧ (M 18 2 = 10 → Q (some (xI 1)) M) ∧ (M 18 2 < 10 → Q (some (xI 0)) M)) : xm 1 m_Rows_isFull [xR (some 18)] M Q := by
  obtain ⟨⟨h1, h2⟩, h3, h4⟩ := h
  (refine xm_of (own := "DrumTongue$Rows") rfl (by decide +kernel) tk_Rows [some (xR (some 18))] (Nat.le_of_ble_eq_true rfl) rfl ?_; intro D nx X C P hW)
  refine xg hW k_Rows_isFull [] 40 ?_
  ((repeat' (first | (with_reducible refine And.intro ?_ ?_) | (intro h0; exact absurd h0 (by decide)) | (intro _) | ((conv => whnf); (first | (with_reducible refine And.intro ?_ ?_) | (intro h0; exact absurd h0 (by decide)) | (intro _))))); (all_goals (try omega)); (all_goals (try exact Nat.le_of_ble_eq_true rfl)); (all_goals (try ((conv => whnf); (first | (refine hW.2.1 _ _ ?_) | (change X _ _ _ _ _ _) | (change C _ _ _ _ _ _ _))))); (all_goals (try simp only [xup_at, xup_ne, xup_up, ne_eq, Nat.reduceEqDiff, not_false_eq_true, Int.toNat_natCast] at *)); (all_goals (try omega)))
  all_goals first | exact h3 (by omega) | exact h4 (by omega)
set_option maxRecDepth 100000 in
theorem c_size_H {M : xM} {Q : Option xV → xM → Prop} {i : Int} (h : (xrg i ∧ 0 ≤ M 18 2 ∧ M 18 2 ≤ 10) ∧ (0 ≤ i → i < M 18 2 → Q (some (xI (M 19 i.toNat))) M) ∧ (i < 0 ∨ M 18 2 ≤ i → Q (some (xI 0)) M)) : xm 1 m_Rows_size [xR (some 18), xI i] M Q := by
  obtain ⟨⟨h1, h2⟩, h3, h4⟩ := h
  (refine xm_of (own := "DrumTongue$Rows") rfl (by decide +kernel) tk_Rows [some (xR (some 18)), some (xI i)] (Nat.le_of_ble_eq_true rfl) rfl ?_; intro D nx X C P hW)
  refine xg hW k_Rows_size [] 40 ?_
  ((repeat' (first | (with_reducible refine And.intro ?_ ?_) | (intro h0; exact absurd h0 (by decide)) | (intro _) | ((conv => whnf); (first | (with_reducible refine And.intro ?_ ?_) | (intro h0; exact absurd h0 (by decide)) | (intro _))))); (all_goals (try omega)); (all_goals (try exact Nat.le_of_ble_eq_true rfl)); (all_goals (try ((conv => whnf); (first | (refine hW.2.1 _ _ ?_) | (change X _ _ _ _ _ _) | (change C _ _ _ _ _ _ _))))); (all_goals (try simp only [xup_at, xup_ne, xup_up, ne_eq, Nat.reduceEqDiff, not_false_eq_true, Int.toNat_natCast] at *)); (all_goals (try omega)))
  all_goals first | exact h3 (by omega) (by omega) | exact h4 (by omega)
set_option maxRecDepth 100000 in
theorem c_number_H {M : xM} {Q : Option xV → xM → Prop} {i : Int} (h : (xrg i ∧ 0 ≤ M 18 2 ∧ M 18 2 ≤ 10) ∧ (0 ≤ i → i < M 18 2 → Q (some (xI (M 20 i.toNat))) M) ∧ (i < 0 ∨ M 18 2 ≤ i → Q (some (xI 0)) M)) : xm 1 m_Rows_number [xR (some 18), xI i] M Q := by
  obtain ⟨⟨h1, h2⟩, h3, h4⟩ := h
  (refine xm_of (own := "DrumTongue$Rows") rfl (by decide +kernel) tk_Rows [some (xR (some 18)), some (xI i)] (Nat.le_of_ble_eq_true rfl) rfl ?_; intro D nx X C P hW)
  refine xg hW k_Rows_number [] 40 ?_
  ((repeat' (first | (with_reducible refine And.intro ?_ ?_) | (intro h0; exact absurd h0 (by decide)) | (intro _) | ((conv => whnf); (first | (with_reducible refine And.intro ?_ ?_) | (intro h0; exact absurd h0 (by decide)) | (intro _))))); (all_goals (try omega)); (all_goals (try exact Nat.le_of_ble_eq_true rfl)); (all_goals (try ((conv => whnf); (first | (refine hW.2.1 _ _ ?_) | (change X _ _ _ _ _ _) | (change C _ _ _ _ _ _ _))))); (all_goals (try simp only [xup_at, xup_ne, xup_up, ne_eq, Nat.reduceEqDiff, not_false_eq_true, Int.toNat_natCast] at *)); (all_goals (try omega)))
  all_goals first | exact h3 (by omega) (by omega) | exact h4 (by omega)
set_option maxRecDepth 100000 in
theorem c_sizeI_H {M : xM} {Q : Option xV → xM → Prop} {i : Int} (h : (0 ≤ i ∧ i < M 18 2 ∧ M 18 2 ≤ 10) ∧ Q (some (xI (M 19 i.toNat))) M) : xm 1 m_Rows_size [xR (some 18), xI i] M Q :=
  c_size_H ⟨⟨⟨by omega, by omega⟩, by omega, by omega⟩, fun _ _ => h.2, fun q => by omega⟩
set_option maxRecDepth 100000 in
theorem c_numberI_H {M : xM} {Q : Option xV → xM → Prop} {i : Int} (h : (0 ≤ i ∧ i < M 18 2 ∧ M 18 2 ≤ 10) ∧ Q (some (xI (M 20 i.toNat))) M) : xm 1 m_Rows_number [xR (some 18), xI i] M Q :=
  c_number_H ⟨⟨⟨by omega, by omega⟩, by omega, by omega⟩, fun _ _ => h.2, fun q => by omega⟩
/-- one more row -/
def rAdd_H (M : xM) (size number : Int) : xM := xup (xup (xup M 19 (xup (M 19) (M 18 2).toNat size)) 20 (xup (M 20) (M 18 2).toNat number)) 18 (xup (M 18) 2 (M 18 2 + 1))
set_option maxRecDepth 100000 in
theorem c_add_H {M : xM} {Q : Option xV → xM → Prop} {size number : Int} (h : (0 ≤ M 18 2 ∧ M 18 2 ≤ 10) ∧ (M 18 2 = 10 → Q none M) ∧ (M 18 2 < 10 → Q none (rAdd_H M size number))) : xm 2 m_Rows_add [xR (some 18), xI size, xI number] M Q := by
  obtain ⟨⟨h1, h2⟩, h3, h4⟩ := h
  (refine xm_of (own := "DrumTongue$Rows") rfl (by decide +kernel) tk_Rows [some (xR (some 18)), some (xI size), some (xI number)] (Nat.le_of_ble_eq_true rfl) rfl ?_; intro D nx X C P hW)
  refine xg hW k_Rows_add [] 40 ?_
  ((repeat' (first | (with_reducible refine And.intro ?_ ?_) | (intro h0; exact absurd h0 (by decide)) | (intro _) | ((conv => whnf); (first | (with_reducible refine And.intro ?_ ?_) | (intro h0; exact absurd h0 (by decide)) | (intro _) | (refine hW.1 _ _ _ _ _ _ (c_isFull_H ?_) (by first | decide | omega) (by decide) (Nat.le_of_ble_eq_true rfl)))))); (all_goals (try omega)); (all_goals (try exact Nat.le_of_ble_eq_true rfl)); (all_goals (try ((conv => whnf); (first | (refine hW.2.1 _ _ ?_) | (change X _ _ _ _ _ _) | (change C _ _ _ _ _ _ _))))); (all_goals (try simp only [xup_at, xup_ne, xup_up, ne_eq, Nat.reduceEqDiff, not_false_eq_true, Int.toNat_natCast] at *)); (all_goals (try omega)))
  all_goals (try simp only [xup_at, xup_ne, xup_up, ne_eq, Nat.reduceEqDiff, not_false_eq_true, Int.toNat_natCast])
  all_goals first | omega | exact h3 (by omega) | exact h4 (by omega)
set_option maxRecDepth 100000 in
theorem c_drop_H {M : xM} {Q : Option xV → xM → Prop} {keep : Int} (h : (xrg keep ∧ 0 ≤ M 18 2 ∧ M 18 2 ≤ 10) ∧ (0 ≤ keep → keep < M 18 2 → Q none (xup M 18 (xup (M 18) 2 keep))) ∧ (keep < 0 ∨ M 18 2 ≤ keep → Q none M)) : xm 1 m_Rows_dropAllBehind [xR (some 18), xI keep] M Q := by
  obtain ⟨⟨h1, h2⟩, h3, h4⟩ := h
  (refine xm_of (own := "DrumTongue$Rows") rfl (by decide +kernel) tk_Rows [some (xR (some 18)), some (xI keep)] (Nat.le_of_ble_eq_true rfl) rfl ?_; intro D nx X C P hW)
  refine xg hW k_Rows_dropAllBehind [] 40 ?_
  ((repeat' (first | (with_reducible refine And.intro ?_ ?_) | (intro h0; exact absurd h0 (by decide)) | (intro _) | ((conv => whnf); (first | (with_reducible refine And.intro ?_ ?_) | (intro h0; exact absurd h0 (by decide)) | (intro _))))); (all_goals (try omega)); (all_goals (try exact Nat.le_of_ble_eq_true rfl)); (all_goals (try ((conv => whnf); (first | (refine hW.2.1 _ _ ?_) | (change X _ _ _ _ _ _) | (change C _ _ _ _ _ _ _))))); (all_goals (try simp only [xup_at, xup_ne, xup_up, ne_eq, Nat.reduceEqDiff, not_false_eq_true, Int.toNat_natCast] at *)); (all_goals (try omega)))
  all_goals first | exact h3 (by omega) (by omega) | exact h4 (by omega)
/-- those ahead: how many, their sizes and numbers -/
def aheadOk (M : xM) : Prop := 0 ≤ M 18 2 ∧ M 18 2 ≤ 10 ∧ ∀ i : Nat, (i : Int) < M 18 2 → isB (M 19 i) (M 20 i)
def allApart (M : xM) (s n v : Int) : Prop := ∀ i : Nat, (i : Int) < M 18 2 → apart (M 19 i) (M 20 i) s n v
set_option maxRecDepth 100000 in
theorem c_allApart {M : xM} {Q : Option xV → xM → Prop} {s n v : Int} (h : (aheadOk M ∧ isB s n ∧ xrg v) ∧ (allApart M s n v → Q (some (xI 1)) M) ∧ (¬ allApart M s n v → Q (some (xI 0)) M)) : xm 4 m_Rows_allApartFrom [xR (some 18), xI s, xI n, xI v] M Q := by
  obtain ⟨⟨⟨u1, u2, u3⟩, hb, hv1, hv2⟩, h3, h4⟩ := h
  (refine xm_of (own := "DrumTongue$Rows") rfl (by decide +kernel) tk_Rows [some (xR (some 18)), some (xI s), some (xI n), some (xI v), none] (Nat.le_of_ble_eq_true rfl) rfl ?_; intro D nx X C P hW)
  obtain ⟨s1, s2, s3, s4⟩ := hb
  have loop : ∀ (m i : Nat), (i : Int) + m = M 18 2 → (∀ j, j < i → apart (M 19 j) (M 20 j) s n v) → X 3 [some (xR (some 18)), some (xI s), some (xI n), some (xI v), some (xI (i : Int))] [] (M, D, nx) 0 0 := by
    intro m
    induction m with
    | zero =>
      intro i hi hall
      refine xg hW k_Rows_allApartFrom [3] 40 ?_
      ((repeat' (first | (with_reducible refine And.intro ?_ ?_) | (intro h0; exact absurd h0 (by decide)) | (intro _) | ((conv => whnf); (first | (with_reducible refine And.intro ?_ ?_) | (intro h0; exact absurd h0 (by decide)) | (intro _))))); (all_goals (try omega)); (all_goals (try exact Nat.le_of_ble_eq_true rfl)); (all_goals (try ((conv => whnf); (first | (refine hW.2.1 _ _ ?_) | (change X _ _ _ _ _ _) | (change C _ _ _ _ _ _ _))))); (all_goals (try simp only [xup_at, xup_ne, xup_up, ne_eq, Nat.reduceEqDiff, not_false_eq_true, Int.toNat_natCast] at *)); (all_goals (try omega)))
      exact h3 fun j hj => hall j (by omega)
    | succ m ih =>
      intro i hi hall
      obtain ⟨t1, t2, t3, t4⟩ := u3 i (by omega)
      refine xg hW k_Rows_allApartFrom [3] 40 ?_
      ((repeat' (first | (with_reducible refine And.intro ?_ ?_) | (intro h0; exact absurd h0 (by decide)) | (intro _) | ((conv => whnf); (first | (with_reducible refine And.intro ?_ ?_) | (intro h0; exact absurd h0 (by decide)) | (intro _) | (refine hW.1 _ _ _ _ _ _ (c_areApart ?_) (by first | decide | omega) (by decide) (Nat.le_of_ble_eq_true rfl)))))); (all_goals (try omega)); (all_goals (try exact Nat.le_of_ble_eq_true rfl)); (all_goals (try ((conv => whnf); (first | (refine hW.2.1 _ _ ?_) | (change X _ _ _ _ _ _) | (change C _ _ _ _ _ _ _))))); (all_goals (try simp only [xup_at, xup_ne, xup_up, ne_eq, Nat.reduceEqDiff, not_false_eq_true, Int.toNat_natCast] at *)); (all_goals (try omega)))
      · rename_i hap _
        exact ih (i + 1) (by omega) fun j hj => by
          rcases Nat.lt_or_ge j i with q | q
          · exact hall j q
          · rw [show j = i by omega]; exact hap
      · rename_i hap _
        exact h4 fun hq => hap (hq i (by omega))
  refine xg hW k_Rows_allApartFrom [3] 40 ?_
  ((repeat' (first | (with_reducible refine And.intro ?_ ?_) | (intro h0; exact absurd h0 (by decide)) | (intro _) | ((conv => whnf); (first | (with_reducible refine And.intro ?_ ?_) | (intro h0; exact absurd h0 (by decide)) | (intro _))))); (all_goals (try omega)); (all_goals (try exact Nat.le_of_ble_eq_true rfl)); (all_goals (try ((conv => whnf); (first | (refine hW.2.1 _ _ ?_) | (change X _ _ _ _ _ _) | (change C _ _ _ _ _ _ _))))); (all_goals (try simp only [xup_at, xup_ne, xup_up, ne_eq, Nat.reduceEqDiff, not_false_eq_true, Int.toNat_natCast] at *)); (all_goals (try omega)))
  exact loop (M 18 2).toNat 0 (by omega) fun j hj => by omega
theorem c_allApartY {M : xM} {Q : Option xV → xM → Prop} {s n v : Int} (ha : aheadOk M) (hb : isB s n) (h : xrg v ∧ (allApart M s n v → Q (some (xI 1)) M) ∧ (¬ allApart M s n v → Q (some (xI 0)) M)) : xm 4 m_Rows_allApartFrom [xR (some 18), xI s, xI n, xI v] M Q :=
  c_allApart ⟨⟨ha, hb, h.1⟩, h.2⟩
theorem c_drop0_H {M : xM} {Q : Option xV → xM → Prop} (h : (0 ≤ M 18 2 ∧ M 18 2 ≤ 10) ∧ Q none (xup M 18 (xup (M 18) 2 0))) : xm 1 m_Rows_dropAllBehind [xR (some 18), xI 0] M Q :=
  c_drop_H ⟨⟨⟨by decide, by decide⟩, h.1⟩, fun _ _ => h.2, fun q => by
    have e : M 18 2 = 0 := by omega
    have h2 := h.2
    rw [← e, xup_id, xup_id] at h2
    exact h2⟩
end
section
/-! what may stand behind a word: (how many endings, the first, the second) -/
abbrev xTl : Type := Nat × Nat × Nat
def szT (es : Nat → Int) : xTl → Int
  | (0, _, _) => 0
  | (1, a, _) => es a
  | (_, a, b) => es a + es b
def nuT (es eb : Nat → Int) : xTl → Int
  | (0, _, _) => 0
  | (1, a, _) => eb a
  | (_, a, b) => eb a * 2 ^ (es b).toNat + eb b
def fsT : xTl → Int
  | (0, _, _) => -1
  | (_, a, _) => a
def snT : xTl → Int
  | (0, _, _) => -1
  | (1, _, _) => -1
  | (_, _, b) => b
/-- the tails are l, all else is as in M0 -/
def TR (M0 : xM) (l : List xTl) (M : xM) : Prop := (∀ a, (a < 10 ∨ 14 < a) → M a = M0 a) ∧ M 10 2 = l.length ∧ ∀ t x, l[t]? = some x → M 11 t = szT (M0 7) x ∧ M 12 t = nuT (M0 7) (M0 8) x ∧ M 13 t = fsT x ∧ M 14 t = snT x
theorem TR_push {M0 M : xM} {l : List xTl} {x : xTl} {sz nu fs sn : Int} (h : TR M0 l M) (e1 : sz = szT (M0 7) x) (e2 : nu = nuT (M0 7) (M0 8) x) (e3 : fs = fsT x) (e4 : sn = snT x) : TR M0 (l ++ [x]) (rAdd_LR (xup (xup M 13 (xup (M 13) l.length fs)) 14 (xup (M 14) l.length sn)) sz nu) := by
  obtain ⟨h1, h2, h3⟩ := h
  have hu : (M 10 2).toNat = l.length := by rw [h2]; rfl
  refine ⟨fun a ha => ?_, ?_, fun t y hy => ?_⟩
  · rw [← h1 a ha]
    have n1 : a ≠ 10 := by omega
    have n2 : a ≠ 11 := by omega
    have n3 : a ≠ 12 := by omega
    have n4 : a ≠ 13 := by omega
    have n5 : a ≠ 14 := by omega
    unfold rAdd_LR
    rw [xup_ne n1, xup_ne n3, xup_ne n2, xup_ne n5, xup_ne n4]
  · unfold rAdd_LR
    simp only [xup_at, xup_ne, xup_up, ne_eq, Nat.reduceEqDiff, not_false_eq_true, Int.toNat_natCast]
    rw [h2, List.length_append]
    rfl
  · have hc : (t < l.length ∧ l[t]? = some y) ∨ (t = l.length ∧ y = x) := by
      rcases Nat.lt_trichotomy t l.length with q | q | q
      · rw [List.getElem?_append_left q] at hy
        exact Or.inl ⟨q, hy⟩
      · subst q
        rw [List.getElem?_append_right (Nat.le_refl _), Nat.sub_self] at hy
        exact Or.inr ⟨rfl, (Option.some.inj hy).symm⟩
      · rw [List.getElem?_eq_none (by rw [List.length_append]; simp; omega)] at hy
        cases hy
    unfold rAdd_LR
    simp only [xup_at, xup_ne, xup_up, ne_eq, Nat.reduceEqDiff, not_false_eq_true, Int.toNat_natCast]
    rw [hu]
    rcases hc with ⟨hl, hy⟩ | ⟨rfl, rfl⟩
    · have hne : t ≠ l.length := by omega
      rw [xup_ne hne, xup_ne hne, xup_ne hne, xup_ne hne]
      exact h3 t y hy
    · rw [xup_at, xup_at, xup_at, xup_at]
      exact ⟨e1, e2, e3, e4⟩
set_option maxRecDepth 100000 in
theorem c_Tails_used {M : xM} {Q : Option xV → xM → Prop} (h : Q (some (xI (M 10 2))) M) : xm 2 m_Tails_used [xR (some 9)] M Q := by
  (refine xm_of (own := "DrumTongue$Tails") rfl (by decide +kernel) tk_Tails [some (xR (some 9))] (Nat.le_of_ble_eq_true rfl) rfl ?_; intro D nx X C P hW)
  refine xg hW k_Tails_used [] 40 ?_
  ((repeat' (first | (with_reducible refine And.intro ?_ ?_) | (intro h0; exact absurd h0 (by decide)) | (intro _) | ((conv => whnf); (first | (with_reducible refine And.intro ?_ ?_) | (intro h0; exact absurd h0 (by decide)) | (intro _) | (refine hW.1 _ _ _ _ _ _ (c_used_LR ?_) (by first | decide | omega) (by decide) (Nat.le_of_ble_eq_true rfl)))))); (all_goals (try omega)); (all_goals (try exact Nat.le_of_ble_eq_true rfl)); (all_goals (try ((conv => whnf); (first | (refine hW.2.1 _ _ ?_) | (change X _ _ _ _ _ _) | (change C _ _ _ _ _ _ _))))); (all_goals (try simp only [xup_at, xup_ne, xup_up, ne_eq, Nat.reduceEqDiff, not_false_eq_true, Int.toNat_natCast] at *)); (all_goals (try omega)))
  all_goals exact h
set_option maxRecDepth 100000 in
theorem c_Tails_size {M : xM} {Q : Option xV → xM → Prop} {i : Int} (h : (xrg i ∧ 0 ≤ M 10 2 ∧ M 10 2 ≤ 31) ∧ (0 ≤ i → i < M 10 2 → Q (some (xI (M 11 i.toNat))) M) ∧ (i < 0 ∨ M 10 2 ≤ i → Q (some (xI 0)) M)) : xm 2 m_Tails_size [xR (some 9), xI i] M Q := by
  obtain ⟨⟨h1, h2⟩, h3, h4⟩ := h
  (refine xm_of (own := "DrumTongue$Tails") rfl (by decide +kernel) tk_Tails [some (xR (some 9)), some (xI i)] (Nat.le_of_ble_eq_true rfl) rfl ?_; intro D nx X C P hW)
  refine xg hW k_Tails_size [] 40 ?_
  ((repeat' (first | (with_reducible refine And.intro ?_ ?_) | (intro h0; exact absurd h0 (by decide)) | (intro _) | ((conv => whnf); (first | (with_reducible refine And.intro ?_ ?_) | (intro h0; exact absurd h0 (by decide)) | (intro _) | (refine hW.1 _ _ _ _ _ _ (c_size_LR ?_) (by first | decide | omega) (by decide) (Nat.le_of_ble_eq_true rfl)))))); (all_goals (try omega)); (all_goals (try exact Nat.le_of_ble_eq_true rfl)); (all_goals (try ((conv => whnf); (first | (refine hW.2.1 _ _ ?_) | (change X _ _ _ _ _ _) | (change C _ _ _ _ _ _ _))))); (all_goals (try simp only [xup_at, xup_ne, xup_up, ne_eq, Nat.reduceEqDiff, not_false_eq_true, Int.toNat_natCast] at *)); (all_goals (try omega)))
  all_goals first | exact h3 (by omega) (by omega) | exact h4 (by omega)
set_option maxRecDepth 100000 in
theorem c_Tails_number {M : xM} {Q : Option xV → xM → Prop} {i : Int} (h : (xrg i ∧ 0 ≤ M 10 2 ∧ M 10 2 ≤ 31) ∧ (0 ≤ i → i < M 10 2 → Q (some (xI (M 12 i.toNat))) M) ∧ (i < 0 ∨ M 10 2 ≤ i → Q (some (xI 0)) M)) : xm 2 m_Tails_number [xR (some 9), xI i] M Q := by
  obtain ⟨⟨h1, h2⟩, h3, h4⟩ := h
  (refine xm_of (own := "DrumTongue$Tails") rfl (by decide +kernel) tk_Tails [some (xR (some 9)), some (xI i)] (Nat.le_of_ble_eq_true rfl) rfl ?_; intro D nx X C P hW)
  refine xg hW k_Tails_number [] 40 ?_
  ((repeat' (first | (with_reducible refine And.intro ?_ ?_) | (intro h0; exact absurd h0 (by decide)) | (intro _) | ((conv => whnf); (first | (with_reducible refine And.intro ?_ ?_) | (intro h0; exact absurd h0 (by decide)) | (intro _) | (refine hW.1 _ _ _ _ _ _ (c_number_LR ?_) (by first | decide | omega) (by decide) (Nat.le_of_ble_eq_true rfl)))))); (all_goals (try omega)); (all_goals (try exact Nat.le_of_ble_eq_true rfl)); (all_goals (try ((conv => whnf); (first | (refine hW.2.1 _ _ ?_) | (change X _ _ _ _ _ _) | (change C _ _ _ _ _ _ _))))); (all_goals (try simp only [xup_at, xup_ne, xup_up, ne_eq, Nat.reduceEqDiff, not_false_eq_true, Int.toNat_natCast] at *)); (all_goals (try omega)))
  all_goals first | exact h3 (by omega) (by omega) | exact h4 (by omega)
set_option maxRecDepth 100000 in
theorem c_Tails_endingAt {M : xM} {Q : Option xV → xM → Prop} {t i : Int} (h : (xrg t ∧ xrg i ∧ 0 ≤ M 10 2 ∧ M 10 2 ≤ 31) ∧ (0 ≤ t → t < M 10 2 → (i = 0 → Q (some (xI (M 13 t.toNat))) M) ∧ (i = 1 → Q (some (xI (M 14 t.toNat))) M) ∧ (i ≠ 0 → i ≠ 1 → Q (some (xI (-1))) M)) ∧ (t < 0 ∨ M 10 2 ≤ t → Q (some (xI (-1))) M)) : xm 2 m_Tails_endingAt [xR (some 9), xI t, xI i] M Q := by
  obtain ⟨⟨h1, h2, h5⟩, h3, h4⟩ := h
  (refine xm_of (own := "DrumTongue$Tails") rfl (by decide +kernel) tk_Tails [some (xR (some 9)), some (xI t), some (xI i)] (Nat.le_of_ble_eq_true rfl) rfl ?_; intro D nx X C P hW)
  refine xg hW k_Tails_endingAt [] 40 ?_
  ((repeat' (first | (with_reducible refine And.intro ?_ ?_) | (intro h0; exact absurd h0 (by decide)) | (intro _) | ((conv => whnf); (first | (with_reducible refine And.intro ?_ ?_) | (intro h0; exact absurd h0 (by decide)) | (intro _) | (refine hW.1 _ _ _ _ _ _ (c_used_LR ?_) (by first | decide | omega) (by decide) (Nat.le_of_ble_eq_true rfl)))))); (all_goals (try omega)); (all_goals (try exact Nat.le_of_ble_eq_true rfl)); (all_goals (try ((conv => whnf); (first | (refine hW.2.1 _ _ ?_) | (change X _ _ _ _ _ _) | (change C _ _ _ _ _ _ _))))); (all_goals (try simp only [xup_at, xup_ne, xup_up, ne_eq, Nat.reduceEqDiff, not_false_eq_true, Int.toNat_natCast] at *)); (all_goals (try omega)))
  all_goals first | exact h4 (by omega) | exact (h3 (by omega) (by omega)).1 (by omega) | exact (h3 (by omega) (by omega)).2.1 (by omega) | exact (h3 (by omega) (by omega)).2.2 (by omega) (by omega)
set_option maxRecDepth 100000 in
theorem c_Tails_add {M M0 : xM} {Q : Option xV → xM → Prop} {l : List xTl} {sz nu fs sn : Int} (x : xTl) (hl : l.length < 31) (hT : TR M0 l M) (h : (sz = szT (M0 7) x ∧ nu = nuT (M0 7) (M0 8) x ∧ fs = fsT x ∧ sn = snT x) ∧ (∀ M', TR M0 (l ++ [x]) M' → Q none M')) : xm 3 m_Tails_add [xR (some 9), xI sz, xI nu, xI fs, xI sn] M Q := by
  obtain ⟨⟨e1, e2, e3, e4⟩, hq⟩ := h
  have hu := hT.2.1
  (refine xm_of (own := "DrumTongue$Tails") rfl (by decide +kernel) tk_Tails [some (xR (some 9)), some (xI sz), some (xI nu), some (xI fs), some (xI sn), none] (Nat.le_of_ble_eq_true rfl) rfl ?_; intro D nx X C P hW)
  refine xg hW k_Tails_add [] 40 ?_
  ((repeat' (first | (with_reducible refine And.intro ?_ ?_) | (intro h0; exact absurd h0 (by decide)) | (intro _) | ((conv => whnf); (first | (with_reducible refine And.intro ?_ ?_) | (intro h0; exact absurd h0 (by decide)) | (intro _) | (refine hW.1 _ _ _ _ _ _ (c_used_LR ?_) (by first | decide | omega) (by decide) (Nat.le_of_ble_eq_true rfl)) | (refine hW.1 _ _ _ _ _ _ (c_add_LR ?_) (by first | decide | omega) (by decide) (Nat.le_of_ble_eq_true rfl)))))); (all_goals (try omega)); (all_goals (try exact Nat.le_of_ble_eq_true rfl)); (all_goals (try ((conv => whnf); (first | (refine hW.2.1 _ _ ?_) | (change X _ _ _ _ _ _) | (change C _ _ _ _ _ _ _))))); (all_goals (try simp only [xup_at, xup_ne, xup_up, ne_eq, Nat.reduceEqDiff, not_false_eq_true, Int.toNat_natCast] at *)); (all_goals (try omega)))
  have h1 := hq _ (TR_push hT e1 e2 e3 e4)
  rw [hu, Int.toNat_natCast]
  exact h1
/-- the singles of one size, and the pairs, out of the first k (of the pairs with a as the first) -/
def sgl (es : Nat → Int) (z : Int) : Nat → List xTl
  | 0 => []
  | k + 1 => sgl es z k ++ (if es k = z then [(1, k, 0)] else [])
def prs1 (es : Nat → Int) (z : Int) (a : Nat) : Nat → List xTl
  | 0 => []
  | k + 1 => prs1 es z a k ++ (if es a + es k = z then [(2, a, k)] else [])
def prs (es : Nat → Int) (z : Int) (n : Nat) : Nat → List xTl
  | 0 => []
  | k + 1 => prs es z n k ++ prs1 es z k n
def tls (es : Nat → Int) (n : Nat) : Nat → List xTl
  | 0 => [(0, 0, 0)]
  | z + 1 => tls es n z ++ sgl es (z + 1 : Nat) n ++ prs es (z + 1 : Nat) n n
/-- endings are rows of 1 .. 6 beats, n of them -/
def eOk (M : xM) : Prop := 0 ≤ M 6 2 ∧ M 6 2 ≤ 5 ∧ ∀ i : Nat, (i : Int) < M 6 2 → 1 ≤ M 7 i ∧ M 7 i ≤ 6 ∧ 0 ≤ M 8 i ∧ M 8 i < 2 ^ (M 7 i).toNat
theorem TR_low {M0 M : xM} {l : List xTl} (h : TR M0 l M) (a : Nat) (ha : a < 10) : M a = M0 a := h.1 a (Or.inl ha)
theorem sgl_mono (es : Nat → Int) (z : Int) {i j : Nat} (hij : i ≤ j) : (sgl es z i).length ≤ (sgl es z j).length := by
  induction j with
  | zero => rw [show i = 0 by omega]; exact Nat.le_refl _
  | succ j ih =>
    rcases Nat.lt_or_ge i (j + 1) with q | q
    · have := ih (by omega)
      rw [sgl, List.length_append]
      omega
    · rw [show i = j + 1 by omega]; exact Nat.le_refl _
theorem prs1_mono (es : Nat → Int) (z : Int) (a : Nat) {i j : Nat} (hij : i ≤ j) : (prs1 es z a i).length ≤ (prs1 es z a j).length := by
  induction j with
  | zero => rw [show i = 0 by omega]; exact Nat.le_refl _
  | succ j ih =>
    rcases Nat.lt_or_ge i (j + 1) with q | q
    · have := ih (by omega)
      rw [prs1, List.length_append]
      omega
    · rw [show i = j + 1 by omega]; exact Nat.le_refl _
theorem prs_mono (es : Nat → Int) (z : Int) (n : Nat) {i j : Nat} (hij : i ≤ j) : (prs es z n i).length ≤ (prs es z n j).length := by
  induction j with
  | zero => rw [show i = 0 by omega]; exact Nat.le_refl _
  | succ j ih =>
    rcases Nat.lt_or_ge i (j + 1) with q | q
    · have := ih (by omega)
      rw [prs, List.length_append]
      omega
    · rw [show i = j + 1 by omega]; exact Nat.le_refl _
set_option maxRecDepth 100000 in
theorem c_addSingles {M M0 : xM} {Q : Option xV → xM → Prop} {l : List xTl} {z : Int} (he : eOk M0) (hz : xrg z) (hl : l.length + (sgl (M0 7) z (M0 6 2).toNat).length ≤ 31) (hT : TR M0 l M) (hq : ∀ M', TR M0 (l ++ sgl (M0 7) z (M0 6 2).toNat) M' → Q none M') : xm 4 m_Tails_addSingles [xR (some 9), xR (some 6), xI z] M Q := by
  obtain ⟨e1, e2, e3⟩ := he
  (refine xm_of (own := "DrumTongue$Tails") rfl (by decide +kernel) tk_Tails [some (xR (some 9)), some (xR (some 6)), some (xI z), none] (Nat.le_of_ble_eq_true rfl) rfl ?_; intro D nx X C P hW)
  have loop : ∀ (m i : Nat) (M : xM), (i : Int) + m = M0 6 2 → TR M0 (l ++ sgl (M0 7) z i) M → X 2 [some (xR (some 9)), some (xR (some 6)), some (xI z), some (xI (i : Int))] [] (M, D, nx) 0 0 := by
    intro m
    induction m with
    | zero =>
      intro i M hi hT
      have f1 : M 6 2 = M0 6 2 := by rw [TR_low hT 6 (by decide)]
      refine xg hW k_Tails_addSingles [2] 40 ?_
      ((repeat' (first | (with_reducible refine And.intro ?_ ?_) | (intro h0; exact absurd h0 (by decide)) | (intro _) | ((conv => whnf); (first | (with_reducible refine And.intro ?_ ?_) | (intro h0; exact absurd h0 (by decide)) | (intro _) | (refine hW.1 _ _ _ _ _ _ (c_used_E ?_) (by first | decide | omega) (by decide) (Nat.le_of_ble_eq_true rfl)))))); (all_goals (try omega)); (all_goals (try exact Nat.le_of_ble_eq_true rfl)); (all_goals (try ((conv => whnf); (first | (refine hW.2.1 _ _ ?_) | (change X _ _ _ _ _ _) | (change C _ _ _ _ _ _ _))))); (all_goals (try simp only [xup_at, xup_ne, xup_up, ne_eq, Nat.reduceEqDiff, not_false_eq_true, Int.toNat_natCast] at *)); (all_goals (try omega)))
      have h1 := hq M
      rw [show (M0 6 2).toNat = i by omega] at h1
      exact h1 hT
    | succ m ih =>
      intro i M hi hT
      have f1 : M 6 2 = M0 6 2 := by rw [TR_low hT 6 (by decide)]
      have f2 : M 7 i = M0 7 i := by rw [TR_low hT 7 (by decide)]
      have f3 : M 8 i = M0 8 i := by rw [TR_low hT 8 (by decide)]
      have g1 := e3 i (by omega)
      have g2 := sgl_mono (M0 7) z (show i + 1 ≤ (M0 6 2).toNat by omega)
      rw [sgl, List.length_append] at g2
      refine xg hW k_Tails_addSingles [2] 40 ?_
      ((repeat' (first | (with_reducible refine And.intro ?_ ?_) | (intro h0; exact absurd h0 (by decide)) | (intro _) | ((conv => whnf); (first | (with_reducible refine And.intro ?_ ?_) | (intro h0; exact absurd h0 (by decide)) | (intro _) | (refine hW.1 _ _ _ _ _ _ (c_used_E ?_) (by first | decide | omega) (by decide) (Nat.le_of_ble_eq_true rfl)) | (refine hW.1 _ _ _ _ _ _ (c_sizeI_E ?_) (by first | decide | omega) (by decide) (Nat.le_of_ble_eq_true rfl)) | (refine hW.1 _ _ _ _ _ _ (c_numberI_E ?_) (by first | decide | omega) (by decide) (Nat.le_of_ble_eq_true rfl)))))); (all_goals (try omega)); (all_goals (try exact Nat.le_of_ble_eq_true rfl)); (all_goals (try ((conv => whnf); (first | (refine hW.2.1 _ _ ?_) | (change X _ _ _ _ _ _) | (change C _ _ _ _ _ _ _))))); (all_goals (try simp only [xup_at, xup_ne, xup_up, ne_eq, Nat.reduceEqDiff, not_false_eq_true, Int.toNat_natCast] at *)); (all_goals (try omega)))
      · refine ih (i + 1) M (by omega) ?_
        rw [sgl, if_neg (by omega), List.append_nil]
        exact hT
      · rw [if_pos (by omega)] at g2
        refine hW.1 _ _ _ _ _ _ (c_Tails_add (1, i, 0) (by rw [List.length_append]; simp only [List.length_cons, List.length_nil] at g2; omega) hT ⟨⟨by simp only [szT]; omega, f3, rfl, rfl⟩, fun M' hT' => ?_⟩) (by decide) (by decide) (Nat.le_of_ble_eq_true rfl)
        ((repeat' (first | (with_reducible refine And.intro ?_ ?_) | (intro h0; exact absurd h0 (by decide)) | (intro _) | ((conv => whnf); (first | (with_reducible refine And.intro ?_ ?_) | (intro h0; exact absurd h0 (by decide)) | (intro _))))); (all_goals (try omega)); (all_goals (try exact Nat.le_of_ble_eq_true rfl)); (all_goals (try ((conv => whnf); (first | (refine hW.2.1 _ _ ?_) | (change X _ _ _ _ _ _) | (change C _ _ _ _ _ _ _))))); (all_goals (try simp only [xup_at, xup_ne, xup_up, ne_eq, Nat.reduceEqDiff, not_false_eq_true, Int.toNat_natCast] at *)); (all_goals (try omega)))
        refine ih (i + 1) M' (by omega) ?_
        rw [sgl, if_pos (by omega), ← List.append_assoc]
        exact hT'
  refine xg hW k_Tails_addSingles [2] 40 ?_
  ((repeat' (first | (with_reducible refine And.intro ?_ ?_) | (intro h0; exact absurd h0 (by decide)) | (intro _) | ((conv => whnf); (first | (with_reducible refine And.intro ?_ ?_) | (intro h0; exact absurd h0 (by decide)) | (intro _))))); (all_goals (try omega)); (all_goals (try exact Nat.le_of_ble_eq_true rfl)); (all_goals (try ((conv => whnf); (first | (refine hW.2.1 _ _ ?_) | (change X _ _ _ _ _ _) | (change C _ _ _ _ _ _ _))))); (all_goals (try simp only [xup_at, xup_ne, xup_up, ne_eq, Nat.reduceEqDiff, not_false_eq_true, Int.toNat_natCast] at *)); (all_goals (try omega)))
  refine loop (M0 6 2).toNat 0 M (by omega) ?_
  rw [sgl, List.append_nil]
  exact hT
theorem xior {a k b : Int} (ha : 0 ≤ a) (hb : 0 ≤ b) (hk : 0 ≤ k) (hk2 : k < 31) (h1 : b < 2 ^ k.toNat) (h2 : a * 2 ^ k.toNat + b < 2147483648) : x_ior (x_ishl a k) b = a * 2 ^ k.toNat + b := by
  obtain ⟨a, rfl⟩ := Int.eq_ofNat_of_zero_le ha
  obtain ⟨b, rfl⟩ := Int.eq_ofNat_of_zero_le hb
  obtain ⟨k, rfl⟩ := Int.eq_ofNat_of_zero_le hk
  rw [Int.toNat_natCast] at h1 h2 ⊢
  have e : ((2 : Int) ^ k) = ((2 ^ k : Nat) : Int) := (Int.natCast_pow 2 k).symm
  rw [e] at h1 h2 ⊢
  have h3 : a * 2 ^ k + b < 2 ^ 31 := by
    rw [← Int.natCast_mul, ← Int.natCast_add] at h2
    omega
  rw [xn_shl (by omega) (by omega), xn_or (by omega) (by omega), ← Int.natCast_mul, ← Int.natCast_add, Nat.mul_comm, Nat.two_pow_add_eq_or_of_lt (by omega)]
theorem xmul_lt {a b : Int} {i j : Nat} (ha : 0 ≤ a) (h1 : a < 2 ^ i) (h2 : 0 ≤ b) (h3 : b < 2 ^ j) : 0 ≤ a * 2 ^ j + b ∧ a * 2 ^ j + b < 2 ^ (i + j) := by
  have p : (0 : Int) < 2 ^ j := Int.pow_pos (by decide)
  have q : 0 ≤ a * 2 ^ j := Int.mul_nonneg ha (Int.le_of_lt p)
  have r : (a + 1) * 2 ^ j ≤ 2 ^ i * 2 ^ j := Int.mul_le_mul_of_nonneg_right (by omega) (Int.le_of_lt p)
  rw [Int.add_mul, Int.one_mul, ← Int.pow_add] at r
  omega
theorem xpow_le {i j : Nat} (h : i ≤ j) : (2 : Int) ^ i ≤ 2 ^ j := by
  have := Nat.pow_le_pow_right (n := 2) (by decide) h
  have e : ∀ k, ((2 : Int) ^ k) = ((2 ^ k : Nat) : Int) := fun k => (Int.natCast_pow 2 k).symm
  rw [e, e]
  omega
set_option maxHeartbeats 4000000 in
set_option maxRecDepth 100000 in
theorem c_addPairs {M M0 : xM} {Q : Option xV → xM → Prop} {l : List xTl} {z : Int} (he : eOk M0) (hz : xrg z) (hl : l.length + (prs (M0 7) z (M0 6 2).toNat (M0 6 2).toNat).length ≤ 31) (hT : TR M0 l M) (hq : ∀ M', TR M0 (l ++ prs (M0 7) z (M0 6 2).toNat (M0 6 2).toNat) M' → Q none M') : xm 4 m_Tails_addPairs [xR (some 9), xR (some 6), xI z] M Q := by
  obtain ⟨e1, e2, e3⟩ := he
  obtain ⟨n, hn⟩ := Int.eq_ofNat_of_zero_le e1
  have hn' : (M0 6 2).toNat = n := by omega
  rw [hn'] at hl hq
  (refine xm_of (own := "DrumTongue$Tails") rfl (by decide +kernel) tk_Tails [some (xR (some 9)), some (xR (some 6)), some (xI z), none, none] (Nat.le_of_ble_eq_true rfl) rfl ?_; intro D nx X C P hW)
  have inner : ∀ (m i a : Nat) (M : xM) (l : List xTl), i + m = n → a < n → l.length + (prs1 (M0 7) z a n).length ≤ 31 → TR M0 (l ++ prs1 (M0 7) z a i) M → (∀ M', TR M0 (l ++ prs1 (M0 7) z a n) M' → X 2 [some (xR (some 9)), some (xR (some 6)), some (xI z), some (xI ((a : Int) + 1)), some (xI (n : Int))] [] (M', D, nx) 0 0) → X 13 [some (xR (some 9)), some (xR (some 6)), some (xI z), some (xI (a : Int)), some (xI (i : Int))] [] (M, D, nx) 0 0 := by
    intro m
    induction m with
    | zero =>
      intro i a M l hi ha hl hT hk
      have f1 : M 6 2 = n := by rw [TR_low hT 6 (by decide), hn]
      refine xg hW k_Tails_addPairs [2, 13] 40 ?_
      ((repeat' (first | (with_reducible refine And.intro ?_ ?_) | (intro h0; exact absurd h0 (by decide)) | (intro _) | ((conv => whnf); (first | (with_reducible refine And.intro ?_ ?_) | (intro h0; exact absurd h0 (by decide)) | (intro _) | (refine hW.1 _ _ _ _ _ _ (c_used_E ?_) (by first | decide | omega) (by decide) (Nat.le_of_ble_eq_true rfl)))))); (all_goals (try omega)); (all_goals (try exact Nat.le_of_ble_eq_true rfl)); (all_goals (try ((conv => whnf); (first | (refine hW.2.1 _ _ ?_) | (change X _ _ _ _ _ _) | (change C _ _ _ _ _ _ _))))); (all_goals (try simp only [xup_at, xup_ne, xup_up, ne_eq, Nat.reduceEqDiff, not_false_eq_true, Int.toNat_natCast] at *)); (all_goals (try omega)))
      obtain rfl : i = n := by omega
      exact hk M hT
    | succ m ih =>
      intro i a M l hi ha hl hT hk
      have f1 : M 6 2 = n := by rw [TR_low hT 6 (by decide), hn]
      have f2 : M 7 i = M0 7 i := by rw [TR_low hT 7 (by decide)]
      have f3 : M 8 i = M0 8 i := by rw [TR_low hT 8 (by decide)]
      have f4 : M 7 a = M0 7 a := by rw [TR_low hT 7 (by decide)]
      have f5 : M 8 a = M0 8 a := by rw [TR_low hT 8 (by decide)]
      have g1 := e3 i (by omega)
      have g3 := e3 a (by omega)
      have g2 := prs1_mono (M0 7) z a (show i + 1 ≤ n by omega)
      rw [prs1, List.length_append] at g2
      refine xg hW k_Tails_addPairs [2, 13] 40 ?_
      ((repeat' (first | (with_reducible refine And.intro ?_ ?_) | (intro h0; exact absurd h0 (by decide)) | (intro _) | ((conv => whnf); (first | (with_reducible refine And.intro ?_ ?_) | (intro h0; exact absurd h0 (by decide)) | (intro _) | (refine hW.1 _ _ _ _ _ _ (c_used_E ?_) (by first | decide | omega) (by decide) (Nat.le_of_ble_eq_true rfl)) | (refine hW.1 _ _ _ _ _ _ (c_sizeI_E ?_) (by first | decide | omega) (by decide) (Nat.le_of_ble_eq_true rfl)) | (refine hW.1 _ _ _ _ _ _ (c_numberI_E ?_) (by first | decide | omega) (by decide) (Nat.le_of_ble_eq_true rfl)))))); (all_goals (try omega)); (all_goals (try exact Nat.le_of_ble_eq_true rfl)); (all_goals (try ((conv => whnf); (first | (refine hW.2.1 _ _ ?_) | (change X _ _ _ _ _ _) | (change C _ _ _ _ _ _ _))))); (all_goals (try simp only [xup_at, xup_ne, xup_up, ne_eq, Nat.reduceEqDiff, not_false_eq_true, Int.toNat_natCast] at *)); (all_goals (try omega)))
      · refine ih (i + 1) a M l (by omega) ha hl ?_ hk
        rw [prs1, if_neg (by omega), List.append_nil]
        exact hT
      · rw [if_pos (by omega)] at g2
        have p1 := xmul_lt (a := M0 8 a) (b := M0 8 i) (i := (M0 7 a).toNat) (j := (M0 7 i).toNat) (by omega) (by omega) (by omega) (by omega)
        have p2 := xpow_le (show (M0 7 a).toNat + (M0 7 i).toNat ≤ 12 by omega)
        refine hW.1 _ _ _ _ _ _ (c_Tails_add (2, a, i) (by rw [List.length_append]; simp only [List.length_cons, List.length_nil] at g2; omega) hT ⟨⟨by simp only [szT]; omega, ?_, rfl, rfl⟩, fun M' hT' => ?_⟩) (by decide) (by decide) (Nat.le_of_ble_eq_true rfl)
        · rw [f2, f3, f5]
          exact xior (by omega) (by omega) (by omega) (by omega) (by omega) (by omega)
        ((repeat' (first | (with_reducible refine And.intro ?_ ?_) | (intro h0; exact absurd h0 (by decide)) | (intro _) | ((conv => whnf); (first | (with_reducible refine And.intro ?_ ?_) | (intro h0; exact absurd h0 (by decide)) | (intro _))))); (all_goals (try omega)); (all_goals (try exact Nat.le_of_ble_eq_true rfl)); (all_goals (try ((conv => whnf); (first | (refine hW.2.1 _ _ ?_) | (change X _ _ _ _ _ _) | (change C _ _ _ _ _ _ _))))); (all_goals (try simp only [xup_at, xup_ne, xup_up, ne_eq, Nat.reduceEqDiff, not_false_eq_true, Int.toNat_natCast] at *)); (all_goals (try omega)))
        refine ih (i + 1) a M' l (by omega) ha hl ?_ hk
        rw [prs1, if_pos (by omega), ← List.append_assoc]
        exact hT'
  have outer : ∀ (m a : Nat) (M : xM) (v : Option xV), a + m = n → TR M0 (l ++ prs (M0 7) z n a) M → X 2 [some (xR (some 9)), some (xR (some 6)), some (xI z), some (xI (a : Int)), v] [] (M, D, nx) 0 0 := by
    intro m
    induction m with
    | zero =>
      intro a M v ha hT
      have f1 : M 6 2 = n := by rw [TR_low hT 6 (by decide), hn]
      refine xg hW k_Tails_addPairs [2, 13] 40 ?_
      ((repeat' (first | (with_reducible refine And.intro ?_ ?_) | (intro h0; exact absurd h0 (by decide)) | (intro _) | ((conv => whnf); (first | (with_reducible refine And.intro ?_ ?_) | (intro h0; exact absurd h0 (by decide)) | (intro _) | (refine hW.1 _ _ _ _ _ _ (c_used_E ?_) (by first | decide | omega) (by decide) (Nat.le_of_ble_eq_true rfl)))))); (all_goals (try omega)); (all_goals (try exact Nat.le_of_ble_eq_true rfl)); (all_goals (try ((conv => whnf); (first | (refine hW.2.1 _ _ ?_) | (change X _ _ _ _ _ _) | (change C _ _ _ _ _ _ _))))); (all_goals (try simp only [xup_at, xup_ne, xup_up, ne_eq, Nat.reduceEqDiff, not_false_eq_true, Int.toNat_natCast] at *)); (all_goals (try omega)))
      obtain rfl : a = n := by omega
      exact hq M hT
    | succ m ih =>
      intro a M v ha hT
      have f1 : M 6 2 = n := by rw [TR_low hT 6 (by decide), hn]
      have g2 := prs_mono (M0 7) z n (show a + 1 ≤ n by omega)
      rw [prs, List.length_append] at g2
      refine xg hW k_Tails_addPairs [2, 13] 40 ?_
      ((repeat' (first | (with_reducible refine And.intro ?_ ?_) | (intro h0; exact absurd h0 (by decide)) | (intro _) | ((conv => whnf); (first | (with_reducible refine And.intro ?_ ?_) | (intro h0; exact absurd h0 (by decide)) | (intro _) | (refine hW.1 _ _ _ _ _ _ (c_used_E ?_) (by first | decide | omega) (by decide) (Nat.le_of_ble_eq_true rfl)))))); (all_goals (try omega)); (all_goals (try exact Nat.le_of_ble_eq_true rfl)); (all_goals (try ((conv => whnf); (first | (refine hW.2.1 _ _ ?_) | (change X _ _ _ _ _ _) | (change C _ _ _ _ _ _ _))))); (all_goals (try simp only [xup_at, xup_ne, xup_up, ne_eq, Nat.reduceEqDiff, not_false_eq_true, Int.toNat_natCast] at *)); (all_goals (try omega)))
      refine inner n 0 a M (l ++ prs (M0 7) z n a) (by omega) (by omega) (by rw [List.length_append]; omega) ?_ fun M' hT' => ?_
      · rw [prs1, List.append_nil]
        exact hT
      · refine ih (a + 1) M' _ (by omega) ?_
        rw [prs, ← List.append_assoc]
        exact hT'
  refine xg hW k_Tails_addPairs [2, 13] 40 ?_
  ((repeat' (first | (with_reducible refine And.intro ?_ ?_) | (intro h0; exact absurd h0 (by decide)) | (intro _) | ((conv => whnf); (first | (with_reducible refine And.intro ?_ ?_) | (intro h0; exact absurd h0 (by decide)) | (intro _))))); (all_goals (try omega)); (all_goals (try exact Nat.le_of_ble_eq_true rfl)); (all_goals (try ((conv => whnf); (first | (refine hW.2.1 _ _ ?_) | (change X _ _ _ _ _ _) | (change C _ _ _ _ _ _ _))))); (all_goals (try simp only [xup_at, xup_ne, xup_up, ne_eq, Nat.reduceEqDiff, not_false_eq_true, Int.toNat_natCast] at *)); (all_goals (try omega)))
  refine outer n 0 M none (by omega) ?_
  rw [prs, List.append_nil]
  exact hT
/-! how many tails there are -/
def cnt (p : Nat → Bool) : Nat → Nat
  | 0 => 0
  | k + 1 => cnt p k + (if p k then 1 else 0)
theorem cnt_le (p : Nat → Bool) : ∀ k, cnt p k ≤ k
  | 0 => Nat.le_refl _
  | k + 1 => by have := cnt_le p k; rw [cnt]; split <;> omega
theorem cnt_or {p q r : Nat → Bool} : ∀ {k : Nat}, (∀ i, i < k → ¬ (p i = true ∧ q i = true)) → (∀ i, i < k → (p i = true ∨ q i = true) → r i = true) → cnt p k + cnt q k ≤ cnt r k
  | 0, _, _ => Nat.le_refl _
  | k + 1, h, h2 => by
    have h3 := cnt_or (k := k) (fun i hi => h i (by omega)) (fun i hi => h2 i (by omega))
    have h4 := h k (by omega)
    have h5 := h2 k (by omega)
    rw [cnt, cnt, cnt]
    cases hp : p k <;> cases hq : q k <;> cases hr : r k <;> simp [hp, hq, hr] at h4 h5 ⊢ <;> omega
theorem sgl_len (es : Nat → Int) (z : Int) : ∀ k, (sgl es z k).length = cnt (fun a => decide (es a = z)) k
  | 0 => rfl
  | k + 1 => by
    rw [sgl, List.length_append, sgl_len es z k, cnt]
    by_cases h : es k = z <;> simp [h]
theorem prs1_len (es : Nat → Int) (z : Int) (a : Nat) : ∀ k, (prs1 es z a k).length = cnt (fun b => decide (es a + es b = z)) k
  | 0 => rfl
  | k + 1 => by
    rw [prs1, List.length_append, prs1_len es z a k, cnt]
    by_cases h : es a + es k = z <;> simp [h]
def cntS (es : Nat → Int) (z : Int) (n : Nat) : Nat → Nat
  | 0 => 0
  | a + 1 => cntS es z n a + cnt (fun b => decide (es a + es b ≤ z)) n
theorem prs_len (es : Nat → Int) (z : Int) (n : Nat) : ∀ k, (prs es (z + 1) n k).length + cntS es z n k ≤ cntS es (z + 1) n k
  | 0 => Nat.le_refl _
  | k + 1 => by
    have h1 := prs_len es z n k
    have h2 := cnt_or (p := fun b => decide (es k + es b = z + 1)) (q := fun b => decide (es k + es b ≤ z)) (r := fun b => decide (es k + es b ≤ z + 1)) (k := n) (fun i _ => by simp only [decide_eq_true_eq]; omega) (fun i _ => by simp only [decide_eq_true_eq]; omega)
    rw [prs, List.length_append, prs1_len, cntS, cntS]
    omega
theorem cntS_le (es : Nat → Int) (z : Int) (n : Nat) : ∀ k, cntS es z n k ≤ k * n
  | 0 => by simp [cntS]
  | k + 1 => by
    have h1 := cntS_le es z n k
    have h2 := cnt_le (fun b => decide (es k + es b ≤ z)) n
    rw [cntS, Nat.add_mul]
    omega
theorem tls_len (es : Nat → Int) (n : Nat) : ∀ z : Nat, (tls es n z).length ≤ 1 + cnt (fun a => decide (es a ≤ z)) n + cntS es z n n
  | 0 => by rw [tls]; simp only [List.length_cons, List.length_nil]; omega
  | z + 1 => by
    have h1 := tls_len es n z
    have h2 := prs_len es z n n
    have h3 := cnt_or (p := fun a => decide (es a = (z + 1 : Nat))) (q := fun a => decide (es a ≤ z)) (r := fun a => decide (es a ≤ (z + 1 : Nat))) (k := n) (fun i _ => by simp only [decide_eq_true_eq]; omega) (fun i _ => by simp only [decide_eq_true_eq]; omega)
    rw [tls, List.length_append, List.length_append, sgl_len]
    rw [show ((z + 1 : Nat) : Int) = (z : Int) + 1 from rfl] at *
    omega
theorem tls_31 (es : Nat → Int) {n : Nat} (hn : n ≤ 5) (z : Nat) : (tls es n z).length ≤ 31 := by
  have h1 := tls_len es n z
  have h2 := cnt_le (fun a => decide (es a ≤ z)) n
  have h3 := cntS_le es z n n
  have h4 : n * n ≤ 25 := Nat.mul_le_mul hn hn
  omega
/-- the tail without endings stands first -/
def tl0 (M : xM) : Prop := 1 ≤ M 10 2 ∧ M 10 2 ≤ 31 ∧ M 11 0 = 0 ∧ M 12 0 = 0 ∧ M 13 0 = -1 ∧ M 14 0 = -1
theorem tl0_TR {M M' : xM} (h : tl0 M) (h1 : ∀ a, (a < 10 ∨ 14 < a) → M' a = M a) (h2 : M' 10 2 = 1) (h3 : M' 11 = M 11) (h4 : M' 12 = M 12) (h5 : M' 13 = M 13) (h6 : M' 14 = M 14) : TR M (tls (M 7) (M 6 2).toNat 0) M' := by
  obtain ⟨-, -, z1, z2, z3, z4⟩ := h
  refine ⟨h1, h2, fun t x hx => ?_⟩
  have ht : t = 0 := by
    have := (List.getElem?_eq_some_iff.mp hx).1
    simp only [tls, List.length_cons, List.length_nil] at this
    omega
  subst ht
  have hx' : (0, 0, 0) = x := Option.some.inj hx
  subst hx'
  rw [h3, h4, h5, h6]
  exact ⟨z1, z2, z3, z4⟩
set_option maxRecDepth 100000 in
theorem c_remake {M : xM} {Q : Option xV → xM → Prop} (he : eOk M) (h0 : tl0 M) (hq : ∀ M', TR M (tls (M 7) (M 6 2).toNat 12) M' → Q none M') : xm 5 m_Tails_remake [xR (some 9), xR (some 6)] M Q := by
  have hn : (M 6 2).toNat ≤ 5 := by have := he.2.1; omega
  (refine xm_of (own := "DrumTongue$Tails") rfl (by decide +kernel) tk_Tails [some (xR (some 9)), some (xR (some 6)), none] (Nat.le_of_ble_eq_true rfl) rfl ?_; intro D nx X C P hW)
  have loop : ∀ (m z : Nat) (M' : xM), z + m = 12 → TR M (tls (M 7) (M 6 2).toNat z) M' → X 10 [some (xR (some 9)), some (xR (some 6)), some (xI ((z : Int) + 1))] [] (M', D, nx) 0 0 := by
    intro m
    induction m with
    | zero =>
      intro z M' hz hT
      refine xg hW k_Tails_remake [10] 40 ?_
      ((repeat' (first | (with_reducible refine And.intro ?_ ?_) | (intro h0; exact absurd h0 (by decide)) | (intro _) | ((conv => whnf); (first | (with_reducible refine And.intro ?_ ?_) | (intro h0; exact absurd h0 (by decide)) | (intro _))))); (all_goals (try omega)); (all_goals (try exact Nat.le_of_ble_eq_true rfl)); (all_goals (try ((conv => whnf); (first | (refine hW.2.1 _ _ ?_) | (change X _ _ _ _ _ _) | (change C _ _ _ _ _ _ _))))); (all_goals (try simp only [xup_at, xup_ne, xup_up, ne_eq, Nat.reduceEqDiff, not_false_eq_true, Int.toNat_natCast] at *)); (all_goals (try omega)))
      obtain rfl : z = 12 := by omega
      exact hq M' hT
    | succ m ih =>
      intro z M' hz hT
      have l1 := tls_31 (M 7) hn (z + 1)
      rw [tls, List.length_append, List.length_append] at l1
      refine xg hW k_Tails_remake [10] 40 ?_
      ((repeat' (first | (with_reducible refine And.intro ?_ ?_) | (intro h0; exact absurd h0 (by decide)) | (intro _) | ((conv => whnf); (first | (with_reducible refine And.intro ?_ ?_) | (intro h0; exact absurd h0 (by decide)) | (intro _))))); (all_goals (try omega)); (all_goals (try exact Nat.le_of_ble_eq_true rfl)); (all_goals (try ((conv => whnf); (first | (refine hW.2.1 _ _ ?_) | (change X _ _ _ _ _ _) | (change C _ _ _ _ _ _ _))))); (all_goals (try simp only [xup_at, xup_ne, xup_up, ne_eq, Nat.reduceEqDiff, not_false_eq_true, Int.toNat_natCast] at *)); (all_goals (try omega)))
      refine hW.1 _ _ _ _ _ _ (c_addSingles (M0 := M) he ⟨by omega, by omega⟩ (by rw [show ((z : Int) + 1) = ((z + 1 : Nat) : Int) from rfl]; omega) hT fun M2 hT2 => ?_) (by decide) (by decide) (Nat.le_of_ble_eq_true rfl)
      ((repeat' (first | (with_reducible refine And.intro ?_ ?_) | (intro h0; exact absurd h0 (by decide)) | (intro _) | ((conv => whnf); (first | (with_reducible refine And.intro ?_ ?_) | (intro h0; exact absurd h0 (by decide)) | (intro _))))); (all_goals (try omega)); (all_goals (try exact Nat.le_of_ble_eq_true rfl)); (all_goals (try ((conv => whnf); (first | (refine hW.2.1 _ _ ?_) | (change X _ _ _ _ _ _) | (change C _ _ _ _ _ _ _))))); (all_goals (try simp only [xup_at, xup_ne, xup_up, ne_eq, Nat.reduceEqDiff, not_false_eq_true, Int.toNat_natCast] at *)); (all_goals (try omega)))
      refine hW.1 _ _ _ _ _ _ (c_addPairs (M0 := M) he ⟨by omega, by omega⟩ (by rw [List.length_append, show ((z : Int) + 1) = ((z + 1 : Nat) : Int) from rfl]; omega) hT2 fun M3 hT3 => ?_) (by decide) (by decide) (Nat.le_of_ble_eq_true rfl)
      ((repeat' (first | (with_reducible refine And.intro ?_ ?_) | (intro h0; exact absurd h0 (by decide)) | (intro _) | ((conv => whnf); (first | (with_reducible refine And.intro ?_ ?_) | (intro h0; exact absurd h0 (by decide)) | (intro _))))); (all_goals (try omega)); (all_goals (try exact Nat.le_of_ble_eq_true rfl)); (all_goals (try ((conv => whnf); (first | (refine hW.2.1 _ _ ?_) | (change X _ _ _ _ _ _) | (change C _ _ _ _ _ _ _))))); (all_goals (try simp only [xup_at, xup_ne, xup_up, ne_eq, Nat.reduceEqDiff, not_false_eq_true, Int.toNat_natCast] at *)); (all_goals (try omega)))
      exact ih (z + 1) M3 (by omega) hT3
  obtain ⟨u1, u2, u3⟩ := h0
  refine xg hW k_Tails_remake [10] 40 ?_
  ((repeat' (first | (with_reducible refine And.intro ?_ ?_) | (intro h0; exact absurd h0 (by decide)) | (intro _) | ((conv => whnf); (first | (with_reducible refine And.intro ?_ ?_) | (intro h0; exact absurd h0 (by decide)) | (intro _) | (refine hW.1 _ _ _ _ _ _ (c_drop_LR ?_) (by first | decide | omega) (by decide) (Nat.le_of_ble_eq_true rfl)))))); (all_goals (try omega)); (all_goals (try exact Nat.le_of_ble_eq_true rfl)); (all_goals (try ((conv => whnf); (first | (refine hW.2.1 _ _ ?_) | (change X _ _ _ _ _ _) | (change C _ _ _ _ _ _ _))))); (all_goals (try simp only [xup_at, xup_ne, xup_up, ne_eq, Nat.reduceEqDiff, not_false_eq_true, Int.toNat_natCast] at *)); (all_goals (try omega)))
  · refine loop 12 0 _ rfl (tl0_TR ⟨u1, u2, u3⟩ (fun a ha => xup_ne (by omega)) (by rw [xup_at, xup_at]) (xup_ne (by decide)) (xup_ne (by decide)) (xup_ne (by decide)) (xup_ne (by decide)))
  · exact loop 12 0 _ rfl (tl0_TR ⟨u1, u2, u3⟩ (fun a ha => rfl) (by omega) rfl rfl rfl rfl)
end
section
/-! words, endings, phrases -/
/-- a beat of a row of s beats told by n -/
def btOf (s n : Int) (i : Nat) : Int := ((n.toNat >>> (s.toNat - 1 - i)) % 2 : Nat)
theorem btOf_rg (s n : Int) (i : Nat) : 0 ≤ btOf s n i ∧ btOf s n i ≤ 1 := by
  unfold btOf
  omega
theorem xbit {n k : Int} (h1 : 0 ≤ n) (h2 : n < 2147483648) (h3 : 0 ≤ k) (h4 : k < 32) : x_iand (x_ishr n k) 1 = ((n.toNat >>> k.toNat) % 2 : Nat) := by
  have := Nat.shiftRight_le n.toNat k.toNat
  rw [xshr_i h1 h2 h3 h4]
  refine (xn_and (b := 1) (by omega)).trans ?_
  rw [Nat.and_one_is_mod]
def phOk (M : xM) : Prop := ∀ w : Nat, w < 10 → -1 ≤ M 15 w ∧ M 15 w < 31 ∧ (M 15 w ≠ -1 → 1 ≤ M 16 w ∧ isB (M 16 w) (M 17 w))
def wOk (M : xM) : Prop := 0 ≤ M 3 2 ∧ M 3 2 ≤ 10 ∧ ∀ i : Nat, (i : Int) < M 3 2 → 1 ≤ M 4 i ∧ M 4 i ≤ 6 ∧ 0 ≤ M 5 i ∧ M 5 i < 2 ^ (M 4 i).toNat
def tbOk (M : xM) : Prop := 1 ≤ M 10 2 ∧ M 10 2 ≤ 31 ∧ ∀ t : Nat, (t : Int) < M 10 2 → 0 ≤ M 11 t ∧ M 11 t ≤ 12 ∧ 0 ≤ M 12 t ∧ M 12 t < 2 ^ (M 11 t).toNat
set_option maxRecDepth 100000 in
theorem c_boundNow {M : xM} {Q : Option xV → xM → Prop} (h : Q (some (xI (M 2 6))) M) : xm 1 m_Tongue_boundNow [xR (some 2)] M Q := by
  (refine xm_of (own := "DrumTongue$Tongue") rfl (by decide +kernel) tk_Tongue [some (xR (some 2))] (Nat.le_of_ble_eq_true rfl) rfl ?_; intro D nx X C P hW)
  refine xg hW k_Tongue_boundNow [] 40 ?_
  ((repeat' (first | (with_reducible refine And.intro ?_ ?_) | (intro h0; exact absurd h0 (by decide)) | (intro _) | ((conv => whnf); (first | (with_reducible refine And.intro ?_ ?_) | (intro h0; exact absurd h0 (by decide)) | (intro _))))); (all_goals (try omega)); (all_goals (try exact Nat.le_of_ble_eq_true rfl)); (all_goals (try ((conv => whnf); (first | (refine hW.2.1 _ _ ?_) | (change X _ _ _ _ _ _) | (change C _ _ _ _ _ _ _))))); (all_goals (try simp only [xup_at, xup_ne, xup_up, ne_eq, Nat.reduceEqDiff, not_false_eq_true, Int.toNat_natCast] at *)); (all_goals (try omega)))
  all_goals exact h
set_option maxRecDepth 100000 in
theorem c_wordCount {M : xM} {Q : Option xV → xM → Prop} (h : Q (some (xI (M 3 2))) M) : xm 2 m_Tongue_wordCount [xR (some 2)] M Q := by
  (refine xm_of (own := "DrumTongue$Tongue") rfl (by decide +kernel) tk_Tongue [some (xR (some 2))] (Nat.le_of_ble_eq_true rfl) rfl ?_; intro D nx X C P hW)
  refine xg hW k_Tongue_wordCount [] 40 ?_
  ((repeat' (first | (with_reducible refine And.intro ?_ ?_) | (intro h0; exact absurd h0 (by decide)) | (intro _) | ((conv => whnf); (first | (with_reducible refine And.intro ?_ ?_) | (intro h0; exact absurd h0 (by decide)) | (intro _) | (refine hW.1 _ _ _ _ _ _ (c_used_W ?_) (by first | decide | omega) (by decide) (Nat.le_of_ble_eq_true rfl)))))); (all_goals (try omega)); (all_goals (try exact Nat.le_of_ble_eq_true rfl)); (all_goals (try ((conv => whnf); (first | (refine hW.2.1 _ _ ?_) | (change X _ _ _ _ _ _) | (change C _ _ _ _ _ _ _))))); (all_goals (try simp only [xup_at, xup_ne, xup_up, ne_eq, Nat.reduceEqDiff, not_false_eq_true, Int.toNat_natCast] at *)); (all_goals (try omega)))
  all_goals exact h
set_option maxRecDepth 100000 in
theorem c_endingCount {M : xM} {Q : Option xV → xM → Prop} (h : Q (some (xI (M 6 2))) M) : xm 2 m_Tongue_endingCount [xR (some 2)] M Q := by
  (refine xm_of (own := "DrumTongue$Tongue") rfl (by decide +kernel) tk_Tongue [some (xR (some 2))] (Nat.le_of_ble_eq_true rfl) rfl ?_; intro D nx X C P hW)
  refine xg hW k_Tongue_endingCount [] 40 ?_
  ((repeat' (first | (with_reducible refine And.intro ?_ ?_) | (intro h0; exact absurd h0 (by decide)) | (intro _) | ((conv => whnf); (first | (with_reducible refine And.intro ?_ ?_) | (intro h0; exact absurd h0 (by decide)) | (intro _) | (refine hW.1 _ _ _ _ _ _ (c_used_E ?_) (by first | decide | omega) (by decide) (Nat.le_of_ble_eq_true rfl)))))); (all_goals (try omega)); (all_goals (try exact Nat.le_of_ble_eq_true rfl)); (all_goals (try ((conv => whnf); (first | (refine hW.2.1 _ _ ?_) | (change X _ _ _ _ _ _) | (change C _ _ _ _ _ _ _))))); (all_goals (try simp only [xup_at, xup_ne, xup_up, ne_eq, Nat.reduceEqDiff, not_false_eq_true, Int.toNat_natCast] at *)); (all_goals (try omega)))
  all_goals exact h
set_option maxRecDepth 100000 in
theorem c_isWord {M : xM} {Q : Option xV → xM → Prop} {w : Int} (h : (xrg w ∧ 0 ≤ M 3 2 ∧ M 3 2 ≤ 10) ∧ (0 ≤ w → w < M 3 2 → Q (some (xI 1)) M) ∧ (w < 0 ∨ M 3 2 ≤ w → Q (some (xI 0)) M)) : xm 2 m_Tongue_isWord [xR (some 2), xI w] M Q := by
  obtain ⟨⟨h1, h2⟩, h3, h4⟩ := h
  (refine xm_of (own := "DrumTongue$Tongue") rfl (by decide +kernel) tk_Tongue [some (xR (some 2)), some (xI w)] (Nat.le_of_ble_eq_true rfl) rfl ?_; intro D nx X C P hW)
  refine xg hW k_Tongue_isWord [] 40 ?_
  ((repeat' (first | (with_reducible refine And.intro ?_ ?_) | (intro h0; exact absurd h0 (by decide)) | (intro _) | ((conv => whnf); (first | (with_reducible refine And.intro ?_ ?_) | (intro h0; exact absurd h0 (by decide)) | (intro _) | (refine hW.1 _ _ _ _ _ _ (c_used_W ?_) (by first | decide | omega) (by decide) (Nat.le_of_ble_eq_true rfl)))))); (all_goals (try omega)); (all_goals (try exact Nat.le_of_ble_eq_true rfl)); (all_goals (try ((conv => whnf); (first | (refine hW.2.1 _ _ ?_) | (change X _ _ _ _ _ _) | (change C _ _ _ _ _ _ _))))); (all_goals (try simp only [xup_at, xup_ne, xup_up, ne_eq, Nat.reduceEqDiff, not_false_eq_true, Int.toNat_natCast] at *)); (all_goals (try omega)))
  all_goals first | exact h3 (by omega) (by omega) | exact h4 (by omega)
set_option maxRecDepth 100000 in
theorem c_hasPhrase {M : xM} {Q : Option xV → xM → Prop} {w : Int} (hp : phOk M) (h : xrg w ∧ (0 ≤ w → w < 10 → M 15 w.toNat ≠ -1 → Q (some (xI 1)) M) ∧ (w < 0 ∨ 10 ≤ w ∨ M 15 w.toNat = -1 → Q (some (xI 0)) M)) : xm 1 m_Tongue_hasPhrase [xR (some 2), xI w] M Q := by
  obtain ⟨h1, h3, h4⟩ := h
  have h5 : w < 0 ∨ 10 ≤ w ∨ (-1 ≤ M 15 w.toNat ∧ M 15 w.toNat < 31) := by
    by_cases q : w < 0 ∨ 10 ≤ w
    · omega
    · have := hp w.toNat (by omega)
      omega
  (refine xm_of (own := "DrumTongue$Tongue") rfl (by decide +kernel) tk_Tongue [some (xR (some 2)), some (xI w)] (Nat.le_of_ble_eq_true rfl) rfl ?_; intro D nx X C P hW)
  refine xg hW k_Tongue_hasPhrase [] 40 ?_
  ((repeat' (first | (with_reducible refine And.intro ?_ ?_) | (intro h0; exact absurd h0 (by decide)) | (intro _) | ((conv => whnf); (first | (with_reducible refine And.intro ?_ ?_) | (intro h0; exact absurd h0 (by decide)) | (intro _))))); (all_goals (try omega)); (all_goals (try exact Nat.le_of_ble_eq_true rfl)); (all_goals (try ((conv => whnf); (first | (refine hW.2.1 _ _ ?_) | (change X _ _ _ _ _ _) | (change C _ _ _ _ _ _ _))))); (all_goals (try simp only [xup_at, xup_ne, xup_up, ne_eq, Nat.reduceEqDiff, not_false_eq_true, Int.toNat_natCast] at *)); (all_goals (try omega)))
  all_goals first | exact h3 (by omega) (by omega) (by omega) | exact h4 (by omega)
/-- of a word in range -/
theorem c_hasPhraseI {M : xM} {Q : Option xV → xM → Prop} {w : Int} (hp : phOk M) (h : (0 ≤ w ∧ w < 10) ∧ (M 15 w.toNat ≠ -1 → Q (some (xI 1)) M) ∧ (M 15 w.toNat = -1 → Q (some (xI 0)) M)) : xm 1 m_Tongue_hasPhrase [xR (some 2), xI w] M Q :=
  c_hasPhrase hp ⟨⟨by omega, by omega⟩, fun _ _ => h.2.1, fun q => h.2.2 (by omega)⟩
theorem c_hasPhraseY {M : xM} {Q : Option xV → xM → Prop} {w : Int} (hp : phOk M) (h : (0 ≤ w ∧ w < 10 ∧ M 15 w.toNat ≠ -1) ∧ Q (some (xI 1)) M) : xm 1 m_Tongue_hasPhrase [xR (some 2), xI w] M Q :=
  c_hasPhrase hp ⟨⟨by omega, by omega⟩, fun _ _ _ => h.2, fun q => by omega⟩
set_option maxRecDepth 100000 in
theorem c_phraseSize {M : xM} {Q : Option xV → xM → Prop} {w : Int} (hp : phOk M) (h : (0 ≤ w ∧ w < 10) ∧ (M 15 w.toNat ≠ -1 → Q (some (xI (M 16 w.toNat))) M) ∧ (M 15 w.toNat = -1 → Q (some (xI 0)) M)) : xm 2 m_Tongue_phraseSize [xR (some 2), xI w] M Q := by
  obtain ⟨h1, h3, h4⟩ := h
  (refine xm_of (own := "DrumTongue$Tongue") rfl (by decide +kernel) tk_Tongue [some (xR (some 2)), some (xI w)] (Nat.le_of_ble_eq_true rfl) rfl ?_; intro D nx X C P hW)
  refine xg hW k_Tongue_phraseSize [] 40 ?_
  ((repeat' (first | (with_reducible refine And.intro ?_ ?_) | (intro h0; exact absurd h0 (by decide)) | (intro _) | ((conv => whnf); (first | (with_reducible refine And.intro ?_ ?_) | (intro h0; exact absurd h0 (by decide)) | (intro _) | (refine hW.1 _ _ _ _ _ _ (c_hasPhraseI hp ?_) (by first | decide | omega) (by decide) (Nat.le_of_ble_eq_true rfl)))))); (all_goals (try omega)); (all_goals (try exact Nat.le_of_ble_eq_true rfl)); (all_goals (try ((conv => whnf); (first | (refine hW.2.1 _ _ ?_) | (change X _ _ _ _ _ _) | (change C _ _ _ _ _ _ _))))); (all_goals (try simp only [xup_at, xup_ne, xup_up, ne_eq, Nat.reduceEqDiff, not_false_eq_true, Int.toNat_natCast] at *)); (all_goals (try omega)))
  all_goals first | exact h3 (by omega) | exact h4 (by omega)
theorem c_phraseSizeY {M : xM} {Q : Option xV → xM → Prop} {w : Int} (hp : phOk M) (h : (0 ≤ w ∧ w < 10 ∧ M 15 w.toNat ≠ -1) ∧ Q (some (xI (M 16 w.toNat))) M) : xm 2 m_Tongue_phraseSize [xR (some 2), xI w] M Q :=
  c_phraseSize hp ⟨⟨by omega, by omega⟩, fun _ => h.2, fun q => by omega⟩
set_option maxRecDepth 100000 in
theorem c_phraseBeat {M : xM} {Q : Option xV → xM → Prop} {w i : Int} (hp : phOk M) (h : (0 ≤ w ∧ w < 10 ∧ xrg i) ∧ (M 15 w.toNat ≠ -1 → 0 ≤ i → i < M 16 w.toNat → Q (some (xI (btOf (M 16 w.toNat) (M 17 w.toNat) i.toNat))) M) ∧ (M 15 w.toNat = -1 ∨ i < 0 ∨ M 16 w.toNat ≤ i → Q (some (xI (-1))) M)) : xm 2 m_Tongue_phraseBeat [xR (some 2), xI w, xI i] M Q := by
  obtain ⟨⟨h1, h1', h2⟩, h3, h4⟩ := h
  have hp' := hp w.toNat (by omega)
  obtain ⟨-, -, p1⟩ := hp'
  by_cases hc : M 15 w.toNat = -1
  · (refine xm_of (own := "DrumTongue$Tongue") rfl (by decide +kernel) tk_Tongue [some (xR (some 2)), some (xI w), some (xI i)] (Nat.le_of_ble_eq_true rfl) rfl ?_; intro D nx X C P hW)
    refine xg hW k_Tongue_phraseBeat [] 40 ?_
    ((repeat' (first | (with_reducible refine And.intro ?_ ?_) | (intro h0; exact absurd h0 (by decide)) | (intro _) | ((conv => whnf); (first | (with_reducible refine And.intro ?_ ?_) | (intro h0; exact absurd h0 (by decide)) | (intro _) | (refine hW.1 _ _ _ _ _ _ (c_hasPhraseI hp ?_) (by first | decide | omega) (by decide) (Nat.le_of_ble_eq_true rfl)))))); (all_goals (try omega)); (all_goals (try exact Nat.le_of_ble_eq_true rfl)); (all_goals (try ((conv => whnf); (first | (refine hW.2.1 _ _ ?_) | (change X _ _ _ _ _ _) | (change C _ _ _ _ _ _ _))))); (all_goals (try simp only [xup_at, xup_ne, xup_up, ne_eq, Nat.reduceEqDiff, not_false_eq_true, Int.toNat_natCast] at *)); (all_goals (try omega)))
    all_goals first | exact h4 (by omega) | exact absurd hc (by assumption)
  · obtain ⟨p0, p2, p3, p4, p5⟩ := p1 hc
    (refine xm_of (own := "DrumTongue$Tongue") rfl (by decide +kernel) tk_Tongue [some (xR (some 2)), some (xI w), some (xI i)] (Nat.le_of_ble_eq_true rfl) rfl ?_; intro D nx X C P hW)
    refine xg hW k_Tongue_phraseBeat [] 40 ?_
    ((repeat' (first | (with_reducible refine And.intro ?_ ?_) | (intro h0; exact absurd h0 (by decide)) | (intro _) | ((conv => whnf); (first | (with_reducible refine And.intro ?_ ?_) | (intro h0; exact absurd h0 (by decide)) | (intro _) | (refine hW.1 _ _ _ _ _ _ (c_hasPhraseY hp ?_) (by first | decide | omega) (by decide) (Nat.le_of_ble_eq_true rfl)))))); (all_goals (try omega)); (all_goals (try exact Nat.le_of_ble_eq_true rfl)); (all_goals (try ((conv => whnf); (first | (refine hW.2.1 _ _ ?_) | (change X _ _ _ _ _ _) | (change C _ _ _ _ _ _ _))))); (all_goals (try simp only [xup_at, xup_ne, xup_up, ne_eq, Nat.reduceEqDiff, not_false_eq_true, Int.toNat_natCast] at *)); (all_goals (try omega)))
    all_goals first | exact h4 (by omega) | skip
    rw [xbit (by omega) (by omega) (by omega) (by omega)]
    have h6 := h3 hc (by omega) (by omega)
    unfold btOf at h6
    rw [show (M 16 w.toNat - 1 - i).toNat = (M 16 w.toNat).toNat - 1 - i.toNat by omega]
    exact h6
theorem c_phraseBeatY {M : xM} {Q : Option xV → xM → Prop} {w i : Int} (hp : phOk M) (h : (0 ≤ w ∧ w < 10 ∧ M 15 w.toNat ≠ -1 ∧ 0 ≤ i ∧ i < M 16 w.toNat) ∧ Q (some (xI (btOf (M 16 w.toNat) (M 17 w.toNat) i.toNat))) M) : xm 2 m_Tongue_phraseBeat [xR (some 2), xI w, xI i] M Q := by
  have := (hp w.toNat (by omega)).2.2 h.1.2.2.1
  exact c_phraseBeat hp ⟨⟨by omega, by omega, by omega, by have := this.2.2.1; omega⟩, fun _ _ _ => h.2, fun q => by omega⟩
set_option maxRecDepth 100000 in
theorem c_phraseEnding {M : xM} {Q : Option xV → xM → Prop} {w i : Int} (hp : phOk M) (ht : 0 ≤ M 10 2 ∧ M 10 2 ≤ 31) (h : (0 ≤ w ∧ w < 10 ∧ xrg i ∧ M 15 w.toNat < M 10 2) ∧ (M 15 w.toNat ≠ -1 → (i = 0 → Q (some (xI (M 13 (M 15 w.toNat).toNat))) M) ∧ (i = 1 → Q (some (xI (M 14 (M 15 w.toNat).toNat))) M) ∧ (i ≠ 0 → i ≠ 1 → Q (some (xI (-1))) M)) ∧ (M 15 w.toNat = -1 → Q (some (xI (-1))) M)) : xm 3 m_Tongue_phraseEnding [xR (some 2), xI w, xI i] M Q := by
  obtain ⟨⟨h1, h1', h2, h5⟩, h3, h4⟩ := h
  obtain ⟨p1, p2, -⟩ := hp w.toNat (by omega)
  by_cases hc : M 15 w.toNat = -1
  · (refine xm_of (own := "DrumTongue$Tongue") rfl (by decide +kernel) tk_Tongue [some (xR (some 2)), some (xI w), some (xI i)] (Nat.le_of_ble_eq_true rfl) rfl ?_; intro D nx X C P hW)
    refine xg hW k_Tongue_phraseEnding [] 40 ?_
    ((repeat' (first | (with_reducible refine And.intro ?_ ?_) | (intro h0; exact absurd h0 (by decide)) | (intro _) | ((conv => whnf); (first | (with_reducible refine And.intro ?_ ?_) | (intro h0; exact absurd h0 (by decide)) | (intro _) | (refine hW.1 _ _ _ _ _ _ (c_hasPhraseI hp ?_) (by first | decide | omega) (by decide) (Nat.le_of_ble_eq_true rfl)))))); (all_goals (try omega)); (all_goals (try exact Nat.le_of_ble_eq_true rfl)); (all_goals (try ((conv => whnf); (first | (refine hW.2.1 _ _ ?_) | (change X _ _ _ _ _ _) | (change C _ _ _ _ _ _ _))))); (all_goals (try simp only [xup_at, xup_ne, xup_up, ne_eq, Nat.reduceEqDiff, not_false_eq_true, Int.toNat_natCast] at *)); (all_goals (try omega)))
    all_goals first | exact h4 (by omega) | exact absurd hc (by assumption)
  · obtain ⟨h6, h7, h8⟩ := h3 hc
    (refine xm_of (own := "DrumTongue$Tongue") rfl (by decide +kernel) tk_Tongue [some (xR (some 2)), some (xI w), some (xI i)] (Nat.le_of_ble_eq_true rfl) rfl ?_; intro D nx X C P hW)
    refine xg hW k_Tongue_phraseEnding [] 40 ?_
    ((repeat' (first | (with_reducible refine And.intro ?_ ?_) | (intro h0; exact absurd h0 (by decide)) | (intro _) | ((conv => whnf); (first | (with_reducible refine And.intro ?_ ?_) | (intro h0; exact absurd h0 (by decide)) | (intro _) | (refine hW.1 _ _ _ _ _ _ (c_hasPhraseY hp ?_) (by first | decide | omega) (by decide) (Nat.le_of_ble_eq_true rfl)) | (refine hW.1 _ _ _ _ _ _ (c_Tails_endingAt ?_) (by first | decide | omega) (by decide) (Nat.le_of_ble_eq_true rfl)))))); (all_goals (try omega)); (all_goals (try exact Nat.le_of_ble_eq_true rfl)); (all_goals (try ((conv => whnf); (first | (refine hW.2.1 _ _ ?_) | (change X _ _ _ _ _ _) | (change C _ _ _ _ _ _ _))))); (all_goals (try simp only [xup_at, xup_ne, xup_up, ne_eq, Nat.reduceEqDiff, not_false_eq_true, Int.toNat_natCast] at *)); (all_goals (try omega)))
    all_goals first | exact h6 (by omega) | exact h7 (by omega) | exact h8 (by omega) (by omega) | skip
def cntP (c : Nat → Int) : Nat → Int
  | 0 => 0
  | k + 1 => cntP c k + (if c k = -1 then 0 else 1)
theorem cntP_rg (c : Nat → Int) : ∀ k, 0 ≤ cntP c k ∧ cntP c k ≤ k
  | 0 => by simp [cntP]
  | k + 1 => by have := cntP_rg c k; rw [cntP]; split <;> omega
def sumP (c s : Nat → Int) : Nat → Int
  | 0 => 0
  | k + 1 => sumP c s k + (if c k = -1 then 0 else s k)
set_option maxRecDepth 100000 in
theorem c_phraseCount {M : xM} {Q : Option xV → xM → Prop} (hp : phOk M) (hw : 0 ≤ M 3 2 ∧ M 3 2 ≤ 10) (h : Q (some (xI (cntP (M 15) (M 3 2).toNat))) M) : xm 2 m_Tongue_phraseCount [xR (some 2)] M Q := by
  obtain ⟨n, hn⟩ := Int.eq_ofNat_of_zero_le hw.1
  rw [show (M 3 2).toNat = n by omega] at h
  (refine xm_of (own := "DrumTongue$Tongue") rfl (by decide +kernel) tk_Tongue [some (xR (some 2)), none, none] (Nat.le_of_ble_eq_true rfl) rfl ?_; intro D nx X C P hW)
  have loop : ∀ (m i : Nat), i + m = n → X 4 [some (xR (some 2)), some (xI (cntP (M 15) i)), some (xI (i : Int))] [] (M, D, nx) 0 0 := by
    intro m
    induction m with
    | zero =>
      intro i hi
      refine xg hW k_Tongue_phraseCount [4] 40 ?_
      ((repeat' (first | (with_reducible refine And.intro ?_ ?_) | (intro h0; exact absurd h0 (by decide)) | (intro _) | ((conv => whnf); (first | (with_reducible refine And.intro ?_ ?_) | (intro h0; exact absurd h0 (by decide)) | (intro _) | (refine hW.1 _ _ _ _ _ _ (c_used_W ?_) (by first | decide | omega) (by decide) (Nat.le_of_ble_eq_true rfl)))))); (all_goals (try omega)); (all_goals (try exact Nat.le_of_ble_eq_true rfl)); (all_goals (try ((conv => whnf); (first | (refine hW.2.1 _ _ ?_) | (change X _ _ _ _ _ _) | (change C _ _ _ _ _ _ _))))); (all_goals (try simp only [xup_at, xup_ne, xup_up, ne_eq, Nat.reduceEqDiff, not_false_eq_true, Int.toNat_natCast] at *)); (all_goals (try omega)))
      obtain rfl : i = n := by omega
      exact h
    | succ m ih =>
      intro i hi
      have h1 := ih (i + 1) (by omega)
      rw [cntP] at h1
      refine xg hW k_Tongue_phraseCount [4] 40 ?_
      ((repeat' (first | (with_reducible refine And.intro ?_ ?_) | (intro h0; exact absurd h0 (by decide)) | (intro _) | ((conv => whnf); (first | (with_reducible refine And.intro ?_ ?_) | (intro h0; exact absurd h0 (by decide)) | (intro _) | (refine hW.1 _ _ _ _ _ _ (c_used_W ?_) (by first | decide | omega) (by decide) (Nat.le_of_ble_eq_true rfl)) | (refine hW.1 _ _ _ _ _ _ (c_hasPhraseI hp ?_) (by first | decide | omega) (by decide) (Nat.le_of_ble_eq_true rfl)))))); (all_goals (try omega)); (all_goals (try exact Nat.le_of_ble_eq_true rfl)); (all_goals (try ((conv => whnf); (first | (refine hW.2.1 _ _ ?_) | (change X _ _ _ _ _ _) | (change C _ _ _ _ _ _ _))))); (all_goals (try simp only [xup_at, xup_ne, xup_up, ne_eq, Nat.reduceEqDiff, not_false_eq_true, Int.toNat_natCast] at *)); (all_goals (try omega)))
      · rw [if_neg (by assumption)] at h1
        exact h1
      · rw [if_pos (by assumption)] at h1
        exact h1
  refine xg hW k_Tongue_phraseCount [4] 40 ?_
  ((repeat' (first | (with_reducible refine And.intro ?_ ?_) | (intro h0; exact absurd h0 (by decide)) | (intro _) | ((conv => whnf); (first | (with_reducible refine And.intro ?_ ?_) | (intro h0; exact absurd h0 (by decide)) | (intro _))))); (all_goals (try omega)); (all_goals (try exact Nat.le_of_ble_eq_true rfl)); (all_goals (try ((conv => whnf); (first | (refine hW.2.1 _ _ ?_) | (change X _ _ _ _ _ _) | (change C _ _ _ _ _ _ _))))); (all_goals (try simp only [xup_at, xup_ne, xup_up, ne_eq, Nat.reduceEqDiff, not_false_eq_true, Int.toNat_natCast] at *)); (all_goals (try omega)))
  exact loop n 0 (by omega)
set_option maxRecDepth 100000 in
theorem c_beatsOfAll {M : xM} {Q : Option xV → xM → Prop} (hp : phOk M) (hw : 0 ≤ M 3 2 ∧ M 3 2 ≤ 10) (h : Q (some (xI (sumP (M 15) (M 16) (M 3 2).toNat))) M) : xm 3 m_Tongue_beatsOfAllPhrases [xR (some 2)] M Q := by
  obtain ⟨n, hn⟩ := Int.eq_ofNat_of_zero_le hw.1
  rw [show (M 3 2).toNat = n by omega] at h
  (refine xm_of (own := "DrumTongue$Tongue") rfl (by decide +kernel) tk_Tongue [some (xR (some 2)), none, none] (Nat.le_of_ble_eq_true rfl) rfl ?_; intro D nx X C P hW)
  have loop : ∀ (m i : Nat), i + m = n → X 4 [some (xR (some 2)), some (xI (sumP (M 15) (M 16) i)), some (xI (i : Int))] [] (M, D, nx) 0 0 := by
    intro m
    induction m with
    | zero =>
      intro i hi
      refine xg hW k_Tongue_beatsOfAllPhrases [4] 40 ?_
      ((repeat' (first | (with_reducible refine And.intro ?_ ?_) | (intro h0; exact absurd h0 (by decide)) | (intro _) | ((conv => whnf); (first | (with_reducible refine And.intro ?_ ?_) | (intro h0; exact absurd h0 (by decide)) | (intro _) | (refine hW.1 _ _ _ _ _ _ (c_used_W ?_) (by first | decide | omega) (by decide) (Nat.le_of_ble_eq_true rfl)))))); (all_goals (try omega)); (all_goals (try exact Nat.le_of_ble_eq_true rfl)); (all_goals (try ((conv => whnf); (first | (refine hW.2.1 _ _ ?_) | (change X _ _ _ _ _ _) | (change C _ _ _ _ _ _ _))))); (all_goals (try simp only [xup_at, xup_ne, xup_up, ne_eq, Nat.reduceEqDiff, not_false_eq_true, Int.toNat_natCast] at *)); (all_goals (try omega)))
      obtain rfl : i = n := by omega
      exact h
    | succ m ih =>
      intro i hi
      have h1 := ih (i + 1) (by omega)
      rw [sumP] at h1
      refine xg hW k_Tongue_beatsOfAllPhrases [4] 40 ?_
      ((repeat' (first | (with_reducible refine And.intro ?_ ?_) | (intro h0; exact absurd h0 (by decide)) | (intro _) | ((conv => whnf); (first | (with_reducible refine And.intro ?_ ?_) | (intro h0; exact absurd h0 (by decide)) | (intro _) | (refine hW.1 _ _ _ _ _ _ (c_used_W ?_) (by first | decide | omega) (by decide) (Nat.le_of_ble_eq_true rfl)) | (refine hW.1 _ _ _ _ _ _ (c_phraseSize hp ?_) (by first | decide | omega) (by decide) (Nat.le_of_ble_eq_true rfl)))))); (all_goals (try omega)); (all_goals (try exact Nat.le_of_ble_eq_true rfl)); (all_goals (try ((conv => whnf); (first | (refine hW.2.1 _ _ ?_) | (change X _ _ _ _ _ _) | (change C _ _ _ _ _ _ _))))); (all_goals (try simp only [xup_at, xup_ne, xup_up, ne_eq, Nat.reduceEqDiff, not_false_eq_true, Int.toNat_natCast] at *)); (all_goals (try omega)))
      · rw [if_neg (by assumption)] at h1
        exact h1
      · rw [if_pos (by assumption)] at h1
        exact h1
  refine xg hW k_Tongue_beatsOfAllPhrases [4] 40 ?_
  ((repeat' (first | (with_reducible refine And.intro ?_ ?_) | (intro h0; exact absurd h0 (by decide)) | (intro _) | ((conv => whnf); (first | (with_reducible refine And.intro ?_ ?_) | (intro h0; exact absurd h0 (by decide)) | (intro _))))); (all_goals (try omega)); (all_goals (try exact Nat.le_of_ble_eq_true rfl)); (all_goals (try ((conv => whnf); (first | (refine hW.2.1 _ _ ?_) | (change X _ _ _ _ _ _) | (change C _ _ _ _ _ _ _))))); (all_goals (try simp only [xup_at, xup_ne, xup_up, ne_eq, Nat.reduceEqDiff, not_false_eq_true, Int.toNat_natCast] at *)); (all_goals (try omega)))
  exact loop n 0 (by omega)
end
section
/-! phrases given and chosen -/
def pS (M : xM) (w t : Nat) : Int := M 4 w + M 11 t
def pN (M : xM) (w t : Nat) : Int := M 5 w * 2 ^ (M 11 t).toNat + M 12 t
theorem pB {M : xM} (hw : wOk M) (ht : tbOk M) {w t : Nat} (h1 : (w : Int) < M 3 2) (h2 : (t : Int) < M 10 2) : 1 ≤ pS M w t ∧ isB (pS M w t) (pN M w t) := by
  obtain ⟨a1, a2, a3, a4⟩ := hw.2.2 w h1
  obtain ⟨b1, b2, b3, b4⟩ := ht.2.2 t h2
  have p1 := xmul_lt (a := M 5 w) (b := M 12 t) (i := (M 4 w).toNat) (j := (M 11 t).toNat) a3 a4 b3 b4
  have p2 := xpow_le (show (M 4 w).toNat + (M 11 t).toNat ≤ 18 by omega)
  unfold isB pS pN
  exact ⟨by omega, by omega, by omega, p1.1, Int.lt_of_lt_of_le p1.2 p2⟩
set_option maxRecDepth 100000 in
theorem c_sizeWith {M : xM} {Q : Option xV → xM → Prop} {w t : Nat} (hw : wOk M) (ht : tbOk M) (h : ((w : Int) < M 3 2 ∧ (t : Int) < M 10 2) ∧ Q (some (xI (pS M w t))) M) : xm 3 m_Tongue_sizeWith [xR (some 2), xI w, xI t] M Q := by
  obtain ⟨⟨h1, h2⟩, h3⟩ := h
  obtain ⟨w1, w2, w3⟩ := hw
  obtain ⟨t1, t2, t3⟩ := ht
  (refine xm_of (own := "DrumTongue$Tongue") rfl (by decide +kernel) tk_Tongue [some (xR (some 2)), some (xI (w : Int)), some (xI (t : Int))] (Nat.le_of_ble_eq_true rfl) rfl ?_; intro D nx X C P hW)
  refine xg hW k_Tongue_sizeWith [] 40 ?_
  ((repeat' (first | (with_reducible refine And.intro ?_ ?_) | (intro h0; exact absurd h0 (by decide)) | (intro _) | ((conv => whnf); (first | (with_reducible refine And.intro ?_ ?_) | (intro h0; exact absurd h0 (by decide)) | (intro _) | (refine hW.1 _ _ _ _ _ _ (c_sizeI_W ?_) (by first | decide | omega) (by decide) (Nat.le_of_ble_eq_true rfl)) | (refine hW.1 _ _ _ _ _ _ (c_Tails_size ?_) (by first | decide | omega) (by decide) (Nat.le_of_ble_eq_true rfl)))))); (all_goals (try omega)); (all_goals (try exact Nat.le_of_ble_eq_true rfl)); (all_goals (try ((conv => whnf); (first | (refine hW.2.1 _ _ ?_) | (change X _ _ _ _ _ _) | (change C _ _ _ _ _ _ _))))); (all_goals (try simp only [xup_at, xup_ne, xup_up, ne_eq, Nat.reduceEqDiff, not_false_eq_true, Int.toNat_natCast] at *)); (all_goals (try omega)))
  exact h3
set_option maxRecDepth 100000 in
theorem c_numberWith {M : xM} {Q : Option xV → xM → Prop} {w t : Nat} (hw : wOk M) (ht : tbOk M) (h : ((w : Int) < M 3 2 ∧ (t : Int) < M 10 2) ∧ Q (some (xI (pN M w t))) M) : xm 3 m_Tongue_numberWith [xR (some 2), xI w, xI t] M Q := by
  obtain ⟨⟨h1, h2⟩, h3⟩ := h
  have hb := (pB hw ht h1 h2).2
  obtain ⟨w1, w2, w3⟩ := hw
  obtain ⟨t1, t2, t3⟩ := ht
  obtain ⟨a1, a2, a3, a4⟩ := w3 w h1
  obtain ⟨b1, b2, b3, b4⟩ := t3 t h2
  (refine xm_of (own := "DrumTongue$Tongue") rfl (by decide +kernel) tk_Tongue [some (xR (some 2)), some (xI (w : Int)), some (xI (t : Int))] (Nat.le_of_ble_eq_true rfl) rfl ?_; intro D nx X C P hW)
  refine xg hW k_Tongue_numberWith [] 40 ?_
  ((repeat' (first | (with_reducible refine And.intro ?_ ?_) | (intro h0; exact absurd h0 (by decide)) | (intro _) | ((conv => whnf); (first | (with_reducible refine And.intro ?_ ?_) | (intro h0; exact absurd h0 (by decide)) | (intro _) | (refine hW.1 _ _ _ _ _ _ (c_numberI_W ?_) (by first | decide | omega) (by decide) (Nat.le_of_ble_eq_true rfl)) | (refine hW.1 _ _ _ _ _ _ (c_Tails_size ?_) (by first | decide | omega) (by decide) (Nat.le_of_ble_eq_true rfl)) | (refine hW.1 _ _ _ _ _ _ (c_Tails_number ?_) (by first | decide | omega) (by decide) (Nat.le_of_ble_eq_true rfl)))))); (all_goals (try omega)); (all_goals (try exact Nat.le_of_ble_eq_true rfl)); (all_goals (try ((conv => whnf); (first | (refine hW.2.1 _ _ ?_) | (change X _ _ _ _ _ _) | (change C _ _ _ _ _ _ _))))); (all_goals (try simp only [xup_at, xup_ne, xup_up, ne_eq, Nat.reduceEqDiff, not_false_eq_true, Int.toNat_natCast] at *)); (all_goals (try omega)))
  have p1 := xmul_lt (a := M 5 w) (b := M 12 t) (i := (M 4 w).toNat) (j := (M 11 t).toNat) a3 a4 b3 b4
  have hb2 := hb.2.2.2
  unfold pN at h3 hb2
  rw [xior (by omega) (by omega) (by omega) (by omega) (by omega) (by omega)]
  exact h3
set_option maxRecDepth 100000 in
theorem c_forget {M : xM} {Q : Option xV → xM → Prop} (h : Q none (xup M 15 (xfill (M 15) 10 (-1)))) : xm 2 m_Tongue_forgetPhrases [xR (some 2)] M Q := by
  (refine xm_of (own := "DrumTongue$Tongue") rfl (by decide +kernel) tk_Tongue [some (xR (some 2))] (Nat.le_of_ble_eq_true rfl) rfl ?_; intro D nx X C P hW)
  refine xg hW k_Tongue_forgetPhrases [] 40 ?_
  ((repeat' (first | (with_reducible refine And.intro ?_ ?_) | (intro h0; exact absurd h0 (by decide)) | (intro _) | ((conv => whnf); (first | (with_reducible refine And.intro ?_ ?_) | (intro h0; exact absurd h0 (by decide)) | (intro _))))); (all_goals (try omega)); (all_goals (try exact Nat.le_of_ble_eq_true rfl)); (all_goals (try ((conv => whnf); (first | (refine hW.2.1 _ _ ?_) | (change X _ _ _ _ _ _) | (change C _ _ _ _ _ _ _))))); (all_goals (try simp only [xup_at, xup_ne, xup_up, ne_eq, Nat.reduceEqDiff, not_false_eq_true, Int.toNat_natCast] at *)); (all_goals (try omega)))
  refine hW.1 _ _ _ _ _ _ (c_fill (n := 10) rfl (by decide) ?_) (by decide) (by decide) (Nat.le_of_ble_eq_true rfl)
  ((repeat' (first | (with_reducible refine And.intro ?_ ?_) | (intro h0; exact absurd h0 (by decide)) | (intro _) | ((conv => whnf); (first | (with_reducible refine And.intro ?_ ?_) | (intro h0; exact absurd h0 (by decide)) | (intro _))))); (all_goals (try omega)); (all_goals (try exact Nat.le_of_ble_eq_true rfl)); (all_goals (try ((conv => whnf); (first | (refine hW.2.1 _ _ ?_) | (change X _ _ _ _ _ _) | (change C _ _ _ _ _ _ _))))); (all_goals (try simp only [xup_at, xup_ne, xup_up, ne_eq, Nat.reduceEqDiff, not_false_eq_true, Int.toNat_natCast] at *)); (all_goals (try omega)))
  all_goals exact h
set_option maxRecDepth 100000 in
theorem c_howFar {M : xM} {Q : Option xV → xM → Prop} {a b : Int} (hp : phOk M) (h : (0 ≤ a ∧ a < 10 ∧ 0 ≤ b ∧ b < 10 ∧ M 15 a.toNat ≠ -1 ∧ M 15 b.toNat ≠ -1) ∧ Q (some (xI (dif (M 16 a.toNat) (M 17 a.toNat) (M 16 b.toNat) (M 17 b.toNat) + (if 0 ≤ M 16 a.toNat - M 16 b.toNat then M 16 a.toNat - M 16 b.toNat else -(M 16 a.toNat - M 16 b.toNat))))) M) : xm 3 m_Tongue_howFar [xR (some 2), xI a, xI b] M Q := by
  obtain ⟨⟨a1, a2, b1, b2, ha, hb⟩, hq⟩ := h
  obtain ⟨-, pa1, pa2, pa3, pa4⟩ := (hp a.toNat (by omega)).2.2 ha
  obtain ⟨-, pb1, pb2, pb3, pb4⟩ := (hp b.toNat (by omega)).2.2 hb
  (refine xm_of (own := "DrumTongue$Tongue") rfl (by decide +kernel) tk_Tongue [some (xR (some 2)), some (xI a), some (xI b), none, none] (Nat.le_of_ble_eq_true rfl) rfl ?_; intro D nx X C P hW)
  refine xg hW k_Tongue_howFar [] 40 ?_
  ((repeat' (first | (with_reducible refine And.intro ?_ ?_) | (intro h0; exact absurd h0 (by decide)) | (intro _) | ((conv => whnf); (first | (with_reducible refine And.intro ?_ ?_) | (intro h0; exact absurd h0 (by decide)) | (intro _) | (refine hW.1 _ _ _ _ _ _ (c_hasPhraseY hp ?_) (by first | decide | omega) (by decide) (Nat.le_of_ble_eq_true rfl)) | (refine hW.1 _ _ _ _ _ _ (c_differing ?_) (by first | decide | omega) (by decide) (Nat.le_of_ble_eq_true rfl)))))); (all_goals (try omega)); (all_goals (try exact Nat.le_of_ble_eq_true rfl)); (all_goals (try ((conv => whnf); (first | (refine hW.2.1 _ _ ?_) | (change X _ _ _ _ _ _) | (change C _ _ _ _ _ _ _))))); (all_goals (try simp only [xup_at, xup_ne, xup_up, ne_eq, Nat.reduceEqDiff, not_false_eq_true, Int.toNat_natCast] at *)); (all_goals (try omega)))
  all_goals exact hq
theorem wOk_of {M M' : xM} (e : ∀ a, a < 10 → M' a = M a) (h : wOk M) : wOk M' := by
  unfold wOk at h ⊢
  rw [e 3 (by decide), e 4 (by decide), e 5 (by decide)]
  exact h
theorem eOk_of {M M' : xM} (e : ∀ a, 6 ≤ a → a < 10 → M' a = M a) (h : eOk M) : eOk M' := by
  unfold eOk at h ⊢
  rw [e 6 (by decide) (by decide), e 7 (by decide) (by decide), e 8 (by decide) (by decide)]
  exact h
theorem tbOk_of {M M' : xM} (e : ∀ a, 10 ≤ a → a < 15 → M' a = M a) (h : tbOk M) : tbOk M' := by
  unfold tbOk at h ⊢
  rw [e 10 (by decide) (by decide), e 11 (by decide) (by decide), e 12 (by decide) (by decide)]
  exact h
theorem pS_of {M M' : xM} (e : ∀ a, a < 15 → M' a = M a) (w t : Nat) : pS M' w t = pS M w t := by
  unfold pS
  rw [e 4 (by decide), e 11 (by decide)]
theorem pN_of {M M' : xM} (e : ∀ a, a < 15 → M' a = M a) (w t : Nat) : pN M' w t = pN M w t := by
  unfold pN
  rw [e 5 (by decide), e 11 (by decide), e 12 (by decide)]
/-- the phrase t of the word w is given -/
def gvn (M : xM) (w t : Nat) : xM := xup (xup (xup M 15 (xup (M 15) w t)) 16 (xup (M 16) w (pS M w t))) 17 (xup (M 17) w (pN M w t))
theorem gvn_low {M : xM} {w t a : Nat} (h : a < 15 ∨ 17 < a) : gvn M w t a = M a := by
  unfold gvn
  rw [xup_ne (by omega), xup_ne (by omega), xup_ne (by omega)]
set_option maxRecDepth 100000 in
theorem c_give {M : xM} {Q : Option xV → xM → Prop} {w t : Nat} (hw : wOk M) (ht : tbOk M) (h : ((w : Int) < M 3 2 ∧ (t : Int) < M 10 2) ∧ Q none (gvn M w t)) : xm 4 m_Tongue_give [xR (some 2), xI w, xI t] M Q := by
  obtain ⟨⟨h1, h2⟩, h3⟩ := h
  obtain ⟨w1, w2, w3⟩ := id hw
  unfold gvn at h3
  have e1 : ∀ a, a < 15 → (xup M 15 (xup (M 15) w (t : Int))) a = M a := fun a ha => xup_ne (by omega)
  have e2 : ∀ (x : Nat → Int) a, a < 15 → (xup (xup M 15 (xup (M 15) w (t : Int))) 16 x) a = M a := fun x a ha => by rw [xup_ne (by omega), xup_ne (by omega)]
  (refine xm_of (own := "DrumTongue$Tongue") rfl (by decide +kernel) tk_Tongue [some (xR (some 2)), some (xI (w : Int)), some (xI (t : Int))] (Nat.le_of_ble_eq_true rfl) rfl ?_; intro D nx X C P hW)
  refine xg hW k_Tongue_give [] 40 ?_
  ((repeat' (first | (with_reducible refine And.intro ?_ ?_) | (intro h0; exact absurd h0 (by decide)) | (intro _) | ((conv => whnf); (first | (with_reducible refine And.intro ?_ ?_) | (intro h0; exact absurd h0 (by decide)) | (intro _))))); (all_goals (try omega)); (all_goals (try exact Nat.le_of_ble_eq_true rfl)); (all_goals (try ((conv => whnf); (first | (refine hW.2.1 _ _ ?_) | (change X _ _ _ _ _ _) | (change C _ _ _ _ _ _ _))))); (all_goals (try simp only [xup_at, xup_ne, xup_up, ne_eq, Nat.reduceEqDiff, not_false_eq_true, Int.toNat_natCast] at *)); (all_goals (try omega)))
  refine hW.1 _ _ _ _ _ _ (c_sizeWith (wOk_of (fun a ha => e1 a (by omega)) hw) (tbOk_of (fun a _ ha => e1 a ha) ht) ⟨?_, ?_⟩) (by decide) (by decide) (Nat.le_of_ble_eq_true rfl)
  · rw [e1 3 (by decide), e1 10 (by decide)]
    exact ⟨h1, h2⟩
  rw [pS_of e1]
  ((repeat' (first | (with_reducible refine And.intro ?_ ?_) | (intro h0; exact absurd h0 (by decide)) | (intro _) | ((conv => whnf); (first | (with_reducible refine And.intro ?_ ?_) | (intro h0; exact absurd h0 (by decide)) | (intro _))))); (all_goals (try omega)); (all_goals (try exact Nat.le_of_ble_eq_true rfl)); (all_goals (try ((conv => whnf); (first | (refine hW.2.1 _ _ ?_) | (change X _ _ _ _ _ _) | (change C _ _ _ _ _ _ _))))); (all_goals (try simp only [xup_at, xup_ne, xup_up, ne_eq, Nat.reduceEqDiff, not_false_eq_true, Int.toNat_natCast] at *)); (all_goals (try omega)))
  refine hW.1 _ _ _ _ _ _ (c_numberWith (wOk_of (fun a ha => e2 _ a (by omega)) hw) (tbOk_of (fun a _ ha => e2 _ a ha) ht) ⟨?_, ?_⟩) (by decide) (by decide) (Nat.le_of_ble_eq_true rfl)
  · rw [e2 _ 3 (by decide), e2 _ 10 (by decide)]
    exact ⟨h1, h2⟩
  rw [pN_of (e2 _)]
  ((repeat' (first | (with_reducible refine And.intro ?_ ?_) | (intro h0; exact absurd h0 (by decide)) | (intro _) | ((conv => whnf); (first | (with_reducible refine And.intro ?_ ?_) | (intro h0; exact absurd h0 (by decide)) | (intro _))))); (all_goals (try omega)); (all_goals (try exact Nat.le_of_ble_eq_true rfl)); (all_goals (try ((conv => whnf); (first | (refine hW.2.1 _ _ ?_) | (change X _ _ _ _ _ _) | (change C _ _ _ _ _ _ _))))); (all_goals (try simp only [xup_at, xup_ne, xup_up, ne_eq, Nat.reduceEqDiff, not_false_eq_true, Int.toNat_natCast] at *)); (all_goals (try omega)))
  all_goals exact h3
/-- the phrase t of the word w stands apart from all ahead -/
def frA (M : xM) (w t : Nat) : Prop := allApart M (pS M w t) (pN M w t) (M 2 6)
set_option maxRecDepth 100000 in
theorem c_firstTail {M : xM} {Q : Option xV → xM → Prop} {w : Nat} (hw : wOk M) (ht : tbOk M) (ha : aheadOk M) (hb : 1 ≤ M 2 6 ∧ M 2 6 ≤ 9) (h1 : (w : Int) < M 3 2) (hy : ∀ t : Nat, (t : Int) < M 10 2 → frA M w t → (∀ j, j < t → ¬ frA M w j) → Q (some (xI t)) M) (hn : (∀ t : Nat, (t : Int) < M 10 2 → ¬ frA M w t) → Q (some (xI (-1))) M) : xm 5 m_Tongue_firstTailApart [xR (some 2), xI w] M Q := by
  obtain ⟨w1, w2, w3⟩ := id hw
  obtain ⟨t1, t2, t3⟩ := id ht
  (refine xm_of (own := "DrumTongue$Tongue") rfl (by decide +kernel) tk_Tongue [some (xR (some 2)), some (xI (w : Int)), none] (Nat.le_of_ble_eq_true rfl) rfl ?_; intro D nx X C P hW)
  have loop : ∀ (m i : Nat), (i : Int) + m = M 10 2 → (∀ j, j < i → ¬ frA M w j) → X 2 [some (xR (some 2)), some (xI (w : Int)), some (xI (i : Int))] [] (M, D, nx) 0 0 := by
    intro m
    induction m with
    | zero =>
      intro i hi hall
      refine xg hW k_Tongue_firstTailApart [2] 40 ?_
      ((repeat' (first | (with_reducible refine And.intro ?_ ?_) | (intro h0; exact absurd h0 (by decide)) | (intro _) | ((conv => whnf); (first | (with_reducible refine And.intro ?_ ?_) | (intro h0; exact absurd h0 (by decide)) | (intro _) | (refine hW.1 _ _ _ _ _ _ (c_Tails_used ?_) (by first | decide | omega) (by decide) (Nat.le_of_ble_eq_true rfl)))))); (all_goals (try omega)); (all_goals (try exact Nat.le_of_ble_eq_true rfl)); (all_goals (try ((conv => whnf); (first | (refine hW.2.1 _ _ ?_) | (change X _ _ _ _ _ _) | (change C _ _ _ _ _ _ _))))); (all_goals (try simp only [xup_at, xup_ne, xup_up, ne_eq, Nat.reduceEqDiff, not_false_eq_true, Int.toNat_natCast] at *)); (all_goals (try omega)))
      exact hn fun t ht => hall t (by omega)
    | succ m ih =>
      intro i hi hall
      have hB := (pB hw ht h1 (show (i : Int) < M 10 2 by omega)).2
      refine xg hW k_Tongue_firstTailApart [2] 40 ?_
      ((repeat' (first | (with_reducible refine And.intro ?_ ?_) | (intro h0; exact absurd h0 (by decide)) | (intro _) | ((conv => whnf); (first | (with_reducible refine And.intro ?_ ?_) | (intro h0; exact absurd h0 (by decide)) | (intro _) | (refine hW.1 _ _ _ _ _ _ (c_Tails_used ?_) (by first | decide | omega) (by decide) (Nat.le_of_ble_eq_true rfl)) | (refine hW.1 _ _ _ _ _ _ (c_sizeWith hw ht ?_) (by first | decide | omega) (by decide) (Nat.le_of_ble_eq_true rfl)) | (refine hW.1 _ _ _ _ _ _ (c_numberWith hw ht ?_) (by first | decide | omega) (by decide) (Nat.le_of_ble_eq_true rfl)) | (refine hW.1 _ _ _ _ _ _ (c_allApartY ha hB ?_) (by first | decide | omega) (by decide) (Nat.le_of_ble_eq_true rfl)))))); (all_goals (try omega)); (all_goals (try exact Nat.le_of_ble_eq_true rfl)); (all_goals (try ((conv => whnf); (first | (refine hW.2.1 _ _ ?_) | (change X _ _ _ _ _ _) | (change C _ _ _ _ _ _ _))))); (all_goals (try simp only [xup_at, xup_ne, xup_up, ne_eq, Nat.reduceEqDiff, not_false_eq_true, Int.toNat_natCast] at *)); (all_goals (try omega)))
      · rename_i hf _
        exact hy i (by omega) hf hall
      · rename_i hf _
        refine ih (i + 1) (by omega) fun j hj => ?_
        rcases Nat.lt_or_ge j i with q | q
        · exact hall j q
        · rw [show j = i by omega]
          exact hf
  refine xg hW k_Tongue_firstTailApart [2] 40 ?_
  ((repeat' (first | (with_reducible refine And.intro ?_ ?_) | (intro h0; exact absurd h0 (by decide)) | (intro _) | ((conv => whnf); (first | (with_reducible refine And.intro ?_ ?_) | (intro h0; exact absurd h0 (by decide)) | (intro _))))); (all_goals (try omega)); (all_goals (try exact Nat.le_of_ble_eq_true rfl)); (all_goals (try ((conv => whnf); (first | (refine hW.2.1 _ _ ?_) | (change X _ _ _ _ _ _) | (change C _ _ _ _ _ _ _))))); (all_goals (try simp only [xup_at, xup_ne, xup_up, ne_eq, Nat.reduceEqDiff, not_false_eq_true, Int.toNat_natCast] at *)); (all_goals (try omega)))
  exact loop (M 10 2).toNat 0 (by omega) fun j hj => by omega
end
section
/-! CHOSEN in turn -/
/-- the phrase t of w stands apart from those that c gives to all ahead -/
def okP (S N : Nat → Nat → Int) (v : Int) (c : Nat → Int) (w t : Nat) : Prop := ∀ u, u < w → c u ≠ -1 → apart (S u (c u).toNat) (N u (c u).toNat) (S w t) (N w t) v
/-- c is CHOSEN in turn for the words below k, of nT phrases each -/
def isCh (nT : Nat) (S N : Nat → Nat → Int) (v : Int) (k : Nat) (c : Nat → Int) : Prop := ∀ w, w < k → (c w = -1 ∧ ∀ t, t < nT → ¬ okP S N v c w t) ∨ ∃ t : Nat, t < nT ∧ c w = t ∧ okP S N v c w t ∧ ∀ j, j < t → ¬ okP S N v c w j
theorem okP_congr {S N : Nat → Nat → Int} {v : Int} {c c' : Nat → Int} {w t : Nat} (h : ∀ u, u < w → c u = c' u) : okP S N v c w t ↔ okP S N v c' w t := by
  unfold okP
  constructor
  · intro h1 u hu
    rw [← h u hu]
    exact h1 u hu
  · intro h1 u hu
    rw [h u hu]
    exact h1 u hu
theorem isCh_one {nT : Nat} {S N : Nat → Nat → Int} {v : Int} {k : Nat} {c c' : Nat → Int} (h : isCh nT S N v k c) (h' : isCh nT S N v k c') : ∀ w, w < k → c w = c' w := by
  intro w
  induction w using Nat.strongRecOn with
  | _ w ih =>
    intro hw
    have e : ∀ t, okP S N v c w t ↔ okP S N v c' w t := fun t => okP_congr fun u hu => ih u hu (by omega)
    rcases h w hw with ⟨a1, a2⟩ | ⟨t, a1, a2, a3, a4⟩ <;> rcases h' w hw with ⟨b1, b2⟩ | ⟨t', b1, b2, b3, b4⟩
    · rw [a1, b1]
    · exact absurd ((e t').mpr b3) (a2 t' b1)
    · exact absurd ((e t).mp a3) (b2 t a1)
    · rcases Nat.lt_trichotomy t t' with q | q | q
      · exact absurd ((e t).mp a3) (b4 t q)
      · rw [a2, b2, q]
      · exact absurd ((e t').mpr b3) (a4 t' q)
theorem isCh_congr {nT : Nat} {S N : Nat → Nat → Int} {v : Int} {k : Nat} {c c' : Nat → Int} (h : ∀ u, u < k → c u = c' u) (h1 : isCh nT S N v k c) : isCh nT S N v k c' := by
  intro w hw
  have e : ∀ t, okP S N v c w t ↔ okP S N v c' w t := fun t => okP_congr fun u hu => h u (by omega)
  rw [← h w hw]
  rcases h1 w hw with ⟨a1, a2⟩ | ⟨t, a1, a2, a3, a4⟩
  · exact Or.inl ⟨a1, fun t ht q => a2 t ht ((e t).mpr q)⟩
  · exact Or.inr ⟨t, a1, a2, (e t).mp a3, fun j hj q => a4 j hj ((e j).mpr q)⟩
/-- the phrases given are phrases of their words -/
def gvOk (M : xM) : Prop := ∀ w : Nat, w < 10 → M 15 w = -1 ∨ ((w : Int) < M 3 2 ∧ ∃ t : Nat, (t : Int) < M 10 2 ∧ M 15 w = t ∧ M 16 w = pS M w t ∧ M 17 w = pN M w t)
theorem gvOk.ph {M : xM} (hw : wOk M) (ht : tbOk M) (h : gvOk M) : phOk M := by
  intro w hw10
  rcases h w hw10 with q | ⟨q1, t, q2, q3, q4, q5⟩
  · exact ⟨by omega, by omega, fun n => absurd q n⟩
  · have h2 := pB hw ht q1 q2
    have h3 := ht.2.1
    rw [q3, q4, q5]
    exact ⟨by omega, by omega, fun _ => h2⟩
theorem gvOk_of {M M' : xM} (e : ∀ a, a < 18 → M' a = M a) (h : gvOk M) : gvOk M' := by
  unfold gvOk at h ⊢
  rw [e 15 (by decide), e 3 (by decide), e 10 (by decide), e 16 (by decide), e 17 (by decide)]
  intro w hw
  have := h w hw
  rw [show pS M' w = pS M w from funext fun t => pS_of (fun a ha => e a (by omega)) w t, show pN M' w = pN M w from funext fun t => pN_of (fun a ha => e a (by omega)) w t]
  exact this
theorem cntP_congr {c c' : Nat → Int} : ∀ {k : Nat}, (∀ u, u < k → c u = c' u) → cntP c k = cntP c' k
  | 0, _ => rfl
  | k + 1, h => by rw [cntP, cntP, cntP_congr fun u hu => h u (by omega), h k (by omega)]
/-- the walk of the words has come to k -/
def turnAt (M0 : xM) (k : Nat) (M : xM) : Prop := (∀ a, (a < 15 ∨ 20 < a) → M a = M0 a) ∧ (∀ j, k ≤ j → j < 10 → M 15 j = -1) ∧ isCh (M0 10 2).toNat (pS M0) (pN M0) (M0 2 6) k (M 15) ∧ gvOk M ∧ M 18 2 = cntP (M 15) k ∧
  (∀ i : Nat, (i : Int) < M 18 2 → ∃ u : Nat, u < k ∧ M 15 u ≠ -1 ∧ M 19 i = M 16 u ∧ M 20 i = M 17 u) ∧ (∀ u : Nat, u < k → M 15 u ≠ -1 → ∃ i : Nat, (i : Int) < M 18 2 ∧ M 19 i = M 16 u ∧ M 20 i = M 17 u)
theorem turnAt_fr {M0 M : xM} {k : Nat} (hk10 : k ≤ 10) (h : turnAt M0 k M) (t : Nat) : frA M k t ↔ okP (pS M0) (pN M0) (M0 2 6) (M 15) k t := by
  obtain ⟨h1, h2, h3, h4, h5, h6, h7⟩ := h
  have hk : ∀ u, u < k → M 15 u ≠ -1 → M 16 u = pS M0 u (M 15 u).toNat ∧ M 17 u = pN M0 u (M 15 u).toNat := by
    intro u hu hn
    rcases h4 u (by omega) with q | ⟨q1, t, q2, q3, q4, q5⟩
    · exact absurd q hn
    · rw [q4, q5, q3, Int.toNat_natCast, pS_of (fun a ha => h1 a (Or.inl ha)), pN_of (fun a ha => h1 a (Or.inl ha))]
      exact ⟨rfl, rfl⟩
  unfold frA allApart okP
  rw [pS_of (fun a ha => h1 a (Or.inl ha)), pN_of (fun a ha => h1 a (Or.inl ha)), h1 2 (by decide)]
  constructor
  · intro q u hu hn
    obtain ⟨i, i1, i2, i3⟩ := h7 u hu hn
    have := q i i1
    rw [i2, i3, (hk u hu hn).1, (hk u hu hn).2] at this
    exact this
  · intro q i hi
    obtain ⟨u, u1, u2, u3, u4⟩ := h6 i hi
    rw [u3, u4, (hk u u1 u2).1, (hk u u1 u2).2]
    exact q u u1 u2
theorem isCh_push {nT : Nat} {S N : Nat → Nat → Int} {v : Int} {k : Nat} {c c' : Nat → Int} (h : isCh nT S N v k c) (hc : ∀ u, u < k → c u = c' u) (hk : (c' k = -1 ∧ ∀ t, t < nT → ¬ okP S N v c k t) ∨ ∃ t : Nat, t < nT ∧ c' k = t ∧ okP S N v c k t ∧ ∀ j, j < t → ¬ okP S N v c k j) : isCh nT S N v (k + 1) c' := by
  intro w hw
  rcases Nat.lt_or_ge w k with q | q
  · exact isCh_congr hc h w q
  · obtain rfl : w = k := by omega
    have e : ∀ t, okP S N v c w t ↔ okP S N v c' w t := fun t => okP_congr hc
    rcases hk with ⟨a1, a2⟩ | ⟨t, a1, a2, a3, a4⟩
    · exact Or.inl ⟨a1, fun t ht q => a2 t ht ((e t).mpr q)⟩
    · exact Or.inr ⟨t, a1, a2, (e t).mp a3, fun j hj q => a4 j hj ((e j).mpr q)⟩
theorem turnAt_none {M0 M : xM} {k : Nat} (hk10 : k < 10) (h : turnAt M0 k M) (hn : ∀ t : Nat, (t : Int) < M 10 2 → ¬ frA M k t) : turnAt M0 (k + 1) M := by
  have hf := turnAt_fr (by omega) h
  obtain ⟨h1, h2, h3, h4, h5, h6, h7⟩ := h
  have hc := h2 k (Nat.le_refl _) hk10
  refine ⟨h1, fun j hj hj2 => h2 j (by omega) hj2, isCh_push h3 (fun _ _ => rfl) (Or.inl ⟨hc, fun t ht q => hn t ?_ ((hf t).mpr q)⟩), h4, ?_, ?_, ?_⟩
  · rw [h1 10 (by decide)]
    omega
  · rw [cntP, if_pos hc, h5, Int.add_zero]
  · intro i hi
    obtain ⟨u, u1, u2⟩ := h6 i hi
    exact ⟨u, by omega, u2⟩
  · intro u hu hn
    refine h7 u ?_ hn
    rcases Nat.lt_or_ge u k with q | q
    · exact q
    · exact absurd (by rw [show u = k by omega]; exact hc) hn
/-- the phrase t is given to k, and stands among those ahead -/
def gvnA (M : xM) (k t : Nat) : xM := rAdd_H (gvn M k t) (pS M k t) (pN M k t)
theorem gvnA_at (M : xM) (k t : Nat) : gvnA M k t 15 = xup (M 15) k t ∧ gvnA M k t 16 = xup (M 16) k (pS M k t) ∧ gvnA M k t 17 = xup (M 17) k (pN M k t) ∧ gvnA M k t 18 = xup (M 18) 2 (M 18 2 + 1) ∧ gvnA M k t 19 = xup (M 19) (M 18 2).toNat (pS M k t) ∧ gvnA M k t 20 = xup (M 20) (M 18 2).toNat (pN M k t) := by
  unfold gvnA rAdd_H gvn
  simp only [xup_at, xup_ne, xup_up, ne_eq, Nat.reduceEqDiff, not_false_eq_true, Int.toNat_natCast]
  exact ⟨trivial, trivial, trivial, trivial, trivial, trivial⟩
theorem gvnA_low {M : xM} {k t a : Nat} (h : a < 15 ∨ 20 < a) : gvnA M k t a = M a := by
  unfold gvnA rAdd_H
  rw [xup_ne (by omega), xup_ne (by omega), xup_ne (by omega), gvn_low (by omega)]
theorem turnAt_some {M0 M : xM} {k t : Nat} (hk10 : k < 10) (hkw : (k : Int) < M0 3 2) (h : turnAt M0 k M) (ht : (t : Int) < M 10 2) (hf : frA M k t) (hj : ∀ j, j < t → ¬ frA M k j) : turnAt M0 (k + 1) (gvnA M k t) := by
  have hfr := turnAt_fr (by omega) h
  obtain ⟨g15, g16, g17, g18, g19, g20⟩ := gvnA_at M k t
  obtain ⟨h1, h2, h3, h4, h5, h6, h7⟩ := h
  have h10 : M 10 2 = M0 10 2 := by rw [h1 10 (by decide)]
  have hu0 := cntP_rg (M 15) k
  have hcne : ∀ u, u < k → xup (M 15) k (t : Int) u = M 15 u := fun u hu => xup_ne (by omega)
  refine ⟨fun a ha => ?_, fun j hj1 hj2 => ?_, ?_, ?_, ?_, ?_, ?_⟩
  · rw [gvnA_low ha]; exact h1 a ha
  · rw [g15, xup_ne (by omega)]; exact h2 j (by omega) hj2
  · rw [g15]
    exact isCh_push h3 (fun u hu => (hcne u hu).symm) (Or.inr ⟨t, by omega, xup_at _ _ _, (hfr t).mp hf, fun j q z => hj j q ((hfr j).mpr z)⟩)
  · intro w hw
    rw [g15, g16, g17, gvnA_low (a := 3) (by decide), gvnA_low (a := 10) (by decide), show pS (gvnA M k t) w = pS M w from funext fun t' => pS_of (fun a ha => gvnA_low (Or.inl ha)) w t', show pN (gvnA M k t) w = pN M w from funext fun t' => pN_of (fun a ha => gvnA_low (Or.inl ha)) w t']
    by_cases q : w = k
    · subst q
      rw [xup_at, xup_at, xup_at]
      refine Or.inr ⟨?_, t, ht, rfl, rfl, rfl⟩
      rw [h1 3 (by decide)]
      exact hkw
    · rw [xup_ne q, xup_ne q, xup_ne q]
      exact h4 w hw
  · rw [g15, g18, xup_at, cntP, xup_at, if_neg (by omega), h5, cntP_congr hcne]
  · intro i hi
    rw [g18, xup_at] at hi
    rw [g15, g16, g17, g19, g20]
    by_cases q : i = (M 18 2).toNat
    · refine ⟨k, by omega, ?_, ?_, ?_⟩
      · rw [xup_at]; omega
      · rw [q, xup_at, xup_at]
      · rw [q, xup_at, xup_at]
    · obtain ⟨u, u1, u2, u3, u4⟩ := h6 i (by omega)
      have hne : u ≠ k := by omega
      refine ⟨u, by omega, ?_, ?_, ?_⟩
      · rw [xup_ne hne]; exact u2
      · rw [xup_ne q, xup_ne hne]; exact u3
      · rw [xup_ne q, xup_ne hne]; exact u4
  · intro u hu hn
    rw [g15] at hn
    rw [g16, g17, g18, g19, g20, xup_at]
    by_cases q : u = k
    · refine ⟨(M 18 2).toNat, by omega, ?_, ?_⟩
      · rw [q, xup_at, xup_at]
      · rw [q, xup_at, xup_at]
    · rw [xup_ne q] at hn
      obtain ⟨i, i1, i2, i3⟩ := h7 u (by omega) hn
      have hne : i ≠ (M 18 2).toNat := by omega
      refine ⟨i, by omega, ?_, ?_⟩
      · rw [xup_ne hne, xup_ne q]; exact i2
      · rw [xup_ne hne, xup_ne q]; exact i3
theorem turnAt_ah {M0 M : xM} {k : Nat} (hk10 : k ≤ 10) (hw : wOk M) (ht : tbOk M) (h : turnAt M0 k M) : aheadOk M := by
  obtain ⟨h1, h2, h3, h4, h5, h6, h7⟩ := h
  have hu0 := cntP_rg (M 15) k
  refine ⟨by omega, by omega, fun i hi => ?_⟩
  obtain ⟨u, u1, u2, u3, u4⟩ := h6 i hi
  have := (h4.ph hw ht u (by omega)).2.2 u2
  rw [u3, u4]
  exact this.2
set_option maxRecDepth 100000 in
set_option maxHeartbeats 4000000 in
theorem c_choose {M : xM} {Q : Option xV → xM → Prop} (hw : wOk M) (ht : tbOk M) (ha : 0 ≤ M 18 2 ∧ M 18 2 ≤ 10) (hb : 1 ≤ M 2 6 ∧ M 2 6 ≤ 9) (hq : ∀ M', turnAt M (M 3 2).toNat M' → Q (some (xI (cntP (M' 15) (M 3 2).toNat))) M') : xm 6 m_Tongue_chooseInTurn [xR (some 2)] M Q := by
  obtain ⟨w1, w2, w3⟩ := id hw
  (refine xm_of (own := "DrumTongue$Tongue") rfl (by decide +kernel) tk_Tongue [some (xR (some 2)), none, none] (Nat.le_of_ble_eq_true rfl) rfl ?_; intro D nx X C P hW)
  have loop : ∀ (m k : Nat) (M' : xM) (v : Option xV), (k : Int) + m = M 3 2 → turnAt M k M' → X 14 [some (xR (some 2)), some (xI (k : Int)), v] [] (M', D, nx) 0 0 := by
    intro m
    induction m with
    | zero =>
      intro k M' v hk hT
      have f1 : M' 3 2 = M 3 2 := by rw [hT.1 3 (by decide)]
      refine xg hW k_Tongue_chooseInTurn [14] 40 ?_
      ((repeat' (first | (with_reducible refine And.intro ?_ ?_) | (intro h0; exact absurd h0 (by decide)) | (intro _) | ((conv => whnf); (first | (with_reducible refine And.intro ?_ ?_) | (intro h0; exact absurd h0 (by decide)) | (intro _) | (refine hW.1 _ _ _ _ _ _ (c_used_W ?_) (by first | decide | omega) (by decide) (Nat.le_of_ble_eq_true rfl)) | (refine hW.1 _ _ _ _ _ _ (c_used_H ?_) (by first | decide | omega) (by decide) (Nat.le_of_ble_eq_true rfl)))))); (all_goals (try omega)); (all_goals (try exact Nat.le_of_ble_eq_true rfl)); (all_goals (try ((conv => whnf); (first | (refine hW.2.1 _ _ ?_) | (change X _ _ _ _ _ _) | (change C _ _ _ _ _ _ _))))); (all_goals (try simp only [xup_at, xup_ne, xup_up, ne_eq, Nat.reduceEqDiff, not_false_eq_true, Int.toNat_natCast] at *)); (all_goals (try omega)))
      have h1 := hq M'
      rw [show (M 3 2).toNat = k by omega] at h1
      have h2 := h1 hT
      rw [← hT.2.2.2.2.1] at h2
      exact h2
    | succ m ih =>
      intro k M' v hk hT
      have f1 : M' 3 2 = M 3 2 := by rw [hT.1 3 (by decide)]
      have hw' : wOk M' := wOk_of (fun a ha => hT.1 a (by omega)) hw
      have ht' : tbOk M' := tbOk_of (fun a _ ha => hT.1 a (by omega)) ht
      have ha' := turnAt_ah (by omega) hw' ht' hT
      obtain ⟨t1, t2, t3⟩ := id ht'
      have hb' : 1 ≤ M' 2 6 ∧ M' 2 6 ≤ 9 := by rw [hT.1 2 (by decide)]; exact hb
      refine xg hW k_Tongue_chooseInTurn [14] 40 ?_
      ((repeat' (first | (with_reducible refine And.intro ?_ ?_) | (intro h0; exact absurd h0 (by decide)) | (intro _) | ((conv => whnf); (first | (with_reducible refine And.intro ?_ ?_) | (intro h0; exact absurd h0 (by decide)) | (intro _) | (refine hW.1 _ _ _ _ _ _ (c_used_W ?_) (by first | decide | omega) (by decide) (Nat.le_of_ble_eq_true rfl)))))); (all_goals (try omega)); (all_goals (try exact Nat.le_of_ble_eq_true rfl)); (all_goals (try ((conv => whnf); (first | (refine hW.2.1 _ _ ?_) | (change X _ _ _ _ _ _) | (change C _ _ _ _ _ _ _))))); (all_goals (try simp only [xup_at, xup_ne, xup_up, ne_eq, Nat.reduceEqDiff, not_false_eq_true, Int.toNat_natCast] at *)); (all_goals (try omega)))
      refine hW.1 _ _ _ _ _ _ (c_firstTail hw' ht' ha' hb' (by omega) (fun t q1 q2 q3 => ?_) (fun q1 => ?_)) (by decide) (by decide) (Nat.le_of_ble_eq_true rfl)
      · ((repeat' (first | (with_reducible refine And.intro ?_ ?_) | (intro h0; exact absurd h0 (by decide)) | (intro _) | ((conv => whnf); (first | (with_reducible refine And.intro ?_ ?_) | (intro h0; exact absurd h0 (by decide)) | (intro _))))); (all_goals (try omega)); (all_goals (try exact Nat.le_of_ble_eq_true rfl)); (all_goals (try ((conv => whnf); (first | (refine hW.2.1 _ _ ?_) | (change X _ _ _ _ _ _) | (change C _ _ _ _ _ _ _))))); (all_goals (try simp only [xup_at, xup_ne, xup_up, ne_eq, Nat.reduceEqDiff, not_false_eq_true, Int.toNat_natCast] at *)); (all_goals (try omega)))
        refine hW.1 _ _ _ _ _ _ (c_give hw' ht' ⟨⟨by omega, q1⟩, ?_⟩) (by decide) (by decide) (Nat.le_of_ble_eq_true rfl)
        ((repeat' (first | (with_reducible refine And.intro ?_ ?_) | (intro h0; exact absurd h0 (by decide)) | (intro _) | ((conv => whnf); (first | (with_reducible refine And.intro ?_ ?_) | (intro h0; exact absurd h0 (by decide)) | (intro _))))); (all_goals (try omega)); (all_goals (try exact Nat.le_of_ble_eq_true rfl)); (all_goals (try ((conv => whnf); (first | (refine hW.2.1 _ _ ?_) | (change X _ _ _ _ _ _) | (change C _ _ _ _ _ _ _))))); (all_goals (try simp only [xup_at, xup_ne, xup_up, ne_eq, Nat.reduceEqDiff, not_false_eq_true, Int.toNat_natCast] at *)); (all_goals (try omega)))
        have g16 : gvn M' k t 16 k = pS M' k t := by
          unfold gvn
          rw [xup_ne (by decide), xup_at, xup_at]
        have g17 : gvn M' k t 17 k = pN M' k t := by
          unfold gvn
          rw [xup_at, xup_at]
        rw [g16, g17]
        have g18 : gvn M' k t 18 2 = M' 18 2 := by rw [gvn_low (by decide)]
        have hc := cntP_rg (M' 15) k
        have h5 := hT.2.2.2.2.1
        refine hW.1 _ _ _ _ _ _ (c_add_H ⟨⟨by omega, by omega⟩, fun q => by omega, fun _ => ?_⟩) (by decide) (by decide) (Nat.le_of_ble_eq_true rfl)
        ((repeat' (first | (with_reducible refine And.intro ?_ ?_) | (intro h0; exact absurd h0 (by decide)) | (intro _) | ((conv => whnf); (first | (with_reducible refine And.intro ?_ ?_) | (intro h0; exact absurd h0 (by decide)) | (intro _))))); (all_goals (try omega)); (all_goals (try exact Nat.le_of_ble_eq_true rfl)); (all_goals (try ((conv => whnf); (first | (refine hW.2.1 _ _ ?_) | (change X _ _ _ _ _ _) | (change C _ _ _ _ _ _ _))))); (all_goals (try simp only [xup_at, xup_ne, xup_up, ne_eq, Nat.reduceEqDiff, not_false_eq_true, Int.toNat_natCast] at *)); (all_goals (try omega)))
        exact ih (k + 1) _ _ (by omega) (turnAt_some (by omega) (by omega) hT q1 q2 q3)
      · ((repeat' (first | (with_reducible refine And.intro ?_ ?_) | (intro h0; exact absurd h0 (by decide)) | (intro _) | ((conv => whnf); (first | (with_reducible refine And.intro ?_ ?_) | (intro h0; exact absurd h0 (by decide)) | (intro _))))); (all_goals (try omega)); (all_goals (try exact Nat.le_of_ble_eq_true rfl)); (all_goals (try ((conv => whnf); (first | (refine hW.2.1 _ _ ?_) | (change X _ _ _ _ _ _) | (change C _ _ _ _ _ _ _))))); (all_goals (try simp only [xup_at, xup_ne, xup_up, ne_eq, Nat.reduceEqDiff, not_false_eq_true, Int.toNat_natCast] at *)); (all_goals (try omega)))
        exact ih (k + 1) M' _ (by omega) (turnAt_none (by omega) hT q1)
  have start : ∀ M1 : xM, (∀ a, (a < 15 ∨ 20 < a) → M1 a = M a) → (∀ j, j < 10 → M1 15 j = -1) → M1 18 2 = 0 → turnAt M 0 M1 := fun M1 s1 s2 s3 => ⟨s1, fun j _ hj => s2 j hj, fun w hw => absurd hw (Nat.not_lt_zero w), fun w hw => Or.inl (s2 w hw), s3, fun i hi => by omega, fun u hu => absurd hu (Nat.not_lt_zero u)⟩
  refine xg hW k_Tongue_chooseInTurn [14] 40 ?_
  ((repeat' (first | (with_reducible refine And.intro ?_ ?_) | (intro h0; exact absurd h0 (by decide)) | (intro _) | ((conv => whnf); (first | (with_reducible refine And.intro ?_ ?_) | (intro h0; exact absurd h0 (by decide)) | (intro _) | (refine hW.1 _ _ _ _ _ _ (c_forget ?_) (by first | decide | omega) (by decide) (Nat.le_of_ble_eq_true rfl)))))); (all_goals (try omega)); (all_goals (try exact Nat.le_of_ble_eq_true rfl)); (all_goals (try ((conv => whnf); (first | (refine hW.2.1 _ _ ?_) | (change X _ _ _ _ _ _) | (change C _ _ _ _ _ _ _))))); (all_goals (try simp only [xup_at, xup_ne, xup_up, ne_eq, Nat.reduceEqDiff, not_false_eq_true, Int.toNat_natCast] at *)); (all_goals (try omega)))
  refine hW.1 _ _ _ _ _ _ (c_drop_H ⟨⟨⟨by decide, by decide⟩, by simp only [xup_at, xup_ne, xup_up, ne_eq, Nat.reduceEqDiff, not_false_eq_true, Int.toNat_natCast]; omega, by simp only [xup_at, xup_ne, xup_up, ne_eq, Nat.reduceEqDiff, not_false_eq_true, Int.toNat_natCast]; omega⟩, fun _ q => ?_, fun q => ?_⟩) (by decide) (by decide) (Nat.le_of_ble_eq_true rfl)
  · ((repeat' (first | (with_reducible refine And.intro ?_ ?_) | (intro h0; exact absurd h0 (by decide)) | (intro _) | ((conv => whnf); (first | (with_reducible refine And.intro ?_ ?_) | (intro h0; exact absurd h0 (by decide)) | (intro _))))); (all_goals (try omega)); (all_goals (try exact Nat.le_of_ble_eq_true rfl)); (all_goals (try ((conv => whnf); (first | (refine hW.2.1 _ _ ?_) | (change X _ _ _ _ _ _) | (change C _ _ _ _ _ _ _))))); (all_goals (try simp only [xup_at, xup_ne, xup_up, ne_eq, Nat.reduceEqDiff, not_false_eq_true, Int.toNat_natCast] at *)); (all_goals (try omega)))
    refine loop (M 3 2).toNat 0 _ none (by omega) (start _ (fun a ha => ?_) (fun j hj => ?_) ?_)
    · rw [xup_ne (by omega), xup_ne (by omega)]
    · rw [xup_ne (by decide), xup_at]
      simp only [xfill, if_pos hj]
    · rw [xup_at, xup_at]
  · simp only [xup_at, xup_ne, xup_up, ne_eq, Nat.reduceEqDiff, not_false_eq_true, Int.toNat_natCast] at q
    ((repeat' (first | (with_reducible refine And.intro ?_ ?_) | (intro h0; exact absurd h0 (by decide)) | (intro _) | ((conv => whnf); (first | (with_reducible refine And.intro ?_ ?_) | (intro h0; exact absurd h0 (by decide)) | (intro _))))); (all_goals (try omega)); (all_goals (try exact Nat.le_of_ble_eq_true rfl)); (all_goals (try ((conv => whnf); (first | (refine hW.2.1 _ _ ?_) | (change X _ _ _ _ _ _) | (change C _ _ _ _ _ _ _))))); (all_goals (try simp only [xup_at, xup_ne, xup_up, ne_eq, Nat.reduceEqDiff, not_false_eq_true, Int.toNat_natCast] at *)); (all_goals (try omega)))
    refine loop (M 3 2).toNat 0 _ none (by omega) (start _ (fun a ha => ?_) (fun j hj => ?_) ?_)
    · rw [xup_ne (by omega)]
    · rw [xup_at]
      simp only [xfill, if_pos hj]
    · rw [xup_ne (by decide)]
      omega
end
section
/-! CHOSEN for the least: (fewest, how many looked at, the best row) -/
abbrev xL : Type := Int × Int × (Nat → Int)
noncomputable def okB (S N : Nat → Nat → Int) (v : Int) (row : Nat → Int) (w t : Nat) : Bool := @decide (okP S N v row w t) (Classical.propDecidable _)
theorem okB_iff {S N : Nat → Nat → Int} {v : Int} {row : Nat → Int} {w t : Nat} : okB S N v row w t = true ↔ okP S N v row w t := by
  unfold okB
  exact @decide_eq_true_iff _ (Classical.propDecidable _)
/-- the last m of nT phrases of a word, b beats ahead; more t: what comes of t, when it has been counted -/
def lsT (nT : Nat) (S : Nat → Int) (b : Int) (more : Nat → xL → xL) : Nat → xL → xL
  | 0, st => st
  | m + 1, st => if st.1 ≤ b + S (nT - (m + 1)) then st else if 20000 < st.2.1 + 1 then (st.1, st.2.1 + 1, st.2.2) else lsT nT S b more m (more (nT - (m + 1)) (st.1, st.2.1 + 1, st.2.2))
/-- the last f words, from w on -/
noncomputable def lsF (nT : Nat) (S N : Nat → Nat → Int) (v : Int) : Nat → Nat → (Nat → Int) → Int → xL → xL
  | 0, _, row, b, st => (b, st.2.1, row)
  | f + 1, w, row, b, st => lsT nT (S w) b (fun t st => if okB S N v row w t = true then lsF nT S N v f (w + 1) (xup row w t) (b + S w t) st else st) nT st
theorem lsT_rg {nT : Nat} {S : Nat → Int} {b B : Int} {more : Nat → xL → xL} (hS : ∀ t, t < nT → 0 ≤ S t) (hb : 0 ≤ b) (hB : 20000 ≤ B) (h2 : ∀ t st, t < nT → 0 ≤ st.2.1 → st.2.1 ≤ 20000 → 0 ≤ (more t st).2.1 ∧ (more t st).2.1 ≤ B) : ∀ m st, m ≤ nT → 0 ≤ st.2.1 → st.2.1 ≤ B → 0 ≤ (lsT nT S b more m st).2.1 ∧ (lsT nT S b more m st).2.1 ≤ B + 1
  | 0, st, _, h0, h => by rw [lsT]; omega
  | m + 1, st, hm, h0, h => by
    rw [lsT]
    split
    · omega
    · split
      · simp only; omega
      · have := h2 (nT - (m + 1)) (st.1, st.2.1 + 1, st.2.2) (by omega) (by simp only; omega) (by simp only; omega)
        exact lsT_rg hS hb hB h2 m _ (by omega) this.1 this.2
theorem lsF_rg {nT nW : Nat} {S N : Nat → Nat → Int} {v : Int} (hS : ∀ w t, w < nW → t < nT → 0 ≤ S w t) : ∀ (f w : Nat) (row : Nat → Int) (b : Int) (st : xL), w + f = nW → 0 ≤ b → 0 ≤ st.2.1 → st.2.1 ≤ 20000 → 0 ≤ (lsF nT S N v f w row b st).2.1 ∧ (lsF nT S N v f w row b st).2.1 ≤ 20000 + f
  | 0, w, row, b, st, hw, hb, h0, h => by rw [lsF]; simp only; omega
  | f + 1, w, row, b, st, hw, hb, h0, h => by
    rw [lsF]
    have := lsT_rg (nT := nT) (S := S w) (b := b) (B := 20000 + f) (more := fun t st => if okB S N v row w t = true then lsF nT S N v f (w + 1) (xup row w t) (b + S w t) st else st) (fun t ht => hS w t (by omega) ht) hb (by omega) (fun t st ht q0 q => by
      split
      · exact lsF_rg hS f _ _ _ _ (by omega) (by have := hS w t (by omega) ht; omega) q0 q
      · omega) nT st (Nat.le_refl _) h0 (by omega)
    omega
/-- the best row is one of phrases, if one was found; its beats stay in bounds -/
def lsOk (nT nW : Nat) (st : xL) : Prop := 0 ≤ st.1 ∧ st.1 ≤ 1000000 ∧ (st.1 = 1000000 ∨ ∀ j, j < nW → ∃ t : Nat, t < nT ∧ st.2.2 j = t)
theorem lsF_ok {nT nW : Nat} {S N : Nat → Nat → Int} {v : Int} (hS : ∀ w t, w < nW → t < nT → 0 ≤ S w t) : ∀ (f w : Nat) (row : Nat → Int) (b : Int) (st : xL), w + f = nW → (∀ j, j < w → ∃ t : Nat, t < nT ∧ row j = t) → 0 ≤ b → b < st.1 → lsOk nT nW st → lsOk nT nW (lsF nT S N v f w row b st)
  | 0, w, row, b, st, hw, hr, hb, hlt, h => by
    rw [lsF]
    obtain ⟨h1, h2, h3⟩ := h
    refine ⟨hb, by simp only; omega, Or.inr fun j hj => hr j (by omega)⟩
  | f + 1, w, row, b, st, hw, hr, hb, hlt, h => by
    rw [lsF]
    have key : ∀ m st, m ≤ nT → lsOk nT nW st → lsOk nT nW (lsT nT (S w) b (fun t st => if okB S N v row w t = true then lsF nT S N v f (w + 1) (xup row w t) (b + S w t) st else st) m st) := by
      intro m
      induction m with
      | zero => intro st _ h; exact h
      | succ m ih =>
        intro st hm h
        rw [lsT]
        split
        · exact h
        · rename_i hlt
          split
          · exact h
          · refine ih _ (by omega) ?_
            split
            · have hs := hS w (nT - (m + 1)) (by omega) (by omega)
              refine lsF_ok hS f (w + 1) _ _ _ (by omega) (fun j hj => ?_) (by omega) (by simp only; omega) h
              by_cases q : j = w
              · exact ⟨nT - (m + 1), by omega, by rw [q, xup_at]⟩
              · rw [xup_ne q]
                exact hr j (by omega)
            · exact h
    exact key nT st (Nat.le_refl _) h
/-- the scratch of the search may differ, nothing else -/
def lsFr (M0 M : xM) : Prop := (∀ a, a ≠ 2 → (a < 18 ∨ 22 < a) → M a = M0 a) ∧ ∀ k, k ≠ 10 → k ≠ 11 → M 2 k = M0 2 k
def lsAt (M0 : xM) (w : Nat) (row : Nat → Int) (st : xL) (M : xM) : Prop := lsFr M0 M ∧ M 2 10 = st.1 ∧ M 2 11 = st.2.1 ∧ (∀ j, j < (M0 3 2).toNat → M 22 j = st.2.2 j) ∧ (∀ j, j < w → M 21 j = row j ∧ M 19 j = pS M0 j (row j).toNat ∧ M 20 j = pN M0 j (row j).toNat) ∧ M 18 2 = w
/-- what stands at the outset, and never changes -/
def lsPre (M0 : xM) : Prop := wOk M0 ∧ tbOk M0 ∧ 1 ≤ M0 2 6 ∧ M0 2 6 ≤ 9
def rowOk (M0 : xM) (w : Nat) (row : Nat → Int) : Prop := ∀ j, j < w → ∃ t : Nat, (t : Int) < M0 10 2 ∧ row j = t
theorem lsAt_ah {M0 M : xM} {w : Nat} {row : Nat → Int} {st : xL} (hp : lsPre M0) (hw : (w : Int) ≤ M0 3 2) (hr : rowOk M0 w row) (h : lsAt M0 w row st M) : aheadOk M := by
  obtain ⟨h1, h2, h3, h4, h5, h6⟩ := h
  have hw1 := hp.1.2.1
  refine ⟨by omega, by omega, fun i hi => ?_⟩
  obtain ⟨t, t1, t2⟩ := hr i (by omega)
  obtain ⟨-, q2, q3⟩ := h5 i (by omega)
  rw [q2, q3, t2, Int.toNat_natCast]
  exact (pB hp.1 hp.2.1 (by omega) t1).2
theorem lsAt_fr {M0 M : xM} {w : Nat} {row : Nat → Int} {st : xL} (hr : rowOk M0 w row) (h : lsAt M0 w row st M) (t : Nat) : allApart M (pS M0 w t) (pN M0 w t) (M 2 6) ↔ okP (pS M0) (pN M0) (M0 2 6) row w t := by
  obtain ⟨h1, h2, h3, h4, h5, h6⟩ := h
  unfold allApart okP
  rw [h1.2 6 (by decide) (by decide), h6]
  constructor
  · intro q u hu _
    have := q u (by omega)
    rw [(h5 u hu).2.1, (h5 u hu).2.2] at this
    exact this
  · intro q i hi
    obtain ⟨t', t1, t2⟩ := hr i (by omega)
    have := q i (by omega) (by omega)
    rw [(h5 i (by omega)).2.1, (h5 i (by omega)).2.2]
    exact this
theorem lsAt_look {M0 M : xM} {w : Nat} {row : Nat → Int} {st : xL} (h : lsAt M0 w row st M) : lsAt M0 w row (st.1, st.2.1 + 1, st.2.2) (xup M 2 (xup (M 2) 11 (M 2 11 + 1))) := by
  obtain ⟨h1, h2, h3, h4, h5, h6⟩ := h
  refine ⟨⟨fun a ha1 ha2 => ?_, fun k k1 k2 => ?_⟩, ?_, ?_, fun j hj => ?_, fun j hj => ?_, ?_⟩
  · rw [xup_ne ha1]; exact h1.1 a ha1 ha2
  · rw [xup_at, xup_ne k2]; exact h1.2 k k1 k2
  · rw [xup_at, xup_ne (by decide)]; exact h2
  · rw [xup_at, xup_at, h3]
  · rw [xup_ne (by decide)]; exact h4 j hj
  · rw [xup_ne (by decide), xup_ne (by decide), xup_ne (by decide)]; exact h5 j hj
  · rw [xup_ne (by decide)]; exact h6
theorem lsAt_push {M0 M : xM} {w t : Nat} {row : Nat → Int} {st : xL} (h : lsAt M0 w row st M) : lsAt M0 (w + 1) (xup row w t) st (rAdd_H (xup M 21 (xup (M 21) w t)) (pS M0 w t) (pN M0 w t)) := by
  obtain ⟨h1, h2, h3, h4, h5, h6⟩ := h
  unfold rAdd_H
  have e : (xup M 21 (xup (M 21) w t) 18 2).toNat = w := by rw [xup_ne (by decide), h6]; rfl
  rw [e]
  refine ⟨⟨fun a ha1 ha2 => ?_, fun k k1 k2 => ?_⟩, ?_, ?_, fun j hj => ?_, fun j hj => ?_, ?_⟩
  · rw [xup_ne (by omega), xup_ne (by omega), xup_ne (by omega), xup_ne (by omega)]; exact h1.1 a ha1 ha2
  · simp only [xup_at, xup_ne, xup_up, ne_eq, Nat.reduceEqDiff, not_false_eq_true, Int.toNat_natCast]; exact h1.2 k k1 k2
  · simp only [xup_at, xup_ne, xup_up, ne_eq, Nat.reduceEqDiff, not_false_eq_true, Int.toNat_natCast]; exact h2
  · simp only [xup_at, xup_ne, xup_up, ne_eq, Nat.reduceEqDiff, not_false_eq_true, Int.toNat_natCast]; exact h3
  · simp only [xup_at, xup_ne, xup_up, ne_eq, Nat.reduceEqDiff, not_false_eq_true, Int.toNat_natCast]; exact h4 j hj
  · simp only [xup_at, xup_ne, xup_up, ne_eq, Nat.reduceEqDiff, not_false_eq_true, Int.toNat_natCast]
    by_cases q : j = w
    · subst q
      rw [xup_at, xup_at, xup_at, xup_at, Int.toNat_natCast]
      exact ⟨rfl, rfl, rfl⟩
    · rw [xup_ne q, xup_ne q, xup_ne q, xup_ne q]
      exact h5 j (by omega)
  · simp only [xup_at, xup_ne, xup_up, ne_eq, Nat.reduceEqDiff, not_false_eq_true, Int.toNat_natCast]
    rw [h6]
    rfl
theorem lsAt_pop {M0 M : xM} {w t : Nat} {row : Nat → Int} {st : xL} (h : lsAt M0 (w + 1) (xup row w t) st M) : lsAt M0 w row st (xup M 18 (xup (M 18) 2 w)) := by
  obtain ⟨h1, h2, h3, h4, h5, h6⟩ := h
  refine ⟨⟨fun a ha1 ha2 => ?_, fun k k1 k2 => ?_⟩, ?_, ?_, fun j hj => ?_, fun j hj => ?_, ?_⟩
  · rw [xup_ne (by omega)]; exact h1.1 a ha1 ha2
  · simp only [xup_at, xup_ne, xup_up, ne_eq, Nat.reduceEqDiff, not_false_eq_true, Int.toNat_natCast]; exact h1.2 k k1 k2
  · simp only [xup_at, xup_ne, xup_up, ne_eq, Nat.reduceEqDiff, not_false_eq_true, Int.toNat_natCast]; exact h2
  · simp only [xup_at, xup_ne, xup_up, ne_eq, Nat.reduceEqDiff, not_false_eq_true, Int.toNat_natCast]; exact h3
  · simp only [xup_at, xup_ne, xup_up, ne_eq, Nat.reduceEqDiff, not_false_eq_true, Int.toNat_natCast]; exact h4 j hj
  · simp only [xup_at, xup_ne, xup_up, ne_eq, Nat.reduceEqDiff, not_false_eq_true, Int.toNat_natCast]
    have := h5 j (by omega)
    rw [xup_ne (show j ≠ w by omega)] at this
    exact this
  · simp only [xup_at, xup_ne, xup_up, ne_eq, Nat.reduceEqDiff, not_false_eq_true, Int.toNat_natCast]
theorem lsAt_w {M0 M : xM} {w : Nat} {row : Nat → Int} {st : xL} (h : lsAt M0 w row st M) (hw : wOk M0) : wOk M := by
  unfold wOk
  rw [h.1.1 3 (by decide) (by decide), h.1.1 4 (by decide) (by decide), h.1.1 5 (by decide) (by decide)]
  exact hw
theorem lsAt_t {M0 M : xM} {w : Nat} {row : Nat → Int} {st : xL} (h : lsAt M0 w row st M) (ht : tbOk M0) : tbOk M := tbOk_of (fun a _ ha => h.1.1 a (by omega) (by omega)) ht
theorem lsAt_pS {M0 M : xM} {w : Nat} {row : Nat → Int} {st : xL} (h : lsAt M0 w row st M) (u t : Nat) : pS M u t = pS M0 u t := by unfold pS; rw [h.1.1 4 (by decide) (by decide), h.1.1 11 (by decide) (by decide)]
theorem lsAt_pN {M0 M : xM} {w : Nat} {row : Nat → Int} {st : xL} (h : lsAt M0 w row st M) (u t : Nat) : pN M u t = pN M0 u t := by unfold pN; rw [h.1.1 5 (by decide) (by decide), h.1.1 11 (by decide) (by decide), h.1.1 12 (by decide) (by decide)]
set_option maxRecDepth 100000 in
set_option maxHeartbeats 4000000 in
theorem c_lookFrom {M0 : xM} (hp : lsPre M0) : ∀ (f : Nat) {w : Nat} {row : Nat → Int} {b : Int} {st : xL} {M : xM} {Q : Option xV → xM → Prop}, (w : Int) + f = M0 3 2 → 0 ≤ b → b ≤ 18 * w → 0 ≤ st.2.1 → st.2.1 ≤ 20000 → b < st.1 → lsOk (M0 10 2).toNat (M0 3 2).toNat st → rowOk M0 w row → lsAt M0 w row st M → (∀ M', lsAt M0 w row (lsF (M0 10 2).toNat (pS M0) (pN M0) (M0 2 6) f w row b st) M' → Q none M') → xm (6 + f) m_Tongue_lookFrom [xR (some 2), xI w, xI b] M Q := by
  have hp' := hp
  obtain ⟨hw, ht, hb1, hb2⟩ := hp'
  obtain ⟨w1, w2, w3⟩ := id hw
  obtain ⟨t1, t2, t3⟩ := id ht
  intro f
  induction f with
  | zero =>
    intro w row b st M Q hf hb0 hb3 hl0 hl1 hlt hso hr hA hq
    have f3 : M 3 2 = M0 3 2 := by rw [hA.1.1 3 (by decide) (by decide)]
    (refine xm_of (own := "DrumTongue$Tongue") rfl (by decide +kernel) tk_Tongue [some (xR (some 2)), some (xI (w : Int)), some (xI b), none, none, none] (Nat.le_of_ble_eq_true rfl) rfl ?_; intro D nx X C P hW)
    refine xg hW k_Tongue_lookFrom [40] 40 ?_
    ((repeat' (first | (with_reducible refine And.intro ?_ ?_) | (intro h0; exact absurd h0 (by decide)) | (intro _) | ((conv => whnf); (first | (with_reducible refine And.intro ?_ ?_) | (intro h0; exact absurd h0 (by decide)) | (intro _) | (refine hW.1 _ _ _ _ _ _ (c_used_W ?_) (by first | decide | omega) (by decide) (Nat.le_of_ble_eq_true rfl)))))); (all_goals (try omega)); (all_goals (try exact Nat.le_of_ble_eq_true rfl)); (all_goals (try ((conv => whnf); (first | (refine hW.2.1 _ _ ?_) | (change X _ _ _ _ _ _) | (change C _ _ _ _ _ _ _))))); (all_goals (try simp only [xup_at, xup_ne, xup_up, ne_eq, Nat.reduceEqDiff, not_false_eq_true, Int.toNat_natCast] at *)); (all_goals (try omega)))
    refine hq _ ?_
    rw [lsF]
    obtain ⟨h1, h2, h3, h4, h5, h6⟩ := hA
    refine ⟨⟨fun a ha1 ha2 => ?_, fun k k1 k2 => ?_⟩, ?_, ?_, fun j hj => ?_, fun j hj => ?_, ?_⟩
    · rw [xup_ne (by omega), xup_ne ha1]; exact h1.1 a ha1 ha2
    · rw [xup_ne (by decide), xup_at, xup_ne k1]; exact h1.2 k k1 k2
    · rw [xup_ne (by decide), xup_at, xup_at]
    · rw [xup_ne (by decide), xup_at, xup_ne (by decide)]; exact h3
    · rw [xup_at]
      unfold va_cpy
      rw [if_pos ⟨Nat.zero_le _, by show j < 0 + 10; omega⟩]
      show M 21 (0 + (j - 0)) = row j
      rw [Nat.zero_add, Nat.sub_zero]
      exact (h5 j (by omega)).1
    · rw [xup_ne (by decide), xup_ne (by decide), xup_ne (by decide), xup_ne (by decide), xup_ne (by decide), xup_ne (by decide)]
      exact h5 j hj
    · rw [xup_ne (by decide), xup_ne (by decide)]; exact h6
  | succ f ih =>
    intro w row b st M Q hf hb0 hb3 hl0 hl1 hlt hso hr hA hq
    rw [lsF] at hq
    generalize hnT : (M0 10 2).toNat = nT at *
    generalize hmore : (fun (t : Nat) (st : xL) => if okB (pS M0) (pN M0) (M0 2 6) row w t = true then lsF nT (pS M0) (pN M0) (M0 2 6) f (w + 1) (xup row w t) (b + pS M0 w t) st else st) = more at hq
    (refine xm_of (own := "DrumTongue$Tongue") rfl (by decide +kernel) tk_Tongue [some (xR (some 2)), some (xI (w : Int)), some (xI b), none, none, none] (Nat.le_of_ble_eq_true rfl) rfl ?_; intro D nx X C P hW)
    have loop : ∀ (m : Nat) (st : xL) (M : xM) (v4 v5 : Option xV), m ≤ nT → 0 ≤ st.2.1 → st.2.1 ≤ 20000 + f → lsOk nT (M0 3 2).toNat st → lsAt M0 w row st M → (∀ M', lsAt M0 w row (lsT nT (pS M0 w) b more m st) M' → Q none M') → X 40 [some (xR (some 2)), some (xI (w : Int)), some (xI b), some (xI ((nT : Int) - m)), v4, v5] [] (M, D, nx) 0 0 := by
      intro m
      induction m with
      | zero =>
        intro st M v4 v5 hm q0 q1 hso hA hq
        have f10 : M 10 2 = M0 10 2 := by rw [hA.1.1 10 (by decide) (by decide)]
        refine xg hW k_Tongue_lookFrom [40] 40 ?_
        ((repeat' (first | (with_reducible refine And.intro ?_ ?_) | (intro h0; exact absurd h0 (by decide)) | (intro _) | ((conv => whnf); (first | (with_reducible refine And.intro ?_ ?_) | (intro h0; exact absurd h0 (by decide)) | (intro _) | (refine hW.1 _ _ _ _ _ _ (c_Tails_used ?_) (by first | decide | omega) (by decide) (Nat.le_of_ble_eq_true rfl)))))); (all_goals (try omega)); (all_goals (try exact Nat.le_of_ble_eq_true rfl)); (all_goals (try ((conv => whnf); (first | (refine hW.2.1 _ _ ?_) | (change X _ _ _ _ _ _) | (change C _ _ _ _ _ _ _))))); (all_goals (try simp only [xup_at, xup_ne, xup_up, ne_eq, Nat.reduceEqDiff, not_false_eq_true, Int.toNat_natCast] at *)); (all_goals (try omega)))
        exact hq M hA
      | succ m ihm =>
        intro st M v4 v5 hm q0 q1 hso hA hq
        have f10 : M 10 2 = M0 10 2 := by rw [hA.1.1 10 (by decide) (by decide)]
        have hw' : wOk M := by unfold wOk; rw [hA.1.1 3 (by decide) (by decide), hA.1.1 4 (by decide) (by decide), hA.1.1 5 (by decide) (by decide)]; exact hw
        have ht' : tbOk M := tbOk_of (fun a _ ha => hA.1.1 a (by omega) (by omega)) ht
        have f3 : M 3 2 = M0 3 2 := by rw [hA.1.1 3 (by decide) (by decide)]
        have e1 : M 2 10 = st.1 := hA.2.1
        have e2 : M 2 11 = st.2.1 := hA.2.2.1
        rw [lsT] at hq
        have hB := pB hw ht (w := w) (t := nT - (m + 1)) (by omega) (by omega)
        obtain ⟨s0, s1, s2, -, -⟩ := id hB
        have eS : pS M w (nT - (m + 1)) = pS M0 w (nT - (m + 1)) := by unfold pS; rw [hA.1.1 4 (by decide) (by decide), hA.1.1 11 (by decide) (by decide)]
        rw [show ((nT : Int) - ((m + 1 : Nat) : Int)) = ((nT - (m + 1) : Nat) : Int) by omega]
        obtain ⟨so1, so2, so3⟩ := id hso
        refine xg hW k_Tongue_lookFrom [40] 40 ?_
        ((repeat' (first | (with_reducible refine And.intro ?_ ?_) | (intro h0; exact absurd h0 (by decide)) | (intro _) | ((conv => whnf); (first | (with_reducible refine And.intro ?_ ?_) | (intro h0; exact absurd h0 (by decide)) | (intro _) | (refine hW.1 _ _ _ _ _ _ (c_Tails_used ?_) (by first | decide | omega) (by decide) (Nat.le_of_ble_eq_true rfl)) | (refine hW.1 _ _ _ _ _ _ (c_sizeWith hw' ht' ?_) (by first | decide | omega) (by decide) (Nat.le_of_ble_eq_true rfl)))))); (all_goals (try omega)); (all_goals (try exact Nat.le_of_ble_eq_true rfl)); (all_goals (try ((conv => whnf); (first | (refine hW.2.1 _ _ ?_) | (change X _ _ _ _ _ _) | (change C _ _ _ _ _ _ _))))); (all_goals (try simp only [xup_at, xup_ne, xup_up, ne_eq, Nat.reduceEqDiff, not_false_eq_true, Int.toNat_natCast] at *)); (all_goals (try omega)))
        · have hA1 := lsAt_look hA
          have hlk : ¬ 20000 < st.2.1 + 1 := by omega
          have hfw : ¬ st.1 ≤ b + pS M0 w (nT - (m + 1)) := by omega
          rw [if_neg hfw, if_neg hlk] at hq
          generalize xup M 2 (xup (M 2) 11 (M 2 11 + 1)) = M1 at hA1 ⊢
          have hw1 := lsAt_w hA1 hw
          have ht1 := lsAt_t hA1 ht
          have g3 : M1 3 2 = M0 3 2 := by rw [hA1.1.1 3 (by decide) (by decide)]
          have g10 : M1 10 2 = M0 10 2 := by rw [hA1.1.1 10 (by decide) (by decide)]
          have g26 : M1 2 6 = M0 2 6 := hA1.1.2 6 (by decide) (by decide)
          have g18 : M1 18 2 = w := hA1.2.2.2.2.2
          have hah := lsAt_ah hp (by omega) hr hA1
          have hfr := lsAt_fr hr hA1 (nT - (m + 1))
          refine hW.1 _ _ _ _ _ _ (c_numberWith hw1 ht1 ⟨⟨by omega, by omega⟩, ?_⟩) (by omega) (by decide) (Nat.le_of_ble_eq_true rfl)
          rw [lsAt_pN hA1, eS]
          ((repeat' (first | (with_reducible refine And.intro ?_ ?_) | (intro h0; exact absurd h0 (by decide)) | (intro _) | ((conv => whnf); (first | (with_reducible refine And.intro ?_ ?_) | (intro h0; exact absurd h0 (by decide)) | (intro _) | (refine hW.1 _ _ _ _ _ _ (c_allApartY hah hB.2 ?_) (by first | decide | omega) (by decide) (Nat.le_of_ble_eq_true rfl)))))); (all_goals (try omega)); (all_goals (try exact Nat.le_of_ble_eq_true rfl)); (all_goals (try ((conv => whnf); (first | (refine hW.2.1 _ _ ?_) | (change X _ _ _ _ _ _) | (change C _ _ _ _ _ _ _))))); (all_goals (try simp only [xup_at, xup_ne, xup_up, ne_eq, Nat.reduceEqDiff, not_false_eq_true, Int.toNat_natCast] at *)); (all_goals (try omega)))
          · rename_i hap _
            have hok : okB (pS M0) (pN M0) (M0 2 6) row w (nT - (m + 1)) = true := okB_iff.mpr (hfr.mp hap)
            have hm : more (nT - (m + 1)) (st.1, st.2.1 + 1, st.2.2) = lsF nT (pS M0) (pN M0) (M0 2 6) f (w + 1) (xup row w ((nT - (m + 1) : Nat) : Int)) (b + pS M0 w (nT - (m + 1))) (st.1, st.2.1 + 1, st.2.2) := by
              rw [← hmore]
              simp only [hok, if_true]
            have hrow : rowOk M0 (w + 1) (xup row w ((nT - (m + 1) : Nat) : Int)) := fun j hj => by
              by_cases q : j = w
              · subst q
                exact ⟨nT - (m + 1), by omega, xup_at _ _ _⟩
              · rw [xup_ne q]
                exact hr j (by omega)
            have hso1 : lsOk nT (M0 3 2).toNat (st.1, st.2.1 + 1, st.2.2) := hso
            have hsz : ∀ w t : Nat, w < (M0 3 2).toNat → t < nT → 0 ≤ pS M0 w t := fun w t h1 h2 => by have := (pB hw ht (w := w) (t := t) (by omega) (by omega)).1; omega
            have r1 := lsF_rg (N := pN M0) (v := M0 2 6) hsz f (w + 1) (xup row w ((nT - (m + 1) : Nat) : Int)) (b + pS M0 w (nT - (m + 1))) (st.1, st.2.1 + 1, st.2.2) (by omega) (by omega) (by simp only; omega) (by simp only; omega)
            have r2 := lsF_ok (N := pN M0) (v := M0 2 6) hsz f (w + 1) (xup row w ((nT - (m + 1) : Nat) : Int)) (b + pS M0 w (nT - (m + 1))) (st.1, st.2.1 + 1, st.2.2) (by omega) (fun j hj => by obtain ⟨t, a1, a2⟩ := hrow j hj; exact ⟨t, by omega, a2⟩) (by omega) (by simp only; omega) hso1
            rw [← hm] at r1 r2
            have l18 : (xup M1 21 (xup (M1 21) w ((nT - (m + 1) : Nat) : Int))) 18 2 = w := by rw [xup_ne (by decide)]; exact g18
            refine hW.1 _ _ _ _ _ _ (c_add_H ⟨⟨by omega, by omega⟩, fun q => by omega, fun _ => ?_⟩) (by omega) (by decide) (Nat.le_of_ble_eq_true rfl)
            ((repeat' (first | (with_reducible refine And.intro ?_ ?_) | (intro h0; exact absurd h0 (by decide)) | (intro _) | ((conv => whnf); (first | (with_reducible refine And.intro ?_ ?_) | (intro h0; exact absurd h0 (by decide)) | (intro _))))); (all_goals (try omega)); (all_goals (try exact Nat.le_of_ble_eq_true rfl)); (all_goals (try ((conv => whnf); (first | (refine hW.2.1 _ _ ?_) | (change X _ _ _ _ _ _) | (change C _ _ _ _ _ _ _))))); (all_goals (try simp only [xup_at, xup_ne, xup_up, ne_eq, Nat.reduceEqDiff, not_false_eq_true, Int.toNat_natCast] at *)); (all_goals (try omega)))
            refine hW.1 _ _ _ _ _ _ (ih (w := w + 1) (by omega) (by omega) (by omega) (by simp only; omega) (by simp only; omega) (by simp only; omega) hso1 hrow (lsAt_push hA1) (fun M4 hA4 => ?_)) (by omega) (by decide) (Nat.le_of_ble_eq_true rfl)
            rw [← hm] at hA4
            have l4 : M4 18 2 = ((w + 1 : Nat) : Int) := hA4.2.2.2.2.2
            ((repeat' (first | (with_reducible refine And.intro ?_ ?_) | (intro h0; exact absurd h0 (by decide)) | (intro _) | ((conv => whnf); (first | (with_reducible refine And.intro ?_ ?_) | (intro h0; exact absurd h0 (by decide)) | (intro _))))); (all_goals (try omega)); (all_goals (try exact Nat.le_of_ble_eq_true rfl)); (all_goals (try ((conv => whnf); (first | (refine hW.2.1 _ _ ?_) | (change X _ _ _ _ _ _) | (change C _ _ _ _ _ _ _))))); (all_goals (try simp only [xup_at, xup_ne, xup_up, ne_eq, Nat.reduceEqDiff, not_false_eq_true, Int.toNat_natCast] at *)); (all_goals (try omega)))
            refine hW.1 _ _ _ _ _ _ (c_drop_H ⟨⟨⟨by omega, by omega⟩, by omega, by omega⟩, fun _ _ => ?_, fun q => by omega⟩) (by omega) (by decide) (Nat.le_of_ble_eq_true rfl)
            ((repeat' (first | (with_reducible refine And.intro ?_ ?_) | (intro h0; exact absurd h0 (by decide)) | (intro _) | ((conv => whnf); (first | (with_reducible refine And.intro ?_ ?_) | (intro h0; exact absurd h0 (by decide)) | (intro _))))); (all_goals (try omega)); (all_goals (try exact Nat.le_of_ble_eq_true rfl)); (all_goals (try ((conv => whnf); (first | (refine hW.2.1 _ _ ?_) | (change X _ _ _ _ _ _) | (change C _ _ _ _ _ _ _))))); (all_goals (try simp only [xup_at, xup_ne, xup_up, ne_eq, Nat.reduceEqDiff, not_false_eq_true, Int.toNat_natCast] at *)); (all_goals (try omega)))
            have := ihm (more (nT - (m + 1)) (st.1, st.2.1 + 1, st.2.2)) _ (some (xI (pS M0 w (nT - (m + 1))))) (some (xI (pN M0 w (nT - (m + 1))))) (by omega) r1.1 r1.2 r2 (lsAt_pop hA4) hq
            rw [show ((nT : Int) - (m : Int)) = ((nT - (m + 1) : Nat) : Int) + 1 by omega] at this
            exact this
          · rename_i hap _
            have hok : ¬ okB (pS M0) (pN M0) (M0 2 6) row w (nT - (m + 1)) = true := fun q => hap (hfr.mpr (okB_iff.mp q))
            have hm : more (nT - (m + 1)) (st.1, st.2.1 + 1, st.2.2) = (st.1, st.2.1 + 1, st.2.2) := by
              rw [← hmore]
              simp only [hok]
              rfl
            rw [hm] at hq
            have := ihm (st.1, st.2.1 + 1, st.2.2) M1 (some (xI (pS M0 w (nT - (m + 1))))) (some (xI (pN M0 w (nT - (m + 1))))) (by omega) (by simp only; omega) (by simp only; omega) hso hA1 hq
            rw [show ((nT : Int) - (m : Int)) = ((nT - (m + 1) : Nat) : Int) + 1 by omega] at this
            exact this
        · refine hq _ ?_
          rw [if_neg (by omega), if_pos (by omega)]
          exact lsAt_look hA
        · refine hq _ ?_
          rw [if_pos (by omega)]
          exact hA
    have f3 : M 3 2 = M0 3 2 := by rw [hA.1.1 3 (by decide) (by decide)]
    refine xg hW k_Tongue_lookFrom [40] 40 ?_
    ((repeat' (first | (with_reducible refine And.intro ?_ ?_) | (intro h0; exact absurd h0 (by decide)) | (intro _) | ((conv => whnf); (first | (with_reducible refine And.intro ?_ ?_) | (intro h0; exact absurd h0 (by decide)) | (intro _) | (refine hW.1 _ _ _ _ _ _ (c_used_W ?_) (by first | decide | omega) (by decide) (Nat.le_of_ble_eq_true rfl)))))); (all_goals (try omega)); (all_goals (try exact Nat.le_of_ble_eq_true rfl)); (all_goals (try ((conv => whnf); (first | (refine hW.2.1 _ _ ?_) | (change X _ _ _ _ _ _) | (change C _ _ _ _ _ _ _))))); (all_goals (try simp only [xup_at, xup_ne, xup_up, ne_eq, Nat.reduceEqDiff, not_false_eq_true, Int.toNat_natCast] at *)); (all_goals (try omega)))
    have := loop nT st M none none (Nat.le_refl _) hl0 (by omega) hso hA hq
    rw [Int.sub_self] at this
    exact this
/-- the two differ in nothing but the best row of a search that has found none -/
def lsEq (a b : xL) : Prop := a.1 = b.1 ∧ a.2.1 = b.2.1 ∧ (a.1 = 1000000 ∨ a.2.2 = b.2.2)
theorem lsT_eq {nT : Nat} {S : Nat → Int} {b : Int} {more : Nat → xL → xL} (h : ∀ t x y, b + S t < x.1 → lsEq x y → lsEq (more t x) (more t y)) : ∀ m x y, lsEq x y → lsEq (lsT nT S b more m x) (lsT nT S b more m y)
  | 0, _, _, e => e
  | m + 1, x, y, e => by
    rw [lsT, lsT, ← e.1, ← e.2.1]
    split
    · exact e
    · rename_i q1
      split
      · exact ⟨rfl, rfl, e.2.2⟩
      · exact lsT_eq h m _ _ (h _ _ _ (by simp only; omega) ⟨rfl, rfl, e.2.2⟩)
theorem lsF_eq {nT : Nat} {S N : Nat → Nat → Int} {v : Int} : ∀ (f w : Nat) (row : Nat → Int) (b : Int) (x y : xL), lsEq x y → lsEq (lsF nT S N v f w row b x) (lsF nT S N v f w row b y)
  | 0, w, row, b, x, y, e => by
    rw [lsF, lsF]
    exact ⟨rfl, e.2.1, Or.inr rfl⟩
  | f + 1, w, row, b, x, y, e => by
    rw [lsF, lsF]
    refine lsT_eq (fun t x y _ e => ?_) nT x y e
    split
    · exact lsF_eq f _ _ _ _ _ e
    · exact e
/-- what the search for the least finds -/
noncomputable def lsR (nT nW : Nat) (S N : Nat → Nat → Int) (v : Int) : xL := lsF nT S N v nW 0 (fun _ => 0) 0 (1000000, 0, fun _ => 0)
noncomputable abbrev lsM (M : xM) : xL := lsR (M 10 2).toNat (M 3 2).toNat (pS M) (pN M) (M 2 6)
set_option maxRecDepth 100000 in
set_option maxHeartbeats 4000000 in
theorem c_least {M : xM} {Q : Option xV → xM → Prop} (hp : lsPre M) (hg : gvOk M) (ha : 0 ≤ M 18 2 ∧ M 18 2 ≤ 10) (h1 : ∀ M' : xM, lsFr M M' → M' 18 2 = 0 → 20000 < (lsM M).2.1 → Q (some (xI (-5))) M') (h2 : ∀ M' : xM, lsFr M M' → M' 18 2 = 0 → (lsM M).2.1 ≤ 20000 → (lsM M).1 = 1000000 → Q (some (xI (-1))) M') (h3 : ∀ M' : xM, (∀ a, a ≠ 2 → (a < 15 ∨ 22 < a) → M' a = M a) → (∀ k, k ≠ 10 → k ≠ 11 → M' 2 k = M 2 k) → M' 18 2 = 0 → (lsM M).2.1 ≤ 20000 → (lsM M).1 ≠ 1000000 → (∀ j, j < (M 3 2).toNat → M' 15 j = (lsM M).2.2 j) → (∀ j, (M 3 2).toNat ≤ j → M' 15 j = M 15 j) → gvOk M' → Q (some (xI (lsM M).1)) M') : xm 20 m_Tongue_chooseForTheLeast [xR (some 2)] M Q := by
  have hp' := hp
  obtain ⟨hw, ht, hb1, hb2⟩ := hp'
  obtain ⟨w1, w2, w3⟩ := id hw
  obtain ⟨t1, t2, t3⟩ := id ht
  have hsz : ∀ w t : Nat, w < (M 3 2).toNat → t < (M 10 2).toNat → 0 ≤ pS M w t := fun w t h1 h2 => by have := (pB hw ht (w := w) (t := t) (by omega) (by omega)).1; omega
  have r1 := lsF_rg (N := pN M) (v := M 2 6) hsz (M 3 2).toNat 0 (fun _ => 0) 0 (1000000, 0, fun _ => 0) (by omega) (by omega) (by simp only; omega) (by simp only; omega)
  have r2 := lsF_ok (N := pN M) (v := M 2 6) hsz (M 3 2).toNat 0 (fun _ => 0) 0 (1000000, 0, fun _ => 0) (by omega) (fun j hj => by omega) (by omega) (by simp only; omega) ⟨by simp only; omega, by simp only; omega, Or.inl rfl⟩
  (refine xm_of (own := "DrumTongue$Tongue") rfl (by decide +kernel) tk_Tongue [some (xR (some 2)), none] (Nat.le_of_ble_eq_true rfl) rfl ?_; intro D nx X C P hW)
  have loop : ∀ (m k : Nat) (M' : xM), (k : Int) + m = M 3 2 → (∀ a, a ≠ 2 → (a < 15 ∨ 22 < a) → M' a = M a) → (∀ k, k ≠ 10 → k ≠ 11 → M' 2 k = M 2 k) → M' 18 2 = 0 → M' 2 10 = (lsM M).1 → (lsM M).2.1 ≤ 20000 → (lsM M).1 ≠ 1000000 → (∀ j, j < (M 3 2).toNat → M' 22 j = (lsM M).2.2 j) → (∀ j, j < k → M' 15 j = (lsM M).2.2 j) → (∀ j, k ≤ j → M' 15 j = M 15 j) → gvOk M' → X 51 [some (xR (some 2)), some (xI (k : Int))] [] (M', D, nx) 0 0 := by
    intro m
    induction m with
    | zero =>
      intro k M' hk q1 q2 q3 q4 q5 q6 q7 q8 q9 q10
      have f3 : M' 3 2 = M 3 2 := by rw [q1 3 (by decide) (by decide)]
      refine xg hW k_Tongue_chooseForTheLeast [51] 40 ?_
      ((repeat' (first | (with_reducible refine And.intro ?_ ?_) | (intro h0; exact absurd h0 (by decide)) | (intro _) | ((conv => whnf); (first | (with_reducible refine And.intro ?_ ?_) | (intro h0; exact absurd h0 (by decide)) | (intro _) | (refine hW.1 _ _ _ _ _ _ (c_used_W ?_) (by first | decide | omega) (by decide) (Nat.le_of_ble_eq_true rfl)))))); (all_goals (try omega)); (all_goals (try exact Nat.le_of_ble_eq_true rfl)); (all_goals (try ((conv => whnf); (first | (refine hW.2.1 _ _ ?_) | (change X _ _ _ _ _ _) | (change C _ _ _ _ _ _ _))))); (all_goals (try simp only [xup_at, xup_ne, xup_up, ne_eq, Nat.reduceEqDiff, not_false_eq_true, Int.toNat_natCast] at *)); (all_goals (try omega)))
      rw [q4]
      exact h3 M' q1 q2 q3 q5 q6 (fun j hj => q8 j (by omega)) (fun j hj => q9 j (by omega)) q10
    | succ m ih =>
      intro k M' hk q1 q2 q3 q4 q5 q6 q7 q8 q9 q10
      have f3 : M' 3 2 = M 3 2 := by rw [q1 3 (by decide) (by decide)]
      have f10 : M' 10 2 = M 10 2 := by rw [q1 10 (by decide) (by decide)]
      have hw' : wOk M' := by
        unfold wOk
        rw [q1 3 (by decide) (by decide), q1 4 (by decide) (by decide), q1 5 (by decide) (by decide)]
        exact hw
      have ht' : tbOk M' := tbOk_of (fun a _ ha => q1 a (by omega) (by omega)) ht
      obtain ⟨t, e1, e2⟩ : ∃ t : Nat, t < (M 10 2).toNat ∧ M' 22 k = t := by
        rw [q7 k (by omega)]
        rcases r2.2.2 with z | z
        · exact absurd z q6
        · exact z k (by omega)
      refine xg hW k_Tongue_chooseForTheLeast [51] 40 ?_
      ((repeat' (first | (with_reducible refine And.intro ?_ ?_) | (intro h0; exact absurd h0 (by decide)) | (intro _) | ((conv => whnf); (first | (with_reducible refine And.intro ?_ ?_) | (intro h0; exact absurd h0 (by decide)) | (intro _) | (refine hW.1 _ _ _ _ _ _ (c_used_W ?_) (by first | decide | omega) (by decide) (Nat.le_of_ble_eq_true rfl)))))); (all_goals (try omega)); (all_goals (try exact Nat.le_of_ble_eq_true rfl)); (all_goals (try ((conv => whnf); (first | (refine hW.2.1 _ _ ?_) | (change X _ _ _ _ _ _) | (change C _ _ _ _ _ _ _))))); (all_goals (try simp only [xup_at, xup_ne, xup_up, ne_eq, Nat.reduceEqDiff, not_false_eq_true, Int.toNat_natCast] at *)); (all_goals (try omega)))
      rw [e2]
      refine hW.1 _ _ _ _ _ _ (c_give hw' ht' ⟨⟨by omega, by omega⟩, ?_⟩) (by decide) (by decide) (Nat.le_of_ble_eq_true rfl)
      have g15 : gvn M' k t 15 = xup (M' 15) k t := by unfold gvn; rw [xup_ne (by decide), xup_ne (by decide), xup_at]
      ((repeat' (first | (with_reducible refine And.intro ?_ ?_) | (intro h0; exact absurd h0 (by decide)) | (intro _) | ((conv => whnf); (first | (with_reducible refine And.intro ?_ ?_) | (intro h0; exact absurd h0 (by decide)) | (intro _))))); (all_goals (try omega)); (all_goals (try exact Nat.le_of_ble_eq_true rfl)); (all_goals (try ((conv => whnf); (first | (refine hW.2.1 _ _ ?_) | (change X _ _ _ _ _ _) | (change C _ _ _ _ _ _ _))))); (all_goals (try simp only [xup_at, xup_ne, xup_up, ne_eq, Nat.reduceEqDiff, not_false_eq_true, Int.toNat_natCast] at *)); (all_goals (try omega)))
      refine ih (k + 1) (gvn M' k t) (by omega) (fun a a1 a2 => ?_) (fun j j1 j2 => ?_) ?_ ?_ q5 q6 (fun j hj => ?_) (fun j hj => ?_) (fun j hj => ?_) (fun w hw10 => ?_)
      · rw [gvn_low (by omega)]; exact q1 a a1 a2
      · rw [gvn_low (by decide)]; exact q2 j j1 j2
      · rw [gvn_low (by decide)]; exact q3
      · rw [gvn_low (by decide)]; exact q4
      · rw [gvn_low (by decide)]; exact q7 j hj
      · rw [g15]
        by_cases z : j = k
        · rw [z, xup_at, ← e2]; exact q7 k (by omega)
        · rw [xup_ne z]; exact q8 j (by omega)
      · rw [g15, xup_ne (by omega)]; exact q9 j (by omega)
      · have pe : ∀ t', pS (gvn M' k t) w t' = pS M' w t' := fun t' => pS_of (fun a ha => gvn_low (Or.inl ha)) w t'
        have pe2 : ∀ t', pN (gvn M' k t) w t' = pN M' w t' := fun t' => pN_of (fun a ha => gvn_low (Or.inl ha)) w t'
        have g16 : gvn M' k t 16 = xup (M' 16) k (pS M' k t) := by unfold gvn; rw [xup_ne (by decide), xup_at]
        have g17 : gvn M' k t 17 = xup (M' 17) k (pN M' k t) := by unfold gvn; rw [xup_at]
        rw [g15, g16, g17, gvn_low (a := 3) (by decide), gvn_low (a := 10) (by decide)]
        by_cases z : w = k
        · subst z
          rw [xup_at, xup_at, xup_at]
          exact Or.inr ⟨by omega, t, by omega, rfl, (pe t).symm, (pe2 t).symm⟩
        · rw [xup_ne z, xup_ne z, xup_ne z]
          rcases q10 w hw10 with z | ⟨z1, t', z2, z3, z4, z5⟩
          · exact Or.inl z
          · exact Or.inr ⟨z1, t', z2, z3, by rw [pe]; exact z4, by rw [pe2]; exact z5⟩
  refine xg hW k_Tongue_chooseForTheLeast [51] 40 ?_
  ((repeat' (first | (with_reducible refine And.intro ?_ ?_) | (intro h0; exact absurd h0 (by decide)) | (intro _) | ((conv => whnf); (first | (with_reducible refine And.intro ?_ ?_) | (intro h0; exact absurd h0 (by decide)) | (intro _) | (refine hW.1 _ _ _ _ _ _ (c_drop0_H ?_) (by first | decide | omega) (by decide) (Nat.le_of_ble_eq_true rfl)))))); (all_goals (try omega)); (all_goals (try exact Nat.le_of_ble_eq_true rfl)); (all_goals (try ((conv => whnf); (first | (refine hW.2.1 _ _ ?_) | (change X _ _ _ _ _ _) | (change C _ _ _ _ _ _ _))))); (all_goals (try simp only [xup_at, xup_ne, xup_up, ne_eq, Nat.reduceEqDiff, not_false_eq_true, Int.toNat_natCast] at *)); (all_goals (try omega)))
  have hA : lsAt M 0 (fun _ => 0) (1000000, 0, M 22) (xup (xup M 18 (xup (M 18) 2 0)) 2 (xup (xup (M 2) 10 1000000) 11 0)) := by
    refine ⟨⟨fun a a1 a2 => ?_, fun k k1 k2 => ?_⟩, ?_, ?_, fun j hj => ?_, fun j hj => by omega, ?_⟩
    · rw [xup_ne a1, xup_ne (by omega)]
    · rw [xup_at, xup_ne k2, xup_ne k1]
    · rw [xup_at, xup_ne (by decide), xup_at]
    · rw [xup_at, xup_at]
    · rw [xup_ne (by decide), xup_ne (by decide)]
    · rw [xup_ne (by decide), xup_at, xup_at]; rfl
  have he : lsEq (lsF (M 10 2).toNat (pS M) (pN M) (M 2 6) (M 3 2).toNat 0 (fun _ => 0) 0 (1000000, 0, M 22)) (lsM M) := lsF_eq _ _ _ _ _ _ ⟨rfl, rfl, Or.inl rfl⟩
  refine hW.1 _ _ _ _ _ _ (c_lookFrom hp (M 3 2).toNat (w := 0) (row := fun _ => 0) (b := 0) (st := (1000000, 0, M 22)) (by omega) (by omega) (by omega) (by simp only; omega) (by simp only; omega) (by simp only; omega) ⟨by simp only; omega, by simp only; omega, Or.inl rfl⟩ (fun j hj => by omega) hA (fun M' hA' => ?_)) (by omega) (by decide) (Nat.le_of_ble_eq_true rfl)
  obtain ⟨a1, a2, a3, a4, a5, a6⟩ := hA'
  rw [he.1] at a2
  rw [he.2.1] at a3
  have b1 : 0 ≤ (lsM M).2.1 ∧ (lsM M).2.1 ≤ 20000 + (M 3 2).toNat := r1
  have b2 : 0 ≤ (lsM M).1 ∧ (lsM M).1 ≤ 1000000 := ⟨r2.1, r2.2.1⟩
  ((repeat' (first | (with_reducible refine And.intro ?_ ?_) | (intro h0; exact absurd h0 (by decide)) | (intro _) | ((conv => whnf); (first | (with_reducible refine And.intro ?_ ?_) | (intro h0; exact absurd h0 (by decide)) | (intro _))))); (all_goals (try omega)); (all_goals (try exact Nat.le_of_ble_eq_true rfl)); (all_goals (try ((conv => whnf); (first | (refine hW.2.1 _ _ ?_) | (change X _ _ _ _ _ _) | (change C _ _ _ _ _ _ _))))); (all_goals (try simp only [xup_at, xup_ne, xup_up, ne_eq, Nat.reduceEqDiff, not_false_eq_true, Int.toNat_natCast] at *)); (all_goals (try omega)))
  · have hne : (lsM M).1 ≠ 1000000 := by omega
    refine loop (M 3 2).toNat 0 M' (by omega) (fun a c1 c2 => ?_) a1.2 a6 a2 (by omega) hne (fun j hj => ?_) (fun j hj => by omega) (fun j hj => ?_) ?_
    · rcases Nat.lt_or_ge a 18 with z | z
      · exact a1.1 a c1 (Or.inl z)
      · exact a1.1 a c1 (Or.inr (by omega))
    · rw [a4 j hj]
      rcases he.2.2 with z | z
      · exact absurd (he.1.symm.trans z) hne
      · rw [z]
    · rw [a1.1 15 (by decide) (by decide)]
    · intro w hw10
      rw [a1.1 15 (by decide) (by decide), a1.1 16 (by decide) (by decide), a1.1 17 (by decide) (by decide), a1.1 3 (by decide) (by decide), a1.1 10 (by decide) (by decide)]
      have p1 : ∀ t', pS M' w t' = pS M w t' := fun t' => by unfold pS; rw [a1.1 4 (by decide) (by decide), a1.1 11 (by decide) (by decide)]
      have p2 : ∀ t', pN M' w t' = pN M w t' := fun t' => by unfold pN; rw [a1.1 5 (by decide) (by decide), a1.1 11 (by decide) (by decide), a1.1 12 (by decide) (by decide)]
      rcases hg w hw10 with z | ⟨z1, t', z2, z3, z4, z5⟩
      · exact Or.inl z
      · exact Or.inr ⟨z1, t', z2, z3, by rw [p1]; exact z4, by rw [p2]; exact z5⟩
  · exact h2 M' a1 a6 (by omega) (by omega)
  · exact h1 M' a1 a6 (by omega)
end
section
/-! words and endings that come, the bound that changes; the digest of the words -/
def goneM (M : xM) : xM := xup M 15 (xfill (M 15) 10 (-1))
set_option maxRecDepth 100000 in
theorem c_addWord {M : xM} {Q : Option xV → xM → Prop} {n b : Int} (h : (0 ≤ M 3 2 ∧ M 3 2 ≤ 10) ∧ (M 3 2 = 10 → Q (some (xI (-4))) M) ∧ (M 3 2 < 10 → Q (some (xI (M 3 2))) (goneM (rAdd_W M n b)))) : xm 5 m_Tongue_addWord [xR (some 2), xI n, xI b] M Q := by
  obtain ⟨⟨h1, h2⟩, h3, h4⟩ := h
  (refine xm_of (own := "DrumTongue$Tongue") rfl (by decide +kernel) tk_Tongue [some (xR (some 2)), some (xI n), some (xI b)] (Nat.le_of_ble_eq_true rfl) rfl ?_; intro D nx X C P hW)
  refine xg hW k_Tongue_addWord [] 40 ?_
  ((repeat' (first | (with_reducible refine And.intro ?_ ?_) | (intro h0; exact absurd h0 (by decide)) | (intro _) | ((conv => whnf); (first | (with_reducible refine And.intro ?_ ?_) | (intro h0; exact absurd h0 (by decide)) | (intro _) | (refine hW.1 _ _ _ _ _ _ (c_isFull_W ?_) (by first | decide | omega) (by decide) (Nat.le_of_ble_eq_true rfl)) | (refine hW.1 _ _ _ _ _ _ (c_add_W ?_) (by first | decide | omega) (by decide) (Nat.le_of_ble_eq_true rfl)) | (refine hW.1 _ _ _ _ _ _ (c_forget ?_) (by first | decide | omega) (by decide) (Nat.le_of_ble_eq_true rfl)) | (refine hW.1 _ _ _ _ _ _ (c_used_W ?_) (by first | decide | omega) (by decide) (Nat.le_of_ble_eq_true rfl)))))); (all_goals (try omega)); (all_goals (try exact Nat.le_of_ble_eq_true rfl)); (all_goals (try ((conv => whnf); (first | (refine hW.2.1 _ _ ?_) | (change X _ _ _ _ _ _) | (change C _ _ _ _ _ _ _))))); (all_goals (try simp only [xup_at, xup_ne, xup_up, ne_eq, Nat.reduceEqDiff, not_false_eq_true, Int.toNat_natCast] at *)); (all_goals (try omega)))
  all_goals first | exact h3 (by omega) | skip
  have e : rAdd_W M n b 3 2 = M 3 2 + 1 := by
    unfold rAdd_W
    simp only [xup_at, xup_ne, xup_up, ne_eq, Nat.reduceEqDiff, not_false_eq_true, Int.toNat_natCast]
  have h5 := h4 (by omega)
  unfold goneM at h5
  exact xq h5 (by omega)
set_option maxRecDepth 100000 in
theorem c_changeBound {M : xM} {Q : Option xV → xM → Prop} {v : Int} (h : Q (some (xI (M 2 6))) (goneM (xup M 2 (xup (M 2) 6 v)))) : xm 5 m_Tongue_changeBound [xR (some 2), xI v] M Q := by
  unfold goneM at h
  (refine xm_of (own := "DrumTongue$Tongue") rfl (by decide +kernel) tk_Tongue [some (xR (some 2)), some (xI v), none] (Nat.le_of_ble_eq_true rfl) rfl ?_; intro D nx X C P hW)
  refine xg hW k_Tongue_changeBound [] 40 ?_
  ((repeat' (first | (with_reducible refine And.intro ?_ ?_) | (intro h0; exact absurd h0 (by decide)) | (intro _) | ((conv => whnf); (first | (with_reducible refine And.intro ?_ ?_) | (intro h0; exact absurd h0 (by decide)) | (intro _) | (refine hW.1 _ _ _ _ _ _ (c_forget ?_) (by first | decide | omega) (by decide) (Nat.le_of_ble_eq_true rfl)))))); (all_goals (try omega)); (all_goals (try exact Nat.le_of_ble_eq_true rfl)); (all_goals (try ((conv => whnf); (first | (refine hW.2.1 _ _ ?_) | (change X _ _ _ _ _ _) | (change C _ _ _ _ _ _ _))))); (all_goals (try simp only [xup_at, xup_ne, xup_up, ne_eq, Nat.reduceEqDiff, not_false_eq_true, Int.toNat_natCast] at *)); (all_goals (try omega)))
  all_goals exact h
set_option maxRecDepth 100000 in
theorem c_addEnding {M : xM} {Q : Option xV → xM → Prop} {n b : Int} (he : eOk M) (ht : tl0 M) (hr : isRow n b) (h3 : M 6 2 = 5 → Q (some (xI (-4))) M) (h4 : M 6 2 < 5 → ∀ M', TR (rAdd_E M n b) (tls (rAdd_E M n b 7) (rAdd_E M n b 6 2).toNat 12) M' → Q (some (xI (M 6 2))) (goneM M')) : xm 7 m_Tongue_addEnding [xR (some 2), xI n, xI b] M Q := by
  obtain ⟨h1, h2, h5⟩ := id he
  have e6 : rAdd_E M n b 6 2 = M 6 2 + 1 := by
    unfold rAdd_E
    simp only [xup_at, xup_ne, xup_up, ne_eq, Nat.reduceEqDiff, not_false_eq_true, Int.toNat_natCast]
  have e7 : rAdd_E M n b 7 = xup (M 7) (M 6 2).toNat n := by
    unfold rAdd_E
    simp only [xup_at, xup_ne, xup_up, ne_eq, Nat.reduceEqDiff, not_false_eq_true, Int.toNat_natCast]
  have e8 : rAdd_E M n b 8 = xup (M 8) (M 6 2).toNat b := by
    unfold rAdd_E
    simp only [xup_at, xup_ne, xup_up, ne_eq, Nat.reduceEqDiff, not_false_eq_true, Int.toNat_natCast]
  have el : ∀ a, 9 ≤ a → rAdd_E M n b a = M a := fun a ha => by
    unfold rAdd_E
    rw [xup_ne (by omega), xup_ne (by omega), xup_ne (by omega)]
  have ht' : tl0 (rAdd_E M n b) := by
    unfold tl0
    rw [el 10 (by decide), el 11 (by decide), el 12 (by decide), el 13 (by decide), el 14 (by decide)]
    exact ht
  (refine xm_of (own := "DrumTongue$Tongue") rfl (by decide +kernel) tk_Tongue [some (xR (some 2)), some (xI n), some (xI b)] (Nat.le_of_ble_eq_true rfl) rfl ?_; intro D nx X C P hW)
  refine xg hW k_Tongue_addEnding [] 40 ?_
  ((repeat' (first | (with_reducible refine And.intro ?_ ?_) | (intro h0; exact absurd h0 (by decide)) | (intro _) | ((conv => whnf); (first | (with_reducible refine And.intro ?_ ?_) | (intro h0; exact absurd h0 (by decide)) | (intro _) | (refine hW.1 _ _ _ _ _ _ (c_isFull_E ?_) (by first | decide | omega) (by decide) (Nat.le_of_ble_eq_true rfl)) | (refine hW.1 _ _ _ _ _ _ (c_add_E ?_) (by first | decide | omega) (by decide) (Nat.le_of_ble_eq_true rfl)))))); (all_goals (try omega)); (all_goals (try exact Nat.le_of_ble_eq_true rfl)); (all_goals (try ((conv => whnf); (first | (refine hW.2.1 _ _ ?_) | (change X _ _ _ _ _ _) | (change C _ _ _ _ _ _ _))))); (all_goals (try simp only [xup_at, xup_ne, xup_up, ne_eq, Nat.reduceEqDiff, not_false_eq_true, Int.toNat_natCast] at *)); (all_goals (try omega)))
  all_goals first | exact h3 (by omega) | skip
  have he' : eOk (rAdd_E M n b) := by
    refine ⟨by omega, by omega, fun i hi => ?_⟩
    rw [e7, e8]
    by_cases q : i = (M 6 2).toNat
    · rw [q, xup_at, xup_at]
      exact hr
    · rw [xup_ne q, xup_ne q]
      exact h5 i (by omega)
  refine hW.1 _ _ _ _ _ _ (c_remake he' ht' fun M2 hT2 => ?_) (by decide) (by decide) (Nat.le_of_ble_eq_true rfl)
  have e2 : M2 6 2 = M 6 2 + 1 := by rw [TR_low hT2 6 (by decide), e6]
  have h6 := h4 (by omega) M2 hT2
  unfold goneM at h6
  ((repeat' (first | (with_reducible refine And.intro ?_ ?_) | (intro h0; exact absurd h0 (by decide)) | (intro _) | ((conv => whnf); (first | (with_reducible refine And.intro ?_ ?_) | (intro h0; exact absurd h0 (by decide)) | (intro _) | (refine hW.1 _ _ _ _ _ _ (c_forget ?_) (by first | decide | omega) (by decide) (Nat.le_of_ble_eq_true rfl)) | (refine hW.1 _ _ _ _ _ _ (c_used_E ?_) (by first | decide | omega) (by decide) (Nat.le_of_ble_eq_true rfl)))))); (all_goals (try omega)); (all_goals (try exact Nat.le_of_ble_eq_true rfl)); (all_goals (try ((conv => whnf); (first | (refine hW.2.1 _ _ ?_) | (change X _ _ _ _ _ _) | (change C _ _ _ _ _ _ _))))); (all_goals (try simp only [xup_at, xup_ne, xup_up, ne_eq, Nat.reduceEqDiff, not_false_eq_true, Int.toNat_natCast] at *)); (all_goals (try omega)))
  exact xq h6 (by omega)
/-- the beats of a row, mixed into h -/
def mixB (s n h : Int) : Nat → Int
  | 0 => h
  | k + 1 => 31 * mixB s n h k + btOf s n k
/-- a word without a phrase, a word with one -/
def mixW (c s n a b : Int) (h : Int) : Int := if c = -1 then 31 * (31 * (31 * h + -1) + -1) + -1 else 31 * (31 * mixB s n (31 * h + s) s.toNat + a) + b
/-- the words below k -/
def mixWs (c s n a b : Nat → Int) (h : Int) : Nat → Int
  | 0 => h
  | k + 1 => mixW (c k) (s k) (n k) (a (c k).toNat) (b (c k).toNat) (mixWs c s n a b h k)
set_option maxRecDepth 100000 in
set_option maxHeartbeats 4000000 in
theorem c_mixTongue {M : xM} {Q : Option xV → xM → Prop} {h : Int} (hw : 0 ≤ M 3 2 ∧ M 3 2 ≤ 10) (ht : 0 ≤ M 10 2 ∧ M 10 2 ≤ 31) (hp : phOk M) (hg : gvOk M) (hab : ∀ t : Nat, (t : Int) < M 10 2 → xrg (M 13 t) ∧ xrg (M 14 t)) (hq : Q (some (xJ (mixWs (M 15) (M 16) (M 17) (M 13) (M 14) h (M 3 2).toNat))) M) : xm 4 m_Tongue_mixInto [xR (some 2), xJ h] M Q := by
  (refine xm_of (own := "DrumTongue$Tongue") rfl (by decide +kernel) tk_Tongue [some (xR (some 2)), some (xJ h), none, none, none, none, none, none] (Nat.le_of_ble_eq_true rfl) rfl ?_; intro D nx X C P hW)
  obtain ⟨n, hn⟩ := Int.eq_ofNat_of_zero_le hw.1
  rw [show (M 3 2).toNat = n by omega] at hq
  have inner : ∀ (m k w : Nat) (g : Int), w < 10 → M 15 w ≠ -1 → (k : Int) + m = M 16 w → X 80 [some (xR (some 2)), some (xJ h), none, some (xJ (mixB (M 16 w) (M 17 w) g (M 16 w).toNat)), none, some (xI (w : Int)), some (xI (M 16 w)), some (xI (M 16 w))] [] (M, D, nx) 0 0 → X 51 [some (xR (some 2)), some (xJ h), none, some (xJ (mixB (M 16 w) (M 17 w) g k)), none, some (xI (w : Int)), some (xI (M 16 w)), some (xI (k : Int))] [] (M, D, nx) 0 0 := by
    intro m
    induction m with
    | zero =>
      intro k w g hw10 hc hk kk
      obtain ⟨p0, p2, p3, p4, p5⟩ := (hp w hw10).2.2 hc
      refine xg hW k_Tongue_mixInto [5, 51, 80] 40 ?_
      ((repeat' (first | (with_reducible refine And.intro ?_ ?_) | (intro h0; exact absurd h0 (by decide)) | (intro _) | ((conv => whnf); (first | (with_reducible refine And.intro ?_ ?_) | (intro h0; exact absurd h0 (by decide)) | (intro _))))); (all_goals (try omega)); (all_goals (try exact Nat.le_of_ble_eq_true rfl)); (all_goals (try ((conv => whnf); (first | (refine hW.2.1 _ _ ?_) | (change X _ _ _ _ _ _) | (change C _ _ _ _ _ _ _))))); (all_goals (try simp only [xup_at, xup_ne, xup_up, ne_eq, Nat.reduceEqDiff, not_false_eq_true, Int.toNat_natCast] at *)); (all_goals (try omega)))
      have e : M 16 w = (k : Int) := by omega
      rw [show (M 16 w).toNat = k by omega, e] at kk
      rw [e]
      exact kk
    | succ m ih =>
      intro k w g hw10 hc hk kk
      obtain ⟨p0, p2, p3, p4, p5⟩ := (hp w hw10).2.2 hc
      have b1 := btOf_rg (M 16 w) (M 17 w) k
      refine xg hW k_Tongue_mixInto [5, 51, 80] 40 ?_
      ((repeat' (first | (with_reducible refine And.intro ?_ ?_) | (intro h0; exact absurd h0 (by decide)) | (intro _) | ((conv => whnf); (first | (with_reducible refine And.intro ?_ ?_) | (intro h0; exact absurd h0 (by decide)) | (intro _) | (refine hW.1 _ _ _ _ _ _ (c_phraseBeatY hp ?_) (by first | decide | omega) (by decide) (Nat.le_of_ble_eq_true rfl)))))); (all_goals (try omega)); (all_goals (try exact Nat.le_of_ble_eq_true rfl)); (all_goals (try ((conv => whnf); (first | (refine hW.2.1 _ _ ?_) | (change X _ _ _ _ _ _) | (change C _ _ _ _ _ _ _))))); (all_goals (try simp only [xup_at, xup_ne, xup_up, ne_eq, Nat.reduceEqDiff, not_false_eq_true, Int.toNat_natCast] at *)); (all_goals (try omega)))
      exact ih (k + 1) w g hw10 hc (by omega) kk
  have loop : ∀ (m k : Nat) (v6 v7 : Option xV), k + m = n → X 5 [some (xR (some 2)), some (xJ h), none, some (xJ (mixWs (M 15) (M 16) (M 17) (M 13) (M 14) h k)), none, some (xI (k : Int)), v6, v7] [] (M, D, nx) 0 0 := by
    intro m
    induction m with
    | zero =>
      intro k v6 v7 hk
      refine xg hW k_Tongue_mixInto [5, 51, 80] 40 ?_
      ((repeat' (first | (with_reducible refine And.intro ?_ ?_) | (intro h0; exact absurd h0 (by decide)) | (intro _) | ((conv => whnf); (first | (with_reducible refine And.intro ?_ ?_) | (intro h0; exact absurd h0 (by decide)) | (intro _) | (refine hW.1 _ _ _ _ _ _ (c_used_W ?_) (by first | decide | omega) (by decide) (Nat.le_of_ble_eq_true rfl)))))); (all_goals (try omega)); (all_goals (try exact Nat.le_of_ble_eq_true rfl)); (all_goals (try ((conv => whnf); (first | (refine hW.2.1 _ _ ?_) | (change X _ _ _ _ _ _) | (change C _ _ _ _ _ _ _))))); (all_goals (try simp only [xup_at, xup_ne, xup_up, ne_eq, Nat.reduceEqDiff, not_false_eq_true, Int.toNat_natCast] at *)); (all_goals (try omega)))
      obtain rfl : k = n := by omega
      exact hq
    | succ m ih =>
      intro k v6 v7 hk
      by_cases hc : M 15 k = -1
      · have h1 := ih (k + 1)
        rw [mixWs, mixW, if_pos hc] at h1
        have hlt : M 15 k < M 10 2 := by omega
        refine xg hW k_Tongue_mixInto [5, 51] 40 ?_
        ((repeat' (first | (with_reducible refine And.intro ?_ ?_) | (intro h0; exact absurd h0 (by decide)) | (intro _) | ((conv => whnf); (first | (with_reducible refine And.intro ?_ ?_) | (intro h0; exact absurd h0 (by decide)) | (intro _) | (refine hW.1 _ _ _ _ _ _ (c_used_W ?_) (by first | decide | omega) (by decide) (Nat.le_of_ble_eq_true rfl)) | (refine hW.1 _ _ _ _ _ _ (c_phraseSize hp ?_) (by first | decide | omega) (by decide) (Nat.le_of_ble_eq_true rfl)) | (refine hW.1 _ _ _ _ _ _ (c_hasPhraseI hp ?_) (by first | decide | omega) (by decide) (Nat.le_of_ble_eq_true rfl)))))); (all_goals (try omega)); (all_goals (try exact Nat.le_of_ble_eq_true rfl)); (all_goals (try ((conv => whnf); (first | (refine hW.2.1 _ _ ?_) | (change X _ _ _ _ _ _) | (change C _ _ _ _ _ _ _))))); (all_goals (try simp only [xup_at, xup_ne, xup_up, ne_eq, Nat.reduceEqDiff, not_false_eq_true, Int.toNat_natCast] at *)); (all_goals (try omega)))
        all_goals first | exact absurd hc (by assumption) | skip
        refine xg hW k_Tongue_mixInto [5, 51] 40 ?_
        ((repeat' (first | (with_reducible refine And.intro ?_ ?_) | (intro h0; exact absurd h0 (by decide)) | (intro _) | ((conv => whnf); (first | (with_reducible refine And.intro ?_ ?_) | (intro h0; exact absurd h0 (by decide)) | (intro _) | (refine hW.1 _ _ _ _ _ _ (c_phraseEnding hp ht ?_) (by first | decide | omega) (by decide) (Nat.le_of_ble_eq_true rfl)))))); (all_goals (try omega)); (all_goals (try exact Nat.le_of_ble_eq_true rfl)); (all_goals (try ((conv => whnf); (first | (refine hW.2.1 _ _ ?_) | (change X _ _ _ _ _ _) | (change C _ _ _ _ _ _ _))))); (all_goals (try simp only [xup_at, xup_ne, xup_up, ne_eq, Nat.reduceEqDiff, not_false_eq_true, Int.toNat_natCast] at *)); (all_goals (try omega)))
        all_goals first | exact absurd hc (by assumption) | skip
        exact h1 _ _ (by omega)
      · have h1 := ih (k + 1)
        rw [mixWs, mixW, if_neg hc] at h1
        obtain ⟨p0, p2, p3, p4, p5⟩ := (hp k (by omega)).2.2 hc
        obtain ⟨g1, t, g2, g3, g4, g5⟩ := (hg k (by omega)).resolve_left hc
        obtain ⟨⟨x1, x2⟩, x3, x4⟩ := hab (M 15 k).toNat (by omega)
        have hlt : M 15 k < M 10 2 := by omega
        refine xg hW k_Tongue_mixInto [5, 51] 40 ?_
        ((repeat' (first | (with_reducible refine And.intro ?_ ?_) | (intro h0; exact absurd h0 (by decide)) | (intro _) | ((conv => whnf); (first | (with_reducible refine And.intro ?_ ?_) | (intro h0; exact absurd h0 (by decide)) | (intro _) | (refine hW.1 _ _ _ _ _ _ (c_used_W ?_) (by first | decide | omega) (by decide) (Nat.le_of_ble_eq_true rfl)) | (refine hW.1 _ _ _ _ _ _ (c_phraseSizeY hp ?_) (by first | decide | omega) (by decide) (Nat.le_of_ble_eq_true rfl)) | (refine hW.1 _ _ _ _ _ _ (c_hasPhraseY hp ?_) (by first | decide | omega) (by decide) (Nat.le_of_ble_eq_true rfl)))))); (all_goals (try omega)); (all_goals (try exact Nat.le_of_ble_eq_true rfl)); (all_goals (try ((conv => whnf); (first | (refine hW.2.1 _ _ ?_) | (change X _ _ _ _ _ _) | (change C _ _ _ _ _ _ _))))); (all_goals (try simp only [xup_at, xup_ne, xup_up, ne_eq, Nat.reduceEqDiff, not_false_eq_true, Int.toNat_natCast] at *)); (all_goals (try omega)))
        refine inner (M 16 k).toNat 0 k (31 * mixWs (M 15) (M 16) (M 17) (M 13) (M 14) h k + M 16 k) (by omega) hc (by omega) ?_
        refine xg hW k_Tongue_mixInto [5, 51] 40 ?_
        ((repeat' (first | (with_reducible refine And.intro ?_ ?_) | (intro h0; exact absurd h0 (by decide)) | (intro _) | ((conv => whnf); (first | (with_reducible refine And.intro ?_ ?_) | (intro h0; exact absurd h0 (by decide)) | (intro _) | (refine hW.1 _ _ _ _ _ _ (c_phraseEnding hp ht ?_) (by first | decide | omega) (by decide) (Nat.le_of_ble_eq_true rfl)))))); (all_goals (try omega)); (all_goals (try exact Nat.le_of_ble_eq_true rfl)); (all_goals (try ((conv => whnf); (first | (refine hW.2.1 _ _ ?_) | (change X _ _ _ _ _ _) | (change C _ _ _ _ _ _ _))))); (all_goals (try simp only [xup_at, xup_ne, xup_up, ne_eq, Nat.reduceEqDiff, not_false_eq_true, Int.toNat_natCast] at *)); (all_goals (try omega)))
        exact h1 _ _ (by omega)
  refine xg hW k_Tongue_mixInto [5, 51, 80] 40 ?_
  ((repeat' (first | (with_reducible refine And.intro ?_ ?_) | (intro h0; exact absurd h0 (by decide)) | (intro _) | ((conv => whnf); (first | (with_reducible refine And.intro ?_ ?_) | (intro h0; exact absurd h0 (by decide)) | (intro _))))); (all_goals (try omega)); (all_goals (try exact Nat.le_of_ble_eq_true rfl)); (all_goals (try ((conv => whnf); (first | (refine hW.2.1 _ _ ?_) | (change X _ _ _ _ _ _) | (change C _ _ _ _ _ _ _))))); (all_goals (try simp only [xup_at, xup_ne, xup_up, ne_eq, Nat.reduceEqDiff, not_false_eq_true, Int.toNat_natCast] at *)); (all_goals (try omega)))
  exact loop n 0 none none (by omega)
end
section
/-! THE HEARD -/
def earOk (M : xM) : Prop := 0 ≤ M 23 1 ∧ M 23 1 ≤ 60 ∧ ∀ j : Nat, -1 ≤ M 24 j ∧ M 24 j ≤ 1
set_option maxRecDepth 100000 in
theorem c_earSize {M : xM} {Q : Option xV → xM → Prop} (h : Q (some (xI (M 23 1))) M) : xm 1 m_Ear_size [xR (some 23)] M Q := by
  (refine xm_of (own := "DrumTongue$Ear") rfl (by decide +kernel) tk_Ear [some (xR (some 23))] (Nat.le_of_ble_eq_true rfl) rfl ?_; intro D nx X C P hW)
  refine xg hW k_Ear_size [] 40 ?_
  ((repeat' (first | (with_reducible refine And.intro ?_ ?_) | (intro h0; exact absurd h0 (by decide)) | (intro _) | ((conv => whnf); (first | (with_reducible refine And.intro ?_ ?_) | (intro h0; exact absurd h0 (by decide)) | (intro _))))); (all_goals (try omega)); (all_goals (try exact Nat.le_of_ble_eq_true rfl)); (all_goals (try ((conv => whnf); (first | (refine hW.2.1 _ _ ?_) | (change X _ _ _ _ _ _) | (change C _ _ _ _ _ _ _))))); (all_goals (try simp only [xup_at, xup_ne, xup_up, ne_eq, Nat.reduceEqDiff, not_false_eq_true, Int.toNat_natCast] at *)); (all_goals (try omega)))
  all_goals exact h
set_option maxRecDepth 100000 in
theorem c_earRoom {M : xM} {Q : Option xV → xM → Prop} (h : Q (some (xI (60 - M 23 1))) M) : xm 1 m_Ear_room [xR (some 23)] M Q := by
  (refine xm_of (own := "DrumTongue$Ear") rfl (by decide +kernel) tk_Ear [some (xR (some 23))] (Nat.le_of_ble_eq_true rfl) rfl ?_; intro D nx X C P hW)
  refine xg hW k_Ear_room [] 40 ?_
  ((repeat' (first | (with_reducible refine And.intro ?_ ?_) | (intro h0; exact absurd h0 (by decide)) | (intro _) | ((conv => whnf); (first | (with_reducible refine And.intro ?_ ?_) | (intro h0; exact absurd h0 (by decide)) | (intro _))))); (all_goals (try omega)); (all_goals (try exact Nat.le_of_ble_eq_true rfl)); (all_goals (try ((conv => whnf); (first | (refine hW.2.1 _ _ ?_) | (change X _ _ _ _ _ _) | (change C _ _ _ _ _ _ _))))); (all_goals (try simp only [xup_at, xup_ne, xup_up, ne_eq, Nat.reduceEqDiff, not_false_eq_true, Int.toNat_natCast] at *)); (all_goals (try omega)))
  all_goals exact h
set_option maxRecDepth 100000 in
theorem c_earAt {M : xM} {Q : Option xV → xM → Prop} {i : Int} (h : (0 ≤ i ∧ i < M 23 1 ∧ M 23 1 ≤ 60) ∧ Q (some (xI (M 24 i.toNat))) M) : xm 1 m_Ear_at [xR (some 23), xI i] M Q := by
  obtain ⟨⟨h1, h2, h3⟩, h4⟩ := h
  (refine xm_of (own := "DrumTongue$Ear") rfl (by decide +kernel) tk_Ear [some (xR (some 23)), some (xI i)] (Nat.le_of_ble_eq_true rfl) rfl ?_; intro D nx X C P hW)
  refine xg hW k_Ear_at [] 40 ?_
  ((repeat' (first | (with_reducible refine And.intro ?_ ?_) | (intro h0; exact absurd h0 (by decide)) | (intro _) | ((conv => whnf); (first | (with_reducible refine And.intro ?_ ?_) | (intro h0; exact absurd h0 (by decide)) | (intro _))))); (all_goals (try omega)); (all_goals (try exact Nat.le_of_ble_eq_true rfl)); (all_goals (try ((conv => whnf); (first | (refine hW.2.1 _ _ ?_) | (change X _ _ _ _ _ _) | (change C _ _ _ _ _ _ _))))); (all_goals (try simp only [xup_at, xup_ne, xup_up, ne_eq, Nat.reduceEqDiff, not_false_eq_true, Int.toNat_natCast] at *)); (all_goals (try omega)))
  all_goals exact h4
def earAdd (M : xM) (v : Int) : xM := xup (xup M 24 (xup (M 24) (M 23 1).toNat v)) 23 (xup (M 23) 1 (M 23 1 + 1))
set_option maxRecDepth 100000 in
theorem c_earAdd {M : xM} {Q : Option xV → xM → Prop} {v : Int} (h : (0 ≤ M 23 1 ∧ M 23 1 < 60) ∧ Q (some (xI (M 23 1 + 1))) (earAdd M v)) : xm 1 m_Ear_add [xR (some 23), xI v] M Q := by
  obtain ⟨⟨h1, h2⟩, h3⟩ := h
  unfold earAdd at h3
  (refine xm_of (own := "DrumTongue$Ear") rfl (by decide +kernel) tk_Ear [some (xR (some 23)), some (xI v)] (Nat.le_of_ble_eq_true rfl) rfl ?_; intro D nx X C P hW)
  refine xg hW k_Ear_add [] 40 ?_
  ((repeat' (first | (with_reducible refine And.intro ?_ ?_) | (intro h0; exact absurd h0 (by decide)) | (intro _) | ((conv => whnf); (first | (with_reducible refine And.intro ?_ ?_) | (intro h0; exact absurd h0 (by decide)) | (intro _))))); (all_goals (try omega)); (all_goals (try exact Nat.le_of_ble_eq_true rfl)); (all_goals (try ((conv => whnf); (first | (refine hW.2.1 _ _ ?_) | (change X _ _ _ _ _ _) | (change C _ _ _ _ _ _ _))))); (all_goals (try simp only [xup_at, xup_ne, xup_up, ne_eq, Nat.reduceEqDiff, not_false_eq_true, Int.toNat_natCast] at *)); (all_goals (try omega)))
  all_goals exact h3
set_option maxRecDepth 100000 in
theorem c_earChange {M : xM} {Q : Option xV → xM → Prop} {i v : Int} (h : (0 ≤ i ∧ i < M 23 1 ∧ M 23 1 ≤ 60) ∧ Q none (xup M 24 (xup (M 24) i.toNat v))) : xm 1 m_Ear_change [xR (some 23), xI i, xI v] M Q := by
  obtain ⟨⟨h1, h2, h3⟩, h4⟩ := h
  (refine xm_of (own := "DrumTongue$Ear") rfl (by decide +kernel) tk_Ear [some (xR (some 23)), some (xI i), some (xI v)] (Nat.le_of_ble_eq_true rfl) rfl ?_; intro D nx X C P hW)
  refine xg hW k_Ear_change [] 40 ?_
  ((repeat' (first | (with_reducible refine And.intro ?_ ?_) | (intro h0; exact absurd h0 (by decide)) | (intro _) | ((conv => whnf); (first | (with_reducible refine And.intro ?_ ?_) | (intro h0; exact absurd h0 (by decide)) | (intro _))))); (all_goals (try omega)); (all_goals (try exact Nat.le_of_ble_eq_true rfl)); (all_goals (try ((conv => whnf); (first | (refine hW.2.1 _ _ ?_) | (change X _ _ _ _ _ _) | (change C _ _ _ _ _ _ _))))); (all_goals (try simp only [xup_at, xup_ne, xup_up, ne_eq, Nat.reduceEqDiff, not_false_eq_true, Int.toNat_natCast] at *)); (all_goals (try omega)))
  all_goals exact h4
/-- what stands behind place i comes one place ahead, up to place k -/
def shf (f : Nat → Int) (i k : Nat) : Nat → Int := fun j => if i ≤ j ∧ j < k then f (j + 1) else f j
set_option maxRecDepth 100000 in
theorem c_earTake {M : xM} {Q : Option xV → xM → Prop} {i : Nat} (h : ((i : Int) < M 23 1 ∧ M 23 1 ≤ 60) ∧ Q none (xup (xup M 24 (shf (M 24) i (M 23 1 - 1).toNat)) 23 (xup (M 23) 1 (M 23 1 - 1)))) : xm 1 m_Ear_takeOut [xR (some 23), xI i] M Q := by
  obtain ⟨⟨h1, h2⟩, h3⟩ := h
  obtain ⟨n, hn⟩ : ∃ n : Nat, M 23 1 = (n : Int) + 1 := ⟨(M 23 1).toNat - 1, by omega⟩
  rw [show (M 23 1 - 1).toNat = n by omega] at h3
  (refine xm_of (own := "DrumTongue$Ear") rfl (by decide +kernel) tk_Ear [some (xR (some 23)), some (xI (i : Int)), none] (Nat.le_of_ble_eq_true rfl) rfl ?_; intro D nx X C P hW)
  have loop : ∀ (m k : Nat), k + m = n → i ≤ k → X 17 [some (xR (some 23)), some (xI (i : Int)), some (xI ((k : Int) + 1))] [] (xup M 24 (shf (M 24) i k), D, nx) 0 0 := by
    intro m
    induction m with
    | zero =>
      intro k hk hik
      obtain rfl : k = n := by omega
      refine xg hW k_Ear_takeOut [17] 40 ?_
      ((repeat' (first | (with_reducible refine And.intro ?_ ?_) | (intro h0; exact absurd h0 (by decide)) | (intro _) | ((conv => whnf); (first | (with_reducible refine And.intro ?_ ?_) | (intro h0; exact absurd h0 (by decide)) | (intro _))))); (all_goals (try omega)); (all_goals (try exact Nat.le_of_ble_eq_true rfl)); (all_goals (try ((conv => whnf); (first | (refine hW.2.1 _ _ ?_) | (change X _ _ _ _ _ _) | (change C _ _ _ _ _ _ _))))); (all_goals (try simp only [xup_at, xup_ne, xup_up, ne_eq, Nat.reduceEqDiff, not_false_eq_true, Int.toNat_natCast] at *)); (all_goals (try omega)))
      all_goals exact h3
    | succ m ih =>
      intro k hk hik
      refine xg hW k_Ear_takeOut [17] 40 ?_
      ((repeat' (first | (with_reducible refine And.intro ?_ ?_) | (intro h0; exact absurd h0 (by decide)) | (intro _) | ((conv => whnf); (first | (with_reducible refine And.intro ?_ ?_) | (intro h0; exact absurd h0 (by decide)) | (intro _))))); (all_goals (try omega)); (all_goals (try exact Nat.le_of_ble_eq_true rfl)); (all_goals (try ((conv => whnf); (first | (refine hW.2.1 _ _ ?_) | (change X _ _ _ _ _ _) | (change C _ _ _ _ _ _ _))))); (all_goals (try simp only [xup_at, xup_ne, xup_up, ne_eq, Nat.reduceEqDiff, not_false_eq_true, Int.toNat_natCast] at *)); (all_goals (try omega)))
      have e : xup (shf (M 24) i k) k (shf (M 24) i k (k + 1)) = shf (M 24) i (k + 1) := by
        funext j
        simp only [xup, shf]
        by_cases q : j = k
        · subst q
          rw [if_pos rfl, if_neg (by omega), if_pos (by omega)]
        · rw [if_neg q]
          by_cases q2 : i ≤ j ∧ j < k
          · rw [if_pos q2, if_pos (by omega)]
          · rw [if_neg q2, if_neg (by omega)]
      rw [show ((k : Int) + 1 - 1).toNat = k by omega, show ((k : Int) + 1).toNat = k + 1 by omega, e]
      exact ih (k + 1) (by omega) (by omega)
  have e0 : shf (M 24) i i = M 24 := by
    funext j
    simp only [shf]
    rw [if_neg (by omega)]
  refine xg hW k_Ear_takeOut [17] 40 ?_
  ((repeat' (first | (with_reducible refine And.intro ?_ ?_) | (intro h0; exact absurd h0 (by decide)) | (intro _) | ((conv => whnf); (first | (with_reducible refine And.intro ?_ ?_) | (intro h0; exact absurd h0 (by decide)) | (intro _))))); (all_goals (try omega)); (all_goals (try exact Nat.le_of_ble_eq_true rfl)); (all_goals (try ((conv => whnf); (first | (refine hW.2.1 _ _ ?_) | (change X _ _ _ _ _ _) | (change C _ _ _ _ _ _ _))))); (all_goals (try simp only [xup_at, xup_ne, xup_up, ne_eq, Nat.reduceEqDiff, not_false_eq_true, Int.toNat_natCast] at *)); (all_goals (try omega)))
  have := loop (n - i) i (by omega) (Nat.le_refl _)
  rw [e0, xup_id] at this
  exact this
set_option maxRecDepth 100000 in
theorem c_earEmpty {M : xM} {Q : Option xV → xM → Prop} (h : Q (some (xI (M 23 1))) (xup M 23 (xup (M 23) 1 0))) : xm 1 m_Ear_empty [xR (some 23)] M Q := by
  (refine xm_of (own := "DrumTongue$Ear") rfl (by decide +kernel) tk_Ear [some (xR (some 23)), none] (Nat.le_of_ble_eq_true rfl) rfl ?_; intro D nx X C P hW)
  refine xg hW k_Ear_empty [] 40 ?_
  ((repeat' (first | (with_reducible refine And.intro ?_ ?_) | (intro h0; exact absurd h0 (by decide)) | (intro _) | ((conv => whnf); (first | (with_reducible refine And.intro ?_ ?_) | (intro h0; exact absurd h0 (by decide)) | (intro _))))); (all_goals (try omega)); (all_goals (try exact Nat.le_of_ble_eq_true rfl)); (all_goals (try ((conv => whnf); (first | (refine hW.2.1 _ _ ?_) | (change X _ _ _ _ _ _) | (change C _ _ _ _ _ _ _))))); (all_goals (try simp only [xup_at, xup_ne, xup_up, ne_eq, Nat.reduceEqDiff, not_false_eq_true, Int.toNat_natCast] at *)); (all_goals (try omega)))
  all_goals exact h
def cntG (f : Nat → Int) : Nat → Int
  | 0 => 0
  | k + 1 => cntG f k + (if f k = -1 then 1 else 0)
def mixH (f : Nat → Int) (h : Int) : Nat → Int
  | 0 => h
  | k + 1 => 31 * mixH f h k + f k
set_option maxRecDepth 100000 in
theorem c_earGaps {M : xM} {Q : Option xV → xM → Prop} (he : earOk M) (h : Q (some (xI (cntG (M 24) (M 23 1).toNat))) M) : xm 1 m_Ear_gaps [xR (some 23)] M Q := by
  obtain ⟨h1, h2, h3⟩ := he
  obtain ⟨n, hn⟩ := Int.eq_ofNat_of_zero_le h1
  rw [show (M 23 1).toNat = n by omega] at h
  (refine xm_of (own := "DrumTongue$Ear") rfl (by decide +kernel) tk_Ear [some (xR (some 23)), none, none] (Nat.le_of_ble_eq_true rfl) rfl ?_; intro D nx X C P hW)
  have loop : ∀ (m k : Nat), k + m = n → X 4 [some (xR (some 23)), some (xI (cntG (M 24) k)), some (xI (k : Int))] [] (M, D, nx) 0 0 := by
    intro m
    induction m with
    | zero =>
      intro k hk
      obtain rfl : k = n := by omega
      refine xg hW k_Ear_gaps [4] 40 ?_
      ((repeat' (first | (with_reducible refine And.intro ?_ ?_) | (intro h0; exact absurd h0 (by decide)) | (intro _) | ((conv => whnf); (first | (with_reducible refine And.intro ?_ ?_) | (intro h0; exact absurd h0 (by decide)) | (intro _))))); (all_goals (try omega)); (all_goals (try exact Nat.le_of_ble_eq_true rfl)); (all_goals (try ((conv => whnf); (first | (refine hW.2.1 _ _ ?_) | (change X _ _ _ _ _ _) | (change C _ _ _ _ _ _ _))))); (all_goals (try simp only [xup_at, xup_ne, xup_up, ne_eq, Nat.reduceEqDiff, not_false_eq_true, Int.toNat_natCast] at *)); (all_goals (try omega)))
      all_goals exact h
    | succ m ih =>
      intro k hk
      have g := h3 k
      have h5 := ih (k + 1) (by omega)
      rw [cntG] at h5
      refine xg hW k_Ear_gaps [4] 40 ?_
      ((repeat' (first | (with_reducible refine And.intro ?_ ?_) | (intro h0; exact absurd h0 (by decide)) | (intro _) | ((conv => whnf); (first | (with_reducible refine And.intro ?_ ?_) | (intro h0; exact absurd h0 (by decide)) | (intro _))))); (all_goals (try omega)); (all_goals (try exact Nat.le_of_ble_eq_true rfl)); (all_goals (try ((conv => whnf); (first | (refine hW.2.1 _ _ ?_) | (change X _ _ _ _ _ _) | (change C _ _ _ _ _ _ _))))); (all_goals (try simp only [xup_at, xup_ne, xup_up, ne_eq, Nat.reduceEqDiff, not_false_eq_true, Int.toNat_natCast] at *)); (all_goals (try omega)))
      · rw [if_neg (by assumption)] at h5
        exact h5
      · rw [if_pos (by assumption)] at h5
        exact h5
  refine xg hW k_Ear_gaps [4] 40 ?_
  ((repeat' (first | (with_reducible refine And.intro ?_ ?_) | (intro h0; exact absurd h0 (by decide)) | (intro _) | ((conv => whnf); (first | (with_reducible refine And.intro ?_ ?_) | (intro h0; exact absurd h0 (by decide)) | (intro _))))); (all_goals (try omega)); (all_goals (try exact Nat.le_of_ble_eq_true rfl)); (all_goals (try ((conv => whnf); (first | (refine hW.2.1 _ _ ?_) | (change X _ _ _ _ _ _) | (change C _ _ _ _ _ _ _))))); (all_goals (try simp only [xup_at, xup_ne, xup_up, ne_eq, Nat.reduceEqDiff, not_false_eq_true, Int.toNat_natCast] at *)); (all_goals (try omega)))
  exact loop n 0 (by omega)
set_option maxRecDepth 100000 in
theorem c_earMix {M : xM} {Q : Option xV → xM → Prop} {h : Int} (he : earOk M) (hq : Q (some (xJ (mixH (M 24) h (M 23 1).toNat))) M) : xm 1 m_Ear_mixInto [xR (some 23), xJ h] M Q := by
  obtain ⟨h1, h2, h3⟩ := he
  obtain ⟨n, hn⟩ := Int.eq_ofNat_of_zero_le h1
  rw [show (M 23 1).toNat = n by omega] at hq
  (refine xm_of (own := "DrumTongue$Ear") rfl (by decide +kernel) tk_Ear [some (xR (some 23)), some (xJ h), none, none, none, none] (Nat.le_of_ble_eq_true rfl) rfl ?_; intro D nx X C P hW)
  have loop : ∀ (m k : Nat), k + m = n → X 5 [some (xR (some 23)), some (xJ h), none, some (xJ (mixH (M 24) h k)), none, some (xI (k : Int))] [] (M, D, nx) 0 0 := by
    intro m
    induction m with
    | zero =>
      intro k hk
      obtain rfl : k = n := by omega
      refine xg hW k_Ear_mixInto [5] 40 ?_
      ((repeat' (first | (with_reducible refine And.intro ?_ ?_) | (intro h0; exact absurd h0 (by decide)) | (intro _) | ((conv => whnf); (first | (with_reducible refine And.intro ?_ ?_) | (intro h0; exact absurd h0 (by decide)) | (intro _))))); (all_goals (try omega)); (all_goals (try exact Nat.le_of_ble_eq_true rfl)); (all_goals (try ((conv => whnf); (first | (refine hW.2.1 _ _ ?_) | (change X _ _ _ _ _ _) | (change C _ _ _ _ _ _ _))))); (all_goals (try simp only [xup_at, xup_ne, xup_up, ne_eq, Nat.reduceEqDiff, not_false_eq_true, Int.toNat_natCast] at *)); (all_goals (try omega)))
      all_goals exact hq
    | succ m ih =>
      intro k hk
      have g := h3 k
      refine xg hW k_Ear_mixInto [5] 40 ?_
      ((repeat' (first | (with_reducible refine And.intro ?_ ?_) | (intro h0; exact absurd h0 (by decide)) | (intro _) | ((conv => whnf); (first | (with_reducible refine And.intro ?_ ?_) | (intro h0; exact absurd h0 (by decide)) | (intro _))))); (all_goals (try omega)); (all_goals (try exact Nat.le_of_ble_eq_true rfl)); (all_goals (try ((conv => whnf); (first | (refine hW.2.1 _ _ ?_) | (change X _ _ _ _ _ _) | (change C _ _ _ _ _ _ _))))); (all_goals (try simp only [xup_at, xup_ne, xup_up, ne_eq, Nat.reduceEqDiff, not_false_eq_true, Int.toNat_natCast] at *)); (all_goals (try omega)))
      exact ih (k + 1) (by omega)
  refine xg hW k_Ear_mixInto [5] 40 ?_
  ((repeat' (first | (with_reducible refine And.intro ?_ ?_) | (intro h0; exact absurd h0 (by decide)) | (intro _) | ((conv => whnf); (first | (with_reducible refine And.intro ?_ ?_) | (intro h0; exact absurd h0 (by decide)) | (intro _))))); (all_goals (try omega)); (all_goals (try exact Nat.le_of_ble_eq_true rfl)); (all_goals (try ((conv => whnf); (first | (refine hW.2.1 _ _ ?_) | (change X _ _ _ _ _ _) | (change C _ _ _ _ _ _ _))))); (all_goals (try simp only [xup_at, xup_ne, xup_up, ne_eq, Nat.reduceEqDiff, not_false_eq_true, Int.toNat_natCast] at *)); (all_goals (try omega)))
  exact loop n 0 (by omega)
end
section
/-! hills: the best way -/
/-- chance, hours, how many hills, the hills -/
abbrev xB : Type := Int × Int × Nat × (Nat → Nat)
def hkeep (u : Nat) (p : Nat → Nat) (ch hr : Int) (B : xB) : xB := if B.1 < ch ∨ (0 < ch ∧ ch = B.1 ∧ hr < B.2.1) then (ch, hr, u, p) else B
def onp (p : Nat → Nat) (x : Nat) : Nat → Bool
  | 0 => false
  | u + 1 => onp p x u || (p u == x)
def hdT (body : Nat → xB → xB) : Nat → xB → xB
  | 0, B => B
  | m + 1, B => hdT body m (body (5 - m) B)
/-- all ways on from the hills p 0 .. p (u - 1), over at most f more; chance and hours so far -/
def hdfs (c h : Nat → Nat → Int) (d : Nat) : Nat → (Nat → Nat) → Nat → Int → Int → xB → xB
  | 0, _, _, _, _, B => B
  | f + 1, p, u, ch, hr, B => hdT (fun t B => if onp p t u = true then B else if t = d then hkeep (u + 1) (xup p u t) ((ch * c (p (u - 1)) t).tdiv 1000) (hr + h (p (u - 1)) t) B else hdfs c h d f (xup p u t) (u + 1) ((ch * c (p (u - 1)) t).tdiv 1000) (hr + h (p (u - 1)) t) B) 6 B
/-- the same, where the last hill may be the aim -/
def hwk (c h : Nat → Nat → Int) (d f : Nat) (p : Nat → Nat) (u : Nat) (ch hr : Int) (B : xB) : xB := if p (u - 1) = d then hkeep u p ch hr B else hdfs c h d f p u ch hr B
theorem hdT_id {body : Nat → xB → xB} {B : xB} (h : ∀ t, body t B = B) : ∀ m, hdT body m B = B
  | 0 => rfl
  | m + 1 => by rw [hdT, h, hdT_id h m]
theorem hkeep_0 {u : Nat} {p : Nat → Nat} {hr : Int} {B : xB} (hB : 0 ≤ B.1) : hkeep u p 0 hr B = B := by
  unfold hkeep
  rw [if_neg (by omega)]
theorem hdfs_0 {c h : Nat → Nat → Int} {d : Nat} {B : xB} (hB : 0 ≤ B.1) : ∀ (f : Nat) (p : Nat → Nat) (u : Nat) (hr : Int), hdfs c h d f p u 0 hr B = B
  | 0, _, _, _ => rfl
  | f + 1, p, u, hr => by
    rw [hdfs]
    refine hdT_id (fun t => ?_) 6
    simp only [Int.zero_mul, Int.zero_tdiv]
    split
    · rfl
    · split
      · exact hkeep_0 hB
      · exact hdfs_0 hB f _ _ _
def hillOk (M : xM) : Prop := ∀ f t : Nat, f < 6 → t < 6 → 0 ≤ M (47 + f) t ∧ M (47 + f) t ≤ 1000 ∧ 1 ≤ M (54 + f) t ∧ M (54 + f) t ≤ 20
theorem xT0_c : ∀ f : Nat, f < 6 → xT0 (47 + f) = some (.inr (0, 6, none))
  | 0, _ => rfl
  | 1, _ => rfl
  | 2, _ => rfl
  | 3, _ => rfl
  | 4, _ => rfl
  | 5, _ => rfl
  | f + 6, h => by omega
theorem xT0_h : ∀ f : Nat, f < 6 → xT0 (54 + f) = some (.inr (0, 6, none))
  | 0, _ => rfl
  | 1, _ => rfl
  | 2, _ => rfl
  | 3, _ => rfl
  | 4, _ => rfl
  | 5, _ => rfl
  | f + 6, h => by omega
set_option maxRecDepth 100000 in
theorem c_isHill {M : xM} {Q : Option xV → xM → Prop} {x : Int} (h : xrg x ∧ (0 ≤ x → x < 6 → Q (some (xI 1)) M) ∧ (x < 0 ∨ 6 ≤ x → Q (some (xI 0)) M)) : xm 1 m_Hills_isHill [xI x] M Q := by
  obtain ⟨h1, h2, h3⟩ := h
  (refine xm_of (own := "DrumTongue$Hills") rfl (by decide +kernel) tk_Hills [some (xI x)] (Nat.le_of_ble_eq_true rfl) rfl ?_; intro D nx X C P hW)
  refine xg hW k_Hills_isHill [] 40 ?_
  ((repeat' (first | (with_reducible refine And.intro ?_ ?_) | (intro h0; exact absurd h0 (by decide)) | (intro _) | ((conv => whnf); (first | (with_reducible refine And.intro ?_ ?_) | (intro h0; exact absurd h0 (by decide)) | (intro _))))); (all_goals (try omega)); (all_goals (try exact Nat.le_of_ble_eq_true rfl)); (all_goals (try ((conv => whnf); (first | (refine hW.2.1 _ _ ?_) | (change X _ _ _ _ _ _) | (change C _ _ _ _ _ _ _))))); (all_goals (try simp only [xup_at, xup_ne, xup_up, ne_eq, Nat.reduceEqDiff, not_false_eq_true, Int.toNat_natCast, x_lcmp] at *)); (all_goals (try omega)))
  all_goals first | exact h2 (by omega) (by omega) | exact h3 (by omega)
theorem c_isHillY {M : xM} {Q : Option xV → xM → Prop} {x : Int} (h : (0 ≤ x ∧ x < 6) ∧ Q (some (xI 1)) M) : xm 1 m_Hills_isHill [xI x] M Q := c_isHill ⟨⟨by omega, by omega⟩, fun _ _ => h.2, fun q => by omega⟩
def isPair (s d : Int) : Prop := 0 ≤ s ∧ s < 6 ∧ 0 ≤ d ∧ d < 6 ∧ s ≠ d
set_option maxRecDepth 100000 in
theorem c_arePair {M : xM} {Q : Option xV → xM → Prop} {s d : Int} (h : (xrg s ∧ xrg d) ∧ (isPair s d → Q (some (xI 1)) M) ∧ (¬ isPair s d → Q (some (xI 0)) M)) : xm 2 m_Hills_arePair [xI s, xI d] M Q := by
  obtain ⟨h1, h2, h3⟩ := h
  unfold isPair at h2 h3
  (refine xm_of (own := "DrumTongue$Hills") rfl (by decide +kernel) tk_Hills [some (xI s), some (xI d)] (Nat.le_of_ble_eq_true rfl) rfl ?_; intro D nx X C P hW)
  refine xg hW k_Hills_arePair [] 40 ?_
  ((repeat' (first | (with_reducible refine And.intro ?_ ?_) | (intro h0; exact absurd h0 (by decide)) | (intro _) | ((conv => whnf); (first | (with_reducible refine And.intro ?_ ?_) | (intro h0; exact absurd h0 (by decide)) | (intro _) | (refine hW.1 _ _ _ _ _ _ (c_isHill ?_) (by first | decide | omega) (by decide) (Nat.le_of_ble_eq_true rfl)))))); (all_goals (try omega)); (all_goals (try exact Nat.le_of_ble_eq_true rfl)); (all_goals (try ((conv => whnf); (first | (refine hW.2.1 _ _ ?_) | (change X _ _ _ _ _ _) | (change C _ _ _ _ _ _ _))))); (all_goals (try simp only [xup_at, xup_ne, xup_up, ne_eq, Nat.reduceEqDiff, not_false_eq_true, Int.toNat_natCast, x_lcmp] at *)); (all_goals (try omega)))
  all_goals first | exact h2 (by omega) | exact h3 (by omega)
theorem c_arePairY {M : xM} {Q : Option xV → xM → Prop} {s d : Int} (h : (0 ≤ s ∧ s < 6 ∧ 0 ≤ d ∧ d < 6 ∧ s ≠ d) ∧ Q (some (xI 1)) M) : xm 2 m_Hills_arePair [xI s, xI d] M Q := c_arePair ⟨⟨⟨by omega, by omega⟩, by omega, by omega⟩, fun _ => h.2, fun q => absurd h.1 q⟩
set_option maxRecDepth 100000 in
theorem c_join {M : xM} {Q : Option xV → xM → Prop} {s d c g : Int} (h : (0 ≤ s ∧ s < 6 ∧ 0 ≤ d ∧ d < 6 ∧ s ≠ d) ∧ Q none (xup (xup M (47 + s.toNat) (xup (M (47 + s.toNat)) d.toNat c)) (54 + s.toNat) (xup (M (54 + s.toNat)) d.toNat g))) : xm 3 m_Hills_join [xR (some 45), xI s, xI d, xI c, xI g] M Q := by
  obtain ⟨⟨h1, h2, h3, h4, h5⟩, h6⟩ := h
  have t1 := xT0_c s.toNat (by omega)
  have t2 := xT0_h s.toNat (by omega)
  (refine xm_of (own := "DrumTongue$Hills") rfl (by decide +kernel) tk_Hills [some (xR (some 45)), some (xI s), some (xI d), some (xI c), some (xI g)] (Nat.le_of_ble_eq_true rfl) rfl ?_; intro D nx X C P hW)
  refine xg hW k_Hills_join [] 40 ?_
  ((repeat' (first | (with_reducible refine And.intro ?_ ?_) | (intro h0; exact absurd h0 (by decide)) | (intro _) | ((conv => whnf); (first | (with_reducible refine And.intro ?_ ?_) | (intro h0; exact absurd h0 (by decide)) | (intro _) | (rw [t1]) | (rw [t2]) | (refine hW.1 _ _ _ _ _ _ (c_arePairY ?_) (by first | decide | omega) (by decide) (Nat.le_of_ble_eq_true rfl)))))); (all_goals (try omega)); (all_goals (try exact Nat.le_of_ble_eq_true rfl)); (all_goals (try ((conv => whnf); (first | (refine hW.2.1 _ _ ?_) | (change X _ _ _ _ _ _) | (change C _ _ _ _ _ _ _))))); (all_goals (try simp only [xup_at, xup_ne, xup_up, ne_eq, Nat.reduceEqDiff, not_false_eq_true, Int.toNat_natCast, x_lcmp] at *)); (all_goals (try omega)))
  rw [xup_ne (show 54 + s.toNat ≠ 47 + s.toNat by omega)]
  exact h6
set_option maxRecDepth 100000 in
theorem c_isOnPath {M : xM} {Q : Option xV → xM → Prop} {x u : Nat} {p : Nat → Nat} (hu : u ≤ 6) (hx : x < 6) (hp : ∀ i, i < u → M 60 i = p i ∧ p i < 6) (h : (onp p x u = true → Q (some (xI 1)) M) ∧ (onp p x u = false → Q (some (xI 0)) M)) : xm 1 m_Hills_isOnPath [xR (some 45), xI x, xI u] M Q := by
  (refine xm_of (own := "DrumTongue$Hills") rfl (by decide +kernel) tk_Hills [some (xR (some 45)), some (xI (x : Int)), some (xI (u : Int)), none] (Nat.le_of_ble_eq_true rfl) rfl ?_; intro D nx X C P hW)
  have mono : ∀ i j, i ≤ j → onp p x i = true → onp p x j = true := by
    intro i j hij
    induction j with
    | zero => intro q; rw [show i = 0 by omega] at q; exact q
    | succ j ih =>
      intro q
      rcases Nat.lt_or_ge i (j + 1) with z | z
      · rw [onp, ih (by omega) q]; rfl
      · rw [show j + 1 = i by omega]; exact q
  have loop : ∀ (m i : Nat), i + m = u → onp p x i = false → X 2 [some (xR (some 45)), some (xI (x : Int)), some (xI (u : Int)), some (xI (i : Int))] [] (M, D, nx) 0 0 := by
    intro m
    induction m with
    | zero =>
      intro i hi hn
      obtain rfl : i = u := by omega
      refine xg hW k_Hills_isOnPath [2] 40 ?_
      ((repeat' (first | (with_reducible refine And.intro ?_ ?_) | (intro h0; exact absurd h0 (by decide)) | (intro _) | ((conv => whnf); (first | (with_reducible refine And.intro ?_ ?_) | (intro h0; exact absurd h0 (by decide)) | (intro _))))); (all_goals (try omega)); (all_goals (try exact Nat.le_of_ble_eq_true rfl)); (all_goals (try ((conv => whnf); (first | (refine hW.2.1 _ _ ?_) | (change X _ _ _ _ _ _) | (change C _ _ _ _ _ _ _))))); (all_goals (try simp only [xup_at, xup_ne, xup_up, ne_eq, Nat.reduceEqDiff, not_false_eq_true, Int.toNat_natCast, x_lcmp] at *)); (all_goals (try omega)))
      exact h.2 hn
    | succ m ih =>
      intro i hi hn
      obtain ⟨q1, q2⟩ := hp i (by omega)
      refine xg hW k_Hills_isOnPath [2] 40 ?_
      ((repeat' (first | (with_reducible refine And.intro ?_ ?_) | (intro h0; exact absurd h0 (by decide)) | (intro _) | ((conv => whnf); (first | (with_reducible refine And.intro ?_ ?_) | (intro h0; exact absurd h0 (by decide)) | (intro _))))); (all_goals (try omega)); (all_goals (try exact Nat.le_of_ble_eq_true rfl)); (all_goals (try ((conv => whnf); (first | (refine hW.2.1 _ _ ?_) | (change X _ _ _ _ _ _) | (change C _ _ _ _ _ _ _))))); (all_goals (try simp only [xup_at, xup_ne, xup_up, ne_eq, Nat.reduceEqDiff, not_false_eq_true, Int.toNat_natCast, x_lcmp] at *)); (all_goals (try omega)))
      · refine ih (i + 1) (by omega) ?_
        rw [onp, hn, Bool.false_or, beq_eq_false_iff_ne]
        omega
      · refine h.1 (mono (i + 1) u (by omega) ?_)
        rw [onp, hn, Bool.false_or, beq_iff_eq]
        omega
  refine xg hW k_Hills_isOnPath [2] 40 ?_
  ((repeat' (first | (with_reducible refine And.intro ?_ ?_) | (intro h0; exact absurd h0 (by decide)) | (intro _) | ((conv => whnf); (first | (with_reducible refine And.intro ?_ ?_) | (intro h0; exact absurd h0 (by decide)) | (intro _))))); (all_goals (try omega)); (all_goals (try exact Nat.le_of_ble_eq_true rfl)); (all_goals (try ((conv => whnf); (first | (refine hW.2.1 _ _ ?_) | (change X _ _ _ _ _ _) | (change C _ _ _ _ _ _ _))))); (all_goals (try simp only [xup_at, xup_ne, xup_up, ne_eq, Nat.reduceEqDiff, not_false_eq_true, Int.toNat_natCast, x_lcmp] at *)); (all_goals (try omega)))
  exact loop u 0 (by omega) rfl
/-- the search's own numbers -/
def wkFr (M0 M : xM) : Prop := (∀ a, a ≠ 45 → a ≠ 60 → a ≠ 61 → M a = M0 a) ∧ ∀ k, k ≠ 4 → k ≠ 5 → k ≠ 6 → M 45 k = M0 45 k
def wkAt (M0 : xM) (u : Nat) (p : Nat → Nat) (B : xB) (M : xM) : Prop := wkFr M0 M ∧ M 45 5 = B.1 ∧ M 45 6 = B.2.1 ∧ M 45 4 = B.2.2.1 ∧ (∀ i, i < B.2.2.1 → M 61 i = B.2.2.2 i) ∧ ∀ i, i < u → M 60 i = p i
theorem wkAt_keep {M0 M : xM} {u : Nat} {p : Nat → Nat} {ch hr : Int} {B : xB} (hu : u ≤ 6) (h : wkAt M0 u p B M) : wkAt M0 u p (ch, hr, u, p) (xup (xup M 45 (xup (xup (xup (M 45) 5 ch) 6 hr) 4 (u : Int))) 61 (va_cpy (M 60) (M 61) (Int.toNat 0) (Int.toNat 0) (Int.toNat 6))) := by
  obtain ⟨h1, h2, h3, h4, h5, h6⟩ := h
  refine ⟨⟨fun a a1 a2 a3 => ?_, fun k k1 k2 k3 => ?_⟩, ?_, ?_, ?_, fun i hi => ?_, fun i hi => ?_⟩
  · rw [xup_ne a3, xup_ne a1]; exact h1.1 a a1 a2 a3
  · rw [xup_ne (by decide), xup_at, xup_ne k1, xup_ne k3, xup_ne k2]; exact h1.2 k k1 k2 k3
  · simp only [xup_at, xup_ne, xup_up, ne_eq, Nat.reduceEqDiff, not_false_eq_true, Int.toNat_natCast, x_lcmp]
  · simp only [xup_at, xup_ne, xup_up, ne_eq, Nat.reduceEqDiff, not_false_eq_true, Int.toNat_natCast, x_lcmp]
  · simp only [xup_at, xup_ne, xup_up, ne_eq, Nat.reduceEqDiff, not_false_eq_true, Int.toNat_natCast, x_lcmp]
  · rw [xup_at]
    have hi' : i < u := hi
    unfold va_cpy
    rw [if_pos ⟨Nat.zero_le _, by show i < 0 + 6; omega⟩]
    show M 60 (0 + (i - 0)) = _
    rw [Nat.zero_add, Nat.sub_zero]
    exact h6 i hi'
  · rw [xup_ne (by decide), xup_ne (by decide)]
    exact h6 i hi
set_option maxRecDepth 100000 in
theorem c_keep {M0 M : xM} {Q : Option xV → xM → Prop} {u : Nat} {p : Nat → Nat} {ch hr : Int} {B : xB} (hu : u ≤ 6) (hc : 0 < ch ∧ ch ≤ 1000000000) (hh : 0 ≤ hr ∧ hr ≤ 1000) (hB : 0 ≤ B.1 ∧ B.1 ≤ 1000000000 ∧ 0 ≤ B.2.1 ∧ B.2.1 ≤ 1000) (hA : wkAt M0 u p B M) (hq : ∀ M', wkAt M0 u p (hkeep u p ch hr B) M' → Q none M') : xm 1 m_Hills_keepIfBetter [xR (some 45), xI u, xJ ch, xI hr] M Q := by
  have h1 := hA.2.1
  have h2 := hA.2.2.1
  (refine xm_of (own := "DrumTongue$Hills") rfl (by decide +kernel) tk_Hills [some (xR (some 45)), some (xI (u : Int)), some (xJ ch), none, some (xI hr)] (Nat.le_of_ble_eq_true rfl) rfl ?_; intro D nx X C P hW)
  refine xg hW k_Hills_keepIfBetter [] 40 ?_
  ((repeat' (first | (with_reducible refine And.intro ?_ ?_) | (intro h0; exact absurd h0 (by decide)) | (intro _) | ((conv => whnf); (first | (with_reducible refine And.intro ?_ ?_) | (intro h0; exact absurd h0 (by decide)) | (intro _))))); (all_goals (try omega)); (all_goals (try exact Nat.le_of_ble_eq_true rfl)); (all_goals (try ((conv => whnf); (first | (refine hW.2.1 _ _ ?_) | (change X _ _ _ _ _ _) | (change C _ _ _ _ _ _ _))))); (all_goals (try simp only [xup_at, xup_ne, xup_up, ne_eq, Nat.reduceEqDiff, not_false_eq_true, Int.toNat_natCast, x_lcmp] at *)); (all_goals (try omega)))
  · refine hq _ ?_
    unfold hkeep
    rw [if_pos (by omega)]
    exact wkAt_keep hu hA
  · refine hq _ ?_
    unfold hkeep
    rw [if_neg (by omega)]
    exact hA
  · refine hq _ ?_
    unfold hkeep
    rw [if_neg (by omega)]
    exact hA
  · refine hq _ ?_
    unfold hkeep
    rw [if_pos (by omega)]
    exact wkAt_keep hu hA
/-- the best so far stays in bounds -/
def hbOk (B : xB) : Prop := 0 ≤ B.1 ∧ B.1 ≤ 1000000000 ∧ 0 ≤ B.2.1 ∧ B.2.1 ≤ 1000 ∧ (0 < B.1 → 2 ≤ B.2.2.1 ∧ B.2.2.1 ≤ 6 ∧ ∀ i, i < B.2.2.1 → B.2.2.2 i < 6) ∧ (B.1 = 0 → B.2.2.1 = 0)
theorem hkeep_ok {u : Nat} {p : Nat → Nat} {ch hr : Int} {B : xB} (hu : 2 ≤ u ∧ u ≤ 6) (hp : ∀ i, i < u → p i < 6) (hc : 0 ≤ ch ∧ ch ≤ 1000000000) (hh : 0 ≤ hr ∧ hr ≤ 1000) (hB : hbOk B) : hbOk (hkeep u p ch hr B) := by
  unfold hkeep
  split
  · rename_i q
    have := hB.1
    exact ⟨hc.1, hc.2, hh.1, hh.2, fun _ => ⟨hu.1, hu.2, hp⟩, fun z => by simp only at z; omega⟩
  · exact hB
theorem hch_rg {ch c : Int} (hc : 0 ≤ ch ∧ ch ≤ 1000000000) (h : 0 ≤ c ∧ c ≤ 1000) : 0 ≤ ch * c ∧ ch * c ≤ 1000000000000 ∧ 0 ≤ (ch * c).tdiv 1000 ∧ (ch * c).tdiv 1000 ≤ ch := by
  have h1 := Int.mul_nonneg hc.1 h.1
  have h2 : ch * c ≤ ch * 1000 := Int.mul_le_mul_of_nonneg_left h.2 hc.1
  rw [Int.tdiv_eq_ediv_of_nonneg h1]
  omega
def chOk (c h : Nat → Nat → Int) : Prop := ∀ f t : Nat, f < 6 → t < 6 → (0 ≤ c f t ∧ c f t ≤ 1000) ∧ 1 ≤ h f t ∧ h f t ≤ 20
theorem hdfs_ok {c h : Nat → Nat → Int} {d : Nat} (hch : chOk c h) : ∀ (f : Nat) (p : Nat → Nat) (u : Nat) (ch hr : Int) (B : xB), u + f = 6 → 1 ≤ u → (∀ i, i < u → p i < 6) → 0 ≤ ch ∧ ch ≤ 1000000000 → 0 ≤ hr ∧ hr ≤ 20 * u → hbOk B → hbOk (hdfs c h d f p u ch hr B)
  | 0, _, _, _, _, _, _, _, _, _, _, hB => hB
  | f + 1, p, u, ch, hr, B, hu, h1, hp, hc, hh, hB => by
    rw [hdfs]
    have key : ∀ m B, m ≤ 6 → hbOk B → hbOk (hdT (fun t B => if onp p t u = true then B else if t = d then hkeep (u + 1) (xup p u t) ((ch * c (p (u - 1)) t).tdiv 1000) (hr + h (p (u - 1)) t) B else hdfs c h d f (xup p u t) (u + 1) ((ch * c (p (u - 1)) t).tdiv 1000) (hr + h (p (u - 1)) t) B) m B) := by
      intro m
      induction m with
      | zero => intro B _ hB; exact hB
      | succ m ih =>
        intro B hm hB
        rw [hdT]
        refine ih _ (by omega) ?_
        obtain ⟨c1, c2⟩ := hch (p (u - 1)) (5 - m) (hp _ (by omega)) (by omega)
        have c3 := hch_rg hc c1
        have hp' : ∀ i, i < u + 1 → xup p u (5 - m) i < 6 := fun i hi => by
          by_cases q : i = u
          · rw [q, xup_at]; omega
          · rw [xup_ne q]; exact hp i (by omega)
        split
        · exact hB
        · split
          · exact hkeep_ok ⟨by omega, by omega⟩ hp' ⟨by omega, by omega⟩ ⟨by omega, by omega⟩ hB
          · exact hdfs_ok hch f _ _ _ _ _ (by omega) (by omega) hp' ⟨by omega, by omega⟩ ⟨by omega, by omega⟩ hB
    exact key 6 B (Nat.le_refl _) hB
def cM (M : xM) (f t : Nat) : Int := M (47 + f) t
def hM (M : xM) (f t : Nat) : Int := M (54 + f) t
theorem hillOk.ch {M : xM} (h : hillOk M) : chOk (cM M) (hM M) := fun f t hf ht => by
  obtain ⟨a, b, c, d⟩ := h f t hf ht
  exact ⟨⟨a, b⟩, c, d⟩
set_option maxRecDepth 100000 in
set_option maxHeartbeats 4000000 in
theorem c_walk {M0 : xM} (hh0 : hillOk M0) {d : Nat} (hd : d < 6) : ∀ (f : Nat) {u : Nat} {p : Nat → Nat} {ch hr : Int} {B : xB} {M : xM} {Q : Option xV → xM → Prop}, u + f = 6 → 1 ≤ u → (p (u - 1) = d → 2 ≤ u) → (∀ i, i < u → p i < 6) → 0 ≤ ch ∧ ch ≤ 1000000000 → 0 ≤ hr ∧ hr ≤ 20 * u → hbOk B → wkAt M0 u p B M → (∀ M', wkAt M0 u p (hwk (cM M0) (hM M0) d f p u ch hr B) M' → Q none M') → xm (4 + f) m_Hills_walk [xR (some 45), xI u, xI d, xJ ch, xI hr] M Q := by
  have hch := hh0.ch
  intro f
  induction f with
  | zero =>
    intro u p ch hr B M Q hu h1 hpd hp hc hh hB hA hq
    have hlast : M 60 ((u : Int) - 1).toNat = p (u - 1) := by rw [show ((u : Int) - 1).toNat = u - 1 by omega]; exact hA.2.2.2.2.2 (u - 1) (by omega)
    have hl6 := hp (u - 1) (by omega)
    by_cases hz : ch = 0
    · subst hz
      have e : hwk (cM M0) (hM M0) d 0 p u 0 hr B = B := by
        unfold hwk
        split
        · exact hkeep_0 hB.1
        · exact hdfs_0 hB.1 _ _ _ _
      rw [e] at hq
      (refine xm_of (own := "DrumTongue$Hills") rfl (by decide +kernel) tk_Hills [some (xR (some 45)), some (xI (u : Int)), some (xI (d : Int)), some (xJ 0), none, some (xI hr), none, none] (Nat.le_of_ble_eq_true rfl) rfl ?_; intro D nx X C P hW)
      refine xg hW k_Hills_walk [46] 40 ?_
      ((repeat' (first | (with_reducible refine And.intro ?_ ?_) | (intro h0; exact absurd h0 (by decide)) | (intro _) | ((conv => whnf); (first | (with_reducible refine And.intro ?_ ?_) | (intro h0; exact absurd h0 (by decide)) | (intro _))))); (all_goals (try omega)); (all_goals (try exact Nat.le_of_ble_eq_true rfl)); (all_goals (try ((conv => whnf); (first | (refine hW.2.1 _ _ ?_) | (change X _ _ _ _ _ _) | (change C _ _ _ _ _ _ _))))); (all_goals (try simp only [xup_at, xup_ne, xup_up, ne_eq, Nat.reduceEqDiff, not_false_eq_true, Int.toNat_natCast, x_lcmp] at *)); (all_goals (try omega)))
      all_goals exact hq M hA
    · (refine xm_of (own := "DrumTongue$Hills") rfl (by decide +kernel) tk_Hills [some (xR (some 45)), some (xI (u : Int)), some (xI (d : Int)), some (xJ ch), none, some (xI hr), none, none] (Nat.le_of_ble_eq_true rfl) rfl ?_; intro D nx X C P hW)
      refine xg hW k_Hills_walk [] 40 ?_
      ((repeat' (first | (with_reducible refine And.intro ?_ ?_) | (intro h0; exact absurd h0 (by decide)) | (intro _) | ((conv => whnf); (first | (with_reducible refine And.intro ?_ ?_) | (intro h0; exact absurd h0 (by decide)) | (intro _))))); (all_goals (try omega)); (all_goals (try exact Nat.le_of_ble_eq_true rfl)); (all_goals (try ((conv => whnf); (first | (refine hW.2.1 _ _ ?_) | (change X _ _ _ _ _ _) | (change C _ _ _ _ _ _ _))))); (all_goals (try simp only [xup_at, xup_ne, xup_up, ne_eq, Nat.reduceEqDiff, not_false_eq_true, Int.toNat_natCast, x_lcmp] at *)); (all_goals (try omega)))
      · refine hq M ?_
        unfold hwk
        rw [if_neg (by omega), hdfs]
        exact hA
      · refine hW.1 _ _ _ _ _ _ (c_keep (by omega) ⟨by omega, hc.2⟩ ⟨by omega, by omega⟩ ⟨hB.1, hB.2.1, hB.2.2.1, hB.2.2.2.1⟩ hA (fun M' hA' => ?_)) (by omega) (by decide) (Nat.le_of_ble_eq_true rfl)
        ((repeat' (first | (with_reducible refine And.intro ?_ ?_) | (intro h0; exact absurd h0 (by decide)) | (intro _) | ((conv => whnf); (first | (with_reducible refine And.intro ?_ ?_) | (intro h0; exact absurd h0 (by decide)) | (intro _))))); (all_goals (try omega)); (all_goals (try exact Nat.le_of_ble_eq_true rfl)); (all_goals (try ((conv => whnf); (first | (refine hW.2.1 _ _ ?_) | (change X _ _ _ _ _ _) | (change C _ _ _ _ _ _ _))))); (all_goals (try simp only [xup_at, xup_ne, xup_up, ne_eq, Nat.reduceEqDiff, not_false_eq_true, Int.toNat_natCast, x_lcmp] at *)); (all_goals (try omega)))
        refine hq M' ?_
        unfold hwk
        rw [if_pos (by omega)]
        exact hA'
  | succ f ih =>
    intro u p ch hr B M Q hu h1 hpd hp hc hh hB hA hq
    have hlast : M 60 ((u : Int) - 1).toNat = p (u - 1) := by rw [show ((u : Int) - 1).toNat = u - 1 by omega]; exact hA.2.2.2.2.2 (u - 1) (by omega)
    have hl6 := hp (u - 1) (by omega)
    by_cases hz : ch = 0
    · subst hz
      have e : hwk (cM M0) (hM M0) d (f + 1) p u 0 hr B = B := by
        unfold hwk
        split
        · exact hkeep_0 hB.1
        · exact hdfs_0 hB.1 _ _ _ _
      rw [e] at hq
      (refine xm_of (own := "DrumTongue$Hills") rfl (by decide +kernel) tk_Hills [some (xR (some 45)), some (xI (u : Int)), some (xI (d : Int)), some (xJ 0), none, some (xI hr), none, none] (Nat.le_of_ble_eq_true rfl) rfl ?_; intro D nx X C P hW)
      refine xg hW k_Hills_walk [46] 40 ?_
      ((repeat' (first | (with_reducible refine And.intro ?_ ?_) | (intro h0; exact absurd h0 (by decide)) | (intro _) | ((conv => whnf); (first | (with_reducible refine And.intro ?_ ?_) | (intro h0; exact absurd h0 (by decide)) | (intro _))))); (all_goals (try omega)); (all_goals (try exact Nat.le_of_ble_eq_true rfl)); (all_goals (try ((conv => whnf); (first | (refine hW.2.1 _ _ ?_) | (change X _ _ _ _ _ _) | (change C _ _ _ _ _ _ _))))); (all_goals (try simp only [xup_at, xup_ne, xup_up, ne_eq, Nat.reduceEqDiff, not_false_eq_true, Int.toNat_natCast, x_lcmp] at *)); (all_goals (try omega)))
      all_goals exact hq M hA
    · generalize hbody : (fun (t : Nat) (B : xB) => if onp p t u = true then B else if t = d then hkeep (u + 1) (xup p u t) ((ch * cM M0 (p (u - 1)) t).tdiv 1000) (hr + hM M0 (p (u - 1)) t) B else hdfs (cM M0) (hM M0) d f (xup p u t) (u + 1) ((ch * cM M0 (p (u - 1)) t).tdiv 1000) (hr + hM M0 (p (u - 1)) t) B) = body
      (refine xm_of (own := "DrumTongue$Hills") rfl (by decide +kernel) tk_Hills [some (xR (some 45)), some (xI (u : Int)), some (xI (d : Int)), some (xJ ch), none, some (xI hr), none, none] (Nat.le_of_ble_eq_true rfl) rfl ?_; intro D nx X C P hW)
      have loop : ∀ (m : Nat) (B : xB) (M : xM), m ≤ 6 → hbOk B → wkAt M0 u p B M → (∀ M', wkAt M0 u p (hdT body m B) M' → Q none M') → X 46 [some (xR (some 45)), some (xI (u : Int)), some (xI (d : Int)), some (xJ ch), none, some (xI hr), some (xI (p (u - 1) : Nat)), some (xI (6 - (m : Int)))] [] (M, D, nx) 0 0 := by
        intro m
        induction m with
        | zero =>
          intro B M hm hB hA hq
          refine xg hW k_Hills_walk [46] 40 ?_
          ((repeat' (first | (with_reducible refine And.intro ?_ ?_) | (intro h0; exact absurd h0 (by decide)) | (intro _) | ((conv => whnf); (first | (with_reducible refine And.intro ?_ ?_) | (intro h0; exact absurd h0 (by decide)) | (intro _))))); (all_goals (try omega)); (all_goals (try exact Nat.le_of_ble_eq_true rfl)); (all_goals (try ((conv => whnf); (first | (refine hW.2.1 _ _ ?_) | (change X _ _ _ _ _ _) | (change C _ _ _ _ _ _ _))))); (all_goals (try simp only [xup_at, xup_ne, xup_up, ne_eq, Nat.reduceEqDiff, not_false_eq_true, Int.toNat_natCast, x_lcmp] at *)); (all_goals (try omega)))
          exact hq M hA
        | succ m ihm =>
          intro B M hm hB hA hq
          rw [hdT] at hq
          rw [show (6 - ((m + 1 : Nat) : Int)) = ((5 - m : Nat) : Int) by omega]
          generalize hla : p (u - 1) = a at *
          have t1 : xT0 (47 + (a : Int).toNat) = some (.inr (0, 6, none)) := xT0_c a hl6
          have t2 : xT0 (54 + (a : Int).toNat) = some (.inr (0, 6, none)) := xT0_h a hl6
          have k1 : ∀ z, xup M 60 z (47 + a) = M0 (47 + a) := fun z => by rw [xup_ne (by omega)]; exact hA.1.1 _ (by omega) (by omega) (by omega)
          have k2 : ∀ z, xup M 60 z (54 + a) = M0 (54 + a) := fun z => by rw [xup_ne (by omega)]; exact hA.1.1 _ (by omega) (by omega) (by omega)
          obtain ⟨c1, c2⟩ := hch a (5 - m) hl6 (by omega)
          have c3 := hch_rg hc c1
          unfold cM at c1 c3
          unfold hM at c2
          refine xg hW k_Hills_walk [46] 40 ?_
          ((repeat' (first | (with_reducible refine And.intro ?_ ?_) | (intro h0; exact absurd h0 (by decide)) | (intro _) | ((conv => whnf); (first | (with_reducible refine And.intro ?_ ?_) | (intro h0; exact absurd h0 (by decide)) | (intro _) | (rw [t1]) | (rw [t2]) | (refine hW.1 _ _ _ _ _ _ (c_isHillY ?_) (by first | decide | omega) (by decide) (Nat.le_of_ble_eq_true rfl)))))); (all_goals (try omega)); (all_goals (try exact Nat.le_of_ble_eq_true rfl)); (all_goals (try ((conv => whnf); (first | (refine hW.2.1 _ _ ?_) | (change X _ _ _ _ _ _) | (change C _ _ _ _ _ _ _))))); (all_goals (try simp only [xup_at, xup_ne, xup_up, ne_eq, Nat.reduceEqDiff, not_false_eq_true, Int.toNat_natCast, x_lcmp] at *)); (all_goals (try omega)))
          have hpp : ∀ i, i < u → M 60 i = p i ∧ p i < 6 := fun i hi => ⟨hA.2.2.2.2.2 i hi, hp i hi⟩
          refine hW.1 _ _ _ _ _ _ (c_isOnPath (by omega) (by omega) hpp ⟨fun hon => ?_, fun hon => ?_⟩) (by omega) (by decide) (Nat.le_of_ble_eq_true rfl)
          · have e : body (5 - m) B = B := by
              rw [← hbody]
              simp only [hon, if_true]
            rw [e] at hq
            ((repeat' (first | (with_reducible refine And.intro ?_ ?_) | (intro h0; exact absurd h0 (by decide)) | (intro _) | ((conv => whnf); (first | (with_reducible refine And.intro ?_ ?_) | (intro h0; exact absurd h0 (by decide)) | (intro _))))); (all_goals (try omega)); (all_goals (try exact Nat.le_of_ble_eq_true rfl)); (all_goals (try ((conv => whnf); (first | (refine hW.2.1 _ _ ?_) | (change X _ _ _ _ _ _) | (change C _ _ _ _ _ _ _))))); (all_goals (try simp only [xup_at, xup_ne, xup_up, ne_eq, Nat.reduceEqDiff, not_false_eq_true, Int.toNat_natCast, x_lcmp] at *)); (all_goals (try omega)))
            have := ihm B M (by omega) hB hA hq
            rw [show (6 - (m : Int)) = ((5 - m : Nat) : Int) + 1 by omega] at this
            exact this
          · have e : body (5 - m) B = hwk (cM M0) (hM M0) d f (xup p u (5 - m)) (u + 1) ((ch * cM M0 a (5 - m)).tdiv 1000) (hr + hM M0 a (5 - m)) B := by
              rw [← hbody]
              unfold hwk
              simp only [hon, Nat.add_sub_cancel, xup_at, hla]
              rfl
            rw [e] at hq
            have hp' : ∀ i, i < u + 1 → xup p u (5 - m) i < 6 := fun i hi => by
              by_cases q : i = u
              · rw [q, xup_at]; omega
              · rw [xup_ne q]; exact hp i (by omega)
            have t1 : xT0 (47 + (a : Int).toNat) = some (.inr (0, 6, none)) := xT0_c a hl6
            have t2 : xT0 (54 + (a : Int).toNat) = some (.inr (0, 6, none)) := xT0_h a hl6
            ((repeat' (first | (with_reducible refine And.intro ?_ ?_) | (intro h0; exact absurd h0 (by decide)) | (intro _) | ((conv => whnf); (first | (with_reducible refine And.intro ?_ ?_) | (intro h0; exact absurd h0 (by decide)) | (intro _) | (rw [t1]) | (rw [t2]))))); (all_goals (try omega)); (all_goals (try exact Nat.le_of_ble_eq_true rfl)); (all_goals (try ((conv => whnf); (first | (refine hW.2.1 _ _ ?_) | (change X _ _ _ _ _ _) | (change C _ _ _ _ _ _ _))))); (all_goals (try simp only [xup_at, xup_ne, xup_up, ne_eq, Nat.reduceEqDiff, not_false_eq_true, Int.toNat_natCast, x_lcmp] at *)); (all_goals (try omega)))
            all_goals (try rw [k1])
            all_goals (try omega)
            rw [k2]
            have hA1 : wkAt M0 (u + 1) (xup p u (5 - m)) B (xup M 60 (xup (M 60) u ((5 - m : Nat) : Int))) := by
              obtain ⟨h1, h2, h3, h4, h5, h6⟩ := hA
              refine ⟨⟨fun a a1 a2 a3 => ?_, fun k k1 k2 k3 => ?_⟩, ?_, ?_, ?_, fun i hi => ?_, fun i hi => ?_⟩
              · rw [xup_ne a2]; exact h1.1 a a1 a2 a3
              · rw [xup_ne (by decide)]; exact h1.2 k k1 k2 k3
              · rw [xup_ne (by decide)]; exact h2
              · rw [xup_ne (by decide)]; exact h3
              · rw [xup_ne (by decide)]; exact h4
              · rw [xup_ne (by decide)]; exact h5 i hi
              · rw [xup_at]
                by_cases q : i = u
                · rw [q, xup_at, xup_at]
                · rw [xup_ne q, xup_ne q]; exact h6 i (by omega)
            refine hW.1 _ _ _ _ _ _ (ih (u := u + 1) (by omega) (by omega) (fun _ => by omega) hp' ⟨c3.2.2.1, by omega⟩ ⟨by omega, by omega⟩ hB hA1 (fun M' hA' => ?_)) (by omega) (by decide) (Nat.le_of_ble_eq_true rfl)
            ((repeat' (first | (with_reducible refine And.intro ?_ ?_) | (intro h0; exact absurd h0 (by decide)) | (intro _) | ((conv => whnf); (first | (with_reducible refine And.intro ?_ ?_) | (intro h0; exact absurd h0 (by decide)) | (intro _))))); (all_goals (try omega)); (all_goals (try exact Nat.le_of_ble_eq_true rfl)); (all_goals (try ((conv => whnf); (first | (refine hW.2.1 _ _ ?_) | (change X _ _ _ _ _ _) | (change C _ _ _ _ _ _ _))))); (all_goals (try simp only [xup_at, xup_ne, xup_up, ne_eq, Nat.reduceEqDiff, not_false_eq_true, Int.toNat_natCast, x_lcmp] at *)); (all_goals (try omega)))
            have hA2 : wkAt M0 u p (hwk (cM M0) (hM M0) d f (xup p u (5 - m)) (u + 1) ((ch * cM M0 a (5 - m)).tdiv 1000) (hr + hM M0 a (5 - m)) B) M' := by
              obtain ⟨h1, h2, h3, h4, h5, h6⟩ := hA'
              refine ⟨h1, h2, h3, h4, h5, fun i hi => ?_⟩
              rw [h6 i (by omega), xup_ne (by omega)]
            have hB2 : hbOk (hwk (cM M0) (hM M0) d f (xup p u (5 - m)) (u + 1) ((ch * cM M0 a (5 - m)).tdiv 1000) (hr + hM M0 a (5 - m)) B) := by
              unfold hwk
              split
              · exact hkeep_ok ⟨by omega, by omega⟩ hp' ⟨c3.2.2.1, by unfold cM; omega⟩ ⟨by unfold hM; omega, by unfold hM; omega⟩ hB
              · exact hdfs_ok hch f _ _ _ _ _ (by omega) (by omega) hp' ⟨c3.2.2.1, by unfold cM; omega⟩ ⟨by unfold hM; omega, by unfold hM; omega⟩ hB
            have := ihm _ M' (by omega) hB2 hA2 hq
            rw [show (6 - (m : Int)) = ((5 - m : Nat) : Int) + 1 by omega] at this
            exact this
      refine xg hW k_Hills_walk [46] 40 ?_
      ((repeat' (first | (with_reducible refine And.intro ?_ ?_) | (intro h0; exact absurd h0 (by decide)) | (intro _) | ((conv => whnf); (first | (with_reducible refine And.intro ?_ ?_) | (intro h0; exact absurd h0 (by decide)) | (intro _))))); (all_goals (try omega)); (all_goals (try exact Nat.le_of_ble_eq_true rfl)); (all_goals (try ((conv => whnf); (first | (refine hW.2.1 _ _ ?_) | (change X _ _ _ _ _ _) | (change C _ _ _ _ _ _ _))))); (all_goals (try simp only [xup_at, xup_ne, xup_up, ne_eq, Nat.reduceEqDiff, not_false_eq_true, Int.toNat_natCast, x_lcmp] at *)); (all_goals (try omega)))
      · rw [hlast]
        exact loop 6 B M (Nat.le_refl _) hB hA fun M' hA' => hq M' (by
          unfold hwk
          rw [if_neg (by omega), hdfs, hbody]
          exact hA')
      · refine hW.1 _ _ _ _ _ _ (c_keep (by omega) ⟨by omega, hc.2⟩ ⟨by omega, by omega⟩ ⟨hB.1, hB.2.1, hB.2.2.1, hB.2.2.2.1⟩ hA (fun M' hA' => ?_)) (by omega) (by decide) (Nat.le_of_ble_eq_true rfl)
        ((repeat' (first | (with_reducible refine And.intro ?_ ?_) | (intro h0; exact absurd h0 (by decide)) | (intro _) | ((conv => whnf); (first | (with_reducible refine And.intro ?_ ?_) | (intro h0; exact absurd h0 (by decide)) | (intro _))))); (all_goals (try omega)); (all_goals (try exact Nat.le_of_ble_eq_true rfl)); (all_goals (try ((conv => whnf); (first | (refine hW.2.1 _ _ ?_) | (change X _ _ _ _ _ _) | (change C _ _ _ _ _ _ _))))); (all_goals (try simp only [xup_at, xup_ne, xup_up, ne_eq, Nat.reduceEqDiff, not_false_eq_true, Int.toNat_natCast, x_lcmp] at *)); (all_goals (try omega)))
        refine hq M' ?_
        unfold hwk
        rw [if_pos (by omega)]
        exact hA'
/-- the best way from s to d -/
def hBest (c h : Nat → Nat → Int) (s d : Nat) : xB := hdfs c h d 5 (fun _ => s) 1 1000000000 0 (0, 0, 0, fun _ => 0)
theorem hBest_ok {c h : Nat → Nat → Int} {s d : Nat} (hch : chOk c h) (hs : s < 6) : hbOk (hBest c h s d) := hdfs_ok hch 5 _ 1 _ _ _ rfl (by decide) (fun _ _ => hs) ⟨by decide, by decide⟩ ⟨by decide, by decide⟩ ⟨by decide, by decide, by decide, by decide, fun q => absurd q (by decide), fun _ => rfl⟩
set_option maxRecDepth 100000 in
theorem c_findBest {M : xM} {Q : Option xV → xM → Prop} {s d : Nat} (hh0 : hillOk M) (hs : s < 6) (hd : d < 6) (hsd : s ≠ d) (h1 : ∀ M', wkAt M 1 (fun _ => s) (hBest (cM M) (hM M) s d) M' → 0 < (hBest (cM M) (hM M) s d).1 → Q (some (xI 1)) M') (h2 : ∀ M', wkAt M 1 (fun _ => s) (hBest (cM M) (hM M) s d) M' → (hBest (cM M) (hM M) s d).1 = 0 → Q (some (xI 0)) M') : xm 12 m_Hills_findBest [xR (some 45), xI s, xI d] M Q := by
  (refine xm_of (own := "DrumTongue$Hills") rfl (by decide +kernel) tk_Hills [some (xR (some 45)), some (xI (s : Int)), some (xI (d : Int))] (Nat.le_of_ble_eq_true rfl) rfl ?_; intro D nx X C P hW)
  refine xg hW k_Hills_findBest [] 40 ?_
  ((repeat' (first | (with_reducible refine And.intro ?_ ?_) | (intro h0; exact absurd h0 (by decide)) | (intro _) | ((conv => whnf); (first | (with_reducible refine And.intro ?_ ?_) | (intro h0; exact absurd h0 (by decide)) | (intro _) | (refine hW.1 _ _ _ _ _ _ (c_arePairY ?_) (by first | decide | omega) (by decide) (Nat.le_of_ble_eq_true rfl)))))); (all_goals (try omega)); (all_goals (try exact Nat.le_of_ble_eq_true rfl)); (all_goals (try ((conv => whnf); (first | (refine hW.2.1 _ _ ?_) | (change X _ _ _ _ _ _) | (change C _ _ _ _ _ _ _))))); (all_goals (try simp only [xup_at, xup_ne, xup_up, ne_eq, Nat.reduceEqDiff, not_false_eq_true, Int.toNat_natCast, x_lcmp] at *)); (all_goals (try omega)))
  have hA : wkAt M 1 (fun _ => s) (0, 0, 0, fun _ => 0) (xup (xup M 45 (xup (xup (xup (M 45) 4 0) 5 0) 6 0)) 60 (xup (M 60) 0 (s : Int))) := by
    refine ⟨⟨fun a a1 a2 a3 => ?_, fun k k1 k2 k3 => ?_⟩, ?_, ?_, ?_, fun i hi => ?_, fun i hi => ?_⟩
    · rw [xup_ne a2, xup_ne a1]
    · rw [xup_ne (by decide), xup_at, xup_ne k3, xup_ne k2, xup_ne k1]
    · simp only [xup_at, xup_ne, xup_up, ne_eq, Nat.reduceEqDiff, not_false_eq_true, Int.toNat_natCast, x_lcmp]
    · simp only [xup_at, xup_ne, xup_up, ne_eq, Nat.reduceEqDiff, not_false_eq_true, Int.toNat_natCast, x_lcmp]
    · simp only [xup_at, xup_ne, xup_up, ne_eq, Nat.reduceEqDiff, not_false_eq_true, Int.toNat_natCast, x_lcmp]; rfl
    · exact absurd hi (Nat.not_lt_zero i)
    · rw [show i = 0 by omega, xup_at, xup_at]
  have hok := hBest_ok (s := s) (d := d) hh0.ch hs
  refine hW.1 _ _ _ _ _ _ (c_walk hh0 hd 5 (u := 1) (p := fun _ => s) rfl (by decide) (fun q => absurd q hsd) (fun _ _ => hs) ⟨by decide, by decide⟩ ⟨by decide, by decide⟩ ⟨by decide, by decide, by decide, by decide, fun q => absurd q (by decide), fun _ => rfl⟩ hA (fun M' hA' => ?_)) (by omega) (by decide) (Nat.le_of_ble_eq_true rfl)
  unfold hwk at hA'
  rw [if_neg hsd] at hA'
  have hA2 : wkAt M 1 (fun _ => s) (hBest (cM M) (hM M) s d) M' := hA'
  obtain ⟨o1, o2, o3, o4, o5, o6⟩ := hok
  have u4 := hA2.2.2.2.1
  have u5 : (hBest (cM M) (hM M) s d).2.2.1 ≤ 6 := by
    by_cases q : (hBest (cM M) (hM M) s d).1 = 0
    · rw [o6 q]; decide
    · exact (o5 (by omega)).2.1
  ((repeat' (first | (with_reducible refine And.intro ?_ ?_) | (intro h0; exact absurd h0 (by decide)) | (intro _) | ((conv => whnf); (first | (with_reducible refine And.intro ?_ ?_) | (intro h0; exact absurd h0 (by decide)) | (intro _))))); (all_goals (try omega)); (all_goals (try exact Nat.le_of_ble_eq_true rfl)); (all_goals (try ((conv => whnf); (first | (refine hW.2.1 _ _ ?_) | (change X _ _ _ _ _ _) | (change C _ _ _ _ _ _ _))))); (all_goals (try simp only [xup_at, xup_ne, xup_up, ne_eq, Nat.reduceEqDiff, not_false_eq_true, Int.toNat_natCast, x_lcmp] at *)); (all_goals (try omega)))
  · refine h2 M' hA2 ?_
    by_cases q : (hBest (cM M) (hM M) s d).1 = 0
    · exact q
    · have := (o5 (by omega)).1
      omega
  · refine h1 M' hA2 ?_
    by_cases q : (hBest (cM M) (hM M) s d).1 = 0
    · have := o6 q
      omega
    · omega
set_option maxRecDepth 100000 in
theorem c_bestChance {M : xM} {Q : Option xV → xM → Prop} (h : Q (some (xI (M 45 5))) M) : xm 1 m_Hills_bestChance [xR (some 45)] M Q := by
  (refine xm_of (own := "DrumTongue$Hills") rfl (by decide +kernel) tk_Hills [some (xR (some 45))] (Nat.le_of_ble_eq_true rfl) rfl ?_; intro D nx X C P hW)
  refine xg hW k_Hills_bestChance [] 40 ?_
  ((repeat' (first | (with_reducible refine And.intro ?_ ?_) | (intro h0; exact absurd h0 (by decide)) | (intro _) | ((conv => whnf); (first | (with_reducible refine And.intro ?_ ?_) | (intro h0; exact absurd h0 (by decide)) | (intro _))))); (all_goals (try omega)); (all_goals (try exact Nat.le_of_ble_eq_true rfl)); (all_goals (try ((conv => whnf); (first | (refine hW.2.1 _ _ ?_) | (change X _ _ _ _ _ _) | (change C _ _ _ _ _ _ _))))); (all_goals (try simp only [xup_at, xup_ne, xup_up, ne_eq, Nat.reduceEqDiff, not_false_eq_true, Int.toNat_natCast, x_lcmp] at *)); (all_goals (try omega)))
  all_goals exact h
set_option maxRecDepth 100000 in
theorem c_bestHours {M : xM} {Q : Option xV → xM → Prop} (h : Q (some (xI (M 45 6))) M) : xm 1 m_Hills_bestHours [xR (some 45)] M Q := by
  (refine xm_of (own := "DrumTongue$Hills") rfl (by decide +kernel) tk_Hills [some (xR (some 45))] (Nat.le_of_ble_eq_true rfl) rfl ?_; intro D nx X C P hW)
  refine xg hW k_Hills_bestHours [] 40 ?_
  ((repeat' (first | (with_reducible refine And.intro ?_ ?_) | (intro h0; exact absurd h0 (by decide)) | (intro _) | ((conv => whnf); (first | (with_reducible refine And.intro ?_ ?_) | (intro h0; exact absurd h0 (by decide)) | (intro _))))); (all_goals (try omega)); (all_goals (try exact Nat.le_of_ble_eq_true rfl)); (all_goals (try ((conv => whnf); (first | (refine hW.2.1 _ _ ?_) | (change X _ _ _ _ _ _) | (change C _ _ _ _ _ _ _))))); (all_goals (try simp only [xup_at, xup_ne, xup_up, ne_eq, Nat.reduceEqDiff, not_false_eq_true, Int.toNat_natCast, x_lcmp] at *)); (all_goals (try omega)))
  all_goals exact h
set_option maxRecDepth 100000 in
theorem c_bestAt {M : xM} {Q : Option xV → xM → Prop} {i : Int} (h : (xrg i ∧ 0 ≤ M 45 4 ∧ M 45 4 ≤ 6) ∧ (0 ≤ i → i < M 45 4 → Q (some (xI (M 61 i.toNat))) M) ∧ (i < 0 ∨ M 45 4 ≤ i → Q (some (xI (-1))) M)) : xm 1 m_Hills_bestAt [xR (some 45), xI i] M Q := by
  obtain ⟨h1, h2, h3⟩ := h
  (refine xm_of (own := "DrumTongue$Hills") rfl (by decide +kernel) tk_Hills [some (xR (some 45)), some (xI i)] (Nat.le_of_ble_eq_true rfl) rfl ?_; intro D nx X C P hW)
  refine xg hW k_Hills_bestAt [] 40 ?_
  ((repeat' (first | (with_reducible refine And.intro ?_ ?_) | (intro h0; exact absurd h0 (by decide)) | (intro _) | ((conv => whnf); (first | (with_reducible refine And.intro ?_ ?_) | (intro h0; exact absurd h0 (by decide)) | (intro _))))); (all_goals (try omega)); (all_goals (try exact Nat.le_of_ble_eq_true rfl)); (all_goals (try ((conv => whnf); (first | (refine hW.2.1 _ _ ?_) | (change X _ _ _ _ _ _) | (change C _ _ _ _ _ _ _))))); (all_goals (try simp only [xup_at, xup_ne, xup_up, ne_eq, Nat.reduceEqDiff, not_false_eq_true, Int.toNat_natCast, x_lcmp] at *)); (all_goals (try omega)))
  all_goals first | exact h2 (by omega) (by omega) | exact h3 (by omega)
set_option maxRecDepth 100000 in
theorem c_enoughSum {M : xM} {Q : Option xV → xM → Prop} (h : Q (some (xI (M 45 9))) M) : xm 1 m_Hills_enoughSum [xR (some 45)] M Q := by
  (refine xm_of (own := "DrumTongue$Hills") rfl (by decide +kernel) tk_Hills [some (xR (some 45))] (Nat.le_of_ble_eq_true rfl) rfl ?_; intro D nx X C P hW)
  refine xg hW k_Hills_enoughSum [] 40 ?_
  ((repeat' (first | (with_reducible refine And.intro ?_ ?_) | (intro h0; exact absurd h0 (by decide)) | (intro _) | ((conv => whnf); (first | (with_reducible refine And.intro ?_ ?_) | (intro h0; exact absurd h0 (by decide)) | (intro _))))); (all_goals (try omega)); (all_goals (try exact Nat.le_of_ble_eq_true rfl)); (all_goals (try ((conv => whnf); (first | (refine hW.2.1 _ _ ?_) | (change X _ _ _ _ _ _) | (change C _ _ _ _ _ _ _))))); (all_goals (try simp only [xup_at, xup_ne, xup_up, ne_eq, Nat.reduceEqDiff, not_false_eq_true, Int.toNat_natCast, x_lcmp] at *)); (all_goals (try omega)))
  all_goals exact h
set_option maxRecDepth 100000 in
theorem c_enoughAt {M : xM} {Q : Option xV → xM → Prop} {i : Int} (h : (xrg i ∧ 0 ≤ M 45 4 ∧ M 45 4 ≤ 6) ∧ (0 ≤ i → i < M 45 4 - 1 → Q (some (xI (M 63 i.toNat))) M) ∧ (i < 0 ∨ M 45 4 - 1 ≤ i → Q (some (xI (-1))) M)) : xm 1 m_Hills_enoughAt [xR (some 45), xI i] M Q := by
  obtain ⟨h1, h2, h3⟩ := h
  (refine xm_of (own := "DrumTongue$Hills") rfl (by decide +kernel) tk_Hills [some (xR (some 45)), some (xI i)] (Nat.le_of_ble_eq_true rfl) rfl ?_; intro D nx X C P hW)
  refine xg hW k_Hills_enoughAt [] 40 ?_
  ((repeat' (first | (with_reducible refine And.intro ?_ ?_) | (intro h0; exact absurd h0 (by decide)) | (intro _) | ((conv => whnf); (first | (with_reducible refine And.intro ?_ ?_) | (intro h0; exact absurd h0 (by decide)) | (intro _))))); (all_goals (try omega)); (all_goals (try exact Nat.le_of_ble_eq_true rfl)); (all_goals (try ((conv => whnf); (first | (refine hW.2.1 _ _ ?_) | (change X _ _ _ _ _ _) | (change C _ _ _ _ _ _ _))))); (all_goals (try simp only [xup_at, xup_ne, xup_up, ne_eq, Nat.reduceEqDiff, not_false_eq_true, Int.toNat_natCast, x_lcmp] at *)); (all_goals (try omega)))
  all_goals first | exact h2 (by omega) (by omega) | exact h3 (by omega)
end
section
/-! how often each step is drummed -/
def msd (th t : Int) : Nat → Int
  | 0 => 1
  | k + 1 => msd th t k * (if (k : Int) < t then 1000 - th else 1000)
/-- by how many of 1000000000 a step is heard -/
def hby (th t : Int) : Int := 1000000000 - msd th t 3
theorem msd_rg {th t : Int} (h : 0 ≤ th ∧ th ≤ 1000) : (0 ≤ msd th t 1 ∧ msd th t 1 ≤ 1000) ∧ (0 ≤ msd th t 2 ∧ msd th t 2 ≤ 1000000) ∧ 0 ≤ msd th t 3 ∧ msd th t 3 ≤ 1000000000 := by
  have st : ∀ (a b : Int) (k : Nat), 0 ≤ a → a ≤ b → 0 ≤ a * (if (k : Int) < t then 1000 - th else 1000) ∧ a * (if (k : Int) < t then 1000 - th else 1000) ≤ b * 1000 := by
    intro a b k h1 h2
    have h3 : 0 ≤ (if (k : Int) < t then 1000 - th else 1000) ∧ (if (k : Int) < t then 1000 - th else 1000) ≤ 1000 := by split <;> omega
    refine ⟨Int.mul_nonneg h1 h3.1, ?_⟩
    exact Int.mul_le_mul h2 h3.2 h3.1 (by omega)
  have a1 := st 1 1 0 (by decide) (by decide)
  have e1 : msd th t 1 = 1 * (if ((0 : Nat) : Int) < t then 1000 - th else 1000) := rfl
  rw [← e1] at a1
  have a2 := st (msd th t 1) 1000 1 a1.1 a1.2
  have e2 : msd th t 2 = msd th t 1 * (if ((1 : Nat) : Int) < t then 1000 - th else 1000) := rfl
  rw [← e2] at a2
  have a3 := st (msd th t 2) 1000000 2 a2.1 (by omega)
  have e3 : msd th t 3 = msd th t 2 * (if ((2 : Nat) : Int) < t then 1000 - th else 1000) := rfl
  rw [← e3] at a3
  omega
theorem hby_rg {th t : Int} (h : 0 ≤ th ∧ th ≤ 1000) : 0 ≤ hby th t ∧ hby th t ≤ 1000000000 := by
  have := msd_rg (t := t) h
  unfold hby
  omega
theorem its_rg {its g : Int} (h : 0 ≤ its ∧ its ≤ 1000000000) (hg : 0 ≤ g ∧ g ≤ 1000000000) : 0 ≤ its * g ∧ its * g ≤ 1000000000000000000 ∧ 0 ≤ (its * g).tdiv 1000000000 ∧ (its * g).tdiv 1000000000 ≤ its := by
  have h1 := Int.mul_nonneg h.1 hg.1
  have h2 : its * g ≤ its * 1000000000 := Int.mul_le_mul_of_nonneg_left hg.2 h.1
  rw [Int.tdiv_eq_ediv_of_nonneg h1]
  omega
/-- the least sum (0: none), its times -/
abbrev xE2 : Type := Int × (Nat → Int)
def eRec (th : Nat → Int) (c : Int) : Nat → Nat → (Nat → Int) → Int → Int → xE2 → xE2
  | 0, _, row, sum, its, E => if c ≤ its ∧ (E.1 = 0 ∨ sum < E.1) then (sum, row) else E
  | f + 1, k, row, sum, its, E => eRec th c f (k + 1) (xup row k 3) (sum + 3) ((its * hby (th k) 3).tdiv 1000000000) (eRec th c f (k + 1) (xup row k 2) (sum + 2) ((its * hby (th k) 2).tdiv 1000000000) (eRec th c f (k + 1) (xup row k 1) (sum + 1) ((its * hby (th k) 1).tdiv 1000000000) E))
theorem eRec_low {th : Nat → Int} {c : Int} (hth : ∀ k, 0 ≤ th k ∧ th k ≤ 1000) : ∀ (f k : Nat) (row : Nat → Int) (sum its : Int) (E : xE2), 0 ≤ its ∧ its ≤ 1000000000 → its < c → eRec th c f k row sum its E = E
  | 0, _, _, _, _, _, _, h => by rw [eRec, if_neg (by omega)]
  | f + 1, k, row, sum, its, E, h0, h => by
    have a1 := its_rg h0 (hby_rg (t := 1) (hth k))
    have a2 := its_rg h0 (hby_rg (t := 2) (hth k))
    have a3 := its_rg h0 (hby_rg (t := 3) (hth k))
    rw [eRec, eRec_low hth f _ _ _ _ E ⟨by omega, by omega⟩ (by omega), eRec_low hth f _ _ _ _ E ⟨by omega, by omega⟩ (by omega), eRec_low hth f _ _ _ _ E ⟨by omega, by omega⟩ (by omega)]
theorem eRec_high {th : Nat → Int} {c : Int} : ∀ (f k : Nat) (row : Nat → Int) (sum its : Int) (E : xE2), 0 < E.1 → E.1 ≤ sum → eRec th c f k row sum its E = E
  | 0, _, _, _, _, _, h1, h2 => by rw [eRec, if_neg (by omega)]
  | f + 1, k, row, sum, its, E, h1, h2 => by
    rw [eRec, eRec_high f _ _ _ _ E h1 (by omega), eRec_high f _ _ _ _ E h1 (by omega), eRec_high f _ _ _ _ E h1 (by omega)]
def eOk2 (E : xE2) : Prop := 0 ≤ E.1 ∧ E.1 ≤ 100
theorem eRec_ok {th : Nat → Int} {c : Int} : ∀ (f k : Nat) (row : Nat → Int) (sum its : Int) (E : xE2), 0 ≤ sum → sum + 3 * f ≤ 100 → eOk2 E → eOk2 (eRec th c f k row sum its E)
  | 0, _, _, _, _, _, h1, h2, h => by
    rw [eRec]
    split
    · exact ⟨h1, by simp only; omega⟩
    · exact h
  | f + 1, k, row, sum, its, E, h1, h2, h => by
    rw [eRec]
    exact eRec_ok f _ _ _ _ _ (by omega) (by omega) (eRec_ok f _ _ _ _ _ (by omega) (by omega) (eRec_ok f _ _ _ _ _ (by omega) (by omega) h))
set_option maxRecDepth 100000 in
theorem c_heardBy {M : xM} {Q : Option xV → xM → Prop} {th t : Int} (h : ((0 ≤ th ∧ th ≤ 1000) ∧ 1 ≤ t ∧ t ≤ 3) ∧ Q (some (xJ (hby th t))) M) : xm 1 m_Hills_heardBy [xI th, xI t] M Q := by
  obtain ⟨⟨h1, h2, h3⟩, h4⟩ := h
  (refine xm_of (own := "DrumTongue$Hills") rfl (by decide +kernel) tk_Hills [some (xI th), some (xI t), none, none, none] (Nat.le_of_ble_eq_true rfl) rfl ?_; intro D nx X C P hW)
  have loop : ∀ (m k : Nat), k + m = 3 → X 5 [some (xI th), some (xI t), some (xJ (msd th t k)), none, some (xI (k : Int))] [] (M, D, nx) 0 0 := by
    intro m
    induction m with
    | zero =>
      intro k hk
      obtain rfl : k = 3 := by omega
      refine xg hW k_Hills_heardBy [5] 40 ?_
      ((repeat' (first | (with_reducible refine And.intro ?_ ?_) | (intro h0; exact absurd h0 (by decide)) | (intro _) | ((conv => whnf); (first | (with_reducible refine And.intro ?_ ?_) | (intro h0; exact absurd h0 (by decide)) | (intro _))))); (all_goals (try omega)); (all_goals (try exact Nat.le_of_ble_eq_true rfl)); (all_goals (try ((conv => whnf); (first | (refine hW.2.1 _ _ ?_) | (change X _ _ _ _ _ _) | (change C _ _ _ _ _ _ _))))); (all_goals (try simp only [xup_at, xup_ne, xup_up, ne_eq, Nat.reduceEqDiff, not_false_eq_true, Int.toNat_natCast, x_lcmp] at *)); (all_goals (try omega)))
      exact h4
    | succ m ih =>
      intro k hk
      have h5 := ih (k + 1) (by omega)
      rw [msd] at h5
      refine xg hW k_Hills_heardBy [5] 40 ?_
      ((repeat' (first | (with_reducible refine And.intro ?_ ?_) | (intro h0; exact absurd h0 (by decide)) | (intro _) | ((conv => whnf); (first | (with_reducible refine And.intro ?_ ?_) | (intro h0; exact absurd h0 (by decide)) | (intro _))))); (all_goals (try omega)); (all_goals (try exact Nat.le_of_ble_eq_true rfl)); (all_goals (try ((conv => whnf); (first | (refine hW.2.1 _ _ ?_) | (change X _ _ _ _ _ _) | (change C _ _ _ _ _ _ _))))); (all_goals (try simp only [xup_at, xup_ne, xup_up, ne_eq, Nat.reduceEqDiff, not_false_eq_true, Int.toNat_natCast, x_lcmp] at *)); (all_goals (try omega)))
      · rw [if_neg (by omega)] at h5
        exact h5
      · rw [if_pos (by assumption)] at h5
        exact h5
  refine xg hW k_Hills_heardBy [5] 40 ?_
  ((repeat' (first | (with_reducible refine And.intro ?_ ?_) | (intro h0; exact absurd h0 (by decide)) | (intro _) | ((conv => whnf); (first | (with_reducible refine And.intro ?_ ?_) | (intro h0; exact absurd h0 (by decide)) | (intro _))))); (all_goals (try omega)); (all_goals (try exact Nat.le_of_ble_eq_true rfl)); (all_goals (try ((conv => whnf); (first | (refine hW.2.1 _ _ ?_) | (change X _ _ _ _ _ _) | (change C _ _ _ _ _ _ _))))); (all_goals (try simp only [xup_at, xup_ne, xup_up, ne_eq, Nat.reduceEqDiff, not_false_eq_true, Int.toNat_natCast, x_lcmp] at *)); (all_goals (try omega)))
  exact loop 3 0 rfl
set_option maxRecDepth 100000 in
theorem c_chanceBetween {M : xM} {Q : Option xV → xM → Prop} {s d : Nat} (hh : hillOk M) (hs : s < 6) (hd : d < 6) (h : Q (some (xI (if s = d then 0 else cM M s d))) M) : xm 4 m_Hills_chanceBetween [xR (some 45), xI s, xI d] M Q := by
  have t1 : xT0 (47 + (s : Int).toNat) = some (.inr (0, 6, none)) := xT0_c s hs
  have hc := hh s d hs hd
  (refine xm_of (own := "DrumTongue$Hills") rfl (by decide +kernel) tk_Hills [some (xR (some 45)), some (xI (s : Int)), some (xI (d : Int))] (Nat.le_of_ble_eq_true rfl) rfl ?_; intro D nx X C P hW)
  refine xg hW k_Hills_chanceBetween [] 40 ?_
  ((repeat' (first | (with_reducible refine And.intro ?_ ?_) | (intro h0; exact absurd h0 (by decide)) | (intro _) | ((conv => whnf); (first | (with_reducible refine And.intro ?_ ?_) | (intro h0; exact absurd h0 (by decide)) | (intro _) | (rw [t1]) | (refine hW.1 _ _ _ _ _ _ (c_arePair ?_) (by first | decide | omega) (by decide) (Nat.le_of_ble_eq_true rfl)))))); (all_goals (try omega)); (all_goals (try exact Nat.le_of_ble_eq_true rfl)); (all_goals (try ((conv => whnf); (first | (refine hW.2.1 _ _ ?_) | (change X _ _ _ _ _ _) | (change C _ _ _ _ _ _ _))))); (all_goals (try simp only [xup_at, xup_ne, xup_up, ne_eq, Nat.reduceEqDiff, not_false_eq_true, Int.toNat_natCast, x_lcmp] at *)); (all_goals (try omega)))
  · rename_i q _
    have hne : ¬ s = d := fun e => q.2.2.2.2 (by rw [e])
    rw [if_neg hne] at h
    exact h
  · rename_i q _
    have he : s = d := by
      unfold isPair at q
      omega
    rw [if_pos he] at h
    exact h
/-- the search of times: so many steps ns, of the best way p -/
def tmFr (M0 M : xM) : Prop := (∀ a, a ≠ 45 → a ≠ 62 → a ≠ 63 → M a = M0 a) ∧ ∀ k, k ≠ 9 → M 45 k = M0 45 k
def tmAt (M0 : xM) (ns k : Nat) (row : Nat → Int) (E : xE2) (M : xM) : Prop := tmFr M0 M ∧ M 45 9 = E.1 ∧ (∀ j, j < ns → M 63 j = E.2 j) ∧ ∀ j, j < k → M 62 j = row j
/-- the steps' thousandths -/
def thS (c : Nat → Nat → Int) (p : Nat → Nat) (ns k : Nat) : Int := if k < ns then (if p k = p (k + 1) then 0 else c (p k) (p (k + 1))) else 0
theorem thS_rg {c h : Nat → Nat → Int} {p : Nat → Nat} {ns : Nat} (hc : chOk c h) (hp : ∀ i, i ≤ ns → p i < 6) (k : Nat) : 0 ≤ thS c p ns k ∧ thS c p ns k ≤ 1000 := by
  unfold thS
  split
  · split
    · omega
    · exact (hc _ _ (hp k (by omega)) (hp (k + 1) (by omega))).1
  · omega
theorem tmAt_keep {M0 M : xM} {ns k : Nat} {row : Nat → Int} {E : xE2} {sum : Int} (hns : ns ≤ 5) (hk : k = ns) (h : tmAt M0 ns k row E M) : tmAt M0 ns k row (sum, row) (xup (xup M 45 (xup (M 45) 9 sum)) 63 (va_cpy (M 62) (M 63) (Int.toNat 0) (Int.toNat 0) (Int.toNat 6))) := by
  obtain ⟨h1, h2, h3, h4⟩ := h
  refine ⟨⟨fun a a1 a2 a3 => ?_, fun k k1 => ?_⟩, ?_, fun j hj => ?_, fun j hj => ?_⟩
  · rw [xup_ne a3, xup_ne a1]; exact h1.1 a a1 a2 a3
  · rw [xup_ne (by decide), xup_at, xup_ne k1]; exact h1.2 k k1
  · simp only [xup_at, xup_ne, xup_up, ne_eq, Nat.reduceEqDiff, not_false_eq_true, Int.toNat_natCast, x_lcmp]
  · rw [xup_at]
    unfold va_cpy
    rw [if_pos ⟨Nat.zero_le _, by show j < 0 + 6; omega⟩]
    show M 62 (0 + (j - 0)) = _
    rw [Nat.zero_add, Nat.sub_zero]
    exact h4 j (by omega)
  · rw [xup_ne (by decide), xup_ne (by decide)]
    exact h4 j hj
theorem tmAt_try {M0 M : xM} {ns k : Nat} {row : Nat → Int} {E : xE2} {t : Int} (h : tmAt M0 ns k row E M) : tmAt M0 ns (k + 1) (xup row k t) E (xup M 62 (xup (M 62) k t)) := by
  obtain ⟨h1, h2, h3, h4⟩ := h
  refine ⟨⟨fun a a1 a2 a3 => ?_, fun k k1 => ?_⟩, ?_, fun j hj => ?_, fun j hj => ?_⟩
  · rw [xup_ne a2]; exact h1.1 a a1 a2 a3
  · rw [xup_ne (by decide)]; exact h1.2 k k1
  · rw [xup_ne (by decide)]; exact h2
  · rw [xup_ne (by decide)]; exact h3 j hj
  · rw [xup_at]
    by_cases q : j = k
    · rw [q, xup_at, xup_at]
    · rw [xup_ne q, xup_ne q]; exact h4 j (by omega)
theorem tmAt_back {M0 M : xM} {ns k : Nat} {row : Nat → Int} {E : xE2} {t : Int} (h : tmAt M0 ns (k + 1) (xup row k t) E M) : tmAt M0 ns k row E M := by
  obtain ⟨h1, h2, h3, h4⟩ := h
  refine ⟨h1, h2, h3, fun j hj => ?_⟩
  rw [h4 j (by omega), xup_ne (by omega)]
set_option maxRecDepth 100000 in
set_option maxHeartbeats 4000000 in
theorem c_tryTimes {M0 : xM} (hh : hillOk M0) {ns : Nat} {p : Nat → Nat} {c : Int} (hns : 1 ≤ ns ∧ ns ≤ 5) (h4 : M0 45 4 = (ns : Int) + 1) (hp : ∀ i, i ≤ ns → M0 61 i = p i ∧ p i < 6) (hc : 1 ≤ c ∧ c ≤ 1000000000) : ∀ (f : Nat) {k : Nat} {row : Nat → Int} {sum its : Int} {E : xE2} {M : xM} {Q : Option xV → xM → Prop}, k + f = ns → 0 ≤ its ∧ its ≤ 1000000000 → 0 ≤ sum ∧ sum ≤ 3 * k → (k = ns → 1 ≤ sum) → eOk2 E → tmAt M0 ns k row E M → (∀ M', tmAt M0 ns k row (eRec (thS (cM M0) p ns) c f k row sum its E) M' → Q none M') → xm (5 + f) m_Hills_tryTimes [xR (some 45), xI k, xI sum, xJ its, xI c] M Q := by
  have hth := thS_rg (p := p) (ns := ns) hh.ch fun i hi => (hp i hi).2
  intro f
  induction f with
  | zero =>
    intro k row sum its E M Q hk hi hs hs1 hE hA hq
    have e9 : M 45 9 = E.1 := hA.2.1
    have e4 : M 45 4 = (ns : Int) + 1 := by rw [hA.1.2 4 (by decide)]; exact h4
    obtain ⟨o1, o2⟩ := hE
    (refine xm_of (own := "DrumTongue$Hills") rfl (by decide +kernel) tk_Hills [some (xR (some 45)), some (xI (k : Int)), some (xI sum), some (xJ its), none, some (xI c), none, none] (Nat.le_of_ble_eq_true rfl) rfl ?_; intro D nx X C P hW)
    refine xg hW k_Hills_tryTimes [83] 40 ?_
    ((repeat' (first | (with_reducible refine And.intro ?_ ?_) | (intro h0; exact absurd h0 (by decide)) | (intro _) | ((conv => whnf); (first | (with_reducible refine And.intro ?_ ?_) | (intro h0; exact absurd h0 (by decide)) | (intro _))))); (all_goals (try omega)); (all_goals (try exact Nat.le_of_ble_eq_true rfl)); (all_goals (try ((conv => whnf); (first | (refine hW.2.1 _ _ ?_) | (change X _ _ _ _ _ _) | (change C _ _ _ _ _ _ _))))); (all_goals (try simp only [xup_at, xup_ne, xup_up, ne_eq, Nat.reduceEqDiff, not_false_eq_true, Int.toNat_natCast, x_lcmp] at *)); (all_goals (try omega)))
    · refine hq M ?_
      rw [eRec, if_neg (by omega)]
      exact hA
    · refine hq _ ?_
      rw [eRec, if_pos (by omega)]
      exact tmAt_keep hns.2 (by omega) hA
    · refine hq _ ?_
      rw [eRec, if_pos (by omega)]
      exact tmAt_keep hns.2 (by omega) hA
    · refine hq M ?_
      rw [eRec, if_neg (by omega)]
      exact hA
  | succ f ih =>
    intro k row sum its E M Q hk hi hs hs1 hE hA hq
    have e9 : M 45 9 = E.1 := hA.2.1
    have e4 : M 45 4 = (ns : Int) + 1 := by rw [hA.1.2 4 (by decide)]; exact h4
    obtain ⟨o1, o2⟩ := id hE
    obtain ⟨p1, p2⟩ := hp k (by omega)
    obtain ⟨p3, p4⟩ := hp (k + 1) (by omega)
    have m1 : M 61 k = p k := by rw [hA.1.1 61 (by decide) (by decide) (by decide)]; exact p1
    have m2 : M 61 ((k : Int) + 1).toNat = p (k + 1) := by rw [hA.1.1 61 (by decide) (by decide) (by decide), show ((k : Int) + 1).toNat = k + 1 by omega]; exact p3
    have hill : ∀ M' : xM, tmFr M0 M' → hillOk M' := fun M' hf f t hf6 ht6 => by
      rw [hf.1 _ (by omega) (by omega) (by omega), hf.1 _ (by omega) (by omega) (by omega)]
      exact hh f t hf6 ht6
    have hcm : (if p k = p (k + 1) then 0 else cM M (p k) (p (k + 1))) = thS (cM M0) p ns k := by
      unfold thS cM
      rw [if_pos (show k < ns by omega), hA.1.1 _ (by omega) (by omega) (by omega)]
    have r1 := its_rg hi (hby_rg (t := 1) (hth k))
    have r2 := its_rg hi (hby_rg (t := 2) (hth k))
    have r3 := its_rg hi (hby_rg (t := 3) (hth k))
    have hk2 := hth k
    have lowq : its < c → Q none M := fun q => hq M (by rw [eRec_low hth _ _ _ _ _ _ hi q]; exact hA)
    have highq : 0 < E.1 → E.1 ≤ sum → Q none M := fun q1 q2 => hq M (by rw [eRec_high _ _ _ _ _ _ q1 q2]; exact hA)
    rw [eRec] at hq
    (refine xm_of (own := "DrumTongue$Hills") rfl (by decide +kernel) tk_Hills [some (xR (some 45)), some (xI (k : Int)), some (xI sum), some (xJ its), none, some (xI c), none, none] (Nat.le_of_ble_eq_true rfl) rfl ?_; intro D nx X C P hW)
    have go : c ≤ its → ¬ (0 < E.1 ∧ E.1 ≤ sum) → X 60 [some (xR (some 45)), some (xI (k : Int)), some (xI sum), some (xJ its), none, some (xI c), none, none] [] (M, D, nx) 0 0 := by
      intro g1 g2
      refine xg hW k_Hills_tryTimes [] 40 ?_
      ((repeat' (first | (with_reducible refine And.intro ?_ ?_) | (intro h0; exact absurd h0 (by decide)) | (intro _) | ((conv => whnf); (first | (with_reducible refine And.intro ?_ ?_) | (intro h0; exact absurd h0 (by decide)) | (intro _))))); (all_goals (try omega)); (all_goals (try exact Nat.le_of_ble_eq_true rfl)); (all_goals (try ((conv => whnf); (first | (refine hW.2.1 _ _ ?_) | (change X _ _ _ _ _ _) | (change C _ _ _ _ _ _ _))))); (all_goals (try simp only [xup_at, xup_ne, xup_up, ne_eq, Nat.reduceEqDiff, not_false_eq_true, Int.toNat_natCast, x_lcmp] at *)); (all_goals (try omega)))
      rw [m1, m2]
      refine hW.1 _ _ _ _ _ _ (c_chanceBetween (hill M hA.1) p2 p4 ?_) (by omega) (by decide) (Nat.le_of_ble_eq_true rfl)
      rw [hcm]
      have hE1 : eOk2 (eRec (thS (cM M0) p ns) c f (k + 1) (xup row k 1) (sum + 1) ((its * hby (thS (cM M0) p ns k) 1).tdiv 1000000000) E) := eRec_ok f _ _ _ _ _ (by omega) (by omega) hE
      have hE2 : eOk2 (eRec (thS (cM M0) p ns) c f (k + 1) (xup row k 2) (sum + 2) ((its * hby (thS (cM M0) p ns k) 2).tdiv 1000000000) (eRec (thS (cM M0) p ns) c f (k + 1) (xup row k 1) (sum + 1) ((its * hby (thS (cM M0) p ns k) 1).tdiv 1000000000) E)) := eRec_ok f _ _ _ _ _ (by omega) (by omega) hE1
      ((repeat' (first | (with_reducible refine And.intro ?_ ?_) | (intro h0; exact absurd h0 (by decide)) | (intro _) | ((conv => whnf); (first | (with_reducible refine And.intro ?_ ?_) | (intro h0; exact absurd h0 (by decide)) | (intro _) | (refine hW.1 _ _ _ _ _ _ (c_heardBy ?_) (by first | decide | omega) (by decide) (Nat.le_of_ble_eq_true rfl)))))); (all_goals (try omega)); (all_goals (try exact Nat.le_of_ble_eq_true rfl)); (all_goals (try ((conv => whnf); (first | (refine hW.2.1 _ _ ?_) | (change X _ _ _ _ _ _) | (change C _ _ _ _ _ _ _))))); (all_goals (try simp only [xup_at, xup_ne, xup_up, ne_eq, Nat.reduceEqDiff, not_false_eq_true, Int.toNat_natCast, x_lcmp] at *)); (all_goals (try omega)))
      refine hW.1 _ _ _ _ _ _ (ih (k := k + 1) (row := xup row k 1) (by omega) ⟨r1.2.2.1, by omega⟩ ⟨by omega, by omega⟩ (fun _ => by omega) hE (tmAt_try hA) (fun M1 hA1 => ?_)) (by omega) (by decide) (Nat.le_of_ble_eq_true rfl)
      replace hA1 := tmAt_back hA1
      ((repeat' (first | (with_reducible refine And.intro ?_ ?_) | (intro h0; exact absurd h0 (by decide)) | (intro _) | ((conv => whnf); (first | (with_reducible refine And.intro ?_ ?_) | (intro h0; exact absurd h0 (by decide)) | (intro _) | (refine hW.1 _ _ _ _ _ _ (c_heardBy ?_) (by first | decide | omega) (by decide) (Nat.le_of_ble_eq_true rfl)))))); (all_goals (try omega)); (all_goals (try exact Nat.le_of_ble_eq_true rfl)); (all_goals (try ((conv => whnf); (first | (refine hW.2.1 _ _ ?_) | (change X _ _ _ _ _ _) | (change C _ _ _ _ _ _ _))))); (all_goals (try simp only [xup_at, xup_ne, xup_up, ne_eq, Nat.reduceEqDiff, not_false_eq_true, Int.toNat_natCast, x_lcmp] at *)); (all_goals (try omega)))
      all_goals (try simp only [Int.reduceAdd])
      all_goals (try omega)
      refine hW.1 _ _ _ _ _ _ (ih (k := k + 1) (row := xup row k 2) (by omega) ⟨r2.2.2.1, by omega⟩ ⟨by omega, by omega⟩ (fun _ => by omega) hE1 (tmAt_try hA1) (fun M2 hA2 => ?_)) (by omega) (by decide) (Nat.le_of_ble_eq_true rfl)
      replace hA2 := tmAt_back hA2
      ((repeat' (first | (with_reducible refine And.intro ?_ ?_) | (intro h0; exact absurd h0 (by decide)) | (intro _) | ((conv => whnf); (first | (with_reducible refine And.intro ?_ ?_) | (intro h0; exact absurd h0 (by decide)) | (intro _) | (refine hW.1 _ _ _ _ _ _ (c_heardBy ?_) (by first | decide | omega) (by decide) (Nat.le_of_ble_eq_true rfl)))))); (all_goals (try omega)); (all_goals (try exact Nat.le_of_ble_eq_true rfl)); (all_goals (try ((conv => whnf); (first | (refine hW.2.1 _ _ ?_) | (change X _ _ _ _ _ _) | (change C _ _ _ _ _ _ _))))); (all_goals (try simp only [xup_at, xup_ne, xup_up, ne_eq, Nat.reduceEqDiff, not_false_eq_true, Int.toNat_natCast, x_lcmp] at *)); (all_goals (try omega)))
      all_goals (try simp only [Int.reduceAdd])
      all_goals (try omega)
      refine hW.1 _ _ _ _ _ _ (ih (k := k + 1) (row := xup row k 3) (by omega) ⟨r3.2.2.1, by omega⟩ ⟨by omega, by omega⟩ (fun _ => by omega) hE2 (tmAt_try hA2) (fun M3 hA3 => ?_)) (by omega) (by decide) (Nat.le_of_ble_eq_true rfl)
      replace hA3 := tmAt_back hA3
      ((repeat' (first | (with_reducible refine And.intro ?_ ?_) | (intro h0; exact absurd h0 (by decide)) | (intro _) | ((conv => whnf); (first | (with_reducible refine And.intro ?_ ?_) | (intro h0; exact absurd h0 (by decide)) | (intro _))))); (all_goals (try omega)); (all_goals (try exact Nat.le_of_ble_eq_true rfl)); (all_goals (try ((conv => whnf); (first | (refine hW.2.1 _ _ ?_) | (change X _ _ _ _ _ _) | (change C _ _ _ _ _ _ _))))); (all_goals (try simp only [xup_at, xup_ne, xup_up, ne_eq, Nat.reduceEqDiff, not_false_eq_true, Int.toNat_natCast, x_lcmp] at *)); (all_goals (try omega)))
      exact hq M3 hA3
    refine xg hW k_Hills_tryTimes [60] 40 ?_
    ((repeat' (first | (with_reducible refine And.intro ?_ ?_) | (intro h0; exact absurd h0 (by decide)) | (intro _) | ((conv => whnf); (first | (with_reducible refine And.intro ?_ ?_) | (intro h0; exact absurd h0 (by decide)) | (intro _))))); (all_goals (try omega)); (all_goals (try exact Nat.le_of_ble_eq_true rfl)); (all_goals (try ((conv => whnf); (first | (refine hW.2.1 _ _ ?_) | (change X _ _ _ _ _ _) | (change C _ _ _ _ _ _ _))))); (all_goals (try simp only [xup_at, xup_ne, xup_up, ne_eq, Nat.reduceEqDiff, not_false_eq_true, Int.toNat_natCast, x_lcmp] at *)); (all_goals (try omega)))
    · exact lowq (by omega)
    · exact go (by omega) (by omega)
    · exact go (by omega) (by omega)
    · exact highq (by omega) (by omega)
theorem thS_congr {c c' : Nat → Nat → Int} {p : Nat → Nat} {ns : Nat} (h : ∀ f t, f < 6 → c f t = c' f t) (hp : ∀ i, i ≤ ns → p i < 6) : thS c p ns = thS c' p ns := by
  funext k
  unfold thS
  split
  · rw [h _ _ (hp k (by omega))]
  · rfl
def eEq (a b : xE2) : Prop := a.1 = b.1 ∧ (a.1 = 0 ∨ a.2 = b.2)
theorem eRec_eq {th : Nat → Int} {c : Int} : ∀ (f k : Nat) (row : Nat → Int) (sum its : Int) (x y : xE2), eEq x y → eEq (eRec th c f k row sum its x) (eRec th c f k row sum its y)
  | 0, k, row, sum, its, x, y, e => by
    rw [eRec, eRec, ← e.1]
    split
    · exact ⟨rfl, Or.inr rfl⟩
    · exact e
  | f + 1, k, row, sum, its, x, y, e => by
    rw [eRec, eRec]
    exact eRec_eq f _ _ _ _ _ _ (eRec_eq f _ _ _ _ _ _ (eRec_eq f _ _ _ _ _ _ e))
/-- ENOUGH: the least sum (0: none), the times -/
def enR (c h : Nat → Nat → Int) (s d : Nat) (cc : Int) : xE2 := eRec (thS c (hBest c h s d).2.2.2 ((hBest c h s d).2.2.1 - 1)) cc ((hBest c h s d).2.2.1 - 1) 0 (fun _ => 0) 0 1000000000 (0, fun _ => 0)
/-- the hills' scratch may differ, nothing else -/
def hlFr (M M' : xM) : Prop := ∀ a, a ≠ 45 → (a < 60 ∨ 63 < a) → M' a = M a
set_option maxRecDepth 100000 in
set_option maxHeartbeats 4000000 in
theorem c_findEnough {M : xM} {Q : Option xV → xM → Prop} {s d : Nat} {c : Int} (hh0 : hillOk M) (hs : s < 6) (hd : d < 6) (hsd : s ≠ d) (hc : 1 ≤ c ∧ c ≤ 1000000000) (h1 : ∀ M', hlFr M M' → (hBest (cM M) (hM M) s d).1 = 0 ∨ (enR (cM M) (hM M) s d c).1 = 0 → Q (some (xI 0)) M') (h2 : ∀ M', hlFr M M' → 0 < (hBest (cM M) (hM M) s d).1 → 0 < (enR (cM M) (hM M) s d c).1 → M' 45 4 = (hBest (cM M) (hM M) s d).2.2.1 → M' 45 9 = (enR (cM M) (hM M) s d c).1 → (∀ j, j < (hBest (cM M) (hM M) s d).2.2.1 - 1 → M' 63 j = (enR (cM M) (hM M) s d c).2 j) → Q (some (xI 1)) M') : xm 14 m_Hills_findEnough [xR (some 45), xI s, xI d, xI c] M Q := by
  (refine xm_of (own := "DrumTongue$Hills") rfl (by decide +kernel) tk_Hills [some (xR (some 45)), some (xI (s : Int)), some (xI (d : Int)), some (xI c)] (Nat.le_of_ble_eq_true rfl) rfl ?_; intro D nx X C P hW)
  refine xg hW k_Hills_findEnough [] 40 ?_
  ((repeat' (first | (with_reducible refine And.intro ?_ ?_) | (intro h0; exact absurd h0 (by decide)) | (intro _) | ((conv => whnf); (first | (with_reducible refine And.intro ?_ ?_) | (intro h0; exact absurd h0 (by decide)) | (intro _))))); (all_goals (try omega)); (all_goals (try exact Nat.le_of_ble_eq_true rfl)); (all_goals (try ((conv => whnf); (first | (refine hW.2.1 _ _ ?_) | (change X _ _ _ _ _ _) | (change C _ _ _ _ _ _ _))))); (all_goals (try simp only [xup_at, xup_ne, xup_up, ne_eq, Nat.reduceEqDiff, not_false_eq_true, Int.toNat_natCast, x_lcmp] at *)); (all_goals (try omega)))
  have e1 : ∀ a, a ≠ 45 → (xup M 45 (xup (M 45) 9 0)) a = M a := fun a ha => xup_ne ha
  have e45 : ∀ k, k ≠ 9 → (xup M 45 (xup (M 45) 9 0)) 45 k = M 45 k := fun k hk => by rw [xup_at, xup_ne hk]
  have ec : cM (xup M 45 (xup (M 45) 9 0)) = cM M := by funext f t; unfold cM; exact congrFun (e1 (47 + f) (by omega)) t
  have eh : hM (xup M 45 (xup (M 45) 9 0)) = hM M := by funext f t; unfold hM; exact congrFun (e1 (54 + f) (by omega)) t
  have hh1 : hillOk (xup M 45 (xup (M 45) 9 0)) := fun f t hf ht => by rw [e1 _ (by omega), e1 _ (by omega)]; exact hh0 f t hf ht
  have e9 : (xup M 45 (xup (M 45) 9 0)) 45 9 = 0 := by rw [xup_at, xup_at]
  generalize xup M 45 (xup (M 45) 9 0) = M1 at *
  have hok := hBest_ok (s := s) (d := d) hh0.ch hs
  have h1' := h1
  refine hW.1 _ _ _ _ _ _ (c_findBest hh1 hs hd hsd (fun M2 hA hpos => ?_) (fun M2 hA hz => ?_)) (by omega) (by decide) (Nat.le_of_ble_eq_true rfl)
  · rw [ec, eh] at hA hpos
    obtain ⟨o1, o2, o3, o4, o5, o6⟩ := hok
    obtain ⟨u1, u2, u3⟩ := o5 hpos
    obtain ⟨ns, hns⟩ : ∃ ns, (hBest (cM M) (hM M) s d).2.2.1 = ns + 1 := ⟨(hBest (cM M) (hM M) s d).2.2.1 - 1, by omega⟩
    have hh2 : hillOk M2 := fun f t hf ht => by
      rw [hA.1.1 _ (by omega) (by omega) (by omega), hA.1.1 _ (by omega) (by omega) (by omega)]
      exact hh1 f t hf ht
    have p6 : ∀ k, k ≤ ns → (hBest (cM M) (hM M) s d).2.2.2 k < 6 := fun k hk => u3 k (by omega)
    have hp : ∀ i, i ≤ ns → M2 61 i = (hBest (cM M) (hM M) s d).2.2.2 i ∧ (hBest (cM M) (hM M) s d).2.2.2 i < 6 := fun i hi => ⟨hA.2.2.2.2.1 i (by omega), p6 i hi⟩
    have hcc : thS (cM M2) (hBest (cM M) (hM M) s d).2.2.2 ns = thS (cM M) (hBest (cM M) (hM M) s d).2.2.2 ns := thS_congr (fun f t hf => by
      unfold cM
      rw [hA.1.1 _ (by omega) (by omega) (by omega), e1 _ (by omega)]) p6
    have hA2 : tmAt M2 ns 0 (fun _ => 0) (0, M2 63) M2 := ⟨⟨fun _ _ _ _ => rfl, fun _ _ => rfl⟩, by rw [hA.1.2 9 (by decide) (by decide) (by decide)]; exact e9, fun _ _ => rfl, fun j hj => absurd hj (Nat.not_lt_zero j)⟩
    have hen : eEq (eRec (thS (cM M) (hBest (cM M) (hM M) s d).2.2.2 ns) c ns 0 (fun _ => 0) 0 1000000000 (0, M2 63)) (enR (cM M) (hM M) s d c) := by
      unfold enR
      rw [hns, Nat.add_sub_cancel]
      exact eRec_eq _ _ _ _ _ _ _ ⟨rfl, Or.inl rfl⟩
    have hrg : eOk2 (eRec (thS (cM M) (hBest (cM M) (hM M) s d).2.2.2 ns) c ns 0 (fun _ => 0) 0 1000000000 (0, M2 63)) := eRec_ok _ _ _ _ _ _ (by omega) (by omega) ⟨by simp only; omega, by simp only; omega⟩
    have f4 : M2 45 4 = (ns : Int) + 1 := by rw [hA.2.2.2.1, hns]; rfl
    ((repeat' (first | (with_reducible refine And.intro ?_ ?_) | (intro h0; exact absurd h0 (by decide)) | (intro _) | ((conv => whnf); (first | (with_reducible refine And.intro ?_ ?_) | (intro h0; exact absurd h0 (by decide)) | (intro _))))); (all_goals (try omega)); (all_goals (try exact Nat.le_of_ble_eq_true rfl)); (all_goals (try ((conv => whnf); (first | (refine hW.2.1 _ _ ?_) | (change X _ _ _ _ _ _) | (change C _ _ _ _ _ _ _))))); (all_goals (try simp only [xup_at, xup_ne, xup_up, ne_eq, Nat.reduceEqDiff, not_false_eq_true, Int.toNat_natCast, x_lcmp] at *)); (all_goals (try omega)))
    refine hW.1 _ _ _ _ _ _ (c_tryTimes hh2 (ns := ns) ⟨by omega, by omega⟩ f4 hp hc ns (k := 0) (row := fun _ => 0) (by omega) ⟨by decide, by decide⟩ ⟨by decide, by omega⟩ (fun q => by omega) ⟨by simp only; omega, by simp only; omega⟩ hA2 (fun M3 hA3 => ?_)) (by omega) (by decide) (Nat.le_of_ble_eq_true rfl)
    rw [hcc] at hA3
    have g9 := hA3.2.1
    have hfr : hlFr M M3 := fun a a1 a2 => by rw [hA3.1.1 a a1 (by omega) (by omega), hA.1.1 a a1 (by omega) (by omega), e1 a a1]
    obtain ⟨x1, x2⟩ := hrg
    rw [hen.1] at g9 x1 x2
    ((repeat' (first | (with_reducible refine And.intro ?_ ?_) | (intro h0; exact absurd h0 (by decide)) | (intro _) | ((conv => whnf); (first | (with_reducible refine And.intro ?_ ?_) | (intro h0; exact absurd h0 (by decide)) | (intro _))))); (all_goals (try omega)); (all_goals (try exact Nat.le_of_ble_eq_true rfl)); (all_goals (try ((conv => whnf); (first | (refine hW.2.1 _ _ ?_) | (change X _ _ _ _ _ _) | (change C _ _ _ _ _ _ _))))); (all_goals (try simp only [xup_at, xup_ne, xup_up, ne_eq, Nat.reduceEqDiff, not_false_eq_true, Int.toNat_natCast, x_lcmp] at *)); (all_goals (try omega)))
    · exact h1 M3 hfr (Or.inr (by omega))
    · refine h2 M3 hfr hpos (by omega) ?_ g9 (fun j hj => ?_)
      · rw [hA3.1.2 4 (by decide), hA.2.2.2.1]
      · rw [hA3.2.2.1 j (by omega)]
        rcases hen.2 with z | z
        · have := hen.1
          omega
        · rw [z]
  · rw [ec, eh] at hA hz
    ((repeat' (first | (with_reducible refine And.intro ?_ ?_) | (intro h0; exact absurd h0 (by decide)) | (intro _) | ((conv => whnf); (first | (with_reducible refine And.intro ?_ ?_) | (intro h0; exact absurd h0 (by decide)) | (intro _))))); (all_goals (try omega)); (all_goals (try exact Nat.le_of_ble_eq_true rfl)); (all_goals (try ((conv => whnf); (first | (refine hW.2.1 _ _ ?_) | (change X _ _ _ _ _ _) | (change C _ _ _ _ _ _ _))))); (all_goals (try simp only [xup_at, xup_ne, xup_up, ne_eq, Nat.reduceEqDiff, not_false_eq_true, Int.toNat_natCast, x_lcmp] at *)); (all_goals (try omega)))
    refine h1 M2 (fun a a1 a2 => ?_) (Or.inl hz)
    rw [hA.1.1 a a1 (by omega) (by omega)]
    exact e1 a a1
/-- chances and hours of the hill f to those below k, mixed into h -/
def mixR (c g : Nat → Int) (f : Nat) (h : Int) : Nat → Int
  | 0 => h
  | k + 1 => if f = k then mixR c g f h k else 31 * (31 * mixR c g f h k + c k) + g k
def mixG (c g : Nat → Nat → Int) (h : Int) : Nat → Int
  | 0 => h
  | f + 1 => mixR (c f) (g f) f (mixG c g h f) 6
set_option maxRecDepth 100000 in
set_option maxHeartbeats 4000000 in
theorem c_mixHills {M : xM} {Q : Option xV → xM → Prop} {h : Int} (hh : hillOk M) (hq : Q (some (xJ (mixG (cM M) (hM M) h 6))) M) : xm 1 m_Hills_mixInto [xR (some 45), xJ h] M Q := by
  (refine xm_of (own := "DrumTongue$Hills") rfl (by decide +kernel) tk_Hills [some (xR (some 45)), some (xJ h), none, none, none, none, none] (Nat.le_of_ble_eq_true rfl) rfl ?_; intro D nx X C P hW)
  have inner : ∀ (m k f : Nat) (g : Int), k + m = 6 → f < 6 → X 71 [some (xR (some 45)), some (xJ h), none, some (xJ (mixR (cM M f) (hM M f) f g 6)), none, some (xI (f : Int)), some (xI 6)] [] (M, D, nx) 0 0 → X 15 [some (xR (some 45)), some (xJ h), none, some (xJ (mixR (cM M f) (hM M f) f g k)), none, some (xI (f : Int)), some (xI (k : Int))] [] (M, D, nx) 0 0 := by
    intro m
    induction m with
    | zero =>
      intro k f g hk hf kk
      obtain rfl : k = 6 := by omega
      refine xg hW k_Hills_mixInto [5, 15, 71] 40 ?_
      ((repeat' (first | (with_reducible refine And.intro ?_ ?_) | (intro h0; exact absurd h0 (by decide)) | (intro _) | ((conv => whnf); (first | (with_reducible refine And.intro ?_ ?_) | (intro h0; exact absurd h0 (by decide)) | (intro _))))); (all_goals (try omega)); (all_goals (try exact Nat.le_of_ble_eq_true rfl)); (all_goals (try ((conv => whnf); (first | (refine hW.2.1 _ _ ?_) | (change X _ _ _ _ _ _) | (change C _ _ _ _ _ _ _))))); (all_goals (try simp only [xup_at, xup_ne, xup_up, ne_eq, Nat.reduceEqDiff, not_false_eq_true, Int.toNat_natCast, x_lcmp] at *)); (all_goals (try omega)))
      all_goals exact kk
    | succ m ih =>
      intro k f g hk hf kk
      have t1 : xT0 (47 + (f : Int).toNat) = some (.inr (0, 6, none)) := xT0_c f hf
      have t2 : xT0 (54 + (f : Int).toNat) = some (.inr (0, 6, none)) := xT0_h f hf
      obtain ⟨b1, b2, b3, b4⟩ := hh f k hf (by omega)
      have h5 := ih (k + 1) f g (by omega) hf kk
      rw [mixR] at h5
      refine xg hW k_Hills_mixInto [5, 15, 71] 40 ?_
      ((repeat' (first | (with_reducible refine And.intro ?_ ?_) | (intro h0; exact absurd h0 (by decide)) | (intro _) | ((conv => whnf); (first | (with_reducible refine And.intro ?_ ?_) | (intro h0; exact absurd h0 (by decide)) | (intro _) | (rw [t1]) | (rw [t2]))))); (all_goals (try omega)); (all_goals (try exact Nat.le_of_ble_eq_true rfl)); (all_goals (try ((conv => whnf); (first | (refine hW.2.1 _ _ ?_) | (change X _ _ _ _ _ _) | (change C _ _ _ _ _ _ _))))); (all_goals (try simp only [xup_at, xup_ne, xup_up, ne_eq, Nat.reduceEqDiff, not_false_eq_true, Int.toNat_natCast, x_lcmp] at *)); (all_goals (try omega)))
      · rw [if_pos (by omega)] at h5
        exact h5
      · rw [if_neg (by omega)] at h5
        exact h5
  have outer : ∀ (m f : Nat) (v : Option xV), f + m = 6 → X 5 [some (xR (some 45)), some (xJ h), none, some (xJ (mixG (cM M) (hM M) h f)), none, some (xI (f : Int)), v] [] (M, D, nx) 0 0 := by
    intro m
    induction m with
    | zero =>
      intro f v hf
      obtain rfl : f = 6 := by omega
      refine xg hW k_Hills_mixInto [5, 15, 71] 40 ?_
      ((repeat' (first | (with_reducible refine And.intro ?_ ?_) | (intro h0; exact absurd h0 (by decide)) | (intro _) | ((conv => whnf); (first | (with_reducible refine And.intro ?_ ?_) | (intro h0; exact absurd h0 (by decide)) | (intro _))))); (all_goals (try omega)); (all_goals (try exact Nat.le_of_ble_eq_true rfl)); (all_goals (try ((conv => whnf); (first | (refine hW.2.1 _ _ ?_) | (change X _ _ _ _ _ _) | (change C _ _ _ _ _ _ _))))); (all_goals (try simp only [xup_at, xup_ne, xup_up, ne_eq, Nat.reduceEqDiff, not_false_eq_true, Int.toNat_natCast, x_lcmp] at *)); (all_goals (try omega)))
      all_goals exact hq
    | succ m ih =>
      intro f v hf
      refine xg hW k_Hills_mixInto [5, 15, 71] 40 ?_
      ((repeat' (first | (with_reducible refine And.intro ?_ ?_) | (intro h0; exact absurd h0 (by decide)) | (intro _) | ((conv => whnf); (first | (with_reducible refine And.intro ?_ ?_) | (intro h0; exact absurd h0 (by decide)) | (intro _))))); (all_goals (try omega)); (all_goals (try exact Nat.le_of_ble_eq_true rfl)); (all_goals (try ((conv => whnf); (first | (refine hW.2.1 _ _ ?_) | (change X _ _ _ _ _ _) | (change C _ _ _ _ _ _ _))))); (all_goals (try simp only [xup_at, xup_ne, xup_up, ne_eq, Nat.reduceEqDiff, not_false_eq_true, Int.toNat_natCast, x_lcmp] at *)); (all_goals (try omega)))
      refine inner 6 0 f (mixG (cM M) (hM M) h f) rfl (by omega) ?_
      refine xg hW k_Hills_mixInto [5, 15] 40 ?_
      ((repeat' (first | (with_reducible refine And.intro ?_ ?_) | (intro h0; exact absurd h0 (by decide)) | (intro _) | ((conv => whnf); (first | (with_reducible refine And.intro ?_ ?_) | (intro h0; exact absurd h0 (by decide)) | (intro _))))); (all_goals (try omega)); (all_goals (try exact Nat.le_of_ble_eq_true rfl)); (all_goals (try ((conv => whnf); (first | (refine hW.2.1 _ _ ?_) | (change X _ _ _ _ _ _) | (change C _ _ _ _ _ _ _))))); (all_goals (try simp only [xup_at, xup_ne, xup_up, ne_eq, Nat.reduceEqDiff, not_false_eq_true, Int.toNat_natCast, x_lcmp] at *)); (all_goals (try omega)))
      exact ih (f + 1) _ (by omega)
  refine xg hW k_Hills_mixInto [5, 15, 71] 40 ?_
  ((repeat' (first | (with_reducible refine And.intro ?_ ?_) | (intro h0; exact absurd h0 (by decide)) | (intro _) | ((conv => whnf); (first | (with_reducible refine And.intro ?_ ?_) | (intro h0; exact absurd h0 (by decide)) | (intro _))))); (all_goals (try omega)); (all_goals (try exact Nat.le_of_ble_eq_true rfl)); (all_goals (try ((conv => whnf); (first | (refine hW.2.1 _ _ ?_) | (change X _ _ _ _ _ _) | (change C _ _ _ _ _ _ _))))); (all_goals (try simp only [xup_at, xup_ne, xup_up, ne_eq, Nat.reduceEqDiff, not_false_eq_true, Int.toNat_natCast, x_lcmp] at *)); (all_goals (try omega)))
  exact outer 6 0 none rfl
end
section
/-! reading: rows of costs -/
set_option maxRecDepth 100000 in
theorem c_costOf {M : xM} {Q : Option xV → xM → Prop} {h b : Int} (hq : (xrg h ∧ xrg b) ∧ Q (some (xI (cst h b))) M) : xm 1 m_Reader_costOf [xI h, xI b] M Q := by
  obtain ⟨⟨h1, h2⟩, h3⟩ := hq
  unfold cst at h3
  (refine xm_of (own := "DrumTongue$Reader") rfl (by decide +kernel) tk_Reader [some (xI h), some (xI b)] (Nat.le_of_ble_eq_true rfl) rfl ?_; intro D nx X C P hW)
  refine xg hW k_Reader_costOf [] 40 ?_
  ((repeat' (first | (with_reducible refine And.intro ?_ ?_) | (intro h0; exact absurd h0 (by decide)) | (intro _) | ((conv => whnf); (first | (with_reducible refine And.intro ?_ ?_) | (intro h0; exact absurd h0 (by decide)) | (intro _))))); (all_goals (try omega)); (all_goals (try exact Nat.le_of_ble_eq_true rfl)); (all_goals (try ((conv => whnf); (first | (refine hW.2.1 _ _ ?_) | (change X _ _ _ _ _ _) | (change C _ _ _ _ _ _ _))))); (all_goals (try simp only [xup_at, xup_ne, xup_up, ne_eq, Nat.reduceEqDiff, not_false_eq_true, Int.toNat_natCast, x_lcmp] at *)); (all_goals (try omega)))
  all_goals exact xq h3 (by omega)
/-- a row of costs at a: its table, away from what is read of the heard -/
def rowA (a : Nat) : Prop := xT0 a = some (.inr (0, 61, none)) ∧ 28 < a
set_option maxRecDepth 100000 in
theorem c_startUpTo {M : xM} {Q : Option xV → xM → Prop} {a : Nat} (ha : rowA a) (hn : 0 ≤ M 23 1 ∧ M 23 1 ≤ 60) (hq : ∀ f : Nat → Int, (∀ j : Nat, (j : Int) ≤ M 23 1 → f j = 3 * j) → Q none (xup M a f)) : xm 2 m_Reader_startUpTo [xR (some 25), xR (some a)] M Q := by
  obtain ⟨n, hnn⟩ := Int.eq_ofNat_of_zero_le hn.1
  obtain ⟨hT, ha28⟩ := ha
  (refine xm_of (own := "DrumTongue$Reader") rfl (by decide +kernel) tk_Reader [some (xR (some 25)), some (xR (some a)), none] (Nat.le_of_ble_eq_true rfl) rfl ?_; intro D nx X C P hW)
  have loop : ∀ (m k : Nat) (f : Nat → Int), k + m = n + 1 → (∀ j, j < k → f j = 3 * j) → X 2 [some (xR (some 25)), some (xR (some a)), some (xI (k : Int))] [] (xup M a f, D, nx) 0 0 := by
    intro m
    induction m with
    | zero =>
      intro k f hk hf
      have e : (xup M a f) 23 1 = M 23 1 := by rw [xup_ne (by omega)]
      refine xg hW k_Reader_startUpTo [2] 40 ?_
      ((repeat' (first | (with_reducible refine And.intro ?_ ?_) | (intro h0; exact absurd h0 (by decide)) | (intro _) | ((conv => whnf); (first | (with_reducible refine And.intro ?_ ?_) | (intro h0; exact absurd h0 (by decide)) | (intro _) | (rw [hT]) | (refine hW.1 _ _ _ _ _ _ (c_earSize ?_) (by first | decide | omega) (by decide) (Nat.le_of_ble_eq_true rfl)))))); (all_goals (try omega)); (all_goals (try exact Nat.le_of_ble_eq_true rfl)); (all_goals (try ((conv => whnf); (first | (refine hW.2.1 _ _ ?_) | (change X _ _ _ _ _ _) | (change C _ _ _ _ _ _ _))))); (all_goals (try simp only [xup_at, xup_ne, xup_up, ne_eq, Nat.reduceEqDiff, not_false_eq_true, Int.toNat_natCast, x_lcmp] at *)); (all_goals (try omega)))
      exact hq f fun j hj => hf j (by omega)
    | succ m ih =>
      intro k f hk hf
      have e : (xup M a f) 23 1 = M 23 1 := by rw [xup_ne (by omega)]
      refine xg hW k_Reader_startUpTo [2] 40 ?_
      ((repeat' (first | (with_reducible refine And.intro ?_ ?_) | (intro h0; exact absurd h0 (by decide)) | (intro _) | ((conv => whnf); (first | (with_reducible refine And.intro ?_ ?_) | (intro h0; exact absurd h0 (by decide)) | (intro _) | (rw [hT]) | (refine hW.1 _ _ _ _ _ _ (c_earSize ?_) (by first | decide | omega) (by decide) (Nat.le_of_ble_eq_true rfl)))))); (all_goals (try omega)); (all_goals (try exact Nat.le_of_ble_eq_true rfl)); (all_goals (try ((conv => whnf); (first | (refine hW.2.1 _ _ ?_) | (change X _ _ _ _ _ _) | (change C _ _ _ _ _ _ _))))); (all_goals (try simp only [xup_at, xup_ne, xup_up, ne_eq, Nat.reduceEqDiff, not_false_eq_true, Int.toNat_natCast, x_lcmp] at *)); (all_goals (try omega)))
      refine ih (k + 1) _ (by omega) fun j hj => ?_
      by_cases q : j = k
      · rw [q, xup_at]
      · rw [xup_ne q]; exact hf j (by omega)
  refine xg hW k_Reader_startUpTo [2] 40 ?_
  ((repeat' (first | (with_reducible refine And.intro ?_ ?_) | (intro h0; exact absurd h0 (by decide)) | (intro _) | ((conv => whnf); (first | (with_reducible refine And.intro ?_ ?_) | (intro h0; exact absurd h0 (by decide)) | (intro _))))); (all_goals (try omega)); (all_goals (try exact Nat.le_of_ble_eq_true rfl)); (all_goals (try ((conv => whnf); (first | (refine hW.2.1 _ _ ?_) | (change X _ _ _ _ _ _) | (change C _ _ _ _ _ _ _))))); (all_goals (try simp only [xup_at, xup_ne, xup_up, ne_eq, Nat.reduceEqDiff, not_false_eq_true, Int.toNat_natCast, x_lcmp] at *)); (all_goals (try omega)))
  have := loop (n + 1) 0 (M a) (by omega) (fun j hj => absurd hj (Nat.not_lt_zero j))
  rw [xup_id] at this
  exact this
set_option maxRecDepth 100000 in
theorem c_startFrom {M : xM} {Q : Option xV → xM → Prop} {a : Nat} (ha : rowA a) (hn : 0 ≤ M 23 1 ∧ M 23 1 ≤ 60) (hq : ∀ f : Nat → Int, (∀ j : Nat, (j : Int) ≤ M 23 1 → f j = 3 * (M 23 1 - j)) → Q none (xup M a f)) : xm 2 m_Reader_startFrom [xR (some 25), xR (some a)] M Q := by
  obtain ⟨n, hnn⟩ := Int.eq_ofNat_of_zero_le hn.1
  obtain ⟨hT, ha28⟩ := ha
  (refine xm_of (own := "DrumTongue$Reader") rfl (by decide +kernel) tk_Reader [some (xR (some 25)), some (xR (some a)), none] (Nat.le_of_ble_eq_true rfl) rfl ?_; intro D nx X C P hW)
  have loop : ∀ (m k : Nat) (f : Nat → Int), k + m = n + 1 → (∀ j : Nat, j < k → f j = 3 * (M 23 1 - j)) → X 2 [some (xR (some 25)), some (xR (some a)), some (xI (k : Int))] [] (xup M a f, D, nx) 0 0 := by
    intro m
    induction m with
    | zero =>
      intro k f hk hf
      have e : (xup M a f) 23 1 = M 23 1 := by rw [xup_ne (by omega)]
      refine xg hW k_Reader_startFrom [2] 40 ?_
      ((repeat' (first | (with_reducible refine And.intro ?_ ?_) | (intro h0; exact absurd h0 (by decide)) | (intro _) | ((conv => whnf); (first | (with_reducible refine And.intro ?_ ?_) | (intro h0; exact absurd h0 (by decide)) | (intro _) | (rw [hT]) | (refine hW.1 _ _ _ _ _ _ (c_earSize ?_) (by first | decide | omega) (by decide) (Nat.le_of_ble_eq_true rfl)))))); (all_goals (try omega)); (all_goals (try exact Nat.le_of_ble_eq_true rfl)); (all_goals (try ((conv => whnf); (first | (refine hW.2.1 _ _ ?_) | (change X _ _ _ _ _ _) | (change C _ _ _ _ _ _ _))))); (all_goals (try simp only [xup_at, xup_ne, xup_up, ne_eq, Nat.reduceEqDiff, not_false_eq_true, Int.toNat_natCast, x_lcmp] at *)); (all_goals (try omega)))
      exact hq f fun j hj => hf j (by omega)
    | succ m ih =>
      intro k f hk hf
      have e : (xup M a f) 23 1 = M 23 1 := by rw [xup_ne (by omega)]
      refine xg hW k_Reader_startFrom [2] 40 ?_
      ((repeat' (first | (with_reducible refine And.intro ?_ ?_) | (intro h0; exact absurd h0 (by decide)) | (intro _) | ((conv => whnf); (first | (with_reducible refine And.intro ?_ ?_) | (intro h0; exact absurd h0 (by decide)) | (intro _) | (rw [hT]) | (refine hW.1 _ _ _ _ _ _ (c_earSize ?_) (by first | decide | omega) (by decide) (Nat.le_of_ble_eq_true rfl)))))); (all_goals (try omega)); (all_goals (try exact Nat.le_of_ble_eq_true rfl)); (all_goals (try ((conv => whnf); (first | (refine hW.2.1 _ _ ?_) | (change X _ _ _ _ _ _) | (change C _ _ _ _ _ _ _))))); (all_goals (try simp only [xup_at, xup_ne, xup_up, ne_eq, Nat.reduceEqDiff, not_false_eq_true, Int.toNat_natCast, x_lcmp] at *)); (all_goals (try omega)))
      refine ih (k + 1) _ (by omega) fun j hj => ?_
      by_cases q : j = k
      · rw [q, xup_at, e]
      · rw [xup_ne q]; exact hf j (by omega)
  refine xg hW k_Reader_startFrom [2] 40 ?_
  ((repeat' (first | (with_reducible refine And.intro ?_ ?_) | (intro h0; exact absurd h0 (by decide)) | (intro _) | ((conv => whnf); (first | (with_reducible refine And.intro ?_ ?_) | (intro h0; exact absurd h0 (by decide)) | (intro _))))); (all_goals (try omega)); (all_goals (try exact Nat.le_of_ble_eq_true rfl)); (all_goals (try ((conv => whnf); (first | (refine hW.2.1 _ _ ?_) | (change X _ _ _ _ _ _) | (change C _ _ _ _ _ _ _))))); (all_goals (try simp only [xup_at, xup_ne, xup_up, ne_eq, Nat.reduceEqDiff, not_false_eq_true, Int.toNat_natCast, x_lcmp] at *)); (all_goals (try omega)))
  have := loop (n + 1) 0 (M a) (by omega) (fun j hj => absurd hj (Nat.not_lt_zero j))
  rw [xup_id] at this
  exact this
/-- costs in bounds, over the places 0 .. n -/
def cRg (n : Nat) (f : Nat → Int) : Prop := ∀ j, j ≤ n → 0 ≤ f j ∧ f j ≤ 2000000
set_option maxRecDepth 100000 in
set_option maxHeartbeats 4000000 in
theorem c_beatBehind {M : xM} {Q : Option xV → xM → Prop} {a : Nat} {b : Int} (ha : rowA a) (he : earOk M) (hr : cRg (M 23 1).toNat (M a)) (hq : (0 ≤ b ∧ b ≤ 1) ∧ ∀ f : Nat → Int, (∀ j : Nat, (j : Int) ≤ M 23 1 → f j = fwd (M 24) b (M a) j) → Q none (xup M a f)) : xm 2 m_Reader_putBeatBehind [xR (some 25), xI b, xR (some a)] M Q := by
  obtain ⟨hb, hq⟩ := hq
  obtain ⟨n1, n2, n3⟩ := id he
  obtain ⟨n, hnn⟩ := Int.eq_ofNat_of_zero_le n1
  obtain ⟨hT, ha28⟩ := ha
  have hr0 := hr 0 (by omega)
  (refine xm_of (own := "DrumTongue$Reader") rfl (by decide +kernel) tk_Reader [some (xR (some 25)), some (xI b), some (xR (some a)), none, none, none, none] (Nat.le_of_ble_eq_true rfl) rfl ?_; intro D nx X C P hW)
  have loop : ∀ (m k : Nat) (f : Nat → Int) (v5 v6 : Option xV), k + m = n → (∀ j, j ≤ k → f j = fwd (M 24) b (M a) j) → (∀ j, k < j → f j = M a j) → X 28 [some (xR (some 25)), some (xI b), some (xR (some a)), some (xI (M a k)), some (xI ((k : Int) + 1)), v5, v6] [] (xup M a f, D, nx) 0 0 := by
    intro m
    induction m with
    | zero =>
      intro k f v5 v6 hk hf hf2
      have e : (xup M a f) 23 1 = M 23 1 := by rw [xup_ne (by omega)]
      refine xg hW k_Reader_putBeatBehind [28] 40 ?_
      ((repeat' (first | (with_reducible refine And.intro ?_ ?_) | (intro h0; exact absurd h0 (by decide)) | (intro _) | ((conv => whnf); (first | (with_reducible refine And.intro ?_ ?_) | (intro h0; exact absurd h0 (by decide)) | (intro _) | (rw [hT]) | (refine hW.1 _ _ _ _ _ _ (c_earSize ?_) (by first | decide | omega) (by decide) (Nat.le_of_ble_eq_true rfl)))))); (all_goals (try omega)); (all_goals (try exact Nat.le_of_ble_eq_true rfl)); (all_goals (try ((conv => whnf); (first | (refine hW.2.1 _ _ ?_) | (change X _ _ _ _ _ _) | (change C _ _ _ _ _ _ _))))); (all_goals (try simp only [xup_at, xup_ne, xup_up, ne_eq, Nat.reduceEqDiff, not_false_eq_true, Int.toNat_natCast, x_lcmp] at *)); (all_goals (try omega)))
      exact hq f fun j hj => hf j (by omega)
    | succ m ih =>
      intro k f v5 v6 hk hf hf2
      have e : (xup M a f) 23 1 = M 23 1 := by rw [xup_ne (by omega)]
      have e24 : (xup M a f) 24 = M 24 := xup_ne (by omega)
      have r1 := hr (k + 1) (by omega)
      have r2 := hr k (by omega)
      have r3 := fwd_rg (H := M 24) (b := b) hr k (by omega)
      have g1 : f ((k : Int) + 1).toNat = M a (k + 1) := by rw [show ((k : Int) + 1).toNat = k + 1 by omega]; exact hf2 (k + 1) (by omega)
      have g2 : f ((k : Int) + 1 - 1).toNat = fwd (M 24) b (M a) k := by rw [show ((k : Int) + 1 - 1).toNat = k by omega]; exact hf k (Nat.le_refl _)
      have c0 := cst_0 (M 24 k) b
      have c2 := cst_2 (M 24 k) b
      have g3 : (xup M a f) 24 ((k : Int) + 1 - 1).toNat = M 24 k := by rw [e24, show ((k : Int) + 1 - 1).toNat = k by omega]
      have n4 := n3 k
      refine xg hW k_Reader_putBeatBehind [28] 40 ?_
      ((repeat' (first | (with_reducible refine And.intro ?_ ?_) | (intro h0; exact absurd h0 (by decide)) | (intro _) | ((conv => whnf); (first | (with_reducible refine And.intro ?_ ?_) | (intro h0; exact absurd h0 (by decide)) | (intro _) | (rw [hT]) | (refine hW.1 _ _ _ _ _ _ (c_earSize ?_) (by first | decide | omega) (by decide) (Nat.le_of_ble_eq_true rfl)) | (refine hW.1 _ _ _ _ _ _ (c_earAt ?_) (by first | decide | omega) (by decide) (Nat.le_of_ble_eq_true rfl)) | (refine hW.1 _ _ _ _ _ _ (c_costOf ?_) (by first | decide | omega) (by decide) (Nat.le_of_ble_eq_true rfl)))))); (all_goals (try omega)); (all_goals (try exact Nat.le_of_ble_eq_true rfl)); (all_goals (try ((conv => whnf); (first | (refine hW.2.1 _ _ ?_) | (change X _ _ _ _ _ _) | (change C _ _ _ _ _ _ _))))); (all_goals (try simp only [xup_at, xup_ne, xup_up, ne_eq, Nat.reduceEqDiff, not_false_eq_true, Int.toNat_natCast, x_lcmp] at *)); (all_goals (try omega)))
      · rw [g3]; omega
      · rw [g3]; omega
      rw [g1, g2, g3]
      have h5 := fun (f : Nat → Int) => ih (k + 1) f (some (xI (M a (k + 1)))) (some (xI (M a k + cst (M 24 k) b))) (by omega)
      rw [show ((k + 1 : Nat) : Int) = (k : Int) + 1 by omega] at h5
      refine h5 _ (fun j hj => ?_) (fun j hj => ?_)
      · by_cases q : j = k + 1
        · rw [q, show ((k : Int) + 1).toNat = k + 1 by omega, xup_at, fwd]
        · rw [xup_ne (by omega)]; exact hf j (by omega)
      · rw [xup_ne (by omega)]; exact hf2 j (by omega)
  refine xg hW k_Reader_putBeatBehind [28] 40 ?_
  ((repeat' (first | (with_reducible refine And.intro ?_ ?_) | (intro h0; exact absurd h0 (by decide)) | (intro _) | ((conv => whnf); (first | (with_reducible refine And.intro ?_ ?_) | (intro h0; exact absurd h0 (by decide)) | (intro _) | (rw [hT]))))); (all_goals (try omega)); (all_goals (try exact Nat.le_of_ble_eq_true rfl)); (all_goals (try ((conv => whnf); (first | (refine hW.2.1 _ _ ?_) | (change X _ _ _ _ _ _) | (change C _ _ _ _ _ _ _))))); (all_goals (try simp only [xup_at, xup_ne, xup_up, ne_eq, Nat.reduceEqDiff, not_false_eq_true, Int.toNat_natCast, x_lcmp] at *)); (all_goals (try omega)))
  refine loop n 0 _ none none (by omega) (fun j hj => ?_) (fun j hj => ?_)
  · rw [show j = 0 by omega, fwd]; exact xup_at _ _ _
  · rw [xup_ne (by omega)]
set_option maxRecDepth 100000 in
set_option maxHeartbeats 4000000 in
theorem c_beatFront {M : xM} {Q : Option xV → xM → Prop} {a : Nat} {b : Int} (ha : rowA a) (he : earOk M) (hr : cRg (M 23 1).toNat (M a)) (hq : (0 ≤ b ∧ b ≤ 1) ∧ ∀ f : Nat → Int, (∀ j : Nat, (j : Int) ≤ M 23 1 → f j = bwd (M 24) b (M 23 1).toNat (M a) j) → Q none (xup M a f)) : xm 2 m_Reader_putBeatInFront [xR (some 25), xI b, xR (some a)] M Q := by
  obtain ⟨hb, hq⟩ := hq
  obtain ⟨n1, n2, n3⟩ := id he
  obtain ⟨n, hnn⟩ := Int.eq_ofNat_of_zero_le n1
  obtain ⟨hT, ha28⟩ := ha
  have hr0 := hr n (by omega)
  rw [show (M 23 1).toNat = n by omega] at hq hr
  (refine xm_of (own := "DrumTongue$Reader") rfl (by decide +kernel) tk_Reader [some (xR (some 25)), some (xI b), some (xR (some a)), none, none, none, none, none] (Nat.le_of_ble_eq_true rfl) rfl ?_; intro D nx X C P hW)
  have loop : ∀ (k : Nat) (i : Int) (f : Nat → Int) (v6 v7 : Option xV), i = (k : Int) - 1 → k ≤ n → (∀ j, k ≤ j → j ≤ n → f j = bwd (M 24) b n (M a) j) → (∀ j, j < k → f j = M a j) → X 44 [some (xR (some 25)), some (xI b), some (xR (some a)), some (xI (n : Int)), some (xI (M a k)), some (xI i), v6, v7] [] (xup M a f, D, nx) 0 0 := by
    intro k
    induction k with
    | zero =>
      intro i f v6 v7 hi hk hf hf2
      refine xg hW k_Reader_putBeatInFront [44] 40 ?_
      ((repeat' (first | (with_reducible refine And.intro ?_ ?_) | (intro h0; exact absurd h0 (by decide)) | (intro _) | ((conv => whnf); (first | (with_reducible refine And.intro ?_ ?_) | (intro h0; exact absurd h0 (by decide)) | (intro _) | (rw [hT]) | (refine hW.1 _ _ _ _ _ _ (c_earSize ?_) (by first | decide | omega) (by decide) (Nat.le_of_ble_eq_true rfl)))))); (all_goals (try omega)); (all_goals (try exact Nat.le_of_ble_eq_true rfl)); (all_goals (try ((conv => whnf); (first | (refine hW.2.1 _ _ ?_) | (change X _ _ _ _ _ _) | (change C _ _ _ _ _ _ _))))); (all_goals (try simp only [xup_at, xup_ne, xup_up, ne_eq, Nat.reduceEqDiff, not_false_eq_true, Int.toNat_natCast, x_lcmp] at *)); (all_goals (try omega)))
      exact hq f fun j hj => hf j (by omega) (by omega)
    | succ k ih =>
      intro i f v6 v7 hi hk hf hf2
      have e : (xup M a f) 23 1 = M 23 1 := by rw [xup_ne (by omega)]
      have e24 : (xup M a f) 24 = M 24 := xup_ne (by omega)
      have r1 := hr (k + 1) (by omega)
      have r2 := hr k (by omega)
      have r3 := bwd_rg (H := M 24) (b := b) hr (k + 1) (by omega)
      have g1 : f i.toNat = M a k := by rw [show i.toNat = k by omega]; exact hf2 k (by omega)
      have g2 : f (i + 1).toNat = bwd (M 24) b n (M a) (k + 1) := by rw [show (i + 1).toNat = k + 1 by omega]; exact hf (k + 1) (Nat.le_refl _) (by omega)
      have c0 := cst_0 (M 24 k) b
      have c2 := cst_2 (M 24 k) b
      have g3 : (xup M a f) 24 i.toNat = M 24 k := by rw [e24, show i.toNat = k by omega]
      have n4 := n3 k
      refine xg hW k_Reader_putBeatInFront [44] 40 ?_
      ((repeat' (first | (with_reducible refine And.intro ?_ ?_) | (intro h0; exact absurd h0 (by decide)) | (intro _) | ((conv => whnf); (first | (with_reducible refine And.intro ?_ ?_) | (intro h0; exact absurd h0 (by decide)) | (intro _) | (rw [hT]) | (refine hW.1 _ _ _ _ _ _ (c_earSize ?_) (by first | decide | omega) (by decide) (Nat.le_of_ble_eq_true rfl)) | (refine hW.1 _ _ _ _ _ _ (c_earAt ?_) (by first | decide | omega) (by decide) (Nat.le_of_ble_eq_true rfl)) | (refine hW.1 _ _ _ _ _ _ (c_costOf ?_) (by first | decide | omega) (by decide) (Nat.le_of_ble_eq_true rfl)))))); (all_goals (try omega)); (all_goals (try exact Nat.le_of_ble_eq_true rfl)); (all_goals (try ((conv => whnf); (first | (refine hW.2.1 _ _ ?_) | (change X _ _ _ _ _ _) | (change C _ _ _ _ _ _ _))))); (all_goals (try simp only [xup_at, xup_ne, xup_up, ne_eq, Nat.reduceEqDiff, not_false_eq_true, Int.toNat_natCast, x_lcmp] at *)); (all_goals (try omega)))
      · rw [g3]; omega
      · rw [g3]; omega
      rw [g1, g2, g3]
      refine ih (i + -1) _ (some (xI (M a k))) (some (xI (M a (k + 1) + cst (M 24 k) b))) (by omega) (by omega) (fun j hj hj2 => ?_) (fun j hj => ?_)
      · by_cases q : j = k
        · rw [q, show i.toNat = k by omega, xup_at, bwd_lt (show k < n by omega)]
        · rw [xup_ne (by omega)]; exact hf j (by omega) hj2
      · rw [xup_ne (by omega)]; exact hf2 j (by omega)
  refine xg hW k_Reader_putBeatInFront [44] 40 ?_
  ((repeat' (first | (with_reducible refine And.intro ?_ ?_) | (intro h0; exact absurd h0 (by decide)) | (intro _) | ((conv => whnf); (first | (with_reducible refine And.intro ?_ ?_) | (intro h0; exact absurd h0 (by decide)) | (intro _) | (rw [hT]) | (refine hW.1 _ _ _ _ _ _ (c_earSize ?_) (by first | decide | omega) (by decide) (Nat.le_of_ble_eq_true rfl)))))); (all_goals (try omega)); (all_goals (try exact Nat.le_of_ble_eq_true rfl)); (all_goals (try ((conv => whnf); (first | (refine hW.2.1 _ _ ?_) | (change X _ _ _ _ _ _) | (change C _ _ _ _ _ _ _))))); (all_goals (try simp only [xup_at, xup_ne, xup_up, ne_eq, Nat.reduceEqDiff, not_false_eq_true, Int.toNat_natCast, x_lcmp] at *)); (all_goals (try omega)))
  rw [show min (M 23 1) ((61 : Nat) - 1 : Int) = (n : Int) by omega]
  refine loop n _ _ none none rfl (Nat.le_refl _) (fun j hj hk => ?_) (fun j hj => ?_)
  · rw [show j = n by omega, bwd_n]; exact xup_at _ _ _
  · exact xup_ne (by omega)
theorem phOk_up {M : xM} {a : Nat} {f : Nat → Int} (h : 28 < a) (hp : phOk M) : phOk (xup M a f) := by
  have e5 : (xup M a f) 15 = M 15 := xup_ne (by omega)
  have e6 : (xup M a f) 16 = M 16 := xup_ne (by omega)
  have e7 : (xup M a f) 17 = M 17 := xup_ne (by omega)
  unfold phOk
  rw [e5, e6, e7]
  exact hp
theorem earOk_up {M : xM} {a : Nat} {f : Nat → Int} (h : 28 < a) (hp : earOk M) : earOk (xup M a f) := by
  have e5 : (xup M a f) 23 = M 23 := xup_ne (by omega)
  have e6 : (xup M a f) 24 = M 24 := xup_ne (by omega)
  unfold earOk
  rw [e5, e6]
  exact hp
/-- the phrase of word w behind, and in front -/
def wF (M : xM) (w : Nat) (f : Nat → Int) : Nat → Int := fwN (M 24) (btOf (M 16 w) (M 17 w)) f (M 16 w).toNat
def wB (M : xM) (w : Nat) (g : Nat → Int) : Nat → Int := bwN (M 24) (btOf (M 16 w) (M 17 w)) (M 23 1).toNat (M 16 w).toNat g (M 16 w).toNat
/-- of w is a phrase -/
def hP (M : xM) (w : Int) : Prop := 0 ≤ w ∧ w < 10 ∧ M 15 w.toNat ≠ -1
def cR (n : Int) (f : Nat → Int) : Prop := ∀ j : Nat, (j : Int) ≤ n → 0 ≤ f j ∧ f j ≤ 1900000
set_option maxRecDepth 100000 in
set_option maxHeartbeats 4000000 in
theorem c_putBehind {M : xM} {Q : Option xV → xM → Prop} {a : Nat} {w : Int} (ha : rowA a) (he : earOk M) (hp : phOk M) (hw : hP M w) (hr : cR (M 23 1) (M a)) (hq : ∀ f : Nat → Int, (∀ j : Nat, (j : Int) ≤ M 23 1 → f j = wF M w.toNat (M a) j) → Q none (xup M a f)) : xm 3 m_Reader_putBehind [xR (some 25), xI w, xR (some a)] M Q := by
  obtain ⟨n1, n2, n3⟩ := id he
  obtain ⟨w1, w2, w3⟩ := id hw
  obtain ⟨-, -, p0⟩ := hp w.toNat (by omega)
  obtain ⟨p1, p2, p3, p4, p5⟩ := p0 w3
  obtain ⟨n, hnn⟩ := Int.eq_ofNat_of_zero_le n1
  obtain ⟨z, hz⟩ := Int.eq_ofNat_of_zero_le (show 0 ≤ M 16 w.toNat by omega)
  have ha28 := ha.2
  (refine xm_of (own := "DrumTongue$Reader") rfl (by decide +kernel) tk_Reader [some (xR (some 25)), some (xI w), some (xR (some a)), none, none] (Nat.le_of_ble_eq_true rfl) rfl ?_; intro D nx X C P hW)
  have loop : ∀ (m k : Nat) (f : Nat → Int), k + m = z → (∀ j, j ≤ n → f j = fwN (M 24) (btOf (M 16 w.toNat) (M 17 w.toNat)) (M a) k j) → X 12 [some (xR (some 25)), some (xI w), some (xR (some a)), some (xI (z : Int)), some (xI (k : Int))] [] (xup M a f, D, nx) 0 0 := by
    intro m
    induction m with
    | zero =>
      intro k f hk hf
      refine xg hW k_Reader_putBehind [12] 40 ?_
      ((repeat' (first | (with_reducible refine And.intro ?_ ?_) | (intro h0; exact absurd h0 (by decide)) | (intro _) | ((conv => whnf); (first | (with_reducible refine And.intro ?_ ?_) | (intro h0; exact absurd h0 (by decide)) | (intro _))))); (all_goals (try omega)); (all_goals (try exact Nat.le_of_ble_eq_true rfl)); (all_goals (try ((conv => whnf); (first | (refine hW.2.1 _ _ ?_) | (change X _ _ _ _ _ _) | (change C _ _ _ _ _ _ _))))); (all_goals (try simp only [xup_at, xup_ne, xup_up, ne_eq, Nat.reduceEqDiff, not_false_eq_true, Int.toNat_natCast, x_lcmp] at *)); (all_goals (try omega)))
      exact hq f fun j hj => (hf j (by omega)).trans (by unfold wF; rw [show (M 16 w.toNat).toNat = k by omega])
    | succ m ih =>
      intro k f hk hf
      have e5 : (xup M a f) 15 = M 15 := xup_ne (by omega)
      have e6 : (xup M a f) 16 = M 16 := xup_ne (by omega)
      have e7 : (xup M a f) 17 = M 17 := xup_ne (by omega)
      have e24 : (xup M a f) 24 = M 24 := xup_ne (by omega)
      have e23 : (xup M a f) 23 = M 23 := xup_ne (by omega)
      have ea : (xup M a f) a = f := xup_at _ _ _
      have hp' := phOk_up (f := f) ha28 hp
      have he' := earOk_up (f := f) ha28 he
      have b1 := btOf_rg (M 16 w.toNat) (M 17 w.toNat) k
      have r1 := fun j hj => fwN_rg (H := M 24) (β := btOf (M 16 w.toNat) (M 17 w.toNat)) (f := M a) (n := n) (B := 1900000) (fun j hj => hr j (by omega)) k j hj
      have hr' : cRg ((xup M a f) 23 1).toNat ((xup M a f) a) := by
        intro j hj
        rw [e23] at hj
        rw [ea, hf j (by omega)]
        have := r1 j (by omega)
        omega
      refine xg hW k_Reader_putBehind [12] 40 ?_
      ((repeat' (first | (with_reducible refine And.intro ?_ ?_) | (intro h0; exact absurd h0 (by decide)) | (intro _) | ((conv => whnf); (first | (with_reducible refine And.intro ?_ ?_) | (intro h0; exact absurd h0 (by decide)) | (intro _) | (rw [e6]) | (rw [e7]) | (refine hW.1 _ _ _ _ _ _ (c_phraseBeatY hp' ?_) (by first | decide | omega) (by decide) (Nat.le_of_ble_eq_true rfl)) | (refine hW.1 _ _ _ _ _ _ (c_beatBehind ha he' hr' ?_) (by first | decide | omega) (by decide) (Nat.le_of_ble_eq_true rfl)))))); (all_goals (try omega)); (all_goals (try exact Nat.le_of_ble_eq_true rfl)); (all_goals (try ((conv => whnf); (first | (refine hW.2.1 _ _ ?_) | (change X _ _ _ _ _ _) | (change C _ _ _ _ _ _ _))))); (all_goals (try simp only [xup_at, xup_ne, xup_up, ne_eq, Nat.reduceEqDiff, not_false_eq_true, Int.toNat_natCast, x_lcmp] at *)); (all_goals (try omega)))
      · exact w3 (by rw [← e5]; assumption)
      · show (k : Int) < M 16 w.toNat
        omega
      rename_i f' hf'
      refine ih (k + 1) f' (by omega) fun j hj => (hf' j (by rw [e23]; omega)).trans ?_
      rw [e24, fwN]
      exact fwd_congr (n := n) hf j hj
  refine xg hW k_Reader_putBehind [12] 40 ?_
  ((repeat' (first | (with_reducible refine And.intro ?_ ?_) | (intro h0; exact absurd h0 (by decide)) | (intro _) | ((conv => whnf); (first | (with_reducible refine And.intro ?_ ?_) | (intro h0; exact absurd h0 (by decide)) | (intro _) | (refine hW.1 _ _ _ _ _ _ (c_phraseSizeY hp ?_) (by first | decide | omega) (by decide) (Nat.le_of_ble_eq_true rfl)))))); (all_goals (try omega)); (all_goals (try exact Nat.le_of_ble_eq_true rfl)); (all_goals (try ((conv => whnf); (first | (refine hW.2.1 _ _ ?_) | (change X _ _ _ _ _ _) | (change C _ _ _ _ _ _ _))))); (all_goals (try simp only [xup_at, xup_ne, xup_up, ne_eq, Nat.reduceEqDiff, not_false_eq_true, Int.toNat_natCast, x_lcmp] at *)); (all_goals (try omega)))
  have := loop z 0 (M a) (by omega) (fun j hj => rfl)
  rw [xup_id] at this
  rw [hz]
  exact this
set_option maxRecDepth 100000 in
set_option maxHeartbeats 4000000 in
theorem c_putInFront {M : xM} {Q : Option xV → xM → Prop} {a : Nat} {w : Int} (ha : rowA a) (he : earOk M) (hp : phOk M) (hw : hP M w) (hr : cR (M 23 1) (M a)) (hq : ∀ f : Nat → Int, (∀ j : Nat, (j : Int) ≤ M 23 1 → f j = wB M w.toNat (M a) j) → Q none (xup M a f)) : xm 3 m_Reader_putInFront [xR (some 25), xI w, xR (some a)] M Q := by
  obtain ⟨n1, n2, n3⟩ := id he
  obtain ⟨w1, w2, w3⟩ := id hw
  obtain ⟨-, -, p0⟩ := hp w.toNat (by omega)
  obtain ⟨p1, p2, p3, p4, p5⟩ := p0 w3
  obtain ⟨n, hnn⟩ := Int.eq_ofNat_of_zero_le n1
  obtain ⟨z, hz⟩ := Int.eq_ofNat_of_zero_le (show 0 ≤ M 16 w.toNat by omega)
  have ha28 := ha.2
  unfold wB at hq
  rw [hz, show (z : Int).toNat = z by omega, show (M 23 1).toNat = n by omega] at hq
  (refine xm_of (own := "DrumTongue$Reader") rfl (by decide +kernel) tk_Reader [some (xR (some 25)), some (xI w), some (xR (some a)), none] (Nat.le_of_ble_eq_true rfl) rfl ?_; intro D nx X C P hW)
  have loop : ∀ (m k : Nat) (i : Int) (f : Nat → Int), i = (m : Int) - 1 → k + m = z → (∀ j, j ≤ n → f j = bwN (M 24) (btOf (z : Int) (M 17 w.toNat)) n z (M a) k j) → X 11 [some (xR (some 25)), some (xI w), some (xR (some a)), some (xI i)] [] (xup M a f, D, nx) 0 0 := by
    intro m
    induction m with
    | zero =>
      intro k i f hi hk hf
      refine xg hW k_Reader_putInFront [11] 40 ?_
      ((repeat' (first | (with_reducible refine And.intro ?_ ?_) | (intro h0; exact absurd h0 (by decide)) | (intro _) | ((conv => whnf); (first | (with_reducible refine And.intro ?_ ?_) | (intro h0; exact absurd h0 (by decide)) | (intro _))))); (all_goals (try omega)); (all_goals (try exact Nat.le_of_ble_eq_true rfl)); (all_goals (try ((conv => whnf); (first | (refine hW.2.1 _ _ ?_) | (change X _ _ _ _ _ _) | (change C _ _ _ _ _ _ _))))); (all_goals (try simp only [xup_at, xup_ne, xup_up, ne_eq, Nat.reduceEqDiff, not_false_eq_true, Int.toNat_natCast, x_lcmp] at *)); (all_goals (try omega)))
      rw [show k = z by omega] at hf
      exact hq f fun j hj => hf j (by omega)
    | succ m ih =>
      intro k i f hi hk hf
      have e5 : (xup M a f) 15 = M 15 := xup_ne (by omega)
      have e6 : (xup M a f) 16 = M 16 := xup_ne (by omega)
      have e7 : (xup M a f) 17 = M 17 := xup_ne (by omega)
      have e24 : (xup M a f) 24 = M 24 := xup_ne (by omega)
      have e23 : (xup M a f) 23 = M 23 := xup_ne (by omega)
      have ea : (xup M a f) a = f := xup_at _ _ _
      have hp' := phOk_up (f := f) ha28 hp
      have he' := earOk_up (f := f) ha28 he
      have b1 := btOf_rg (z : Int) (M 17 w.toNat) i.toNat
      have r1 := fun j hj => bwN_rg (H := M 24) (β := btOf (z : Int) (M 17 w.toNat)) (g := M a) (n := n) (m := z) (B := 1900000) (fun j hj => hr j (by omega)) k j hj
      have hr' : cRg ((xup M a f) 23 1).toNat ((xup M a f) a) := by
        intro j hj
        rw [e23] at hj
        rw [ea, hf j (by omega)]
        have := r1 j (by omega)
        omega
      refine xg hW k_Reader_putInFront [11] 40 ?_
      ((repeat' (first | (with_reducible refine And.intro ?_ ?_) | (intro h0; exact absurd h0 (by decide)) | (intro _) | ((conv => whnf); (first | (with_reducible refine And.intro ?_ ?_) | (intro h0; exact absurd h0 (by decide)) | (intro _) | (rw [e5]) | (rw [e6]) | (rw [e7]) | (rw [hz]) | (refine hW.1 _ _ _ _ _ _ (c_phraseBeatY hp' ?_) (by first | decide | omega) (by decide) (Nat.le_of_ble_eq_true rfl)) | (refine hW.1 _ _ _ _ _ _ (c_beatFront ha he' hr' ?_) (by first | decide | omega) (by decide) (Nat.le_of_ble_eq_true rfl)))))); (all_goals (try omega)); (all_goals (try exact Nat.le_of_ble_eq_true rfl)); (all_goals (try ((conv => whnf); (first | (refine hW.2.1 _ _ ?_) | (change X _ _ _ _ _ _) | (change C _ _ _ _ _ _ _))))); (all_goals (try simp only [xup_at, xup_ne, xup_up, ne_eq, Nat.reduceEqDiff, not_false_eq_true, Int.toNat_natCast, x_lcmp] at *)); (all_goals (try omega)))
      · exact w3 (by rw [← e5]; assumption)
      · show i < (z : Int)
        omega
      rename_i f' hf'
      refine ih (k + 1) (i + -1) f' (by omega) (by omega) fun j hj => (hf' j (by rw [e23]; omega)).trans ?_
      rw [e24, e23, bwN, show (M 23 1).toNat = n by omega, show i.toNat = z - 1 - k by omega]
      exact bwd_congr (n := n) hf j hj
  refine xg hW k_Reader_putInFront [11] 40 ?_
  ((repeat' (first | (with_reducible refine And.intro ?_ ?_) | (intro h0; exact absurd h0 (by decide)) | (intro _) | ((conv => whnf); (first | (with_reducible refine And.intro ?_ ?_) | (intro h0; exact absurd h0 (by decide)) | (intro _) | (rw [hz]) | (refine hW.1 _ _ _ _ _ _ (c_phraseSizeY hp ?_) (by first | decide | omega) (by decide) (Nat.le_of_ble_eq_true rfl)))))); (all_goals (try omega)); (all_goals (try exact Nat.le_of_ble_eq_true rfl)); (all_goals (try ((conv => whnf); (first | (refine hW.2.1 _ _ ?_) | (change X _ _ _ _ _ _) | (change C _ _ _ _ _ _ _))))); (all_goals (try simp only [xup_at, xup_ne, xup_up, ne_eq, Nat.reduceEqDiff, not_false_eq_true, Int.toNat_natCast, x_lcmp] at *)); (all_goals (try omega)))
  have := loop z 0 ((z : Int) - 1) (M a) rfl (by omega) (fun j hj => rfl)
  rw [xup_id] at this
  exact this
set_option maxRecDepth 100000 in
theorem c_copy {M : xM} {Q : Option xV → xM → Prop} {a b : Nat} (ha : rowA a) (hb : rowA b) (hq : ∀ f : Nat → Int, (∀ j : Nat, j < 61 → f j = M a j) → Q none (xup M b f)) : xm 1 m_Reader_copy [xR (some 25), xR (some a), xR (some b)] M Q := by
  obtain ⟨hT, ha28⟩ := ha
  obtain ⟨hT', hb28⟩ := hb
  (refine xm_of (own := "DrumTongue$Reader") rfl (by decide +kernel) tk_Reader [some (xR (some 25)), some (xR (some a)), some (xR (some b))] (Nat.le_of_ble_eq_true rfl) rfl ?_; intro D nx X C P hW)
  refine xg hW k_Reader_copy [] 40 ?_
  ((repeat' (first | (with_reducible refine And.intro ?_ ?_) | (intro h0; exact absurd h0 (by decide)) | (intro _) | ((conv => whnf); (first | (with_reducible refine And.intro ?_ ?_) | (intro h0; exact absurd h0 (by decide)) | (intro _) | (rw [hT]) | (rw [hT']))))); (all_goals (try omega)); (all_goals (try exact Nat.le_of_ble_eq_true rfl)); (all_goals (try ((conv => whnf); (first | (refine hW.2.1 _ _ ?_) | (change X _ _ _ _ _ _) | (change C _ _ _ _ _ _ _))))); (all_goals (try simp only [xup_at, xup_ne, xup_up, ne_eq, Nat.reduceEqDiff, not_false_eq_true, Int.toNat_natCast, x_lcmp] at *)); (all_goals (try omega)))
  refine hq _ fun j hj => ?_
  unfold va_cpy
  rw [show (Int.toNat 0) = 0 from rfl, show (min ((61 : Nat) : Int) (61 : Nat)).toNat = 61 by omega]
  simp only [Nat.zero_le, Nat.zero_add, Nat.sub_zero, true_and, hj, if_true]
set_option maxRecDepth 100000 in
set_option maxHeartbeats 4000000 in
theorem c_takeLower {M : xM} {Q : Option xV → xM → Prop} {a b : Nat} (ha : rowA a) (hb : rowA b) (hab : a ≠ b) (hn : 0 ≤ M 23 1 ∧ M 23 1 ≤ 60) (hra : cRg (M 23 1).toNat (M a)) (hrb : cRg (M 23 1).toNat (M b)) (hq : ∀ f : Nat → Int, (∀ j : Nat, (j : Int) ≤ M 23 1 → f j = min (M b j) (M a j)) → Q none (xup M b f)) : xm 2 m_Reader_takeLower [xR (some 25), xR (some a), xR (some b)] M Q := by
  obtain ⟨n, hnn⟩ := Int.eq_ofNat_of_zero_le hn.1
  obtain ⟨hT, ha28⟩ := ha
  obtain ⟨hT', hb28⟩ := hb
  (refine xm_of (own := "DrumTongue$Reader") rfl (by decide +kernel) tk_Reader [some (xR (some 25)), some (xR (some a)), some (xR (some b)), none] (Nat.le_of_ble_eq_true rfl) rfl ?_; intro D nx X C P hW)
  have loop : ∀ (m k : Nat) (f : Nat → Int), k + m = n + 1 → (∀ j, j < k → f j = min (M b j) (M a j)) → (∀ j, k ≤ j → f j = M b j) → X 2 [some (xR (some 25)), some (xR (some a)), some (xR (some b)), some (xI (k : Int))] [] (xup M b f, D, nx) 0 0 := by
    intro m
    induction m with
    | zero =>
      intro k f hk hf hf2
      have e : (xup M b f) 23 1 = M 23 1 := by rw [xup_ne (by omega)]
      refine xg hW k_Reader_takeLower [2] 40 ?_
      ((repeat' (first | (with_reducible refine And.intro ?_ ?_) | (intro h0; exact absurd h0 (by decide)) | (intro _) | ((conv => whnf); (first | (with_reducible refine And.intro ?_ ?_) | (intro h0; exact absurd h0 (by decide)) | (intro _) | (rw [hT]) | (rw [hT']) | (refine hW.1 _ _ _ _ _ _ (c_earSize ?_) (by first | decide | omega) (by decide) (Nat.le_of_ble_eq_true rfl)))))); (all_goals (try omega)); (all_goals (try exact Nat.le_of_ble_eq_true rfl)); (all_goals (try ((conv => whnf); (first | (refine hW.2.1 _ _ ?_) | (change X _ _ _ _ _ _) | (change C _ _ _ _ _ _ _))))); (all_goals (try simp only [xup_at, xup_ne, xup_up, ne_eq, Nat.reduceEqDiff, not_false_eq_true, Int.toNat_natCast, x_lcmp] at *)); (all_goals (try omega)))
      exact hq f fun j hj => hf j (by omega)
    | succ m ih =>
      intro k f hk hf hf2
      have e : (xup M b f) 23 1 = M 23 1 := by rw [xup_ne (by omega)]
      have ea : (xup M b f) a = M a := xup_ne (by omega)
      have g : f k = M b k := hf2 k (by omega)
      have r1 := hra k (by omega)
      have r2 := hrb k (by omega)
      refine xg hW k_Reader_takeLower [2] 40 ?_
      ((repeat' (first | (with_reducible refine And.intro ?_ ?_) | (intro h0; exact absurd h0 (by decide)) | (intro _) | ((conv => whnf); (first | (with_reducible refine And.intro ?_ ?_) | (intro h0; exact absurd h0 (by decide)) | (intro _) | (rw [hT]) | (rw [hT']) | (rw [ea]) | (refine hW.1 _ _ _ _ _ _ (c_earSize ?_) (by first | decide | omega) (by decide) (Nat.le_of_ble_eq_true rfl)))))); (all_goals (try omega)); (all_goals (try exact Nat.le_of_ble_eq_true rfl)); (all_goals (try ((conv => whnf); (first | (refine hW.2.1 _ _ ?_) | (change X _ _ _ _ _ _) | (change C _ _ _ _ _ _ _))))); (all_goals (try simp only [xup_at, xup_ne, xup_up, ne_eq, Nat.reduceEqDiff, not_false_eq_true, Int.toNat_natCast, x_lcmp] at *)); (all_goals (try omega)))
      · show -2147483648 ≤ M a k
        omega
      · show M a k < 2147483648
        omega
      refine ih (k + 1) _ (by omega) (fun j hj => ?_) (fun j hj => ?_)
      · by_cases q : j = k
        · rw [q, xup_at, g]
        · rw [xup_ne q]; exact hf j (by omega)
      · rw [xup_ne (by omega)]; exact hf2 j (by omega)
  refine xg hW k_Reader_takeLower [2] 40 ?_
  ((repeat' (first | (with_reducible refine And.intro ?_ ?_) | (intro h0; exact absurd h0 (by decide)) | (intro _) | ((conv => whnf); (first | (with_reducible refine And.intro ?_ ?_) | (intro h0; exact absurd h0 (by decide)) | (intro _))))); (all_goals (try omega)); (all_goals (try exact Nat.le_of_ble_eq_true rfl)); (all_goals (try ((conv => whnf); (first | (refine hW.2.1 _ _ ?_) | (change X _ _ _ _ _ _) | (change C _ _ _ _ _ _ _))))); (all_goals (try simp only [xup_at, xup_ne, xup_up, ne_eq, Nat.reduceEqDiff, not_false_eq_true, Int.toNat_natCast, x_lcmp] at *)); (all_goals (try omega)))
  have := loop (n + 1) 0 (M b) (by omega) (fun j hj => absurd hj (Nat.not_lt_zero j)) (fun j hj => rfl)
  rw [xup_id] at this
  exact this
set_option maxRecDepth 100000 in
set_option maxHeartbeats 4000000 in
theorem c_leastTogether {M : xM} {Q : Option xV → xM → Prop} {a b : Nat} (ha : rowA a) (hb : rowA b) (hn : 0 ≤ M 23 1 ∧ M 23 1 ≤ 60) (hra : cR (M 23 1) (M a)) (hrb : cR (M 23 1) (M b)) (hq : Q (some (xI (min 1000000 (mt (M a) (M b) (M 23 1).toNat)))) M) : xm 2 m_Reader_leastTogether [xR (some 25), xR (some a), xR (some b)] M Q := by
  obtain ⟨n, hnn⟩ := Int.eq_ofNat_of_zero_le hn.1
  obtain ⟨hT, ha28⟩ := ha
  obtain ⟨hT', hb28⟩ := hb
  rw [show (M 23 1).toNat = n by omega] at hq
  (refine xm_of (own := "DrumTongue$Reader") rfl (by decide +kernel) tk_Reader [some (xR (some 25)), some (xR (some a)), some (xR (some b)), none, none] (Nat.le_of_ble_eq_true rfl) rfl ?_; intro D nx X C P hW)
  have loop : ∀ (m k : Nat), k + m = n → X 6 [some (xR (some 25)), some (xR (some a)), some (xR (some b)), some (xI (min 1000000 (mt (M a) (M b) k))), some (xI ((k : Int) + 1))] [] (M, D, nx) 0 0 := by
    intro m
    induction m with
    | zero =>
      intro k hk
      refine xg hW k_Reader_leastTogether [6] 40 ?_
      ((repeat' (first | (with_reducible refine And.intro ?_ ?_) | (intro h0; exact absurd h0 (by decide)) | (intro _) | ((conv => whnf); (first | (with_reducible refine And.intro ?_ ?_) | (intro h0; exact absurd h0 (by decide)) | (intro _) | (rw [hT]) | (rw [hT']) | (refine hW.1 _ _ _ _ _ _ (c_earSize ?_) (by first | decide | omega) (by decide) (Nat.le_of_ble_eq_true rfl)))))); (all_goals (try omega)); (all_goals (try exact Nat.le_of_ble_eq_true rfl)); (all_goals (try ((conv => whnf); (first | (refine hW.2.1 _ _ ?_) | (change X _ _ _ _ _ _) | (change C _ _ _ _ _ _ _))))); (all_goals (try simp only [xup_at, xup_ne, xup_up, ne_eq, Nat.reduceEqDiff, not_false_eq_true, Int.toNat_natCast, x_lcmp] at *)); (all_goals (try omega)))
      rw [show k = n by omega]
      exact hq
    | succ m ih =>
      intro k hk
      have r1 := hra (k + 1) (by omega)
      have r2 := hrb (k + 1) (by omega)
      have r3 := mt_at (f := M a) (g := M b) k
      have e : ((k : Int) + 1).toNat = k + 1 := by omega
      have r4 : 0 ≤ mt (M a) (M b) k := by
        obtain ⟨j, h1, h2⟩ := r3
        have := hra j (by omega)
        have := hrb j (by omega)
        omega
      refine xg hW k_Reader_leastTogether [6] 40 ?_
      ((repeat' (first | (with_reducible refine And.intro ?_ ?_) | (intro h0; exact absurd h0 (by decide)) | (intro _) | ((conv => whnf); (first | (with_reducible refine And.intro ?_ ?_) | (intro h0; exact absurd h0 (by decide)) | (intro _) | (rw [hT]) | (rw [hT']) | (rw [e]) | (refine hW.1 _ _ _ _ _ _ (c_earSize ?_) (by first | decide | omega) (by decide) (Nat.le_of_ble_eq_true rfl)))))); (all_goals (try omega)); (all_goals (try exact Nat.le_of_ble_eq_true rfl)); (all_goals (try ((conv => whnf); (first | (refine hW.2.1 _ _ ?_) | (change X _ _ _ _ _ _) | (change C _ _ _ _ _ _ _))))); (all_goals (try simp only [xup_at, xup_ne, xup_up, ne_eq, Nat.reduceEqDiff, not_false_eq_true, Int.toNat_natCast, x_lcmp] at *)); (all_goals (try omega)))
      · show -2147483648 ≤ M a (k + 1) + M b (k + 1)
        omega
      · show M a (k + 1) + M b (k + 1) < 2147483648
        omega
      have := ih (k + 1) (by omega)
      rw [mt, show ((k + 1 : Nat) : Int) = (k : Int) + 1 by omega, ← Int.min_assoc] at this
      exact this
  have r1 := hra 0 (by omega)
  have r2 := hrb 0 (by omega)
  refine xg hW k_Reader_leastTogether [6] 40 ?_
  ((repeat' (first | (with_reducible refine And.intro ?_ ?_) | (intro h0; exact absurd h0 (by decide)) | (intro _) | ((conv => whnf); (first | (with_reducible refine And.intro ?_ ?_) | (intro h0; exact absurd h0 (by decide)) | (intro _) | (rw [hT]) | (rw [hT']) | (refine hW.1 _ _ _ _ _ _ (c_earSize ?_) (by first | decide | omega) (by decide) (Nat.le_of_ble_eq_true rfl)))))); (all_goals (try omega)); (all_goals (try exact Nat.le_of_ble_eq_true rfl)); (all_goals (try ((conv => whnf); (first | (refine hW.2.1 _ _ ?_) | (change X _ _ _ _ _ _) | (change C _ _ _ _ _ _ _))))); (all_goals (try simp only [xup_at, xup_ne, xup_up, ne_eq, Nat.reduceEqDiff, not_false_eq_true, Int.toNat_natCast, x_lcmp] at *)); (all_goals (try omega)))
  refine xg hW k_Reader_leastTogether [6] 40 ?_
  ((repeat' (first | (with_reducible refine And.intro ?_ ?_) | (intro h0; exact absurd h0 (by decide)) | (intro _) | ((conv => whnf); (first | (with_reducible refine And.intro ?_ ?_) | (intro h0; exact absurd h0 (by decide)) | (intro _) | (rw [hT]) | (rw [hT']) | (refine hW.1 _ _ _ _ _ _ (c_earSize ?_) (by first | decide | omega) (by decide) (Nat.le_of_ble_eq_true rfl)))))); (all_goals (try omega)); (all_goals (try exact Nat.le_of_ble_eq_true rfl)); (all_goals (try ((conv => whnf); (first | (refine hW.2.1 _ _ ?_) | (change X _ _ _ _ _ _) | (change C _ _ _ _ _ _ _))))); (all_goals (try simp only [xup_at, xup_ne, xup_up, ne_eq, Nat.reduceEqDiff, not_false_eq_true, Int.toNat_natCast, x_lcmp] at *)); (all_goals (try omega)))
  · show -2147483648 ≤ M a 0 + M b 0
    omega
  · show M a 0 + M b 0 < 2147483648
    omega
  have := loop n 0 (by omega)
  rw [mt] at this
  exact this
end
section
/-! reading: the least for each count of words; spelling; doubt -/
theorem rowA_k : ∀ k : Nat, k ≤ 12 → rowA (29 + k)
  | 0, _ => ⟨rfl, by omega⟩ | 1, _ => ⟨rfl, by omega⟩ | 2, _ => ⟨rfl, by omega⟩ | 3, _ => ⟨rfl, by omega⟩ | 4, _ => ⟨rfl, by omega⟩ | 5, _ => ⟨rfl, by omega⟩ | 6, _ => ⟨rfl, by omega⟩ | 7, _ => ⟨rfl, by omega⟩ | 8, _ => ⟨rfl, by omega⟩ | 9, _ => ⟨rfl, by omega⟩ | 10, _ => ⟨rfl, by omega⟩ | 11, _ => ⟨rfl, by omega⟩ | 12, _ => ⟨rfl, by omega⟩
  | k + 13, h => absurd h (by omega)
theorem rowA_42 : rowA 42 := ⟨rfl, by omega⟩
theorem rowA_43 : rowA 43 := ⟨rfl, by omega⟩
theorem rowA_44 : rowA 44 := ⟨rfl, by omega⟩
/-- the tongue and the ear are as they were -/
def frE (M M' : xM) : Prop := ∀ a, a < 25 → M' a = M a
theorem frE_up {M M' : xM} {a : Nat} {f : Nat → Int} (ha : 25 ≤ a) (h : frE M M') : frE M (xup M' a f) := fun b hb => by rw [xup_ne (by omega)]; exact h b hb
/-- what reading asks of tongue and ear -/
def rdOk (M : xM) : Prop := earOk M ∧ phOk M ∧ 0 ≤ M 3 2 ∧ M 3 2 ≤ 10
theorem rdOk_fr {M M' : xM} (h : frE M M') (hk : rdOk M) : rdOk M' := by
  unfold rdOk earOk phOk
  rw [h 23 (by omega), h 24 (by omega), h 15 (by omega), h 16 (by omega), h 17 (by omega), h 3 (by omega)]
  exact hk
theorem wF_fr {M M' : xM} (h : frE M M') (w : Nat) (f : Nat → Int) : wF M' w f = wF M w f := by
  unfold wF
  rw [h 24 (by omega), h 16 (by omega), h 17 (by omega)]
theorem wB_fr {M M' : xM} (h : frE M M') (w : Nat) (f : Nat → Int) : wB M' w f = wB M w f := by
  unfold wB
  rw [h 24 (by omega), h 16 (by omega), h 17 (by omega), h 23 (by omega)]
theorem hP_fr {M M' : xM} (h : frE M M') {w : Int} (hp : hP M w) : hP M' w := by
  unfold hP
  rw [h 15 (by omega)]
  exact hp
theorem c_front {M M' : xM} {Q : Option xV → xM → Prop} {a : Nat} {w : Int} (fr : frE M M') (hk : rdOk M) (ha : rowA a) (hr : cR (M 23 1) (M' a)) (hw : hP M w) (hq : ∀ f : Nat → Int, (∀ j : Nat, (j : Int) ≤ M 23 1 → f j = wB M w.toNat (M' a) j) → Q none (xup M' a f)) : xm 3 m_Reader_putInFront [xR (some 25), xI w, xR (some a)] M' Q := by
  have hk' := rdOk_fr fr hk
  have e := fr 23 (by omega)
  refine c_putInFront ha hk'.1 hk'.2.1 (hP_fr fr hw) (by rw [e]; exact hr) fun f hf => hq f fun j hj => ?_
  rw [hf j (by rw [e]; exact hj), wB_fr fr]
theorem c_behind {M M' : xM} {Q : Option xV → xM → Prop} {a : Nat} {w : Int} (fr : frE M M') (hk : rdOk M) (ha : rowA a) (hr : cR (M 23 1) (M' a)) (hw : hP M w) (hq : ∀ f : Nat → Int, (∀ j : Nat, (j : Int) ≤ M 23 1 → f j = wF M w.toNat (M' a) j) → Q none (xup M' a f)) : xm 3 m_Reader_putBehind [xR (some 25), xI w, xR (some a)] M' Q := by
  have hk' := rdOk_fr fr hk
  have e := fr 23 (by omega)
  refine c_putBehind ha hk'.1 hk'.2.1 (hP_fr fr hw) (by rw [e]; exact hr) fun f hf => hq f fun j hj => ?_
  rw [hf j (by rw [e]; exact hj), wF_fr fr]
/-- the least of g behind a word of the first w, at each place -/
def lowW (M : xM) (g : Nat → Int) : Nat → Nat → Int
  | 0 => fun _ => 1000000
  | w + 1 => fun j => if M 15 w = -1 then lowW M g w j else min (lowW M g w j) (wB M w g j)
/-- the least from a place on, with k words -/
def rRow (M : xM) : Nat → Nat → Int
  | 0 => fun j => 3 * (M 23 1 - j)
  | k + 1 => lowW M (rRow M k) (M 3 2).toNat
theorem wB_rg {M : xM} (hk : rdOk M) {w : Nat} (hw : w < 10) (hP : M 15 w ≠ -1) {g : Nat → Int} {B : Int} (hg : ∀ j : Nat, (j : Int) ≤ M 23 1 → 0 ≤ g j ∧ g j ≤ B) : ∀ j : Nat, (j : Int) ≤ M 23 1 → 0 ≤ wB M w g j ∧ wB M w g j ≤ B + 54 := by
  intro j hj
  have h1 := hk.1.1
  obtain ⟨p1, p2, p3, -⟩ := (hk.2.1 w hw).2.2 hP
  have := bwN_rg (H := M 24) (β := btOf (M 16 w) (M 17 w)) (g := g) (n := (M 23 1).toNat) (m := (M 16 w).toNat) (B := B) (fun j hj => hg j (by omega)) (M 16 w).toNat j (by omega)
  unfold wB
  omega
theorem wF_rg {M : xM} (hk : rdOk M) {w : Nat} (hw : w < 10) (hP : M 15 w ≠ -1) {g : Nat → Int} {B : Int} (hg : ∀ j : Nat, (j : Int) ≤ M 23 1 → 0 ≤ g j ∧ g j ≤ B) : ∀ j : Nat, (j : Int) ≤ M 23 1 → 0 ≤ wF M w g j ∧ wF M w g j ≤ B + 54 := by
  intro j hj
  have h1 := hk.1.1
  obtain ⟨p1, p2, p3, -⟩ := (hk.2.1 w hw).2.2 hP
  have := fwN_rg (H := M 24) (β := btOf (M 16 w) (M 17 w)) (f := g) (n := (M 23 1).toNat) (B := B) (fun j hj => hg j (by omega)) (M 16 w).toNat j (by omega)
  unfold wF
  omega
theorem lowW_rg {M : xM} (hk : rdOk M) {g : Nat → Int} (hg : ∀ j : Nat, (j : Int) ≤ M 23 1 → 0 ≤ g j ∧ g j ≤ 1000000) : ∀ w : Nat, w ≤ 10 → ∀ j : Nat, (j : Int) ≤ M 23 1 → 0 ≤ lowW M g w j ∧ lowW M g w j ≤ 1000000
  | 0, _, j, _ => by show (0 : Int) ≤ 1000000 ∧ (1000000 : Int) ≤ 1000000; omega
  | w + 1, hw, j, hj => by
    have h1 := lowW_rg hk hg w (by omega) j hj
    rw [lowW]
    by_cases q : M 15 w = -1
    · simp only [q, if_true]; exact h1
    · have h2 := wB_rg hk (by omega) q hg j hj
      simp only [q, if_false]; omega
theorem rRow_rg {M : xM} (hk : rdOk M) : ∀ k : Nat, ∀ j : Nat, (j : Int) ≤ M 23 1 → 0 ≤ rRow M k j ∧ rRow M k j ≤ 1000000
  | 0, j, hj => by have := hk.1.2.1; show 0 ≤ 3 * (M 23 1 - j) ∧ 3 * (M 23 1 - j) ≤ 1000000; omega
  | k + 1, j, hj => by rw [rRow]; exact lowW_rg hk (rRow_rg hk k) _ (by have := hk.2.2; omega) j hj
theorem wB_congr {M : xM} (w : Nat) {g g' : Nat → Int} (h0 : 0 ≤ M 23 1) (h : ∀ j : Nat, (j : Int) ≤ M 23 1 → g j = g' j) : ∀ j : Nat, (j : Int) ≤ M 23 1 → wB M w g j = wB M w g' j := fun j hj => bwN_congr (n := (M 23 1).toNat) (fun j hj => h j (by omega)) _ j (by omega)
theorem wF_congr {M : xM} (w : Nat) {g g' : Nat → Int} (h0 : 0 ≤ M 23 1) (h : ∀ j : Nat, (j : Int) ≤ M 23 1 → g j = g' j) : ∀ j : Nat, (j : Int) ≤ M 23 1 → wF M w g j = wF M w g' j := fun j hj => fwN_congr (n := (M 23 1).toNat) (fun j hj => h j (by omega)) _ j (by omega)
theorem xnn {a : Int} (h : 0 ≤ a) : a.NonNeg := by
  have := Int.le_def.1 h
  rwa [Int.sub_zero] at this
set_option maxRecDepth 100000 in
set_option maxHeartbeats 8000000 in
theorem c_weighAllCounts {M : xM} {Q : Option xV → xM → Prop} (hk : rdOk M) (hq : ∀ M' : xM, (∀ a, a < 29 ∨ 41 < a ∧ a ≠ 44 → M' a = M a) → (∀ k, k ≤ 12 → ∀ j : Nat, (j : Int) ≤ M 23 1 → M' (29 + k) j = rRow M k j) → Q none M') : xm 4 m_Reader_weighAllCounts [xR (some 25)] M Q := by
  obtain ⟨⟨n1, n2, n3⟩, hp, hw1, hw2⟩ := id hk
  obtain ⟨W, hW3⟩ := Int.eq_ofNat_of_zero_le hw1
  (refine xm_of (own := "DrumTongue$Reader") rfl (by decide +kernel) tk_Reader [some (xR (some 25)), none, none] (Nat.le_of_ble_eq_true rfl) rfl ?_; intro D nx X C P hW)
  have inner : ∀ (k : Nat), k < 12 → (∀ (M' : xM) (v : Option xV), (∀ a, a < 29 ∨ 41 < a ∧ a ≠ 44 → M' a = M a) → (∀ i, i ≤ k + 1 → ∀ j : Nat, (j : Int) ≤ M 23 1 → M' (29 + i) j = rRow M i j) → X 12 [some (xR (some 25)), some (xI ((k : Int) + 1 + 1)), v] [] (M', D, nx) 0 0) → ∀ (m w : Nat) (M' : xM), w + m = W → (∀ a, a < 29 ∨ 41 < a ∧ a ≠ 44 → M' a = M a) → (∀ i, i ≤ k → ∀ j : Nat, (j : Int) ≤ M 23 1 → M' (29 + i) j = rRow M i j) → (∀ j : Nat, (j : Int) ≤ M 23 1 → M' (29 + (k + 1)) j = lowW M (rRow M k) w j) → X 31 [some (xR (some 25)), some (xI ((k : Int) + 1)), some (xI (w : Int))] [] (M', D, nx) 0 0 := by
    intro k hk12 next m
    induction m with
    | zero =>
      intro w M' hwm h1 h2 h3
      have e3 : M' 3 2 = (W : Int) := by rw [h1 3 (by omega)]; exact hW3
      refine xg hW k_Reader_weighAllCounts [12, 31] 40 ?_
      ((repeat' (first | (with_reducible refine And.intro ?_ ?_) | (intro h0; exact absurd h0 (by decide)) | (intro _) | ((conv => whnf); (first | (with_reducible refine And.intro ?_ ?_) | (intro h0; exact absurd h0 (by decide)) | (intro _) | (rw [e3]) | (refine hW.1 _ _ _ _ _ _ (c_wordCount ?_) (by first | decide | omega) (by decide) (Nat.le_of_ble_eq_true rfl)))))); (all_goals (try omega)); (all_goals (try exact Nat.le_of_ble_eq_true rfl)); (all_goals (try ((conv => whnf); (first | (refine hW.2.1 _ _ ?_) | (change X _ _ _ _ _ _) | (change C _ _ _ _ _ _ _))))); (all_goals (try simp only [xup_at, xup_ne, xup_up, ne_eq, Nat.reduceEqDiff, not_false_eq_true, Int.toNat_natCast, x_lcmp] at *)); (all_goals (try omega)))
      any_goals (exact xnn (by omega))
      refine next M' _ h1 fun i hi j hj => ?_
      by_cases q : i = k + 1
      · rw [q, h3 j hj, rRow, show (M 3 2).toNat = w by omega]
      · exact h2 i (by omega) j hj
    | succ m ih =>
      intro w M' hwm h1 h2 h3
      have e3 : M' 3 2 = (W : Int) := by rw [h1 3 (by omega)]; exact hW3
      have e15 : M' 15 w = M 15 w := by rw [h1 15 (by omega)]
      have fr : frE M M' := fun a ha => h1 a (by omega)
      have hp' := (rdOk_fr fr hk).2.1
      have k1 : ((k : Int) + 1 - 1).toNat = k := by omega
      have k2 : ((k : Int) + 1).toNat = k + 1 := by omega
      have r1 := rowA_k k (by omega)
      have r2 := rowA_k (k + 1) (by omega)
      have hw10 : w < 10 := by omega
      refine xg hW k_Reader_weighAllCounts [12, 31] 40 ?_
      ((repeat' (first | (with_reducible refine And.intro ?_ ?_) | (intro h0; exact absurd h0 (by decide)) | (intro _) | ((conv => whnf); (first | (with_reducible refine And.intro ?_ ?_) | (intro h0; exact absurd h0 (by decide)) | (intro _) | (rw [e3]) | (rw [e15]) | (rw [k1]) | (rw [k2]) | (refine hW.1 _ _ _ _ _ _ (c_wordCount ?_) (by first | decide | omega) (by decide) (Nat.le_of_ble_eq_true rfl)) | (refine hW.1 _ _ _ _ _ _ (c_hasPhraseI hp' ?_) (by first | decide | omega) (by decide) (Nat.le_of_ble_eq_true rfl)) | (refine hW.1 _ _ _ _ _ _ (c_copy r1 rowA_44 ?_) (by first | decide | omega) (by decide) (Nat.le_of_ble_eq_true rfl)))))); (all_goals (try omega)); (all_goals (try exact Nat.le_of_ble_eq_true rfl)); (all_goals (try ((conv => whnf); (first | (refine hW.2.1 _ _ ?_) | (change X _ _ _ _ _ _) | (change C _ _ _ _ _ _ _))))); (all_goals (try simp only [xup_at, xup_ne, xup_up, ne_eq, Nat.reduceEqDiff, not_false_eq_true, Int.toNat_natCast, x_lcmp] at *)); (all_goals (try omega)))
      any_goals (exact xnn (by omega))
      · rename_i hP1 _ f hf
        have hP2 : M 15 w ≠ -1 := by rw [← e15]; exact hP1
        have fr' : frE M (xup M' 44 f) := frE_up (by omega) fr
        have hh : hP M (w : Int) := ⟨by omega, by omega, by rw [Int.toNat_natCast]; exact hP2⟩
        have ef : ∀ j : Nat, (j : Int) ≤ M 23 1 → f j = rRow M k j := fun j hj => (hf j (by omega)).trans (h2 k (Nat.le_refl _) j hj)
        have hr' : cR (M 23 1) ((xup M' 44 f) 44) := by
          intro j hj
          rw [xup_at, ef j hj]
          have := rRow_rg hk k j hj
          omega
        ((repeat' (first | (with_reducible refine And.intro ?_ ?_) | (intro h0; exact absurd h0 (by decide)) | (intro _) | ((conv => whnf); (first | (with_reducible refine And.intro ?_ ?_) | (intro h0; exact absurd h0 (by decide)) | (intro _) | (rw [k2]) | (refine hW.1 _ _ _ _ _ _ (c_front fr' hk rowA_44 hr' hh ?_) (by first | decide | omega) (by decide) (Nat.le_of_ble_eq_true rfl)))))); (all_goals (try omega)); (all_goals (try exact Nat.le_of_ble_eq_true rfl)); (all_goals (try ((conv => whnf); (first | (refine hW.2.1 _ _ ?_) | (change X _ _ _ _ _ _) | (change C _ _ _ _ _ _ _))))); (all_goals (try simp only [xup_at, xup_ne, xup_up, ne_eq, Nat.reduceEqDiff, not_false_eq_true, Int.toNat_natCast, x_lcmp] at *)); (all_goals (try omega)))
        rename_i f2 hf2
        have ef2 : ∀ j : Nat, (j : Int) ≤ M 23 1 → f2 j = wB M w (rRow M k) j := fun j hj => (hf2 j hj).trans (wB_congr w n1 ef j hj)
        have fr2 : frE M (xup M' 44 f2) := frE_up (by omega) fr
        have e23 : (xup M' 44 f2) 23 = M 23 := fr2 23 (by omega)
        have s1 : cRg ((xup M' 44 f2) 23 1).toNat ((xup M' 44 f2) 44) := by
          rw [e23, xup_at]
          intro j hj
          rw [ef2 j (by omega)]
          have := wB_rg hk hw10 hP2 (rRow_rg hk k) j (by omega)
          omega
        have s2 : cRg ((xup M' 44 f2) 23 1).toNat ((xup M' 44 f2) (29 + (k + 1))) := by
          rw [e23, xup_ne (by omega)]
          intro j hj
          rw [h3 j (by omega)]
          have := lowW_rg hk (rRow_rg hk k) w (by omega) j (by omega)
          omega
        ((repeat' (first | (with_reducible refine And.intro ?_ ?_) | (intro h0; exact absurd h0 (by decide)) | (intro _) | ((conv => whnf); (first | (with_reducible refine And.intro ?_ ?_) | (intro h0; exact absurd h0 (by decide)) | (intro _) | (rw [k2]) | (refine hW.1 _ _ _ _ _ _ (c_takeLower rowA_44 r2 (by omega) (by rw [e23]; omega) s1 s2 ?_) (by first | decide | omega) (by decide) (Nat.le_of_ble_eq_true rfl)))))); (all_goals (try omega)); (all_goals (try exact Nat.le_of_ble_eq_true rfl)); (all_goals (try ((conv => whnf); (first | (refine hW.2.1 _ _ ?_) | (change X _ _ _ _ _ _) | (change C _ _ _ _ _ _ _))))); (all_goals (try simp only [xup_at, xup_ne, xup_up, ne_eq, Nat.reduceEqDiff, not_false_eq_true, Int.toNat_natCast, x_lcmp] at *)); (all_goals (try omega)))
        rename_i f3 hf3
        refine ih (w + 1) _ (by omega) (fun a ha => ?_) (fun i hi j hj => ?_) (fun j hj => ?_)
        · rw [xup_ne (by omega), xup_ne (by omega)]; exact h1 a ha
        · rw [xup_ne (by omega), xup_ne (by omega)]; exact h2 i hi j hj
        · rw [xup_at, hf3 j (by rw [e23]; exact hj), xup_ne (by omega), h3 j hj, ef2 j hj, lowW]
          simp only [hP2, if_false]
      · rename_i hP1 _
        have hP2 : M 15 w = -1 := by rw [← e15]; exact hP1
        refine ih (w + 1) M' (by omega) h1 h2 (fun j hj => ?_)
        rw [h3 j hj, lowW]
        simp only [hP2, if_true]
  have loop : ∀ (m k : Nat) (M' : xM) (v : Option xV), k + m = 12 → (∀ a, a < 29 ∨ 41 < a ∧ a ≠ 44 → M' a = M a) → (∀ i, i ≤ k → ∀ j : Nat, (j : Int) ≤ M 23 1 → M' (29 + i) j = rRow M i j) → X 12 [some (xR (some 25)), some (xI ((k : Int) + 1)), v] [] (M', D, nx) 0 0 := by
    intro m
    induction m with
    | zero =>
      intro k M' v hkm h1 h2
      refine xg hW k_Reader_weighAllCounts [12, 31] 40 ?_
      ((repeat' (first | (with_reducible refine And.intro ?_ ?_) | (intro h0; exact absurd h0 (by decide)) | (intro _) | ((conv => whnf); (first | (with_reducible refine And.intro ?_ ?_) | (intro h0; exact absurd h0 (by decide)) | (intro _))))); (all_goals (try omega)); (all_goals (try exact Nat.le_of_ble_eq_true rfl)); (all_goals (try ((conv => whnf); (first | (refine hW.2.1 _ _ ?_) | (change X _ _ _ _ _ _) | (change C _ _ _ _ _ _ _))))); (all_goals (try simp only [xup_at, xup_ne, xup_up, ne_eq, Nat.reduceEqDiff, not_false_eq_true, Int.toNat_natCast, x_lcmp] at *)); (all_goals (try omega)))
      exact hq M' h1 fun i hi j hj => h2 i (by omega) j hj
    | succ m ih =>
      intro k M' v hkm h1 h2
      have k2 : ((k : Int) + 1).toNat = k + 1 := by omega
      have r2 := rowA_k (k + 1) (by omega)
      have r3 := r2.1
      refine xg hW k_Reader_weighAllCounts [12, 31] 40 ?_
      ((repeat' (first | (with_reducible refine And.intro ?_ ?_) | (intro h0; exact absurd h0 (by decide)) | (intro _) | ((conv => whnf); (first | (with_reducible refine And.intro ?_ ?_) | (intro h0; exact absurd h0 (by decide)) | (intro _) | (rw [k2]) | (refine hW.1 _ _ _ _ _ _ (c_fill r3 (by omega) ?_) (by first | decide | omega) (by decide) (Nat.le_of_ble_eq_true rfl)))))); (all_goals (try omega)); (all_goals (try exact Nat.le_of_ble_eq_true rfl)); (all_goals (try ((conv => whnf); (first | (refine hW.2.1 _ _ ?_) | (change X _ _ _ _ _ _) | (change C _ _ _ _ _ _ _))))); (all_goals (try simp only [xup_at, xup_ne, xup_up, ne_eq, Nat.reduceEqDiff, not_false_eq_true, Int.toNat_natCast, x_lcmp] at *)); (all_goals (try omega)))
      refine inner k (by omega) (fun M'' v' h3 h4 => ?_) W 0 _ (by omega) (fun a ha => ?_) (fun i hi j hj => ?_) (fun j hj => ?_)
      · have := ih (k + 1) M'' v' (by omega) h3 h4
        rw [show ((k + 1 : Nat) : Int) = (k : Int) + 1 by omega] at this
        exact this
      · rw [xup_ne (by omega)]; exact h1 a ha
      · rw [xup_ne (by omega)]; exact h2 i hi j hj
      · rw [xup_at]
        unfold xfill
        simp only [show j < 61 by omega, if_true]
        rfl
  have r0 := rowA_k 0 (by omega)
  have nn : 0 ≤ M 23 1 ∧ M 23 1 ≤ 60 := ⟨n1, n2⟩
  refine xg hW k_Reader_weighAllCounts [12, 31] 40 ?_
  ((repeat' (first | (with_reducible refine And.intro ?_ ?_) | (intro h0; exact absurd h0 (by decide)) | (intro _) | ((conv => whnf); (first | (with_reducible refine And.intro ?_ ?_) | (intro h0; exact absurd h0 (by decide)) | (intro _) | (refine hW.1 _ _ _ _ _ _ (c_startFrom r0 nn ?_) (by first | decide | omega) (by decide) (Nat.le_of_ble_eq_true rfl)))))); (all_goals (try omega)); (all_goals (try exact Nat.le_of_ble_eq_true rfl)); (all_goals (try ((conv => whnf); (first | (refine hW.2.1 _ _ ?_) | (change X _ _ _ _ _ _) | (change C _ _ _ _ _ _ _))))); (all_goals (try simp only [xup_at, xup_ne, xup_up, ne_eq, Nat.reduceEqDiff, not_false_eq_true, Int.toNat_natCast, x_lcmp] at *)); (all_goals (try omega)))
  rename_i f hf
  refine loop 12 0 _ none (by omega) (fun a ha => ?_) (fun i hi j hj => ?_)
  · exact xup_ne (by show a ≠ 29; omega)
  · rw [show i = 0 by omega]
    exact (congrFun (xup_at _ _ _) j).trans (hf j hj)
/-- the first count of words with the least -/
def bcK (r : Nat → Int) : Nat → Nat
  | 0 => 0
  | k + 1 => if r (k + 1) < r (bcK r k) then k + 1 else bcK r k
theorem bcK_le (r : Nat → Int) : ∀ k, bcK r k ≤ k
  | 0 => Nat.le_refl _
  | k + 1 => by have := bcK_le r k; rw [bcK]; split <;> omega
theorem bcK_congr {r r' : Nat → Int} : ∀ k, (∀ i, i ≤ k → r i = r' i) → bcK r k = bcK r' k
  | 0, _ => rfl
  | k + 1, h => by
    have h1 := bcK_congr (r := r) (r' := r') k fun i hi => h i (by omega)
    have h2 := bcK_le r' k
    rw [bcK, bcK, h1, h (k + 1) (by omega), h _ (show bcK r' k ≤ k + 1 by omega)]
set_option maxRecDepth 100000 in
theorem c_bestCount {M : xM} {Q : Option xV → xM → Prop} (hr : ∀ k, k ≤ 12 → xrg (M (29 + k) 0)) (hq : Q (some (xI (bcK (fun k => M (29 + k) 0) 12 : Nat))) M) : xm 1 m_Reader_bestCount [xR (some 25)] M Q := by
  (refine xm_of (own := "DrumTongue$Reader") rfl (by decide +kernel) tk_Reader [some (xR (some 25)), none, none] (Nat.le_of_ble_eq_true rfl) rfl ?_; intro D nx X C P hW)
  have loop : ∀ (m k b : Nat), k + m = 12 → b ≤ 12 → b = bcK (fun k => M (29 + k) 0) k → X 4 [some (xR (some 25)), some (xI (b : Int)), some (xI ((k : Int) + 1))] [] (M, D, nx) 0 0 := by
    intro m
    induction m with
    | zero =>
      intro k b hk hb e
      refine xg hW k_Reader_bestCount [4] 40 ?_
      ((repeat' (first | (with_reducible refine And.intro ?_ ?_) | (intro h0; exact absurd h0 (by decide)) | (intro _) | ((conv => whnf); (first | (with_reducible refine And.intro ?_ ?_) | (intro h0; exact absurd h0 (by decide)) | (intro _))))); (all_goals (try omega)); (all_goals (try exact Nat.le_of_ble_eq_true rfl)); (all_goals (try ((conv => whnf); (first | (refine hW.2.1 _ _ ?_) | (change X _ _ _ _ _ _) | (change C _ _ _ _ _ _ _))))); (all_goals (try simp only [xup_at, xup_ne, xup_up, ne_eq, Nat.reduceEqDiff, not_false_eq_true, Int.toNat_natCast, x_lcmp] at *)); (all_goals (try omega)))
      rw [e, show k = 12 by omega]
      exact hq
    | succ m ih =>
      intro k b hk hb e
      have k2 : ((k : Int) + 1).toNat = k + 1 := by omega
      have r2 := (rowA_k (k + 1) (by omega)).1
      have r1 := (rowA_k b (by omega)).1
      have q1 := hr (k + 1) (by omega)
      have q2 := hr b (by omega)
      have e2 : bcK (fun k => M (29 + k) 0) (k + 1) = if M (29 + (k + 1)) 0 < M (29 + b) 0 then k + 1 else b := by rw [bcK, ← e]
      refine xg hW k_Reader_bestCount [4] 40 ?_
      ((repeat' (first | (with_reducible refine And.intro ?_ ?_) | (intro h0; exact absurd h0 (by decide)) | (intro _) | ((conv => whnf); (first | (with_reducible refine And.intro ?_ ?_) | (intro h0; exact absurd h0 (by decide)) | (intro _) | (rw [k2]) | (rw [r1]) | (rw [r2]))))); (all_goals (try omega)); (all_goals (try exact Nat.le_of_ble_eq_true rfl)); (all_goals (try ((conv => whnf); (first | (refine hW.2.1 _ _ ?_) | (change X _ _ _ _ _ _) | (change C _ _ _ _ _ _ _))))); (all_goals (try simp only [xup_at, xup_ne, xup_up, ne_eq, Nat.reduceEqDiff, not_false_eq_true, Int.toNat_natCast, x_lcmp] at *)); (all_goals (try omega)))
      ((repeat' (first | (with_reducible refine And.intro ?_ ?_) | (intro h0; exact absurd h0 (by decide)) | (intro _) | ((conv => whnf); (first | (with_reducible refine And.intro ?_ ?_) | (intro h0; exact absurd h0 (by decide)) | (intro _) | (rw [k2]) | (rw [r1]) | (rw [r2]))))); (all_goals (try omega)); (all_goals (try exact Nat.le_of_ble_eq_true rfl)); (all_goals (try ((conv => whnf); (first | (refine hW.2.1 _ _ ?_) | (change X _ _ _ _ _ _) | (change C _ _ _ _ _ _ _))))); (all_goals (try simp only [xup_at, xup_ne, xup_up, ne_eq, Nat.reduceEqDiff, not_false_eq_true, Int.toNat_natCast, x_lcmp] at *)); (all_goals (try omega)))
      · exact q1.1
      · exact q1.2
      · exact q2.1
      · exact q2.2
      · rename_i h0
        have h1 : M (29 + b) 0 ≤ M (29 + (k + 1)) 0 := h0
        have := ih (k + 1) b (by omega) hb (by rw [e2, if_neg (by omega)])
        rw [show ((k + 1 : Nat) : Int) = (k : Int) + 1 by omega] at this
        exact this
      · rename_i h0
        have h1 : M (29 + (k + 1)) 0 < M (29 + b) 0 := h0
        have := ih (k + 1) (k + 1) (by omega) (by omega) (by rw [e2, if_pos h1])
        rw [show ((k + 1 : Nat) : Int) = (k : Int) + 1 by omega] at this
        exact this
  refine xg hW k_Reader_bestCount [4] 40 ?_
  ((repeat' (first | (with_reducible refine And.intro ?_ ?_) | (intro h0; exact absurd h0 (by decide)) | (intro _) | ((conv => whnf); (first | (with_reducible refine And.intro ?_ ?_) | (intro h0; exact absurd h0 (by decide)) | (intro _))))); (all_goals (try omega)); (all_goals (try exact Nat.le_of_ble_eq_true rfl)); (all_goals (try ((conv => whnf); (first | (refine hW.2.1 _ _ ?_) | (change X _ _ _ _ _ _) | (change C _ _ _ _ _ _ _))))); (all_goals (try simp only [xup_at, xup_ne, xup_up, ne_eq, Nat.reduceEqDiff, not_false_eq_true, Int.toNat_natCast, x_lcmp] at *)); (all_goals (try omega)))
  exact loop 12 0 0 (by omega) (by omega) rfl
/-- the first word of the first w that keeps the least v: what lies behind it costs g; 0 if none -/
def fstW (M : xM) (f g : Nat → Int) (v : Int) : Nat → Nat → Nat
  | 0, _ => 0
  | m + 1, w => if M 15 w ≠ -1 ∧ min 1000000 (mt (wF M w f) g (M 23 1).toNat) = v then w else fstW M f g v m (w + 1)
theorem fstW_le (M : xM) (f g : Nat → Int) (v : Int) : ∀ m w : Nat, fstW M f g v m w ≤ w + m
  | 0, w => by rw [fstW]; omega
  | m + 1, w => by have := fstW_le M f g v m (w + 1); rw [fstW]; split <;> omega
theorem c_lt {M M' : xM} {Q : Option xV → xM → Prop} {a b : Nat} {f g : Nat → Int} (fr : frE M M') (hk : rdOk M) (ha : rowA a) (hb : rowA b) (ef : ∀ j : Nat, (j : Int) ≤ M 23 1 → M' a j = f j) (eg : ∀ j : Nat, (j : Int) ≤ M 23 1 → M' b j = g j) (hf : ∀ j : Nat, (j : Int) ≤ M 23 1 → 0 ≤ f j ∧ f j ≤ 1900000) (hg : ∀ j : Nat, (j : Int) ≤ M 23 1 → 0 ≤ g j ∧ g j ≤ 1900000) (hq : Q (some (xI (min 1000000 (mt f g (M 23 1).toNat)))) M') : xm 2 m_Reader_leastTogether [xR (some 25), xR (some a), xR (some b)] M' Q := by
  have e23 := fr 23 (by omega)
  have n1 := hk.1.1
  refine c_leastTogether ha hb (by rw [e23]; exact ⟨n1, hk.1.2.1⟩) (fun j hj => ?_) (fun j hj => ?_) ?_
  · rw [e23] at hj; rw [ef j hj]; exact hf j hj
  · rw [e23] at hj; rw [eg j hj]; exact hg j hj
  · rw [e23, mt_congr (f' := f) (g' := g) (fun j hj => ef j (by omega)) (fun j hj => eg j (by omega))]
    exact hq
theorem mt_rg {f g : Nat → Int} {n : Nat} (hf : ∀ j, j ≤ n → 0 ≤ f j) (hg : ∀ j, j ≤ n → 0 ≤ g j) : 0 ≤ mt f g n := by
  obtain ⟨j, h1, h2⟩ := mt_at (f := f) (g := g) n
  have := hf j h1
  have := hg j h1
  omega
set_option maxRecDepth 100000 in
set_option maxHeartbeats 8000000 in
theorem c_firstWord {M M' : xM} {Q : Option xV → xM → Prop} {l : Nat} (fr : frE M M') (hk : rdOk M) (hl : l ≤ 12) (hx : xrg (M' 25 6)) (hu : ∀ j : Nat, (j : Int) ≤ M 23 1 → 0 ≤ M' 42 j ∧ M' 42 j ≤ 1000000) (hr : ∀ j : Nat, (j : Int) ≤ M 23 1 → 0 ≤ M' (29 + l) j ∧ M' (29 + l) j ≤ 1000000) (hq : ∀ t : Nat → Int, Q (some (xI (fstW M (M' 42) (M' (29 + l)) (M' 25 6) (M 3 2).toNat 0 : Nat))) (xup M' 44 t)) : xm 4 m_Reader_firstWordThatKeepsTheLeast [xR (some 25), xI (l : Int)] M' Q := by
  obtain ⟨⟨n1, n2, n3⟩, hp, hw1, hw2⟩ := id hk
  obtain ⟨W, hW3⟩ := Int.eq_ofNat_of_zero_le hw1
  rw [show (M 3 2).toNat = W by omega] at hq
  (refine xm_of (own := "DrumTongue$Reader") rfl (by decide +kernel) tk_Reader [some (xR (some 25)), some (xI (l : Int)), none] (Nat.le_of_ble_eq_true rfl) rfl ?_; intro D nx X C P hW)
  have loop : ∀ (m w : Nat) (t : Nat → Int), w + m = W → fstW M (M' 42) (M' (29 + l)) (M' 25 6) W 0 = fstW M (M' 42) (M' (29 + l)) (M' 25 6) m w → X 14 [some (xR (some 25)), some (xI (l : Int)), some (xI (w : Int))] [] (xup M' 44 t, D, nx) 0 0 := by
    intro m
    induction m with
    | zero =>
      intro w t hwm h1
      rw [fstW] at h1
      rw [h1] at hq
      have e3 : (xup M' 44 t) 3 2 = (W : Int) := by rw [xup_ne (by omega), fr 3 (by omega)]; exact hW3
      refine xg hW k_Reader_firstWordThatKeepsTheLeast [14] 40 ?_
      ((repeat' (first | (with_reducible refine And.intro ?_ ?_) | (intro h0; exact absurd h0 (by decide)) | (intro _) | ((conv => whnf); (first | (with_reducible refine And.intro ?_ ?_) | (intro h0; exact absurd h0 (by decide)) | (intro _) | (rw [e3]) | (refine hW.1 _ _ _ _ _ _ (c_wordCount ?_) (by first | decide | omega) (by decide) (Nat.le_of_ble_eq_true rfl)))))); (all_goals (try omega)); (all_goals (try exact Nat.le_of_ble_eq_true rfl)); (all_goals (try ((conv => whnf); (first | (refine hW.2.1 _ _ ?_) | (change X _ _ _ _ _ _) | (change C _ _ _ _ _ _ _))))); (all_goals (try simp only [xup_at, xup_ne, xup_up, ne_eq, Nat.reduceEqDiff, not_false_eq_true, Int.toNat_natCast, x_lcmp] at *)); (all_goals (try omega)))
      any_goals (exact xnn (by omega))
      exact hq t
    | succ m ih =>
      intro w t hwm h1
      have fr1 : frE M (xup M' 44 t) := frE_up (by omega) fr
      have e3 : (xup M' 44 t) 3 2 = (W : Int) := by rw [fr1 3 (by omega)]; exact hW3
      have e15 : (xup M' 44 t) 15 w = M 15 w := by rw [fr1 15 (by omega)]
      have hp' := (rdOk_fr fr1 hk).2.1
      have r2 := rowA_k l hl
      have hw10 : w < 10 := by omega
      refine xg hW k_Reader_firstWordThatKeepsTheLeast [14] 40 ?_
      ((repeat' (first | (with_reducible refine And.intro ?_ ?_) | (intro h0; exact absurd h0 (by decide)) | (intro _) | ((conv => whnf); (first | (with_reducible refine And.intro ?_ ?_) | (intro h0; exact absurd h0 (by decide)) | (intro _) | (rw [e3]) | (rw [e15]) | (refine hW.1 _ _ _ _ _ _ (c_wordCount ?_) (by first | decide | omega) (by decide) (Nat.le_of_ble_eq_true rfl)) | (refine hW.1 _ _ _ _ _ _ (c_hasPhraseI hp' ?_) (by first | decide | omega) (by decide) (Nat.le_of_ble_eq_true rfl)) | (refine hW.1 _ _ _ _ _ _ (c_copy rowA_42 rowA_44 ?_) (by first | decide | omega) (by decide) (Nat.le_of_ble_eq_true rfl)))))); (all_goals (try omega)); (all_goals (try exact Nat.le_of_ble_eq_true rfl)); (all_goals (try ((conv => whnf); (first | (refine hW.2.1 _ _ ?_) | (change X _ _ _ _ _ _) | (change C _ _ _ _ _ _ _))))); (all_goals (try simp only [xup_at, xup_ne, xup_up, ne_eq, Nat.reduceEqDiff, not_false_eq_true, Int.toNat_natCast, x_lcmp] at *)); (all_goals (try omega)))
      any_goals (exact xnn (by omega))
      · rename_i f hw0 hP1 hf
        have hP2 : M 15 w ≠ -1 := by rw [← e15]; exact hP1
        have hh : hP M (w : Int) := ⟨by omega, by omega, by rw [Int.toNat_natCast]; exact hP2⟩
        have fr2 : frE M (xup M' 44 f) := frE_up (by omega) fr
        have ef : ∀ j : Nat, (j : Int) ≤ M 23 1 → f j = M' 42 j := fun j hj => hf j (by omega)
        have hr' : cR (M 23 1) ((xup M' 44 f) 44) := by
          intro j hj
          rw [xup_at, ef j hj]
          have := hu j hj
          omega
        ((repeat' (first | (with_reducible refine And.intro ?_ ?_) | (intro h0; exact absurd h0 (by decide)) | (intro _) | ((conv => whnf); (first | (with_reducible refine And.intro ?_ ?_) | (intro h0; exact absurd h0 (by decide)) | (intro _) | (refine hW.1 _ _ _ _ _ _ (c_behind fr2 hk rowA_44 hr' hh ?_) (by first | decide | omega) (by decide) (Nat.le_of_ble_eq_true rfl)))))); (all_goals (try omega)); (all_goals (try exact Nat.le_of_ble_eq_true rfl)); (all_goals (try ((conv => whnf); (first | (refine hW.2.1 _ _ ?_) | (change X _ _ _ _ _ _) | (change C _ _ _ _ _ _ _))))); (all_goals (try simp only [xup_at, xup_ne, xup_up, ne_eq, Nat.reduceEqDiff, not_false_eq_true, Int.toNat_natCast, x_lcmp] at *)); (all_goals (try omega)))
        rename_i f2 hf2
        have ef2 : ∀ j : Nat, (j : Int) ≤ M 23 1 → f2 j = wF M w (M' 42) j := fun j hj => (hf2 j hj).trans (wF_congr w n1 ef j hj)
        have fr3 : frE M (xup M' 44 f2) := frE_up (by omega) fr
        have g1 : ∀ j : Nat, (j : Int) ≤ M 23 1 → 0 ≤ wF M w (M' 42) j ∧ wF M w (M' 42) j ≤ 1900000 := fun j hj => by
          have := wF_rg hk hw10 hP2 hu j hj
          omega
        have g2 : ∀ j : Nat, (j : Int) ≤ M 23 1 → 0 ≤ M' (29 + l) j ∧ M' (29 + l) j ≤ 1900000 := fun j hj => by
          have := hr j hj
          omega
        have g3 : 0 ≤ mt (wF M w (M' 42)) (M' (29 + l)) (M 23 1).toNat := mt_rg (fun j hj => (g1 j (by omega)).1) (fun j hj => (g2 j (by omega)).1)
        have g4 : ∀ j : Nat, (j : Int) ≤ M 23 1 → (xup M' 44 f2) 44 j = wF M w (M' 42) j := fun j hj => by rw [xup_at]; exact ef2 j hj
        have g5 : ∀ j : Nat, (j : Int) ≤ M 23 1 → (xup M' 44 f2) (29 + l) j = M' (29 + l) j := fun j hj => by rw [xup_ne (by omega)]
        ((repeat' (first | (with_reducible refine And.intro ?_ ?_) | (intro h0; exact absurd h0 (by decide)) | (intro _) | ((conv => whnf); (first | (with_reducible refine And.intro ?_ ?_) | (intro h0; exact absurd h0 (by decide)) | (intro _) | (refine hW.1 _ _ _ _ _ _ (c_lt fr3 hk rowA_44 r2 g4 g5 g1 g2 ?_) (by first | decide | omega) (by decide) (Nat.le_of_ble_eq_true rfl)))))); (all_goals (try omega)); (all_goals (try exact Nat.le_of_ble_eq_true rfl)); (all_goals (try ((conv => whnf); (first | (refine hW.2.1 _ _ ?_) | (change X _ _ _ _ _ _) | (change C _ _ _ _ _ _ _))))); (all_goals (try simp only [xup_at, xup_ne, xup_up, ne_eq, Nat.reduceEqDiff, not_false_eq_true, Int.toNat_natCast, x_lcmp] at *)); (all_goals (try omega)))
        · rename_i h0
          refine ih (w + 1) _ (by omega) (h1.trans ?_)
          rw [fstW, if_neg (fun h => h0 h.2)]
        · rename_i h0
          rw [fstW, if_pos ⟨hP2, h0⟩] at h1
          rw [h1] at hq
          exact hq f2
      · rename_i hP1 _
        have hP2 : M 15 w = -1 := by rw [← e15]; exact hP1
        refine ih (w + 1) _ (by omega) (h1.trans ?_)
        rw [fstW, if_neg (fun h => h.1 hP2)]
  refine xg hW k_Reader_firstWordThatKeepsTheLeast [14] 40 ?_
  ((repeat' (first | (with_reducible refine And.intro ?_ ?_) | (intro h0; exact absurd h0 (by decide)) | (intro _) | ((conv => whnf); (first | (with_reducible refine And.intro ?_ ?_) | (intro h0; exact absurd h0 (by decide)) | (intro _))))); (all_goals (try omega)); (all_goals (try exact Nat.le_of_ble_eq_true rfl)); (all_goals (try ((conv => whnf); (first | (refine hW.2.1 _ _ ?_) | (change X _ _ _ _ _ _) | (change C _ _ _ _ _ _ _))))); (all_goals (try simp only [xup_at, xup_ne, xup_up, ne_eq, Nat.reduceEqDiff, not_false_eq_true, Int.toNat_natCast, x_lcmp] at *)); (all_goals (try omega)))
  have := loop W 0 (M' 44) (by omega) rfl
  rw [xup_id] at this
  exact this
/-- what is read, word for word: v the least in all, k words in all; behind i of them the costs are -/
def spU (M : xM) (v : Int) (k : Nat) : Nat → (Nat → Int)
  | 0 => fun j => 3 * j
  | i + 1 => wF M (fstW M (spU M v k i) (rRow M (k - i - 1)) v (M 3 2).toNat 0) (spU M v k i)
def spW (M : xM) (v : Int) (k i : Nat) : Nat := fstW M (spU M v k i) (rRow M (k - i - 1)) v (M 3 2).toNat 0
theorem fstW_congr {M : xM} {f f' g g' : Nat → Int} {v : Int} (h0 : 0 ≤ M 23 1) (hf : ∀ j : Nat, (j : Int) ≤ M 23 1 → f j = f' j) (hg : ∀ j : Nat, (j : Int) ≤ M 23 1 → g j = g' j) : ∀ m w : Nat, fstW M f g v m w = fstW M f' g' v m w
  | 0, _ => rfl
  | m + 1, w => by
    rw [fstW, fstW, fstW_congr h0 hf hg m (w + 1), mt_congr (f' := wF M w f') (g' := g') (fun j hj => wF_congr w h0 hf j (by omega)) (fun j hj => hg j (by omega))]
set_option maxRecDepth 100000 in
set_option maxHeartbeats 8000000 in
theorem c_spell {M M' : xM} {Q : Option xV → xM → Prop} {k : Nat} {v : Int} (fr : frE M M') (hk : rdOk M) (hk12 : k ≤ 12) (hx : xrg v) (e5 : M' 25 5 = (k : Int)) (e6 : M' 25 6 = v) (hr : ∀ i, i ≤ 12 → ∀ j : Nat, (j : Int) ≤ M 23 1 → M' (29 + i) j = rRow M i j) (hPs : ∀ i, i < k → ∃ w : Nat, spW M v k i = w ∧ w < 10 ∧ M 15 w ≠ -1) (hq : ∀ M'', (∀ a, a ≠ 27 ∧ a ≠ 42 ∧ a ≠ 44 → M'' a = M' a) → (∀ i, i < k → M'' 27 i = (spW M v k i : Int)) → (∀ i, k ≤ i → M'' 27 i = M' 27 i) → Q none M'') : xm 5 m_Reader_spellFirstByNumbers [xR (some 25)] M' Q := by
  obtain ⟨⟨n1, n2, n3⟩, hp, hw1, hw2⟩ := id hk
  have e23 := fr 23 (by omega)
  have nn : 0 ≤ M' 23 1 ∧ M' 23 1 ≤ 60 := by rw [e23]; exact ⟨n1, n2⟩
  have ub : ∀ i, i ≤ k → ∀ j : Nat, (j : Int) ≤ M 23 1 → 0 ≤ spU M v k i j ∧ spU M v k i j ≤ 180 + 54 * i := by
    intro i
    induction i with
    | zero =>
      intro _ j hj
      show 0 ≤ 3 * (j : Int) ∧ 3 * (j : Int) ≤ 180 + 54 * ((0 : Nat) : Int)
      omega
    | succ i ih =>
      intro hi j hj
      obtain ⟨w, h1, h2, h3⟩ := hPs i (by omega)
      unfold spW at h1
      rw [spU, h1]
      have := wF_rg hk h2 h3 (ih (by omega)) j hj
      omega
  (refine xm_of (own := "DrumTongue$Reader") rfl (by decide +kernel) tk_Reader [some (xR (some 25)), none] (Nat.le_of_ble_eq_true rfl) rfl ?_; intro D nx X C P hW)
  have loop : ∀ (m i : Nat) (M1 : xM), i + m = k → (∀ a, a ≠ 27 ∧ a ≠ 42 ∧ a ≠ 44 → M1 a = M' a) → (∀ q, q < i → M1 27 q = (spW M v k q : Int)) → (∀ q, i ≤ q → M1 27 q = M' 27 q) → (∀ j : Nat, (j : Int) ≤ M 23 1 → M1 42 j = spU M v k i j) → X 10 [some (xR (some 25)), some (xI (i : Int))] [] (M1, D, nx) 0 0 := by
    intro m
    induction m with
    | zero =>
      intro i M1 hi h1 h2 h3 h4
      have e : M1 25 5 = (k : Int) := by rw [h1 25 (by omega)]; exact e5
      refine xg hW k_Reader_spellFirstByNumbers [10] 40 ?_
      ((repeat' (first | (with_reducible refine And.intro ?_ ?_) | (intro h0; exact absurd h0 (by decide)) | (intro _) | ((conv => whnf); (first | (with_reducible refine And.intro ?_ ?_) | (intro h0; exact absurd h0 (by decide)) | (intro _) | (rw [e]))))); (all_goals (try omega)); (all_goals (try exact Nat.le_of_ble_eq_true rfl)); (all_goals (try ((conv => whnf); (first | (refine hW.2.1 _ _ ?_) | (change X _ _ _ _ _ _) | (change C _ _ _ _ _ _ _))))); (all_goals (try simp only [xup_at, xup_ne, xup_up, ne_eq, Nat.reduceEqDiff, not_false_eq_true, Int.toNat_natCast, x_lcmp] at *)); (all_goals (try omega)))
      any_goals (exact xnn (by omega))
      exact hq M1 h1 (fun q hq => h2 q (by omega)) (fun q hq => h3 q (by omega))
    | succ m ih =>
      intro i M1 hi h1 h2 h3 h4
      have e : M1 25 5 = (k : Int) := by rw [h1 25 (by omega)]; exact e5
      have e' : M1 25 6 = v := by rw [h1 25 (by omega)]; exact e6
      have fr1 : frE M M1 := fun a ha => by rw [h1 a (by omega)]; exact fr a ha
      have hl : k - i - 1 ≤ 12 := by omega
      have el : (k : Int) - i - 1 = ((k - i - 1 : Nat) : Int) := by omega
      have u0 : ∀ j : Nat, (j : Int) ≤ M 23 1 → 0 ≤ M1 42 j ∧ M1 42 j ≤ 1000000 := fun j hj => by
        rw [h4 j hj]
        have := ub i (by omega) j hj
        omega
      have u1 : ∀ j : Nat, (j : Int) ≤ M 23 1 → M1 (29 + (k - i - 1)) j = rRow M (k - i - 1) j := fun j hj => by rw [h1 _ (by omega)]; exact hr _ (by omega) j hj
      have u2 : ∀ j : Nat, (j : Int) ≤ M 23 1 → 0 ≤ M1 (29 + (k - i - 1)) j ∧ M1 (29 + (k - i - 1)) j ≤ 1000000 := fun j hj => by rw [u1 j hj]; exact rRow_rg hk _ j hj
      have ew : fstW M (M1 42) (M1 (29 + (k - i - 1))) (M1 25 6) (M 3 2).toNat 0 = spW M v k i := by
        rw [e']; exact fstW_congr n1 h4 u1 _ _
      have hx' : xrg (M1 25 6) := by rw [e']; exact hx
      have cf : ∀ Q : Option xV → xM → Prop, (∀ t : Nat → Int, Q (some (xI (spW M v k i : Nat))) (xup M1 44 t)) → xm 4 m_Reader_firstWordThatKeepsTheLeast [xR (some 25), xI ((k - i - 1 : Nat) : Int)] M1 Q := by
        intro Q hQ
        refine c_firstWord fr1 hk hl hx' u0 u2 ?_
        rw [ew]
        exact hQ
      refine xg hW k_Reader_spellFirstByNumbers [10] 40 ?_
      ((repeat' (first | (with_reducible refine And.intro ?_ ?_) | (intro h0; exact absurd h0 (by decide)) | (intro _) | ((conv => whnf); (first | (with_reducible refine And.intro ?_ ?_) | (intro h0; exact absurd h0 (by decide)) | (intro _) | (rw [e]) | (rw [el]) | (refine hW.1 _ _ _ _ _ _ (cf _ ?_) (by first | decide | omega) (by decide) (Nat.le_of_ble_eq_true rfl)))))); (all_goals (try omega)); (all_goals (try exact Nat.le_of_ble_eq_true rfl)); (all_goals (try ((conv => whnf); (first | (refine hW.2.1 _ _ ?_) | (change X _ _ _ _ _ _) | (change C _ _ _ _ _ _ _))))); (all_goals (try simp only [xup_at, xup_ne, xup_up, ne_eq, Nat.reduceEqDiff, not_false_eq_true, Int.toNat_natCast, x_lcmp] at *)); (all_goals (try omega)))
      any_goals (exact xnn (by omega))
      rename_i t
      obtain ⟨w, hw, hw10, hwP⟩ := hPs i (by omega)
      have fr2 : frE M (xup (xup M1 44 t) 27 (xup (M1 27) i (spW M v k i : Nat))) := frE_up (by omega) (frE_up (by omega) fr1)
      have hh : hP M (spW M v k i : Nat) := ⟨by omega, by omega, by rw [Int.toNat_natCast, hw]; exact hwP⟩
      have hr' : cR (M 23 1) ((xup (xup M1 44 t) 27 (xup (M1 27) i (spW M v k i : Nat))) 42) := by
        intro j hj
        rw [xup_ne (by omega), xup_ne (by omega)]
        have := u0 j hj
        omega
      ((repeat' (first | (with_reducible refine And.intro ?_ ?_) | (intro h0; exact absurd h0 (by decide)) | (intro _) | ((conv => whnf); (first | (with_reducible refine And.intro ?_ ?_) | (intro h0; exact absurd h0 (by decide)) | (intro _) | (refine hW.1 _ _ _ _ _ _ (c_behind fr2 hk rowA_42 hr' hh ?_) (by first | decide | omega) (by decide) (Nat.le_of_ble_eq_true rfl)))))); (all_goals (try omega)); (all_goals (try exact Nat.le_of_ble_eq_true rfl)); (all_goals (try ((conv => whnf); (first | (refine hW.2.1 _ _ ?_) | (change X _ _ _ _ _ _) | (change C _ _ _ _ _ _ _))))); (all_goals (try simp only [xup_at, xup_ne, xup_up, ne_eq, Nat.reduceEqDiff, not_false_eq_true, Int.toNat_natCast, x_lcmp] at *)); (all_goals (try omega)))
      rename_i f hf
      refine ih (i + 1) _ (by omega) (fun a ha => ?_) (fun q hq => ?_) (fun q hq => ?_) (fun j hj => ?_)
      · rw [xup_ne (by omega), xup_ne (by omega), xup_ne (by omega)]; exact h1 a ha
      · rw [xup_ne (by omega), xup_at]
        by_cases e9 : q = i
        · rw [e9, xup_at]
        · rw [xup_ne e9]; exact h2 q (by omega)
      · rw [xup_ne (by omega), xup_at, xup_ne (by omega)]; exact h3 q (by omega)
      · rw [xup_at, hf j hj, spU]
        exact wF_congr _ n1 h4 j hj
  refine xg hW k_Reader_spellFirstByNumbers [10] 40 ?_
  ((repeat' (first | (with_reducible refine And.intro ?_ ?_) | (intro h0; exact absurd h0 (by decide)) | (intro _) | ((conv => whnf); (first | (with_reducible refine And.intro ?_ ?_) | (intro h0; exact absurd h0 (by decide)) | (intro _) | (refine hW.1 _ _ _ _ _ _ (c_startUpTo rowA_42 nn ?_) (by first | decide | omega) (by decide) (Nat.le_of_ble_eq_true rfl)))))); (all_goals (try omega)); (all_goals (try exact Nat.le_of_ble_eq_true rfl)); (all_goals (try ((conv => whnf); (first | (refine hW.2.1 _ _ ?_) | (change X _ _ _ _ _ _) | (change C _ _ _ _ _ _ _))))); (all_goals (try simp only [xup_at, xup_ne, xup_up, ne_eq, Nat.reduceEqDiff, not_false_eq_true, Int.toNat_natCast, x_lcmp] at *)); (all_goals (try omega)))
  rename_i f hf
  refine loop k 0 _ (by omega) (fun a ha => xup_ne (by omega)) (fun q hq => absurd hq (Nat.not_lt_zero q)) (fun q _ => by rw [xup_ne (by omega)]) (fun j hj => ?_)
  rw [xup_at]
  exact hf j (by rw [e23]; exact hj)
/-- word w fits: with g behind it keeps the least v -/
def fits (M : xM) (f g : Nat → Int) (v : Int) (w : Nat) : Prop := M 15 w ≠ -1 ∧ min 1000000 (mt (wF M w f) g (M 23 1).toNat) = v
theorem fstW_fits {M : xM} {f g : Nat → Int} {v : Int} : ∀ m w : Nat, (∃ w', w ≤ w' ∧ w' < w + m ∧ fits M f g v w') → fits M f g v (fstW M f g v m w) ∧ w ≤ fstW M f g v m w ∧ fstW M f g v m w < w + m
  | 0, w, ⟨w', h1, h2, _⟩ => by omega
  | m + 1, w, ⟨w', h1, h2, h3⟩ => by
    rw [fstW]
    by_cases q : M 15 w ≠ -1 ∧ min 1000000 (mt (wF M w f) g (M 23 1).toNat) = v
    · rw [if_pos q]; exact ⟨q, by omega, by omega⟩
    · rw [if_neg q]
      have : w' ≠ w := fun e => q (e ▸ h3)
      have := fstW_fits (f := f) (g := g) (v := v) m (w + 1) ⟨w', by omega, by omega, h3⟩
      exact ⟨this.1, by omega, by omega⟩
theorem lowW_s (M : xM) (g : Nat → Int) (w j : Nat) : lowW M g (w + 1) j = if M 15 w = -1 then lowW M g w j else min (lowW M g w j) (wB M w g j) := by
  rw [lowW]
theorem lowW_at (M : xM) (g : Nat → Int) : ∀ (W j : Nat), lowW M g W j = 1000000 ∨ ∃ w, w < W ∧ M 15 w ≠ -1 ∧ lowW M g W j = wB M w g j
  | 0, j => Or.inl rfl
  | w + 1, j => by
    rw [lowW_s]
    by_cases q : M 15 w = -1
    · simp only [q, if_true]
      rcases lowW_at M g w j with h | ⟨w', h1, h2, h3⟩
      · exact Or.inl h
      · exact Or.inr ⟨w', by omega, h2, h3⟩
    · simp only [q, if_false]
      by_cases q2 : wB M w g j ≤ lowW M g w j
      · exact Or.inr ⟨w, by omega, q, by omega⟩
      · rw [show min (lowW M g w j) (wB M w g j) = lowW M g w j by omega]
        rcases lowW_at M g w j with h | ⟨w', h1, h2, h3⟩
        · exact Or.inl h
        · exact Or.inr ⟨w', by omega, h2, h3⟩
theorem lowW_le {M : xM} {g : Nat → Int} : ∀ {W j w : Nat}, w < W → M 15 w ≠ -1 → lowW M g W j ≤ wB M w g j
  | 0, j, w, h, _ => absurd h (Nat.not_lt_zero w)
  | W + 1, j, w, h, hp => by
    rw [lowW_s]
    by_cases q : w = W
    · subst q; simp only [hp, if_false]; omega
    · have := lowW_le (M := M) (g := g) (W := W) (j := j) (by omega) hp
      split <;> omega
theorem lowW_cap {M : xM} {g : Nat → Int} : ∀ {W j : Nat}, lowW M g W j ≤ 1000000
  | 0, j => Int.le_refl _
  | W + 1, j => by
    have := lowW_cap (M := M) (g := g) (W := W) (j := j)
    rw [lowW_s]
    split <;> omega
theorem lowW_cl {M : xM} {g : Nat → Int} (hk : rdOk M) (hg : clB (M 23 1).toNat g) : ∀ W, W ≤ 10 → clB (M 23 1).toNat (lowW M g W)
  | 0, _ => fun j _ => by show (1000000 : Int) ≤ 1000000 + 3; omega
  | W + 1, hW => fun j hj => by
    have h1 := lowW_cl hk hg W (by omega) j hj
    rw [lowW_s, lowW_s]
    by_cases q : M 15 W = -1
    · simp only [q, if_true]; exact h1
    · have h2 : wB M W g j ≤ wB M W g (j + 1) + 3 := bwN_cl hg _ j hj
      simp only [q, if_false]; omega
theorem rRow_cl {M : xM} (hk : rdOk M) : ∀ k, clB (M 23 1).toNat (rRow M k)
  | 0 => fun j hj => by
    show 3 * (M 23 1 - (j : Int)) ≤ 3 * (M 23 1 - ((j + 1 : Nat) : Int)) + 3
    omega
  | k + 1 => by rw [rRow]; exact lowW_cl hk (rRow_cl hk k) _ (by have := hk.2.2; omega)
theorem wF_cl {M : xM} {w n : Nat} {f : Nat → Int} (h : clF n f) : clF n (wF M w f) := fwN_cl h _
theorem mt_wF {M : xM} {w : Nat} {f g : Nat → Int} (hf : clF (M 23 1).toNat f) (hg : clB (M 23 1).toNat g) : mt (wF M w f) g (M 23 1).toNat = mt f (wB M w g) (M 23 1).toNat := mt_swapN hf hg
theorem mt_mono {f g g' : Nat → Int} {n : Nat} (h : ∀ j, j ≤ n → g j ≤ g' j) : mt f g n ≤ mt f g' n := by
  obtain ⟨j, h1, h2⟩ := mt_at (f := f) (g := g') n
  have h3 := mt_le (f := f) (g := g) h1
  have h4 := h j h1
  omega
/-- there is always a word that fits -/
theorem fits_ex {M : xM} (hk : rdOk M) {f g : Nat → Int} {v : Int} (hf : clF (M 23 1).toNat f) (hf0 : ∀ j, j ≤ (M 23 1).toNat → 0 ≤ f j) (hg : clB (M 23 1).toNat g) (hv : v < 1000000) (h : mt f (lowW M g (M 3 2).toNat) (M 23 1).toNat = v) : ∃ w, w < (M 3 2).toNat ∧ fits M f g v w := by
  obtain ⟨j, h1, h2⟩ := mt_at (f := f) (g := lowW M g (M 3 2).toNat) (M 23 1).toNat
  have h3 := hf0 j h1
  rcases lowW_at M g (M 3 2).toNat j with h4 | ⟨w, h4, h5, h6⟩
  · omega
  · refine ⟨w, h4, h5, ?_⟩
    rw [mt_wF hf hg]
    have h7 := mt_le (f := f) (g := wB M w g) h1
    have h8 : mt f (lowW M g (M 3 2).toNat) (M 23 1).toNat ≤ mt f (wB M w g) (M 23 1).toNat := mt_mono (f := f) (n := (M 23 1).toNat) fun j _ => lowW_le (g := g) (j := j) h4 h5
    omega
theorem spU_cl {M : xM} {v : Int} {k : Nat} (n : Nat) : ∀ i, clF n (spU M v k i)
  | 0 => fun j _ => by show 3 * ((j + 1 : Nat) : Int) ≤ 3 * (j : Int) + 3; omega
  | i + 1 => by rw [spU]; exact wF_cl (spU_cl n i)
/-- the way of the spelling: what is behind and what is left are the least together -/
theorem sp_inv {M : xM} (hk : rdOk M) {v : Int} {k : Nat} (hv : v < 1000000) (h : rRow M k 0 = v) : ∀ i, i ≤ k → (∀ j : Nat, (j : Int) ≤ M 23 1 → 0 ≤ spU M v k i j ∧ spU M v k i j ≤ 180 + 54 * i) ∧ mt (spU M v k i) (rRow M (k - i)) (M 23 1).toNat = v := by
  have n1 := hk.1.1
  intro i
  induction i with
  | zero =>
    intro _
    have n2 := hk.1.2.1
    refine ⟨fun j _ => by show 0 ≤ 3 * (j : Int) ∧ 3 * (j : Int) ≤ 180 + 54 * ((0 : Nat) : Int); omega, ?_⟩
    have h1 : mt (spU M v k 0) (rRow M k) (M 23 1).toNat ≤ 3 * ((0 : Nat) : Int) + rRow M k 0 := mt_le (Nat.zero_le _)
    obtain ⟨j, h2, h3⟩ := mt_at (f := spU M v k 0) (g := rRow M k) (M 23 1).toNat
    have h4 : ∀ q, q ≤ (M 23 1).toNat → rRow M k 0 ≤ 3 * (q : Int) + rRow M k q := by
      intro q
      induction q with
      | zero => intro _; omega
      | succ q ih =>
        intro hq
        have h5 := ih (by omega)
        have h6 := rRow_cl hk k q (by omega)
        omega
    have h5 := h4 j h2
    have h6 : spU M v k 0 j = 3 * (j : Int) := rfl
    rw [Nat.sub_zero]
    omega
  | succ i ih =>
    intro hi
    obtain ⟨h1, h2⟩ := ih (by omega)
    rw [show k - i = (k - i - 1) + 1 by omega, rRow] at h2
    obtain ⟨w, h3, h4⟩ := fits_ex hk (spU_cl _ i) (fun j hj => (h1 j (by omega)).1) (rRow_cl hk _) hv h2
    obtain ⟨⟨h5, h6⟩, h7, h8⟩ := fstW_fits (M := M) (f := spU M v k i) (g := rRow M (k - i - 1)) (v := v) (M 3 2).toNat 0 ⟨w, Nat.zero_le _, by omega, h4⟩
    rw [show k - (i + 1) = k - i - 1 by omega, spU]
    have h9 := hk.2.2
    refine ⟨fun j hj => ?_, by omega⟩
    have := wF_rg hk (by omega) h5 h1 j hj
    omega
theorem sp_word {M : xM} (hk : rdOk M) {v : Int} {k : Nat} (hv : v < 1000000) (h : rRow M k 0 = v) {i : Nat} (hi : i < k) : fits M (spU M v k i) (rRow M (k - i - 1)) v (spW M v k i) ∧ spW M v k i < (M 3 2).toNat := by
  obtain ⟨h1, h2⟩ := sp_inv hk hv h i (by omega)
  have n1 := hk.1.1
  rw [show k - i = (k - i - 1) + 1 by omega, rRow] at h2
  obtain ⟨w, h3, h4⟩ := fits_ex hk (spU_cl _ i) (fun j hj => (h1 j (by omega)).1) (rRow_cl hk _) hv h2
  obtain ⟨h5, h7, h8⟩ := fstW_fits (M := M) (f := spU M v k i) (g := rRow M (k - i - 1)) (v := v) (M 3 2).toNat 0 ⟨w, Nat.zero_le _, by omega, h4⟩
  exact ⟨h5, by unfold spW; omega⟩
end
section
/-! readNow, doubt -/
/-- how many words are read, and by how much they are off -/
def bK (M : xM) : Nat := bcK (fun k => rRow M k 0) 12
def bV (M : xM) : Int := rRow M (bK M) 0
theorem bcK_min {r : Nat → Int} : ∀ k, r (bcK r k) ≤ r 0
  | 0 => Int.le_refl _
  | k + 1 => by
    have := bcK_min (r := r) k
    rw [bcK]
    split <;> omega
theorem bV_rg {M : xM} (hk : rdOk M) : 0 ≤ bV M ∧ bV M ≤ 180 := by
  have n1 := hk.1.1
  have n2 := hk.1.2.1
  have h1 := rRow_rg hk (bK M) 0 (by omega)
  have h2 : rRow M (bK M) 0 ≤ rRow M 0 0 := bcK_min (r := fun k => rRow M k 0) 12
  have h3 : rRow M 0 0 = 3 * (M 23 1 - ((0 : Nat) : Int)) := rfl
  unfold bV
  omega
theorem bK_le (M : xM) : bK M ≤ 12 := bcK_le _ 12
set_option maxRecDepth 100000 in
set_option maxHeartbeats 600000 in
theorem c_readNow {M : xM} {Q : Option xV → xM → Prop} (hk : rdOk M) (hq0 : cntP (M 15) (M 3 2).toNat = 0 → Q (some (xI 0)) M) (hq : cntP (M 15) (M 3 2).toNat ≠ 0 → ∀ M', (∀ a, a < 25 ∨ a = 26 ∨ a = 28 ∨ a = 43 ∨ 44 < a → M' a = M a) → M' 25 = xup (xup (M 25) 5 (bK M : Nat)) 6 (bV M) → (∀ i, i < bK M → M' 27 i = (spW M (bV M) (bK M) i : Int)) → (∀ i, bK M ≤ i → M' 27 i = M 27 i) → Q (some (xI 1)) M') : xm 6 m_Reader_readNow [xR (some 25)] M Q := by
  obtain ⟨⟨n1, n2, n3⟩, hp, hw1, hw2⟩ := id hk
  have b1 := bV_rg hk
  have b2 := bK_le M
  have hkv : rRow M (bK M) 0 = bV M := rfl
  have hbk : bK M = bcK (fun k => rRow M k 0) 12 := rfl
  generalize bV M = v at *
  generalize bK M = kk at *
  (refine xm_of (own := "DrumTongue$Reader") rfl (by decide +kernel) tk_Reader [some (xR (some 25)), none] (Nat.le_of_ble_eq_true rfl) rfl ?_; intro D nx X C P hW)
  refine xg hW k_Reader_readNow [] 40 ?_
  ((repeat' (first | (with_reducible refine And.intro ?_ ?_) | (intro h0; exact absurd h0 (by decide)) | (intro _) | ((conv => whnf); (first | (with_reducible refine And.intro ?_ ?_) | (intro h0; exact absurd h0 (by decide)) | (intro _) | (refine hW.1 _ _ _ _ _ _ (c_phraseCount hp hk.2.2 ?_) (by first | decide | omega) (by decide) (Nat.le_of_ble_eq_true rfl)) | (refine hW.1 _ _ _ _ _ _ (c_weighAllCounts hk ?_) (by first | decide | omega) (by decide) (Nat.le_of_ble_eq_true rfl)))))); (all_goals (try omega)); (all_goals (try exact Nat.le_of_ble_eq_true rfl)); (all_goals (try ((conv => whnf); (first | (refine hW.2.1 _ _ ?_) | (change X _ _ _ _ _ _) | (change C _ _ _ _ _ _ _))))); (all_goals (try simp only [xup_at, xup_ne, xup_up, ne_eq, Nat.reduceEqDiff, not_false_eq_true, Int.toNat_natCast, x_lcmp] at *)); (all_goals (try omega)))
  · have := cntP_rg (M 15) (M 3 2).toNat; omega
  · have := cntP_rg (M 15) (M 3 2).toNat; omega
  · rename_i hc M1 f1 r1
    have hr : ∀ k, k ≤ 12 → xrg (M1 (29 + k) 0) := fun k hk12 => by
      rw [r1 k hk12 0 (by omega)]
      have := rRow_rg hk k 0 (by omega)
      unfold xrg
      omega
    have eb : bcK (fun k => M1 (29 + k) 0) 12 = kk := (bcK_congr 12 fun i hi => r1 i hi 0 (by omega)).trans hbk.symm
    have cb : ∀ Q : Option xV → xM → Prop, Q (some (xI (kk : Nat))) M1 → xm 1 m_Reader_bestCount [xR (some 25)] M1 Q := by
      intro Q hQ
      refine c_bestCount hr ?_
      rw [eb]
      exact hQ
    have t1 := (rowA_k kk b2).1
    have t2 : M1 (29 + kk) (Int.toNat 0) = v := (r1 kk b2 0 (by omega)).trans hkv
    clear hbk eb hr
    have t3 : (xup M1 25 (xup (M1 25) 5 (kk : Nat))) (29 + kk) (Int.toNat 0) = v := by rw [xup_ne (by omega)]; exact t2
    have t4 : (xup M1 25 (xup (M1 25) 5 (kk : Nat))) 25 = xup (M1 25) 5 (kk : Nat) := xup_at _ _ _
    ((repeat' (first | (with_reducible refine And.intro ?_ ?_) | (intro h0; exact absurd h0 (by decide)) | (intro _) | ((conv => whnf); (first | (with_reducible refine And.intro ?_ ?_) | (intro h0; exact absurd h0 (by decide)) | (intro _) | (rw [t1]) | (rw [t2]) | (refine hW.1 _ _ _ _ _ _ (cb _ ?_) (by first | decide | omega) (by decide) (Nat.le_of_ble_eq_true rfl)))))); (all_goals (try omega)); (all_goals (try exact Nat.le_of_ble_eq_true rfl)); (all_goals (try ((conv => whnf); (first | (refine hW.2.1 _ _ ?_) | (change X _ _ _ _ _ _) | (change C _ _ _ _ _ _ _))))); (all_goals (try simp only [xup_at, xup_ne, xup_up, ne_eq, Nat.reduceEqDiff, not_false_eq_true, Int.toNat_natCast, x_lcmp] at *)); (all_goals (try omega)))
    ((repeat' (first | (with_reducible refine And.intro ?_ ?_) | (intro h0; exact absurd h0 (by decide)) | (intro _) | ((conv => whnf); (first | (with_reducible refine And.intro ?_ ?_) | (intro h0; exact absurd h0 (by decide)) | (intro _) | (rw [t1]) | (rw [t3]) | (rw [t4]))))); (all_goals (try omega)); (all_goals (try exact Nat.le_of_ble_eq_true rfl)); (all_goals (try ((conv => whnf); (first | (refine hW.2.1 _ _ ?_) | (change X _ _ _ _ _ _) | (change C _ _ _ _ _ _ _))))); (all_goals (try simp only [xup_at, xup_ne, xup_up, ne_eq, Nat.reduceEqDiff, not_false_eq_true, Int.toNat_natCast, x_lcmp] at *)); (all_goals (try omega)))
    have fr2 : frE M (xup M1 25 (xup (xup (M1 25) 5 (kk : Nat)) 6 v)) := fun a ha => by rw [xup_ne (by omega)]; exact f1 a (by omega)
    have hx : xrg v := by unfold xrg; omega
    have g5 : (xup M1 25 (xup (xup (M1 25) 5 (kk : Nat)) 6 v)) 25 5 = (kk : Int) := by rw [xup_at, xup_ne (by omega), xup_at]
    have g6 : (xup M1 25 (xup (xup (M1 25) 5 (kk : Nat)) 6 v)) 25 6 = v := by rw [xup_at, xup_at]
    have gr : ∀ i, i ≤ 12 → ∀ j : Nat, (j : Int) ≤ M 23 1 → (xup M1 25 (xup (xup (M1 25) 5 (kk : Nat)) 6 v)) (29 + i) j = rRow M i j := fun i hi j hj => by rw [xup_ne (by omega)]; exact r1 i hi j hj
    have gw : ∀ i, i < kk → ∃ w : Nat, spW M v kk i = w ∧ w < 10 ∧ M 15 w ≠ -1 := fun i hi => by
      have h := sp_word hk (by omega) hkv hi
      exact ⟨_, rfl, by omega, h.1.1⟩
    ((repeat' (first | (with_reducible refine And.intro ?_ ?_) | (intro h0; exact absurd h0 (by decide)) | (intro _) | ((conv => whnf); (first | (with_reducible refine And.intro ?_ ?_) | (intro h0; exact absurd h0 (by decide)) | (intro _) | (refine hW.1 _ _ _ _ _ _ (c_spell fr2 hk b2 hx g5 g6 gr gw ?_) (by first | decide | omega) (by decide) (Nat.le_of_ble_eq_true rfl)))))); (all_goals (try omega)); (all_goals (try exact Nat.le_of_ble_eq_true rfl)); (all_goals (try ((conv => whnf); (first | (refine hW.2.1 _ _ ?_) | (change X _ _ _ _ _ _) | (change C _ _ _ _ _ _ _))))); (all_goals (try simp only [xup_at, xup_ne, xup_up, ne_eq, Nat.reduceEqDiff, not_false_eq_true, Int.toNat_natCast, x_lcmp] at *)); (all_goals (try omega)))
    rename_i M2 h1 h2 h3
    refine hq hc M2 (fun a ha => ?_) ?_ h2 (fun i hi => ?_)
    · rw [h1 a (by omega), xup_ne (by omega)]; exact f1 a (by omega)
    · rw [h1 25 (by omega), xup_at, f1 25 (by omega)]
    · rw [h3 i hi, f1 27 (by omega)]
  · rename_i h0
    exact hq0 h0
set_option maxRecDepth 100000 in
theorem c_keepAsLast {M : xM} {Q : Option xV → xM → Prop} (hn : xrg (M 25 5)) (hq : ∀ M', (∀ a, a ≠ 25 ∧ a ≠ 26 → M' a = M a) → M' 25 = xup (M 25) 3 (M 25 5) → (∀ i, i < 12 → M' 26 i = M 27 i) → Q none M') : xm 1 m_Reader_keepAsLast [xR (some 25)] M Q := by
  (refine xm_of (own := "DrumTongue$Reader") rfl (by decide +kernel) tk_Reader [some (xR (some 25))] (Nat.le_of_ble_eq_true rfl) rfl ?_; intro D nx X C P hW)
  refine xg hW k_Reader_keepAsLast [] 40 ?_
  ((repeat' (first | (with_reducible refine And.intro ?_ ?_) | (intro h0; exact absurd h0 (by decide)) | (intro _) | ((conv => whnf); (first | (with_reducible refine And.intro ?_ ?_) | (intro h0; exact absurd h0 (by decide)) | (intro _))))); (all_goals (try omega)); (all_goals (try exact Nat.le_of_ble_eq_true rfl)); (all_goals (try ((conv => whnf); (first | (refine hW.2.1 _ _ ?_) | (change X _ _ _ _ _ _) | (change C _ _ _ _ _ _ _))))); (all_goals (try simp only [xup_at, xup_ne, xup_up, ne_eq, Nat.reduceEqDiff, not_false_eq_true, Int.toNat_natCast, x_lcmp] at *)); (all_goals (try omega)))
  refine hq _ (fun a ha => ?_) (xup_at _ _ _) (fun i hi => ?_)
  · rw [xup_ne (by omega), xup_ne (by omega)]
  · rw [xup_ne (by omega), xup_at]
    unfold va_cpy
    rw [show Int.toNat 0 = 0 from rfl, show Int.toNat 12 = 12 from rfl]
    simp only [Nat.zero_le, Nat.zero_add, Nat.sub_zero, true_and, hi, if_true]
set_option maxRecDepth 100000 in
theorem c_lastAt {M : xM} {Q : Option xV → xM → Prop} {i : Int} (hn : 0 ≤ M 25 3 ∧ M 25 3 ≤ 12) (hq : xrg i ∧ (0 ≤ i → i < M 25 3 → Q (some (xI (M 26 i.toNat))) M) ∧ (i < 0 ∨ M 25 3 ≤ i → Q (some (xI (-1))) M)) : xm 1 m_Reader_lastAt [xR (some 25), xI i] M Q := by
  obtain ⟨h1, h2, h3⟩ := hq
  (refine xm_of (own := "DrumTongue$Reader") rfl (by decide +kernel) tk_Reader [some (xR (some 25)), some (xI i)] (Nat.le_of_ble_eq_true rfl) rfl ?_; intro D nx X C P hW)
  refine xg hW k_Reader_lastAt [] 40 ?_
  ((repeat' (first | (with_reducible refine And.intro ?_ ?_) | (intro h0; exact absurd h0 (by decide)) | (intro _) | ((conv => whnf); (first | (with_reducible refine And.intro ?_ ?_) | (intro h0; exact absurd h0 (by decide)) | (intro _))))); (all_goals (try omega)); (all_goals (try exact Nat.le_of_ble_eq_true rfl)); (all_goals (try ((conv => whnf); (first | (refine hW.2.1 _ _ ?_) | (change X _ _ _ _ _ _) | (change C _ _ _ _ _ _ _))))); (all_goals (try simp only [xup_at, xup_ne, xup_up, ne_eq, Nat.reduceEqDiff, not_false_eq_true, Int.toNat_natCast, x_lcmp] at *)); (all_goals (try omega)))
  all_goals first | exact h3 (by omega) | exact h2 (by omega) (by omega)
set_option maxRecDepth 100000 in
theorem c_lastSize {M : xM} {Q : Option xV → xM → Prop} (hq : Q (some (xI (M 25 3))) M) : xm 1 m_Reader_lastSize [xR (some 25)] M Q := by
  (refine xm_of (own := "DrumTongue$Reader") rfl (by decide +kernel) tk_Reader [some (xR (some 25))] (Nat.le_of_ble_eq_true rfl) rfl ?_; intro D nx X C P hW)
  refine xg hW k_Reader_lastSize [] 40 ?_
  ((repeat' (first | (with_reducible refine And.intro ?_ ?_) | (intro h0; exact absurd h0 (by decide)) | (intro _) | ((conv => whnf); (first | (with_reducible refine And.intro ?_ ?_) | (intro h0; exact absurd h0 (by decide)) | (intro _))))); (all_goals (try omega)); (all_goals (try exact Nat.le_of_ble_eq_true rfl)); (all_goals (try ((conv => whnf); (first | (refine hW.2.1 _ _ ?_) | (change X _ _ _ _ _ _) | (change C _ _ _ _ _ _ _))))); (all_goals (try simp only [xup_at, xup_ne, xup_up, ne_eq, Nat.reduceEqDiff, not_false_eq_true, Int.toNat_natCast, x_lcmp] at *)); (all_goals (try omega)))
  all_goals exact hq
set_option maxRecDepth 100000 in
theorem c_sizeNow {M : xM} {Q : Option xV → xM → Prop} (hq : Q (some (xI (M 25 5))) M) : xm 1 m_Reader_sizeNow [xR (some 25)] M Q := by
  (refine xm_of (own := "DrumTongue$Reader") rfl (by decide +kernel) tk_Reader [some (xR (some 25))] (Nat.le_of_ble_eq_true rfl) rfl ?_; intro D nx X C P hW)
  refine xg hW k_Reader_sizeNow [] 40 ?_
  ((repeat' (first | (with_reducible refine And.intro ?_ ?_) | (intro h0; exact absurd h0 (by decide)) | (intro _) | ((conv => whnf); (first | (with_reducible refine And.intro ?_ ?_) | (intro h0; exact absurd h0 (by decide)) | (intro _))))); (all_goals (try omega)); (all_goals (try exact Nat.le_of_ble_eq_true rfl)); (all_goals (try ((conv => whnf); (first | (refine hW.2.1 _ _ ?_) | (change X _ _ _ _ _ _) | (change C _ _ _ _ _ _ _))))); (all_goals (try simp only [xup_at, xup_ne, xup_up, ne_eq, Nat.reduceEqDiff, not_false_eq_true, Int.toNat_natCast, x_lcmp] at *)); (all_goals (try omega)))
  all_goals exact hq
set_option maxRecDepth 100000 in
theorem c_offNow {M : xM} {Q : Option xV → xM → Prop} (hq : Q (some (xI (M 25 6))) M) : xm 1 m_Reader_offNow [xR (some 25)] M Q := by
  (refine xm_of (own := "DrumTongue$Reader") rfl (by decide +kernel) tk_Reader [some (xR (some 25))] (Nat.le_of_ble_eq_true rfl) rfl ?_; intro D nx X C P hW)
  refine xg hW k_Reader_offNow [] 40 ?_
  ((repeat' (first | (with_reducible refine And.intro ?_ ?_) | (intro h0; exact absurd h0 (by decide)) | (intro _) | ((conv => whnf); (first | (with_reducible refine And.intro ?_ ?_) | (intro h0; exact absurd h0 (by decide)) | (intro _))))); (all_goals (try omega)); (all_goals (try exact Nat.le_of_ble_eq_true rfl)); (all_goals (try ((conv => whnf); (first | (refine hW.2.1 _ _ ?_) | (change X _ _ _ _ _ _) | (change C _ _ _ _ _ _ _))))); (all_goals (try simp only [xup_at, xup_ne, xup_up, ne_eq, Nat.reduceEqDiff, not_false_eq_true, Int.toNat_natCast, x_lcmp] at *)); (all_goals (try omega)))
  all_goals exact hq
end
section
/-! reading: mixing, doubt -/
set_option maxRecDepth 100000 in
theorem c_readMix {M : xM} {Q : Option xV → xM → Prop} {h : Int} (hn : 0 ≤ M 25 3 ∧ M 25 3 ≤ 12) (hr : ∀ i : Nat, (i : Int) < M 25 3 → xrg (M 26 i)) (hq : Q (some (xJ (mixH (M 26) h (M 25 3).toNat))) M) : xm 1 m_Reader_mixInto [xR (some 25), xJ h] M Q := by
  obtain ⟨h1, h2⟩ := hn
  obtain ⟨n, hn⟩ := Int.eq_ofNat_of_zero_le h1
  rw [show (M 25 3).toNat = n by omega] at hq
  (refine xm_of (own := "DrumTongue$Reader") rfl (by decide +kernel) tk_Reader [some (xR (some 25)), some (xJ h), none, none, none, none] (Nat.le_of_ble_eq_true rfl) rfl ?_; intro D nx X C P hW)
  have loop : ∀ (m k : Nat), k + m = n → X 5 [some (xR (some 25)), some (xJ h), none, some (xJ (mixH (M 26) h k)), none, some (xI (k : Int))] [] (M, D, nx) 0 0 := by
    intro m
    induction m with
    | zero =>
      intro k hk
      obtain rfl : k = n := by omega
      refine xg hW k_Reader_mixInto [5] 40 ?_
      ((repeat' (first | (with_reducible refine And.intro ?_ ?_) | (intro h0; exact absurd h0 (by decide)) | (intro _) | ((conv => whnf); (first | (with_reducible refine And.intro ?_ ?_) | (intro h0; exact absurd h0 (by decide)) | (intro _))))); (all_goals (try omega)); (all_goals (try exact Nat.le_of_ble_eq_true rfl)); (all_goals (try ((conv => whnf); (first | (refine hW.2.1 _ _ ?_) | (change X _ _ _ _ _ _) | (change C _ _ _ _ _ _ _))))); (all_goals (try simp only [xup_at, xup_ne, xup_up, ne_eq, Nat.reduceEqDiff, not_false_eq_true, Int.toNat_natCast, x_lcmp] at *)); (all_goals (try omega)))
      all_goals exact hq
    | succ m ih =>
      intro k hk
      have g := hr k (by omega)
      unfold xrg at g
      refine xg hW k_Reader_mixInto [5] 40 ?_
      ((repeat' (first | (with_reducible refine And.intro ?_ ?_) | (intro h0; exact absurd h0 (by decide)) | (intro _) | ((conv => whnf); (first | (with_reducible refine And.intro ?_ ?_) | (intro h0; exact absurd h0 (by decide)) | (intro _))))); (all_goals (try omega)); (all_goals (try exact Nat.le_of_ble_eq_true rfl)); (all_goals (try ((conv => whnf); (first | (refine hW.2.1 _ _ ?_) | (change X _ _ _ _ _ _) | (change C _ _ _ _ _ _ _))))); (all_goals (try simp only [xup_at, xup_ne, xup_up, ne_eq, Nat.reduceEqDiff, not_false_eq_true, Int.toNat_natCast, x_lcmp] at *)); (all_goals (try omega)))
      exact ih (k + 1) (by omega)
  refine xg hW k_Reader_mixInto [5] 40 ?_
  ((repeat' (first | (with_reducible refine And.intro ?_ ?_) | (intro h0; exact absurd h0 (by decide)) | (intro _) | ((conv => whnf); (first | (with_reducible refine And.intro ?_ ?_) | (intro h0; exact absurd h0 (by decide)) | (intro _))))); (all_goals (try omega)); (all_goals (try exact Nat.le_of_ble_eq_true rfl)); (all_goals (try ((conv => whnf); (first | (refine hW.2.1 _ _ ?_) | (change X _ _ _ _ _ _) | (change C _ _ _ _ _ _ _))))); (all_goals (try simp only [xup_at, xup_ne, xup_up, ne_eq, Nat.reduceEqDiff, not_false_eq_true, Int.toNat_natCast, x_lcmp] at *)); (all_goals (try omega)))
  exact loop n 0 (by omega)
/-- the words of now before place i behind each other, and those after it -/
def arF (M : xM) (s : Nat → Int) : Nat → (Nat → Int)
  | 0 => fun j => 3 * j
  | i + 1 => wF M (s i).toNat (arF M s i)
/-- the k last of n words in front -/
def arB (M : xM) (s : Nat → Int) (n : Nat) : Nat → (Nat → Int)
  | 0 => fun j => 3 * (M 23 1 - j)
  | k + 1 => wB M (s (n - (k + 1))).toNat (arB M s n k)
set_option maxRecDepth 100000 in
set_option maxHeartbeats 2000000 in
theorem c_weighAround {M M' : xM} {Q : Option xV → xM → Prop} {i n : Nat} (fr : frE M M') (hk : rdOk M) (hn : n ≤ 12) (hi : i < n) (e5 : M' 25 5 = (n : Int)) (hw : ∀ q, q < n → hP M (M' 27 q)) (hq : ∀ M'', (∀ a, a ≠ 42 ∧ a ≠ 43 → M'' a = M' a) → (∀ j : Nat, (j : Int) ≤ M 23 1 → M'' 42 j = arF M (M' 27) i j) → (∀ j : Nat, (j : Int) ≤ M 23 1 → M'' 43 j = arB M (M' 27) n (n - i - 1) j) → Q none M'') : xm 4 m_Reader_weighAround [xR (some 25), xI (i : Int)] M' Q := by
  obtain ⟨⟨n1, n2, n3⟩, hp, hw1, hw2⟩ := id hk
  have e23 := fr 23 (by omega)
  have nn : 0 ≤ M' 23 1 ∧ M' 23 1 ≤ 60 := by rw [e23]; exact ⟨n1, n2⟩
  have uF : ∀ q, q ≤ n → ∀ j : Nat, (j : Int) ≤ M 23 1 → 0 ≤ arF M (M' 27) q j ∧ arF M (M' 27) q j ≤ 180 + 54 * q := by
    intro q
    induction q with
    | zero =>
      intro _ j hj
      show 0 ≤ 3 * (j : Int) ∧ 3 * (j : Int) ≤ 180 + 54 * ((0 : Nat) : Int)
      omega
    | succ q ih =>
      intro hq j hj
      obtain ⟨w1, w2, w3⟩ := hw q (by omega)
      rw [arF]
      have := wF_rg hk (by omega) w3 (ih (by omega)) j hj
      omega
  have uB : ∀ q, q ≤ n → ∀ j : Nat, (j : Int) ≤ M 23 1 → 0 ≤ arB M (M' 27) n q j ∧ arB M (M' 27) n q j ≤ 180 + 54 * q := by
    intro q
    induction q with
    | zero =>
      intro _ j hj
      show 0 ≤ 3 * (M 23 1 - (j : Int)) ∧ 3 * (M 23 1 - (j : Int)) ≤ 180 + 54 * ((0 : Nat) : Int)
      omega
    | succ q ih =>
      intro hq j hj
      obtain ⟨w1, w2, w3⟩ := hw (n - (q + 1)) (by omega)
      rw [arB]
      have := wB_rg hk (by omega) w3 (ih (by omega)) j hj
      omega
  (refine xm_of (own := "DrumTongue$Reader") rfl (by decide +kernel) tk_Reader [some (xR (some 25)), some (xI (i : Int)), none] (Nat.le_of_ble_eq_true rfl) rfl ?_; intro D nx X C P hW)
  have second : ∀ (m k : Nat) (M1 : xM) (z : Int), k + m = n - i - 1 → z = (n : Int) - k - 1 → (∀ a, a ≠ 42 ∧ a ≠ 43 → M1 a = M' a) → (∀ j : Nat, (j : Int) ≤ M 23 1 → M1 42 j = arF M (M' 27) i j) → (∀ j : Nat, (j : Int) ≤ M 23 1 → M1 43 j = arB M (M' 27) n k j) → X 61 [some (xR (some 25)), some (xI (i : Int)), some (xI z)] [] (M1, D, nx) 0 0 := by
    intro m
    induction m with
    | zero =>
      intro k M1 z hkm hz h1 h2 h3
      refine xg hW k_Reader_weighAround [10, 61] 40 ?_
      ((repeat' (first | (with_reducible refine And.intro ?_ ?_) | (intro h0; exact absurd h0 (by decide)) | (intro _) | ((conv => whnf); (first | (with_reducible refine And.intro ?_ ?_) | (intro h0; exact absurd h0 (by decide)) | (intro _))))); (all_goals (try omega)); (all_goals (try exact Nat.le_of_ble_eq_true rfl)); (all_goals (try ((conv => whnf); (first | (refine hW.2.1 _ _ ?_) | (change X _ _ _ _ _ _) | (change C _ _ _ _ _ _ _))))); (all_goals (try simp only [xup_at, xup_ne, xup_up, ne_eq, Nat.reduceEqDiff, not_false_eq_true, Int.toNat_natCast, x_lcmp] at *)); (all_goals (try omega)))
      rw [show k = n - i - 1 by omega] at h3
      exact hq M1 h1 h2 h3
    | succ m ih =>
      intro k M1 z hkm hz h1 h2 h3
      have fr1 : frE M M1 := fun a ha => by rw [h1 a (by omega)]; exact fr a ha
      have hw' := hw z.toNat (by omega)
      have e27 : M1 27 z.toNat = M' 27 z.toNat := by rw [h1 27 (by omega)]
      have hr' : cR (M 23 1) (M1 43) := by
        intro j hj
        rw [h3 j hj]
        have := uB k (by omega) j hj
        omega
      obtain ⟨y1, y2, y3⟩ := id hw'
      refine xg hW k_Reader_weighAround [10, 61] 40 ?_
      ((repeat' (first | (with_reducible refine And.intro ?_ ?_) | (intro h0; exact absurd h0 (by decide)) | (intro _) | ((conv => whnf); (first | (with_reducible refine And.intro ?_ ?_) | (intro h0; exact absurd h0 (by decide)) | (intro _) | (rw [e27]) | (refine hW.1 _ _ _ _ _ _ (c_front fr1 hk rowA_43 hr' hw' ?_) (by first | decide | omega) (by decide) (Nat.le_of_ble_eq_true rfl)))))); (all_goals (try omega)); (all_goals (try exact Nat.le_of_ble_eq_true rfl)); (all_goals (try ((conv => whnf); (first | (refine hW.2.1 _ _ ?_) | (change X _ _ _ _ _ _) | (change C _ _ _ _ _ _ _))))); (all_goals (try simp only [xup_at, xup_ne, xup_up, ne_eq, Nat.reduceEqDiff, not_false_eq_true, Int.toNat_natCast, x_lcmp] at *)); (all_goals (try omega)))
      rename_i f hf
      refine ih (k + 1) _ (z + -1) (by omega) (by omega) (fun a ha => ?_) (fun j hj => ?_) (fun j hj => ?_)
      · rw [xup_ne (by omega)]; exact h1 a ha
      · rw [xup_ne (by omega)]; exact h2 j hj
      · rw [xup_at, hf j hj, arB, show n - (k + 1) = z.toNat by omega]
        exact wB_congr _ n1 h3 j hj
  have first : ∀ (m k : Nat) (M1 : xM), k + m = i → (∀ a, a ≠ 42 ∧ a ≠ 43 → M1 a = M' a) → (∀ j : Nat, (j : Int) ≤ M 23 1 → M1 42 j = arF M (M' 27) k j) → X 10 [some (xR (some 25)), some (xI (i : Int)), some (xI (k : Int))] [] (M1, D, nx) 0 0 := by
    intro m
    induction m with
    | zero =>
      intro k M1 hkm h1 h2
      have e : M1 25 5 = (n : Int) := by rw [h1 25 (by omega)]; exact e5
      have e3 : M1 23 = M 23 := by rw [h1 23 (by omega)]; exact e23
      have nn' : 0 ≤ M1 23 1 ∧ M1 23 1 ≤ 60 := by rw [e3]; exact ⟨n1, n2⟩
      refine xg hW k_Reader_weighAround [10, 61] 40 ?_
      ((repeat' (first | (with_reducible refine And.intro ?_ ?_) | (intro h0; exact absurd h0 (by decide)) | (intro _) | ((conv => whnf); (first | (with_reducible refine And.intro ?_ ?_) | (intro h0; exact absurd h0 (by decide)) | (intro _) | (rw [e]) | (refine hW.1 _ _ _ _ _ _ (c_startFrom rowA_43 nn' ?_) (by first | decide | omega) (by decide) (Nat.le_of_ble_eq_true rfl)))))); (all_goals (try omega)); (all_goals (try exact Nat.le_of_ble_eq_true rfl)); (all_goals (try ((conv => whnf); (first | (refine hW.2.1 _ _ ?_) | (change X _ _ _ _ _ _) | (change C _ _ _ _ _ _ _))))); (all_goals (try simp only [xup_at, xup_ne, xup_up, ne_eq, Nat.reduceEqDiff, not_false_eq_true, Int.toNat_natCast, x_lcmp] at *)); (all_goals (try omega)))
      rename_i f hf
      rw [show k = i by omega] at h2
      refine second (n - i - 1) 0 _ _ (by omega) (by omega) (fun a ha => ?_) (fun j hj => ?_) (fun j hj => ?_)
      · rw [xup_ne (by omega)]; exact h1 a ha
      · rw [xup_ne (by omega)]; exact h2 j hj
      · rw [xup_at, hf j (by rw [e3]; exact hj), e3]; rfl
    | succ m ih =>
      intro k M1 hkm h1 h2
      have fr1 : frE M M1 := fun a ha => by rw [h1 a (by omega)]; exact fr a ha
      have hw' := hw k (by omega)
      have e27 : M1 27 k = M' 27 k := by rw [h1 27 (by omega)]
      have hw2 : hP M (M1 27 (k : Int).toNat) := by rw [Int.toNat_natCast, e27]; exact hw'
      have hr' : cR (M 23 1) (M1 42) := by
        intro j hj
        rw [h2 j hj]
        have := uF k (by omega) j hj
        omega
      obtain ⟨y1, y2, y3⟩ := id hw'
      refine xg hW k_Reader_weighAround [10, 61] 40 ?_
      ((repeat' (first | (with_reducible refine And.intro ?_ ?_) | (intro h0; exact absurd h0 (by decide)) | (intro _) | ((conv => whnf); (first | (with_reducible refine And.intro ?_ ?_) | (intro h0; exact absurd h0 (by decide)) | (intro _) | (rw [e27]) | (refine hW.1 _ _ _ _ _ _ (c_behind fr1 hk rowA_42 hr' hw2 ?_) (by first | decide | omega) (by decide) (Nat.le_of_ble_eq_true rfl)))))); (all_goals (try omega)); (all_goals (try exact Nat.le_of_ble_eq_true rfl)); (all_goals (try ((conv => whnf); (first | (refine hW.2.1 _ _ ?_) | (change X _ _ _ _ _ _) | (change C _ _ _ _ _ _ _))))); (all_goals (try simp only [xup_at, xup_ne, xup_up, ne_eq, Nat.reduceEqDiff, not_false_eq_true, Int.toNat_natCast, x_lcmp] at *)); (all_goals (try omega)))
      rename_i f hf
      refine ih (k + 1) _ (by omega) (fun a ha => ?_) (fun j hj => ?_)
      · rw [xup_ne (by omega)]; exact h1 a ha
      · rw [xup_at, hf j hj, arF, e27]
        exact wF_congr _ n1 h2 j hj
  refine xg hW k_Reader_weighAround [10, 61] 40 ?_
  ((repeat' (first | (with_reducible refine And.intro ?_ ?_) | (intro h0; exact absurd h0 (by decide)) | (intro _) | ((conv => whnf); (first | (with_reducible refine And.intro ?_ ?_) | (intro h0; exact absurd h0 (by decide)) | (intro _) | (refine hW.1 _ _ _ _ _ _ (c_startUpTo rowA_42 nn ?_) (by first | decide | omega) (by decide) (Nat.le_of_ble_eq_true rfl)))))); (all_goals (try omega)); (all_goals (try exact Nat.le_of_ble_eq_true rfl)); (all_goals (try ((conv => whnf); (first | (refine hW.2.1 _ _ ?_) | (change X _ _ _ _ _ _) | (change C _ _ _ _ _ _ _))))); (all_goals (try simp only [xup_at, xup_ne, xup_up, ne_eq, Nat.reduceEqDiff, not_false_eq_true, Int.toNat_natCast, x_lcmp] at *)); (all_goals (try omega)))
  rename_i f hf
  refine first i 0 _ (by omega) (fun a ha => xup_ne (by omega)) (fun j hj => ?_)
  rw [xup_at]
  exact hf j (by rw [e23]; exact hj)
/-- the least of the other words at the place between f and g, by how much it is more than off; none: -1 -/
def dbt (M : xM) (f g : Nat → Int) (off x : Int) : Nat → Int
  | 0 => -1
  | w + 1 => if (w : Int) ≠ x ∧ M 15 w ≠ -1 then (if dbt M f g off x w = -1 then min 1000000 (mt (wF M w f) g (M 23 1).toNat) - off else min (dbt M f g off x w) (min 1000000 (mt (wF M w f) g (M 23 1).toNat) - off)) else dbt M f g off x w
theorem dbt_rg {M : xM} {f g : Nat → Int} {off x : Int} (ho : 0 ≤ off ∧ off ≤ 1000000) (hf : ∀ w : Nat, M 15 w ≠ -1 → w < 10 → 0 ≤ mt (wF M w f) g (M 23 1).toNat) : ∀ w, w ≤ 10 → -1000000 ≤ dbt M f g off x w ∧ dbt M f g off x w ≤ 1000000
  | 0, _ => by rw [dbt]; omega
  | w + 1, hw => by
    have h1 := dbt_rg (x := x) ho hf w (by omega)
    rw [dbt]
    by_cases q : (w : Int) ≠ x ∧ M 15 w ≠ -1
    · have h2 := hf w q.2 (by omega)
      rw [if_pos q]
      split <;> omega
    · rw [if_neg q]; exact h1
theorem arF_rg {M : xM} {s : Nat → Int} {n : Nat} (hk : rdOk M) (hw : ∀ q, q < n → hP M (s q)) : ∀ q, q ≤ n → ∀ j : Nat, (j : Int) ≤ M 23 1 → 0 ≤ arF M s q j ∧ arF M s q j ≤ 180 + 54 * q
  | 0, _, j, hj => by
    have := hk.1.2.1
    show 0 ≤ 3 * (j : Int) ∧ 3 * (j : Int) ≤ 180 + 54 * ((0 : Nat) : Int)
    omega
  | q + 1, hq, j, hj => by
    have h2 := hk.2.2
    obtain ⟨w1, w2, w3⟩ := hw q (by omega)
    rw [arF]
    have := wF_rg hk (by omega) w3 (arF_rg hk hw q (by omega)) j hj
    omega
theorem arB_rg {M : xM} {s : Nat → Int} {n : Nat} (hk : rdOk M) (hw : ∀ q, q < n → hP M (s q)) : ∀ q, q ≤ n → ∀ j : Nat, (j : Int) ≤ M 23 1 → 0 ≤ arB M s n q j ∧ arB M s n q j ≤ 180 + 54 * q
  | 0, _, j, hj => by
    have := hk.1.2.1
    show 0 ≤ 3 * (M 23 1 - (j : Int)) ∧ 3 * (M 23 1 - (j : Int)) ≤ 180 + 54 * ((0 : Nat) : Int)
    omega
  | q + 1, hq, j, hj => by
    have h2 := hk.2.2
    obtain ⟨w1, w2, w3⟩ := hw (n - (q + 1)) (by omega)
    rw [arB]
    have := wB_rg hk (by omega) w3 (arB_rg hk hw q (by omega)) j hj
    omega
set_option maxRecDepth 100000 in
set_option maxHeartbeats 2000000 in
theorem c_doubtAt {M M' : xM} {Q : Option xV → xM → Prop} {i n : Nat} (fr : frE M M') (hk : rdOk M) (hn : n ≤ 12) (hi : i < n) (e5 : M' 25 5 = (n : Int)) (ho : 0 ≤ M' 25 6 ∧ M' 25 6 ≤ 1000000) (hw : ∀ q, q < n → hP M (M' 27 q)) (hq : ∀ M'', (∀ a, a ≠ 42 ∧ a ≠ 43 ∧ a ≠ 44 → M'' a = M' a) → Q (some (xI (dbt M (arF M (M' 27) i) (arB M (M' 27) n (n - i - 1)) (M' 25 6) (M' 27 i) (M 3 2).toNat))) M'') : xm 5 m_Reader_doubtAt [xR (some 25), xI (i : Int)] M' Q := by
  obtain ⟨⟨n1, n2, n3⟩, hp, hw1, hw2⟩ := id hk
  obtain ⟨W, hW3⟩ := Int.eq_ofNat_of_zero_le hw1
  rw [show (M 3 2).toNat = W by omega] at hq
  (refine xm_of (own := "DrumTongue$Reader") rfl (by decide +kernel) tk_Reader [some (xR (some 25)), some (xI (i : Int)), none, none, none] (Nat.le_of_ble_eq_true rfl) rfl ?_; intro D nx X C P hW)
  have loop : ∀ (m w : Nat) (M1 : xM) (v4 : Option xV), w + m = W → (∀ a, a ≠ 42 ∧ a ≠ 43 ∧ a ≠ 44 → M1 a = M' a) → (∀ j : Nat, (j : Int) ≤ M 23 1 → M1 42 j = arF M (M' 27) i j) → (∀ j : Nat, (j : Int) ≤ M 23 1 → M1 43 j = arB M (M' 27) n (n - i - 1) j) → X 29 [some (xR (some 25)), some (xI (i : Int)), some (xI (dbt M (arF M (M' 27) i) (arB M (M' 27) n (n - i - 1)) (M' 25 6) (M' 27 i) w)), some (xI (w : Int)), v4] [] (M1, D, nx) 0 0 := by
    have uF := arF_rg hk hw i (by omega)
    have uB := arB_rg hk hw (n - i - 1) (by omega)
    have g0 : ∀ w : Nat, M 15 w ≠ -1 → w < 10 → 0 ≤ mt (wF M w (arF M (M' 27) i)) (arB M (M' 27) n (n - i - 1)) (M 23 1).toNat := fun w h1 h2 => mt_rg (fun j hj => (wF_rg hk h2 h1 uF j (by omega)).1) (fun j hj => (uB j (by omega)).1)
    intro m
    induction m with
    | zero =>
      intro w M1 v4 hwm h1 h2 h3
      have e3 : M1 3 2 = (W : Int) := by rw [h1 3 (by omega), fr 3 (by omega)]; exact hW3
      rw [show w = W by omega]
      refine xg hW k_Reader_doubtAt [29] 40 ?_
      ((repeat' (first | (with_reducible refine And.intro ?_ ?_) | (intro h0; exact absurd h0 (by decide)) | (intro _) | ((conv => whnf); (first | (with_reducible refine And.intro ?_ ?_) | (intro h0; exact absurd h0 (by decide)) | (intro _) | (rw [e3]) | (refine hW.1 _ _ _ _ _ _ (c_wordCount ?_) (by first | decide | omega) (by decide) (Nat.le_of_ble_eq_true rfl)))))); (all_goals (try omega)); (all_goals (try exact Nat.le_of_ble_eq_true rfl)); (all_goals (try ((conv => whnf); (first | (refine hW.2.1 _ _ ?_) | (change X _ _ _ _ _ _) | (change C _ _ _ _ _ _ _))))); (all_goals (try simp only [xup_at, xup_ne, xup_up, ne_eq, Nat.reduceEqDiff, not_false_eq_true, Int.toNat_natCast, x_lcmp] at *)); (all_goals (try omega)))
      any_goals (exact xnn (by omega))
      exact hq M1 h1
    | succ m ih =>
      intro w M1 v4 hwm h1 h2 h3
      have fr1 : frE M M1 := fun a ha => by rw [h1 a (by omega)]; exact fr a ha
      have e3 : M1 3 2 = (W : Int) := by rw [fr1 3 (by omega)]; exact hW3
      have e15 : M1 15 w = M 15 w := by rw [fr1 15 (by omega)]
      have e27 : M1 27 i = M' 27 i := by rw [h1 27 (by omega)]
      have hp' := (rdOk_fr fr1 hk).2.1
      have hw10 : w < 10 := by omega
      have hwi := hw i hi
      obtain ⟨y1, y2, y3⟩ := id hwi
      have d1 := dbt_rg (x := M' 27 i) ho g0 w (by omega)
      have ds : dbt M (arF M (M' 27) i) (arB M (M' 27) n (n - i - 1)) (M' 25 6) (M' 27 i) (w + 1) = _ := dbt.eq_2 ..
      refine xg hW k_Reader_doubtAt [29] 40 ?_
      ((repeat' (first | (with_reducible refine And.intro ?_ ?_) | (intro h0; exact absurd h0 (by decide)) | (intro _) | ((conv => whnf); (first | (with_reducible refine And.intro ?_ ?_) | (intro h0; exact absurd h0 (by decide)) | (intro _) | (rw [e3]) | (rw [e15]) | (rw [e27]) | (refine hW.1 _ _ _ _ _ _ (c_wordCount ?_) (by first | decide | omega) (by decide) (Nat.le_of_ble_eq_true rfl)) | (refine hW.1 _ _ _ _ _ _ (c_hasPhraseI hp' ?_) (by first | decide | omega) (by decide) (Nat.le_of_ble_eq_true rfl)) | (refine hW.1 _ _ _ _ _ _ (c_copy rowA_42 rowA_44 ?_) (by first | decide | omega) (by decide) (Nat.le_of_ble_eq_true rfl)))))); (all_goals (try omega)); (all_goals (try exact Nat.le_of_ble_eq_true rfl)); (all_goals (try ((conv => whnf); (first | (refine hW.2.1 _ _ ?_) | (change X _ _ _ _ _ _) | (change C _ _ _ _ _ _ _))))); (all_goals (try simp only [xup_at, xup_ne, xup_up, ne_eq, Nat.reduceEqDiff, not_false_eq_true, Int.toNat_natCast, x_lcmp] at *)); (all_goals (try omega)))
      any_goals (exact xnn (by omega))
      · rename_i _ hx
        have := ih (w + 1) M1 v4 (by omega) h1 h2 h3
        rw [ds, if_neg (fun hh => hh.1 (by rw [← e27]; exact hx)), show ((w + 1 : Nat) : Int) = (w : Int) + 1 by omega] at this
        exact this
      · rename_i hw0 hx hP1 _ f hf
        have hP2 : M 15 w ≠ -1 := by rw [← e15]; exact hP1
        have hx2 : (w : Int) ≠ M' 27 i := by rw [← e27]; exact hx
        have hh : hP M (w : Int) := ⟨by omega, by omega, by rw [Int.toNat_natCast]; exact hP2⟩
        have fr2 : frE M (xup M1 44 f) := frE_up (by omega) fr1
        have ef : ∀ j : Nat, (j : Int) ≤ M 23 1 → f j = arF M (M' 27) i j := fun j hj => (hf j (by omega)).trans (h2 j hj)
        have hr' : cR (M 23 1) ((xup M1 44 f) 44) := by
          intro j hj
          rw [xup_at, ef j hj]
          have := uF j hj
          omega
        ((repeat' (first | (with_reducible refine And.intro ?_ ?_) | (intro h0; exact absurd h0 (by decide)) | (intro _) | ((conv => whnf); (first | (with_reducible refine And.intro ?_ ?_) | (intro h0; exact absurd h0 (by decide)) | (intro _) | (refine hW.1 _ _ _ _ _ _ (c_behind fr2 hk rowA_44 hr' hh ?_) (by first | decide | omega) (by decide) (Nat.le_of_ble_eq_true rfl)))))); (all_goals (try omega)); (all_goals (try exact Nat.le_of_ble_eq_true rfl)); (all_goals (try ((conv => whnf); (first | (refine hW.2.1 _ _ ?_) | (change X _ _ _ _ _ _) | (change C _ _ _ _ _ _ _))))); (all_goals (try simp only [xup_at, xup_ne, xup_up, ne_eq, Nat.reduceEqDiff, not_false_eq_true, Int.toNat_natCast, x_lcmp] at *)); (all_goals (try omega)))
        rename_i f2 hf2
        have ef2 : ∀ j : Nat, (j : Int) ≤ M 23 1 → f2 j = wF M w (arF M (M' 27) i) j := fun j hj => (hf2 j hj).trans (wF_congr w n1 ef j hj)
        have fr3 : frE M (xup M1 44 f2) := frE_up (by omega) fr1
        have g1 : ∀ j : Nat, (j : Int) ≤ M 23 1 → 0 ≤ wF M w (arF M (M' 27) i) j ∧ wF M w (arF M (M' 27) i) j ≤ 1900000 := fun j hj => by
          have := wF_rg hk hw10 hP2 uF j hj
          omega
        have g2 : ∀ j : Nat, (j : Int) ≤ M 23 1 → 0 ≤ arB M (M' 27) n (n - i - 1) j ∧ arB M (M' 27) n (n - i - 1) j ≤ 1900000 := fun j hj => by
          have := uB j hj
          omega
        have g3 := g0 w hP2 hw10
        have g4 : ∀ j : Nat, (j : Int) ≤ M 23 1 → (xup M1 44 f2) 44 j = wF M w (arF M (M' 27) i) j := fun j hj => by rw [xup_at]; exact ef2 j hj
        have g5 : ∀ j : Nat, (j : Int) ≤ M 23 1 → (xup M1 44 f2) 43 j = arB M (M' 27) n (n - i - 1) j := fun j hj => by rw [xup_ne (by omega)]; exact h3 j hj
        have e25 : M1 25 6 = M' 25 6 := by rw [h1 25 (by omega)]
        rw [if_pos ⟨hx2, hP2⟩] at ds
        have next := fun v => ih (w + 1) (xup M1 44 f2) v (by omega) (fun a ha => by rw [xup_ne (by omega)]; exact h1 a ha) (fun j hj => by rw [xup_ne (by omega)]; exact h2 j hj) (fun j hj => by rw [xup_ne (by omega)]; exact h3 j hj)
        rw [ds, show ((w + 1 : Nat) : Int) = (w : Int) + 1 by omega] at next
        clear ds
        generalize dbt M (arF M (M' 27) i) (arB M (M' 27) n (n - i - 1)) (M' 25 6) (M' 27 i) w = dd at *
        ((repeat' (first | (with_reducible refine And.intro ?_ ?_) | (intro h0; exact absurd h0 (by decide)) | (intro _) | ((conv => whnf); (first | (with_reducible refine And.intro ?_ ?_) | (intro h0; exact absurd h0 (by decide)) | (intro _) | (rw [e25]) | (refine hW.1 _ _ _ _ _ _ (c_lt fr3 hk rowA_44 rowA_43 g4 g5 g1 g2 ?_) (by first | decide | omega) (by decide) (Nat.le_of_ble_eq_true rfl)))))); (all_goals (try omega)); (all_goals (try exact Nat.le_of_ble_eq_true rfl)); (all_goals (try ((conv => whnf); (first | (refine hW.2.1 _ _ ?_) | (change X _ _ _ _ _ _) | (change C _ _ _ _ _ _ _))))); (all_goals (try simp only [xup_at, xup_ne, xup_up, ne_eq, Nat.reduceEqDiff, not_false_eq_true, Int.toNat_natCast, x_lcmp] at *)); (all_goals (try omega)))
        · rename_i hd
          rw [e25]
          simp only [if_neg hd] at next
          exact next _
        · rename_i hd
          rw [e25]
          simp only [if_pos hd] at next
          exact next _
      · rename_i _ hx hP1 _
        have hP2 : M 15 w = -1 := by rw [← e15]; exact hP1
        have := ih (w + 1) M1 v4 (by omega) h1 h2 h3
        rw [ds, if_neg (fun hh => hh.2 hP2), show ((w + 1 : Nat) : Int) = (w : Int) + 1 by omega] at this
        exact this
  refine xg hW k_Reader_doubtAt [29] 40 ?_
  ((repeat' (first | (with_reducible refine And.intro ?_ ?_) | (intro h0; exact absurd h0 (by decide)) | (intro _) | ((conv => whnf); (first | (with_reducible refine And.intro ?_ ?_) | (intro h0; exact absurd h0 (by decide)) | (intro _) | (rw [e5]) | (refine hW.1 _ _ _ _ _ _ (c_weighAround fr hk hn hi e5 hw ?_) (by first | decide | omega) (by decide) (Nat.le_of_ble_eq_true rfl)))))); (all_goals (try omega)); (all_goals (try exact Nat.le_of_ble_eq_true rfl)); (all_goals (try ((conv => whnf); (first | (refine hW.2.1 _ _ ?_) | (change X _ _ _ _ _ _) | (change C _ _ _ _ _ _ _))))); (all_goals (try simp only [xup_at, xup_ne, xup_up, ne_eq, Nat.reduceEqDiff, not_false_eq_true, Int.toNat_natCast, x_lcmp] at *)); (all_goals (try omega)))
  any_goals (exact xnn (by omega))
  rename_i M2 h1 h2 h3
  exact loop W 0 M2 none (by omega) (fun a ha => h1 a (by omega)) h2 h3
/-- of the first k words: the first with the least doubt d, and that doubt (-1: none) -/
def mid (d : Nat → Int) : Nat → Int × Int
  | 0 => (-1, -1)
  | k + 1 => if d k ≠ -1 ∧ ((mid d k).1 = -1 ∨ d k < (mid d k).2) then (k, d k) else mid d k
theorem mid_rg {d : Nat → Int} : ∀ k, (∀ i, i < k → -1000000 ≤ d i ∧ d i ≤ 1000000) → -1 ≤ (mid d k).1 ∧ (mid d k).1 ≤ k ∧ -1000000 ≤ (mid d k).2 ∧ (mid d k).2 ≤ 1000000
  | 0, _ => by rw [mid]; decide
  | k + 1, h => by
    have h1 := mid_rg (d := d) k fun i hi => h i (by omega)
    have h2 := h k (by omega)
    rw [mid]
    split
    · show -1 ≤ (k : Int) ∧ (k : Int) ≤ ((k + 1 : Nat) : Int) ∧ -1000000 ≤ d k ∧ d k ≤ 1000000
      omega
    · omega
set_option maxRecDepth 100000 in
set_option maxHeartbeats 2000000 in
theorem c_mostInDoubt {M M' : xM} {Q : Option xV → xM → Prop} {n : Nat} (fr : frE M M') (hk : rdOk M) (hn : n ≤ 12) (e5 : M' 25 5 = (n : Int)) (ho : 0 ≤ M' 25 6 ∧ M' 25 6 ≤ 1000000) (hw : ∀ q, q < n → hP M (M' 27 q)) (hq : ∀ M'', (∀ a, a ≠ 42 ∧ a ≠ 43 ∧ a ≠ 44 → M'' a = M' a) → Q (some (xI (mid (fun i => dbt M (arF M (M' 27) i) (arB M (M' 27) n (n - i - 1)) (M' 25 6) (M' 27 i) (M 3 2).toNat) n).1)) M'') : xm 6 m_Reader_mostInDoubt [xR (some 25)] M' Q := by
  generalize hd : (fun i => dbt M (arF M (M' 27) i) (arB M (M' 27) n (n - i - 1)) (M' 25 6) (M' 27 i) (M 3 2).toNat) = d at hq
  (refine xm_of (own := "DrumTongue$Reader") rfl (by decide +kernel) tk_Reader [some (xR (some 25)), none, none, none, none] (Nat.le_of_ble_eq_true rfl) rfl ?_; intro D nx X C P hW)
  have loop : ∀ (m k : Nat) (M1 : xM) (v : Option xV), k + m = n → (∀ a, a ≠ 42 ∧ a ≠ 43 ∧ a ≠ 44 → M1 a = M' a) → X 6 [some (xR (some 25)), some (xI (mid d k).1), some (xI (mid d k).2), some (xI (k : Int)), v] [] (M1, D, nx) 0 0 := by
    intro m
    induction m with
    | zero =>
      intro k M1 v hkm h1
      have e : M1 25 5 = (n : Int) := by rw [h1 25 (by omega)]; exact e5
      rw [show k = n by omega]
      refine xg hW k_Reader_mostInDoubt [6] 40 ?_
      ((repeat' (first | (with_reducible refine And.intro ?_ ?_) | (intro h0; exact absurd h0 (by decide)) | (intro _) | ((conv => whnf); (first | (with_reducible refine And.intro ?_ ?_) | (intro h0; exact absurd h0 (by decide)) | (intro _) | (rw [e]))))); (all_goals (try omega)); (all_goals (try exact Nat.le_of_ble_eq_true rfl)); (all_goals (try ((conv => whnf); (first | (refine hW.2.1 _ _ ?_) | (change X _ _ _ _ _ _) | (change C _ _ _ _ _ _ _))))); (all_goals (try simp only [xup_at, xup_ne, xup_up, ne_eq, Nat.reduceEqDiff, not_false_eq_true, Int.toNat_natCast, x_lcmp] at *)); (all_goals (try omega)))
      any_goals (exact xnn (by omega))
      exact hq M1 h1
    | succ m ih =>
      intro k M1 v hkm h1
      have e : M1 25 5 = (n : Int) := by rw [h1 25 (by omega)]; exact e5
      have e6 : M1 25 6 = M' 25 6 := by rw [h1 25 (by omega)]
      have e7 : M1 27 = M' 27 := h1 27 (by omega)
      have fr1 : frE M M1 := fun a ha => by rw [h1 a (by omega)]; exact fr a ha
      have cd : ∀ Q : Option xV → xM → Prop, (∀ M'', (∀ a, a ≠ 42 ∧ a ≠ 43 ∧ a ≠ 44 → M'' a = M' a) → Q (some (xI (d k))) M'') → xm 5 m_Reader_doubtAt [xR (some 25), xI (k : Int)] M1 Q := by
        intro Q hQ
        refine c_doubtAt fr1 hk hn (show k < n by omega) e (by rw [e6]; exact ho) (by rw [e7]; exact hw) fun M'' hM => ?_
        rw [e6, e7]
        have := hQ M'' fun a ha => (hM a ha).trans (h1 a ha)
        rw [← hd] at this
        exact this
      have hdr : ∀ i, i < n → -1000000 ≤ d i ∧ d i ≤ 1000000 := fun i hi => by
        rw [← hd]
        refine dbt_rg ho (fun w h1 h2 => mt_rg (fun j hj => (wF_rg hk h2 h1 (arF_rg hk hw i (by omega)) j ?_).1) (fun j hj => (arB_rg hk hw (n - i - 1) (by omega) j ?_).1)) _ ?_
        · have := hk.1.1; omega
        · have := hk.1.1; omega
        · have := hk.2.2; omega
      have r1 := mid_rg (d := d) k fun i hi => hdr i (by omega)
      have r2 := hdr k (by omega)
      have ms : mid d (k + 1) = if d k ≠ -1 ∧ ((mid d k).1 = -1 ∨ d k < (mid d k).2) then ((k : Int), d k) else mid d k := by rw [mid]
      have next := fun (M2 : xM) (v : Option xV) (h2 : ∀ a, a ≠ 42 ∧ a ≠ 43 ∧ a ≠ 44 → M2 a = M' a) => ih (k + 1) M2 v (by omega) h2
      rw [ms, show ((k + 1 : Nat) : Int) = (k : Int) + 1 by omega] at next
      clear ms hd
      generalize mid d k = mm at *
      refine xg hW k_Reader_mostInDoubt [6] 40 ?_
      ((repeat' (first | (with_reducible refine And.intro ?_ ?_) | (intro h0; exact absurd h0 (by decide)) | (intro _) | ((conv => whnf); (first | (with_reducible refine And.intro ?_ ?_) | (intro h0; exact absurd h0 (by decide)) | (intro _) | (rw [e]) | (refine hW.1 _ _ _ _ _ _ (cd _ ?_) (by first | decide | omega) (by decide) (Nat.le_of_ble_eq_true rfl)))))); (all_goals (try omega)); (all_goals (try exact Nat.le_of_ble_eq_true rfl)); (all_goals (try ((conv => whnf); (first | (refine hW.2.1 _ _ ?_) | (change X _ _ _ _ _ _) | (change C _ _ _ _ _ _ _))))); (all_goals (try simp only [xup_at, xup_ne, xup_up, ne_eq, Nat.reduceEqDiff, not_false_eq_true, Int.toNat_natCast, x_lcmp] at *)); (all_goals (try omega)))
      any_goals (exact xnn (by omega))
      · rename_i M2 h2 h3
        simp only [if_neg (show ¬(¬d k = -1 ∧ (mm.fst = -1 ∨ d k < mm.snd)) from fun hh => hh.1 h3)] at next
        exact next M2 _ h2
      · rename_i M2 h2 h3 h4
        simp only [if_pos (show ¬d k = -1 ∧ (mm.fst = -1 ∨ d k < mm.snd) from ⟨h3, Or.inl h4⟩)] at next
        exact next M2 _ h2
      · rename_i M2 h2 h3 h4 h5
        simp only [if_neg (show ¬(¬d k = -1 ∧ (mm.fst = -1 ∨ d k < mm.snd)) from fun hh => by omega)] at next
        exact next M2 _ h2
      · rename_i M2 h2 h3 h4 h5
        simp only [if_pos (show ¬d k = -1 ∧ (mm.fst = -1 ∨ d k < mm.snd) from ⟨h3, Or.inr h5⟩)] at next
        exact next M2 _ h2
  refine xg hW k_Reader_mostInDoubt [6] 40 ?_
  ((repeat' (first | (with_reducible refine And.intro ?_ ?_) | (intro h0; exact absurd h0 (by decide)) | (intro _) | ((conv => whnf); (first | (with_reducible refine And.intro ?_ ?_) | (intro h0; exact absurd h0 (by decide)) | (intro _))))); (all_goals (try omega)); (all_goals (try exact Nat.le_of_ble_eq_true rfl)); (all_goals (try ((conv => whnf); (first | (refine hW.2.1 _ _ ?_) | (change X _ _ _ _ _ _) | (change C _ _ _ _ _ _ _))))); (all_goals (try simp only [xup_at, xup_ne, xup_up, ne_eq, Nat.reduceEqDiff, not_false_eq_true, Int.toNat_natCast, x_lcmp] at *)); (all_goals (try omega)))
  exact loop n 0 M' none (by omega) fun a _ => rfl
end
section
/-! the class's public methods -/
set_option maxRecDepth 100000 in
set_option maxHeartbeats 600000 in
theorem p_readAt {M : xM} {Q : Option xV → xM → Prop} {i : Int} (hn : 0 ≤ M 25 3 ∧ M 25 3 ≤ 12) (hi : xrg i) (h1 : 0 ≤ i → i < M 25 3 → Q (some (xI (M 26 i.toNat))) M) (h2 : i < 0 ∨ M 25 3 ≤ i → Q (some (xI (-1))) M) : xm 2 m_X_readAt [xR (some 1), xI i] M Q := by
  (refine xm_of (own := "DrumTongue") rfl (by decide +kernel) tk_X [some (xR (some 1)), some (xI i)] (Nat.le_of_ble_eq_true rfl) rfl ?_; intro D nx X C P hW)
  refine xg hW k_X_readAt [] 40 ?_
  ((repeat' (first | (with_reducible refine And.intro ?_ ?_) | (intro h0; exact absurd h0 (by decide)) | (intro _) | ((conv => whnf); (first | (with_reducible refine And.intro ?_ ?_) | (intro h0; exact absurd h0 (by decide)) | (intro _) | (refine hW.1 _ _ _ _ _ _ (c_lastAt hn ?_) (by first | decide | omega) (by decide) (Nat.le_of_ble_eq_true rfl)))))); (all_goals (try omega)); (all_goals (try exact Nat.le_of_ble_eq_true rfl)); (all_goals (try ((conv => whnf); (first | (refine hW.2.1 _ _ ?_) | (change X _ _ _ _ _ _) | (change C _ _ _ _ _ _ _))))); (all_goals (try simp only [xup_at, xup_ne, xup_up, ne_eq, Nat.reduceEqDiff, not_false_eq_true, Int.toNat_natCast, x_lcmp] at *)); (all_goals (try omega)))
  all_goals first | exact hi | exact h1 (by omega) (by omega) | exact h2 (by omega)
end
