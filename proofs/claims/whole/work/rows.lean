section
-- ===== PART A: goes FIRST, ahead of the names: the tables' words, and 'selects' of the private methods out of them =====
/-- a private method of a class that the tables say can be made, by its rows of tables_1 -/
def lw_okq (q : MethodName × Nat) : Prop := (q.1.cls ≠ "java/lang/invoke/MethodHandle" ∧ q.1.cls ≠ "java/lang/invoke/VarHandle") ∧ Cond.instantiable q.1.cls q.2 ∈ tables_1 ∧ Cond.privateMethod q.1 ∈ tables_1 ∧ Cond.instanceMethod q.1 ∈ tables_1
theorem lw_p0 : lw_okq (⟨"DrumTongue$Tails", "add", "(IIII)V"⟩, 3) := ⟨⟨by decide +kernel, by decide +kernel⟩, List.mem_of_getElem? (i := 48) (by decide +kernel), List.mem_of_getElem? (i := 56) (by decide +kernel), List.mem_of_getElem? (i := 57) (by decide +kernel)⟩
theorem lw_p1 : lw_okq (⟨"DrumTongue$Tongue", "forgetPhrases", "()V"⟩, 12) := ⟨⟨by decide +kernel, by decide +kernel⟩, List.mem_of_getElem? (i := 22) (by decide +kernel), List.mem_of_getElem? (i := 82) (by decide +kernel), List.mem_of_getElem? (i := 83) (by decide +kernel)⟩
theorem lw_p2 : lw_okq (⟨"DrumTongue$Tails", "addSingles", "(LDrumTongue$Rows;I)V"⟩, 3) := ⟨⟨by decide +kernel, by decide +kernel⟩, List.mem_of_getElem? (i := 48) (by decide +kernel), List.mem_of_getElem? (i := 263) (by decide +kernel), List.mem_of_getElem? (i := 264) (by decide +kernel)⟩
theorem lw_p3 : lw_okq (⟨"DrumTongue$Tails", "addPairs", "(LDrumTongue$Rows;I)V"⟩, 3) := ⟨⟨by decide +kernel, by decide +kernel⟩, List.mem_of_getElem? (i := 48) (by decide +kernel), List.mem_of_getElem? (i := 275) (by decide +kernel), List.mem_of_getElem? (i := 276) (by decide +kernel)⟩
theorem lw_p4 : lw_okq (⟨"DrumTongue$Tongue", "firstTailApart", "(I)I"⟩, 12) := ⟨⟨by decide +kernel, by decide +kernel⟩, List.mem_of_getElem? (i := 22) (by decide +kernel), List.mem_of_getElem? (i := 296) (by decide +kernel), List.mem_of_getElem? (i := 297) (by decide +kernel)⟩
theorem lw_p5 : lw_okq (⟨"DrumTongue$Tongue", "sizeWith", "(II)I"⟩, 12) := ⟨⟨by decide +kernel, by decide +kernel⟩, List.mem_of_getElem? (i := 22) (by decide +kernel), List.mem_of_getElem? (i := 304) (by decide +kernel), List.mem_of_getElem? (i := 305) (by decide +kernel)⟩
theorem lw_p6 : lw_okq (⟨"DrumTongue$Tongue", "numberWith", "(II)I"⟩, 12) := ⟨⟨by decide +kernel, by decide +kernel⟩, List.mem_of_getElem? (i := 22) (by decide +kernel), List.mem_of_getElem? (i := 313) (by decide +kernel), List.mem_of_getElem? (i := 314) (by decide +kernel)⟩
theorem lw_p7 : lw_okq (⟨"DrumTongue$Tongue", "give", "(II)V"⟩, 12) := ⟨⟨by decide +kernel, by decide +kernel⟩, List.mem_of_getElem? (i := 22) (by decide +kernel), List.mem_of_getElem? (i := 344) (by decide +kernel), List.mem_of_getElem? (i := 345) (by decide +kernel)⟩
theorem lw_p8 : lw_okq (⟨"DrumTongue$Tongue", "lookFrom", "(II)V"⟩, 12) := ⟨⟨by decide +kernel, by decide +kernel⟩, List.mem_of_getElem? (i := 22) (by decide +kernel), List.mem_of_getElem? (i := 357) (by decide +kernel), List.mem_of_getElem? (i := 358) (by decide +kernel)⟩
theorem lw_p9 : lw_okq (⟨"DrumTongue$Reader", "weighAllCounts", "()V"⟩, 11) := ⟨⟨by decide +kernel, by decide +kernel⟩, List.mem_of_getElem? (i := 139) (by decide +kernel), List.mem_of_getElem? (i := 467) (by decide +kernel), List.mem_of_getElem? (i := 468) (by decide +kernel)⟩
theorem lw_p10 : lw_okq (⟨"DrumTongue$Reader", "startFrom", "([I)V"⟩, 11) := ⟨⟨by decide +kernel, by decide +kernel⟩, List.mem_of_getElem? (i := 139) (by decide +kernel), List.mem_of_getElem? (i := 471) (by decide +kernel), List.mem_of_getElem? (i := 472) (by decide +kernel)⟩
theorem lw_p11 : lw_okq (⟨"DrumTongue$Reader", "copy", "([I[I)V"⟩, 11) := ⟨⟨by decide +kernel, by decide +kernel⟩, List.mem_of_getElem? (i := 139) (by decide +kernel), List.mem_of_getElem? (i := 483) (by decide +kernel), List.mem_of_getElem? (i := 484) (by decide +kernel)⟩
theorem lw_p12 : lw_okq (⟨"DrumTongue$Reader", "putInFront", "(I[I)V"⟩, 11) := ⟨⟨by decide +kernel, by decide +kernel⟩, List.mem_of_getElem? (i := 139) (by decide +kernel), List.mem_of_getElem? (i := 489) (by decide +kernel), List.mem_of_getElem? (i := 490) (by decide +kernel)⟩
theorem lw_p13 : lw_okq (⟨"DrumTongue$Reader", "putBeatInFront", "(I[I)V"⟩, 11) := ⟨⟨by decide +kernel, by decide +kernel⟩, List.mem_of_getElem? (i := 139) (by decide +kernel), List.mem_of_getElem? (i := 495) (by decide +kernel), List.mem_of_getElem? (i := 496) (by decide +kernel)⟩
theorem lw_p14 : lw_okq (⟨"DrumTongue$Reader", "takeLower", "([I[I)V"⟩, 11) := ⟨⟨by decide +kernel, by decide +kernel⟩, List.mem_of_getElem? (i := 139) (by decide +kernel), List.mem_of_getElem? (i := 503) (by decide +kernel), List.mem_of_getElem? (i := 504) (by decide +kernel)⟩
theorem lw_p15 : lw_okq (⟨"DrumTongue$Reader", "bestCount", "()I"⟩, 11) := ⟨⟨by decide +kernel, by decide +kernel⟩, List.mem_of_getElem? (i := 139) (by decide +kernel), List.mem_of_getElem? (i := 507) (by decide +kernel), List.mem_of_getElem? (i := 508) (by decide +kernel)⟩
def lw_privs_1 : List (MethodName × Nat) := [(⟨"DrumTongue$Tails", "add", "(IIII)V"⟩, 3), (⟨"DrumTongue$Tongue", "forgetPhrases", "()V"⟩, 12), (⟨"DrumTongue$Tails", "addSingles", "(LDrumTongue$Rows;I)V"⟩, 3), (⟨"DrumTongue$Tails", "addPairs", "(LDrumTongue$Rows;I)V"⟩, 3), (⟨"DrumTongue$Tongue", "firstTailApart", "(I)I"⟩, 12), (⟨"DrumTongue$Tongue", "sizeWith", "(II)I"⟩, 12), (⟨"DrumTongue$Tongue", "numberWith", "(II)I"⟩, 12), (⟨"DrumTongue$Tongue", "give", "(II)V"⟩, 12), (⟨"DrumTongue$Tongue", "lookFrom", "(II)V"⟩, 12), (⟨"DrumTongue$Reader", "weighAllCounts", "()V"⟩, 11), (⟨"DrumTongue$Reader", "startFrom", "([I)V"⟩, 11), (⟨"DrumTongue$Reader", "copy", "([I[I)V"⟩, 11), (⟨"DrumTongue$Reader", "putInFront", "(I[I)V"⟩, 11), (⟨"DrumTongue$Reader", "putBeatInFront", "(I[I)V"⟩, 11), (⟨"DrumTongue$Reader", "takeLower", "([I[I)V"⟩, 11), (⟨"DrumTongue$Reader", "bestCount", "()I"⟩, 11)]
theorem lw_r1 : ∀ q ∈ lw_privs_1, lw_okq q := List.forall_mem_cons.mpr ⟨lw_p0, List.forall_mem_cons.mpr ⟨lw_p1, List.forall_mem_cons.mpr ⟨lw_p2, List.forall_mem_cons.mpr ⟨lw_p3, List.forall_mem_cons.mpr ⟨lw_p4, List.forall_mem_cons.mpr ⟨lw_p5, List.forall_mem_cons.mpr ⟨lw_p6, List.forall_mem_cons.mpr ⟨lw_p7, List.forall_mem_cons.mpr ⟨lw_p8, List.forall_mem_cons.mpr ⟨lw_p9, List.forall_mem_cons.mpr ⟨lw_p10, List.forall_mem_cons.mpr ⟨lw_p11, List.forall_mem_cons.mpr ⟨lw_p12, List.forall_mem_cons.mpr ⟨lw_p13, List.forall_mem_cons.mpr ⟨lw_p14, List.forall_mem_cons.mpr ⟨lw_p15, fun _ h => absurd h List.not_mem_nil⟩⟩⟩⟩⟩⟩⟩⟩⟩⟩⟩⟩⟩⟩⟩⟩
theorem lw_p16 : lw_okq (⟨"DrumTongue$Reader", "spellFirstByNumbers", "()V"⟩, 11) := ⟨⟨by decide +kernel, by decide +kernel⟩, List.mem_of_getElem? (i := 139) (by decide +kernel), List.mem_of_getElem? (i := 511) (by decide +kernel), List.mem_of_getElem? (i := 512) (by decide +kernel)⟩
theorem lw_p17 : lw_okq (⟨"DrumTongue$Reader", "startUpTo", "([I)V"⟩, 11) := ⟨⟨by decide +kernel, by decide +kernel⟩, List.mem_of_getElem? (i := 139) (by decide +kernel), List.mem_of_getElem? (i := 515) (by decide +kernel), List.mem_of_getElem? (i := 516) (by decide +kernel)⟩
theorem lw_p18 : lw_okq (⟨"DrumTongue$Reader", "firstWordThatKeepsTheLeast", "(I)I"⟩, 11) := ⟨⟨by decide +kernel, by decide +kernel⟩, List.mem_of_getElem? (i := 139) (by decide +kernel), List.mem_of_getElem? (i := 519) (by decide +kernel), List.mem_of_getElem? (i := 520) (by decide +kernel)⟩
theorem lw_p19 : lw_okq (⟨"DrumTongue$Reader", "putBehind", "(I[I)V"⟩, 11) := ⟨⟨by decide +kernel, by decide +kernel⟩, List.mem_of_getElem? (i := 139) (by decide +kernel), List.mem_of_getElem? (i := 523) (by decide +kernel), List.mem_of_getElem? (i := 524) (by decide +kernel)⟩
theorem lw_p20 : lw_okq (⟨"DrumTongue$Reader", "putBeatBehind", "(I[I)V"⟩, 11) := ⟨⟨by decide +kernel, by decide +kernel⟩, List.mem_of_getElem? (i := 139) (by decide +kernel), List.mem_of_getElem? (i := 527) (by decide +kernel), List.mem_of_getElem? (i := 528) (by decide +kernel)⟩
theorem lw_p21 : lw_okq (⟨"DrumTongue$Reader", "leastTogether", "([I[I)I"⟩, 11) := ⟨⟨by decide +kernel, by decide +kernel⟩, List.mem_of_getElem? (i := 139) (by decide +kernel), List.mem_of_getElem? (i := 531) (by decide +kernel), List.mem_of_getElem? (i := 532) (by decide +kernel)⟩
theorem lw_p22 : lw_okq (⟨"DrumTongue$Reader", "weighAround", "(I)V"⟩, 11) := ⟨⟨by decide +kernel, by decide +kernel⟩, List.mem_of_getElem? (i := 139) (by decide +kernel), List.mem_of_getElem? (i := 563) (by decide +kernel), List.mem_of_getElem? (i := 564) (by decide +kernel)⟩
theorem lw_p23 : lw_okq (⟨"DrumTongue$Hills", "walk", "(IIJI)V"⟩, 10) := ⟨⟨by decide +kernel, by decide +kernel⟩, List.mem_of_getElem? (i := 181) (by decide +kernel), List.mem_of_getElem? (i := 600) (by decide +kernel), List.mem_of_getElem? (i := 601) (by decide +kernel)⟩
theorem lw_p24 : lw_okq (⟨"DrumTongue$Hills", "keepIfBetter", "(IJI)V"⟩, 10) := ⟨⟨by decide +kernel, by decide +kernel⟩, List.mem_of_getElem? (i := 181) (by decide +kernel), List.mem_of_getElem? (i := 604) (by decide +kernel), List.mem_of_getElem? (i := 605) (by decide +kernel)⟩
theorem lw_p25 : lw_okq (⟨"DrumTongue$Hills", "isOnPath", "(II)Z"⟩, 10) := ⟨⟨by decide +kernel, by decide +kernel⟩, List.mem_of_getElem? (i := 181) (by decide +kernel), List.mem_of_getElem? (i := 609) (by decide +kernel), List.mem_of_getElem? (i := 610) (by decide +kernel)⟩
theorem lw_p26 : lw_okq (⟨"DrumTongue$Hills", "tryTimes", "(IIJI)V"⟩, 10) := ⟨⟨by decide +kernel, by decide +kernel⟩, List.mem_of_getElem? (i := 181) (by decide +kernel), List.mem_of_getElem? (i := 644) (by decide +kernel), List.mem_of_getElem? (i := 645) (by decide +kernel)⟩
theorem lw_p27 : lw_okq (⟨"DrumTongue$Hills", "chanceBetween", "(II)I"⟩, 10) := ⟨⟨by decide +kernel, by decide +kernel⟩, List.mem_of_getElem? (i := 181) (by decide +kernel), List.mem_of_getElem? (i := 648) (by decide +kernel), List.mem_of_getElem? (i := 649) (by decide +kernel)⟩
theorem lw_p28 : lw_okq (⟨"DrumTongueModel", "gone", "()V"⟩, 39) := ⟨⟨by decide +kernel, by decide +kernel⟩, List.mem_of_getElem? (i := 723) (by decide +kernel), List.mem_of_getElem? (i := 859) (by decide +kernel), List.mem_of_getElem? (i := 860) (by decide +kernel)⟩
theorem lw_p29 : lw_okq (⟨"DrumTongueModel", "order", "()V"⟩, 39) := ⟨⟨by decide +kernel, by decide +kernel⟩, List.mem_of_getElem? (i := 723) (by decide +kernel), List.mem_of_getElem? (i := 876) (by decide +kernel), List.mem_of_getElem? (i := 877) (by decide +kernel)⟩
theorem lw_p30 : lw_okq (⟨"DrumTongueModel", "come", "(IIII)V"⟩, 39) := ⟨⟨by decide +kernel, by decide +kernel⟩, List.mem_of_getElem? (i := 723) (by decide +kernel), List.mem_of_getElem? (i := 880) (by decide +kernel), List.mem_of_getElem? (i := 881) (by decide +kernel)⟩
theorem lw_p31 : lw_okq (⟨"DrumTongueModel", "isLater", "(IIIII)Z"⟩, 39) := ⟨⟨by decide +kernel, by decide +kernel⟩, List.mem_of_getElem? (i := 723) (by decide +kernel), List.mem_of_getElem? (i := 884) (by decide +kernel), List.mem_of_getElem? (i := 885) (by decide +kernel)⟩
def lw_privs_2 : List (MethodName × Nat) := [(⟨"DrumTongue$Reader", "spellFirstByNumbers", "()V"⟩, 11), (⟨"DrumTongue$Reader", "startUpTo", "([I)V"⟩, 11), (⟨"DrumTongue$Reader", "firstWordThatKeepsTheLeast", "(I)I"⟩, 11), (⟨"DrumTongue$Reader", "putBehind", "(I[I)V"⟩, 11), (⟨"DrumTongue$Reader", "putBeatBehind", "(I[I)V"⟩, 11), (⟨"DrumTongue$Reader", "leastTogether", "([I[I)I"⟩, 11), (⟨"DrumTongue$Reader", "weighAround", "(I)V"⟩, 11), (⟨"DrumTongue$Hills", "walk", "(IIJI)V"⟩, 10), (⟨"DrumTongue$Hills", "keepIfBetter", "(IJI)V"⟩, 10), (⟨"DrumTongue$Hills", "isOnPath", "(II)Z"⟩, 10), (⟨"DrumTongue$Hills", "tryTimes", "(IIJI)V"⟩, 10), (⟨"DrumTongue$Hills", "chanceBetween", "(II)I"⟩, 10), (⟨"DrumTongueModel", "gone", "()V"⟩, 39), (⟨"DrumTongueModel", "order", "()V"⟩, 39), (⟨"DrumTongueModel", "come", "(IIII)V"⟩, 39), (⟨"DrumTongueModel", "isLater", "(IIIII)Z"⟩, 39)]
theorem lw_r2 : ∀ q ∈ lw_privs_2, lw_okq q := List.forall_mem_cons.mpr ⟨lw_p16, List.forall_mem_cons.mpr ⟨lw_p17, List.forall_mem_cons.mpr ⟨lw_p18, List.forall_mem_cons.mpr ⟨lw_p19, List.forall_mem_cons.mpr ⟨lw_p20, List.forall_mem_cons.mpr ⟨lw_p21, List.forall_mem_cons.mpr ⟨lw_p22, List.forall_mem_cons.mpr ⟨lw_p23, List.forall_mem_cons.mpr ⟨lw_p24, List.forall_mem_cons.mpr ⟨lw_p25, List.forall_mem_cons.mpr ⟨lw_p26, List.forall_mem_cons.mpr ⟨lw_p27, List.forall_mem_cons.mpr ⟨lw_p28, List.forall_mem_cons.mpr ⟨lw_p29, List.forall_mem_cons.mpr ⟨lw_p30, List.forall_mem_cons.mpr ⟨lw_p31, fun _ h => absurd h List.not_mem_nil⟩⟩⟩⟩⟩⟩⟩⟩⟩⟩⟩⟩⟩⟩⟩⟩
theorem lw_p32 : lw_okq (⟨"DrumTongueModel", "isFree", "(II[I)Z"⟩, 39) := ⟨⟨by decide +kernel, by decide +kernel⟩, List.mem_of_getElem? (i := 723) (by decide +kernel), List.mem_of_getElem? (i := 888) (by decide +kernel), List.mem_of_getElem? (i := 889) (by decide +kernel)⟩
theorem lw_p33 : lw_okq (⟨"DrumTongueModel", "isApart", "(IIII)Z"⟩, 39) := ⟨⟨by decide +kernel, by decide +kernel⟩, List.mem_of_getElem? (i := 723) (by decide +kernel), List.mem_of_getElem? (i := 892) (by decide +kernel), List.mem_of_getElem? (i := 893) (by decide +kernel)⟩
theorem lw_p34 : lw_okq (⟨"DrumTongueModel", "bitsOf", "(II)I"⟩, 39) := ⟨⟨by decide +kernel, by decide +kernel⟩, List.mem_of_getElem? (i := 723) (by decide +kernel), List.mem_of_getElem? (i := 896) (by decide +kernel), List.mem_of_getElem? (i := 897) (by decide +kernel)⟩
theorem lw_p35 : lw_okq (⟨"DrumTongueModel", "apart", "(IIII)I"⟩, 39) := ⟨⟨by decide +kernel, by decide +kernel⟩, List.mem_of_getElem? (i := 723) (by decide +kernel), List.mem_of_getElem? (i := 900) (by decide +kernel), List.mem_of_getElem? (i := 901) (by decide +kernel)⟩
theorem lw_p36 : lw_okq (⟨"DrumTongueModel", "phrased", "()I"⟩, 39) := ⟨⟨by decide +kernel, by decide +kernel⟩, List.mem_of_getElem? (i := 723) (by decide +kernel), List.mem_of_getElem? (i := 907) (by decide +kernel), List.mem_of_getElem? (i := 908) (by decide +kernel)⟩
theorem lw_p37 : lw_okq (⟨"DrumTongueModel", "isWord", "(I)Z"⟩, 39) := ⟨⟨by decide +kernel, by decide +kernel⟩, List.mem_of_getElem? (i := 723) (by decide +kernel), List.mem_of_getElem? (i := 920) (by decide +kernel), List.mem_of_getElem? (i := 921) (by decide +kernel)⟩
theorem lw_p38 : lw_okq (⟨"DrumTongueModel", "lengthOf", "(I)I"⟩, 39) := ⟨⟨by decide +kernel, by decide +kernel⟩, List.mem_of_getElem? (i := 723) (by decide +kernel), List.mem_of_getElem? (i := 924) (by decide +kernel), List.mem_of_getElem? (i := 925) (by decide +kernel)⟩
theorem lw_p39 : lw_okq (⟨"DrumTongueModel", "beatOf", "(II)I"⟩, 39) := ⟨⟨by decide +kernel, by decide +kernel⟩, List.mem_of_getElem? (i := 723) (by decide +kernel), List.mem_of_getElem? (i := 932) (by decide +kernel), List.mem_of_getElem? (i := 933) (by decide +kernel)⟩
theorem lw_p40 : lw_okq (⟨"DrumTongueModel", "reading", "()I"⟩, 39) := ⟨⟨by decide +kernel, by decide +kernel⟩, List.mem_of_getElem? (i := 723) (by decide +kernel), List.mem_of_getElem? (i := 966) (by decide +kernel), List.mem_of_getElem? (i := 967) (by decide +kernel)⟩
theorem lw_p41 : lw_okq (⟨"DrumTongueModel", "restFrom", "(I)V"⟩, 39) := ⟨⟨by decide +kernel, by decide +kernel⟩, List.mem_of_getElem? (i := 723) (by decide +kernel), List.mem_of_getElem? (i := 970) (by decide +kernel), List.mem_of_getElem? (i := 971) (by decide +kernel)⟩
theorem lw_p42 : lw_okq (⟨"DrumTongueModel", "ahead", "(I)V"⟩, 39) := ⟨⟨by decide +kernel, by decide +kernel⟩, List.mem_of_getElem? (i := 723) (by decide +kernel), List.mem_of_getElem? (i := 974) (by decide +kernel), List.mem_of_getElem? (i := 975) (by decide +kernel)⟩
theorem lw_p43 : lw_okq (⟨"DrumTongueModel", "off", "(II)I"⟩, 39) := ⟨⟨by decide +kernel, by decide +kernel⟩, List.mem_of_getElem? (i := 723) (by decide +kernel), List.mem_of_getElem? (i := 981) (by decide +kernel), List.mem_of_getElem? (i := 982) (by decide +kernel)⟩
theorem lw_p44 : lw_okq (⟨"DrumTongueModel", "behind", "(I)V"⟩, 39) := ⟨⟨by decide +kernel, by decide +kernel⟩, List.mem_of_getElem? (i := 723) (by decide +kernel), List.mem_of_getElem? (i := 985) (by decide +kernel), List.mem_of_getElem? (i := 986) (by decide +kernel)⟩
theorem lw_p45 : lw_okq (⟨"DrumTongueModel", "doubtOf", "(II)I"⟩, 39) := ⟨⟨by decide +kernel, by decide +kernel⟩, List.mem_of_getElem? (i := 723) (by decide +kernel), List.mem_of_getElem? (i := 997) (by decide +kernel), List.mem_of_getElem? (i := 998) (by decide +kernel)⟩
theorem lw_p46 : lw_okq (⟨"DrumTongueModel", "offWith", "(II)I"⟩, 39) := ⟨⟨by decide +kernel, by decide +kernel⟩, List.mem_of_getElem? (i := 723) (by decide +kernel), List.mem_of_getElem? (i := 1001) (by decide +kernel), List.mem_of_getElem? (i := 1002) (by decide +kernel)⟩
theorem lw_p47 : lw_okq (⟨"DrumTongueModel", "look", "(II)V"⟩, 39) := ⟨⟨by decide +kernel, by decide +kernel⟩, List.mem_of_getElem? (i := 723) (by decide +kernel), List.mem_of_getElem? (i := 1026) (by decide +kernel), List.mem_of_getElem? (i := 1027) (by decide +kernel)⟩
def lw_privs_3 : List (MethodName × Nat) := [(⟨"DrumTongueModel", "isFree", "(II[I)Z"⟩, 39), (⟨"DrumTongueModel", "isApart", "(IIII)Z"⟩, 39), (⟨"DrumTongueModel", "bitsOf", "(II)I"⟩, 39), (⟨"DrumTongueModel", "apart", "(IIII)I"⟩, 39), (⟨"DrumTongueModel", "phrased", "()I"⟩, 39), (⟨"DrumTongueModel", "isWord", "(I)Z"⟩, 39), (⟨"DrumTongueModel", "lengthOf", "(I)I"⟩, 39), (⟨"DrumTongueModel", "beatOf", "(II)I"⟩, 39), (⟨"DrumTongueModel", "reading", "()I"⟩, 39), (⟨"DrumTongueModel", "restFrom", "(I)V"⟩, 39), (⟨"DrumTongueModel", "ahead", "(I)V"⟩, 39), (⟨"DrumTongueModel", "off", "(II)I"⟩, 39), (⟨"DrumTongueModel", "behind", "(I)V"⟩, 39), (⟨"DrumTongueModel", "doubtOf", "(II)I"⟩, 39), (⟨"DrumTongueModel", "offWith", "(II)I"⟩, 39), (⟨"DrumTongueModel", "look", "(II)V"⟩, 39)]
theorem lw_r3 : ∀ q ∈ lw_privs_3, lw_okq q := List.forall_mem_cons.mpr ⟨lw_p32, List.forall_mem_cons.mpr ⟨lw_p33, List.forall_mem_cons.mpr ⟨lw_p34, List.forall_mem_cons.mpr ⟨lw_p35, List.forall_mem_cons.mpr ⟨lw_p36, List.forall_mem_cons.mpr ⟨lw_p37, List.forall_mem_cons.mpr ⟨lw_p38, List.forall_mem_cons.mpr ⟨lw_p39, List.forall_mem_cons.mpr ⟨lw_p40, List.forall_mem_cons.mpr ⟨lw_p41, List.forall_mem_cons.mpr ⟨lw_p42, List.forall_mem_cons.mpr ⟨lw_p43, List.forall_mem_cons.mpr ⟨lw_p44, List.forall_mem_cons.mpr ⟨lw_p45, List.forall_mem_cons.mpr ⟨lw_p46, List.forall_mem_cons.mpr ⟨lw_p47, fun _ h => absurd h List.not_mem_nil⟩⟩⟩⟩⟩⟩⟩⟩⟩⟩⟩⟩⟩⟩⟩⟩
theorem lw_p48 : lw_okq (⟨"DrumTongueModel", "enoughFor", "(III)I"⟩, 39) := ⟨⟨by decide +kernel, by decide +kernel⟩, List.mem_of_getElem? (i := 723) (by decide +kernel), List.mem_of_getElem? (i := 1043) (by decide +kernel), List.mem_of_getElem? (i := 1044) (by decide +kernel)⟩
def lw_privs_4 : List (MethodName × Nat) := [(⟨"DrumTongueModel", "enoughFor", "(III)I"⟩, 39)]
theorem lw_r4 : ∀ q ∈ lw_privs_4, lw_okq q := List.forall_mem_cons.mpr ⟨lw_p48, fun _ h => absurd h List.not_mem_nil⟩
def lw_privs : List (MethodName × Nat) := lw_privs_1 ++ (lw_privs_2 ++ (lw_privs_3 ++ (lw_privs_4)))
def lw_tbl : List Cond := k2_sels lw_privs ++ tables_1
theorem lw_privs_ok : ∀ q ∈ lw_privs, lw_okq q := by
  show ∀ q ∈ lw_privs_1 ++ (lw_privs_2 ++ (lw_privs_3 ++ (lw_privs_4))), lw_okq q
  exact List.forall_mem_append.mpr ⟨lw_r1, List.forall_mem_append.mpr ⟨lw_r2, List.forall_mem_append.mpr ⟨lw_r3, lw_r4⟩⟩⟩
end
section
def RX0 : String := "DrumTongue$Ear"
def TX0 : u_T := fun k => match k with
  | 0 => ("DrumTongue$Ear", "row", "[I", true)
  | _ => ("DrumTongue$Ear", "used", "I", false)
def tyX0 : Nat → FieldType := fun k => match k with
  | 0 => .array .int
  | _ => .int
abbrev wsX00 : List Cond := u_ws RX0 TX0 2
theorem nmX0 : ∀ a, a < 2 → ∀ b, b < 2 → a ≠ b → (TX0 a).2.1 ≠ (TX0 b).2.1 := by decide +kernel
theorem tyX0_ok : ∀ k, k < 2 → parseFieldDescriptor (TX0 k).2.2.1 = some (tyX0 k) := by decide +kernel
def RX1 : String := "DrumTongue$Hills"
def TX1 : u_T := fun k => match k with
  | 0 => ("DrumTongue$Hills", "chances", "[[I", true)
  | 1 => ("DrumTongue$Hills", "hoursBetween", "[[I", true)
  | 2 => ("DrumTongue$Hills", "path", "[I", true)
  | 3 => ("DrumTongue$Hills", "best", "[I", true)
  | 4 => ("DrumTongue$Hills", "bestUsed", "I", false)
  | 5 => ("DrumTongue$Hills", "bestChance", "J", false)
  | 6 => ("DrumTongue$Hills", "bestHours", "I", false)
  | 7 => ("DrumTongue$Hills", "tried", "[I", true)
  | 8 => ("DrumTongue$Hills", "enough", "[I", true)
  | _ => ("DrumTongue$Hills", "enoughSum", "I", false)
def tyX1 : Nat → FieldType := fun k => match k with
  | 0 => .array (.array .int)
  | 1 => .array (.array .int)
  | 2 => .array .int
  | 3 => .array .int
  | 4 => .int
  | 5 => .long
  | 6 => .int
  | 7 => .array .int
  | 8 => .array .int
  | _ => .int
abbrev wsX10 : List Cond := u_ws RX1 TX1 10
theorem nmX1 : ∀ a, a < 10 → ∀ b, b < 10 → a ≠ b → (TX1 a).2.1 ≠ (TX1 b).2.1 := by decide +kernel
theorem tyX1_ok : ∀ k, k < 10 → parseFieldDescriptor (TX1 k).2.2.1 = some (tyX1 k) := by decide +kernel
def RX2 : String := "DrumTongue$Reader"
def TX2 : u_T := fun k => match k with
  | 0 => ("DrumTongue$Reader", "tongue", "LDrumTongue$Tongue;", true)
  | 1 => ("DrumTongue$Reader", "ear", "LDrumTongue$Ear;", true)
  | 2 => ("DrumTongue$Reader", "last", "[I", true)
  | 3 => ("DrumTongue$Reader", "lastUsed", "I", false)
  | 4 => ("DrumTongue$Reader", "now", "[I", true)
  | 5 => ("DrumTongue$Reader", "nowUsed", "I", false)
  | 6 => ("DrumTongue$Reader", "nowOff", "I", false)
  | 7 => ("DrumTongue$Reader", "leastFrom", "[[I", true)
  | 8 => ("DrumTongue$Reader", "upTo", "[I", true)
  | 9 => ("DrumTongue$Reader", "from", "[I", true)
  | _ => ("DrumTongue$Reader", "trial", "[I", true)
def tyX2 : Nat → FieldType := fun k => match k with
  | 0 => .object "DrumTongue$Tongue"
  | 1 => .object "DrumTongue$Ear"
  | 2 => .array .int
  | 3 => .int
  | 4 => .array .int
  | 5 => .int
  | 6 => .int
  | 7 => .array (.array .int)
  | 8 => .array .int
  | 9 => .array .int
  | _ => .array .int
abbrev wsX20 : List Cond := u_ws RX2 TX2 11
theorem nmX2 : ∀ a, a < 11 → ∀ b, b < 11 → a ≠ b → (TX2 a).2.1 ≠ (TX2 b).2.1 := by decide +kernel
theorem tyX2_ok : ∀ k, k < 11 → parseFieldDescriptor (TX2 k).2.2.1 = some (tyX2 k) := by decide +kernel
def RX3 : String := "DrumTongue$Rows"
def TX3 : u_T := fun k => match k with
  | 0 => ("DrumTongue$Rows", "sizes", "[I", true)
  | 1 => ("DrumTongue$Rows", "numbers", "[I", true)
  | _ => ("DrumTongue$Rows", "used", "I", false)
def tyX3 : Nat → FieldType := fun k => match k with
  | 0 => .array .int
  | 1 => .array .int
  | _ => .int
abbrev wsX30 : List Cond := u_ws RX3 TX3 3
theorem nmX3 : ∀ a, a < 3 → ∀ b, b < 3 → a ≠ b → (TX3 a).2.1 ≠ (TX3 b).2.1 := by decide +kernel
theorem tyX3_ok : ∀ k, k < 3 → parseFieldDescriptor (TX3 k).2.2.1 = some (tyX3 k) := by decide +kernel
def RX4 : String := "DrumTongue$Tails"
def TX4 : u_T := fun k => match k with
  | 0 => ("DrumTongue$Tails", "rows", "LDrumTongue$Rows;", true)
  | 1 => ("DrumTongue$Tails", "firsts", "[I", true)
  | _ => ("DrumTongue$Tails", "seconds", "[I", true)
def tyX4 : Nat → FieldType := fun k => match k with
  | 0 => .object "DrumTongue$Rows"
  | 1 => .array .int
  | _ => .array .int
abbrev wsX40 : List Cond := u_ws RX4 TX4 3
theorem nmX4 : ∀ a, a < 3 → ∀ b, b < 3 → a ≠ b → (TX4 a).2.1 ≠ (TX4 b).2.1 := by decide +kernel
theorem tyX4_ok : ∀ k, k < 3 → parseFieldDescriptor (TX4 k).2.2.1 = some (tyX4 k) := by decide +kernel
def RX5 : String := "DrumTongue$Tongue"
def TX5 : u_T := fun k => match k with
  | 0 => ("DrumTongue$Tongue", "words", "LDrumTongue$Rows;", true)
  | 1 => ("DrumTongue$Tongue", "endings", "LDrumTongue$Rows;", true)
  | 2 => ("DrumTongue$Tongue", "tails", "LDrumTongue$Tails;", true)
  | 3 => ("DrumTongue$Tongue", "chosenTails", "[I", true)
  | 4 => ("DrumTongue$Tongue", "phraseSizes", "[I", true)
  | 5 => ("DrumTongue$Tongue", "phraseNumbers", "[I", true)
  | 6 => ("DrumTongue$Tongue", "bound", "I", false)
  | 7 => ("DrumTongue$Tongue", "ahead", "LDrumTongue$Rows;", true)
  | 8 => ("DrumTongue$Tongue", "tried", "[I", true)
  | 9 => ("DrumTongue$Tongue", "best", "[I", true)
  | 10 => ("DrumTongue$Tongue", "fewest", "I", false)
  | _ => ("DrumTongue$Tongue", "looks", "I", false)
def tyX5 : Nat → FieldType := fun k => match k with
  | 0 => .object "DrumTongue$Rows"
  | 1 => .object "DrumTongue$Rows"
  | 2 => .object "DrumTongue$Tails"
  | 3 => .array .int
  | 4 => .array .int
  | 5 => .array .int
  | 6 => .int
  | 7 => .object "DrumTongue$Rows"
  | 8 => .array .int
  | 9 => .array .int
  | 10 => .int
  | _ => .int
abbrev wsX50 : List Cond := u_ws RX5 TX5 12
theorem nmX5 : ∀ a, a < 12 → ∀ b, b < 12 → a ≠ b → (TX5 a).2.1 ≠ (TX5 b).2.1 := by decide +kernel
theorem tyX5_ok : ∀ k, k < 12 → parseFieldDescriptor (TX5 k).2.2.1 = some (tyX5 k) := by decide +kernel
def RX6 : String := "DrumTongue"
def TX6 : u_T := fun k => match k with
  | 0 => ("DrumTongue", "tongue", "LDrumTongue$Tongue;", true)
  | 1 => ("DrumTongue", "ear", "LDrumTongue$Ear;", true)
  | 2 => ("DrumTongue", "reader", "LDrumTongue$Reader;", true)
  | _ => ("DrumTongue", "hills", "LDrumTongue$Hills;", true)
def tyX6 : Nat → FieldType := fun k => match k with
  | 0 => .object "DrumTongue$Tongue"
  | 1 => .object "DrumTongue$Ear"
  | 2 => .object "DrumTongue$Reader"
  | _ => .object "DrumTongue$Hills"
abbrev wsX60 : List Cond := u_ws RX6 TX6 4
theorem nmX6 : ∀ a, a < 4 → ∀ b, b < 4 → a ≠ b → (TX6 a).2.1 ≠ (TX6 b).2.1 := by decide +kernel
theorem tyX6_ok : ∀ k, k < 4 → parseFieldDescriptor (TX6 k).2.2.1 = some (tyX6 k) := by decide +kernel
def RX7 : String := "DrumTongueModel"
def TX7 : u_T := fun k => match k with
  | 0 => ("DrumTongueModel", "words", "I", false)
  | 1 => ("DrumTongueModel", "wordSize", "[I", true)
  | 2 => ("DrumTongueModel", "wordBits", "[I", true)
  | 3 => ("DrumTongueModel", "endings", "I", false)
  | 4 => ("DrumTongueModel", "endSize", "[I", true)
  | 5 => ("DrumTongueModel", "endBits", "[I", true)
  | 6 => ("DrumTongueModel", "bound", "I", false)
  | 7 => ("DrumTongueModel", "phrases", "[I", true)
  | 8 => ("DrumTongueModel", "size", "[I", true)
  | 9 => ("DrumTongueModel", "ends", "[I", true)
  | 10 => ("DrumTongueModel", "endA", "[I", true)
  | 11 => ("DrumTongueModel", "endB", "[I", true)
  | 12 => ("DrumTongueModel", "chosen", "[I", true)
  | 13 => ("DrumTongueModel", "heard", "I", false)
  | 14 => ("DrumTongueModel", "beat", "[I", true)
  | 15 => ("DrumTongueModel", "readMany", "I", false)
  | 16 => ("DrumTongueModel", "readLast", "[I", true)
  | 17 => ("DrumTongueModel", "chance", "[I", true)
  | 18 => ("DrumTongueModel", "hours", "[I", true)
  | 19 => ("DrumTongueModel", "trying", "[I", true)
  | 20 => ("DrumTongueModel", "bestRow", "[I", true)
  | 21 => ("DrumTongueModel", "upTo", "[I", true)
  | 22 => ("DrumTongueModel", "next", "[I", true)
  | 23 => ("DrumTongueModel", "rest", "[I", true)
  | 24 => ("DrumTongueModel", "row", "[I", true)
  | 25 => ("DrumTongueModel", "row2", "[I", true)
  | 26 => ("DrumTongueModel", "read", "I", false)
  | 27 => ("DrumTongueModel", "now", "[I", true)
  | 28 => ("DrumTongueModel", "till", "[I", true)
  | 29 => ("DrumTongueModel", "steps", "I", false)
  | 30 => ("DrumTongueModel", "over", "[I", true)
  | 31 => ("DrumTongueModel", "bestChance", "I", false)
  | 32 => ("DrumTongueModel", "bestHours", "I", false)
  | 33 => ("DrumTongueModel", "going", "[I", true)
  | 34 => ("DrumTongueModel", "turn", "[I", true)
  | 35 => ("DrumTongueModel", "chances", "[J", true)
  | 36 => ("DrumTongueModel", "ages", "[I", true)
  | 37 => ("DrumTongueModel", "often", "[I", true)
  | _ => ("DrumTongueModel", "bestOften", "[I", true)
def tyX7 : Nat → FieldType := fun k => match k with
  | 0 => .int
  | 1 => .array .int
  | 2 => .array .int
  | 3 => .int
  | 4 => .array .int
  | 5 => .array .int
  | 6 => .int
  | 7 => .array .int
  | 8 => .array .int
  | 9 => .array .int
  | 10 => .array .int
  | 11 => .array .int
  | 12 => .array .int
  | 13 => .int
  | 14 => .array .int
  | 15 => .int
  | 16 => .array .int
  | 17 => .array .int
  | 18 => .array .int
  | 19 => .array .int
  | 20 => .array .int
  | 21 => .array .int
  | 22 => .array .int
  | 23 => .array .int
  | 24 => .array .int
  | 25 => .array .int
  | 26 => .int
  | 27 => .array .int
  | 28 => .array .int
  | 29 => .int
  | 30 => .array .int
  | 31 => .int
  | 32 => .int
  | 33 => .array .int
  | 34 => .array .int
  | 35 => .array .long
  | 36 => .array .int
  | 37 => .array .int
  | _ => .array .int
abbrev wsX70 : List Cond := u_ws RX7 TX7 39
theorem nmX7 : ∀ a, a < 39 → ∀ b, b < 39 → a ≠ b → (TX7 a).2.1 ≠ (TX7 b).2.1 := by decide +kernel
theorem tyX7_ok : ∀ k, k < 39 → parseFieldDescriptor (TX7 k).2.2.1 = some (tyX7 k) := by decide +kernel

abbrev y_X_init : MethodName := ⟨"DrumTongue", "<init>", "()V"⟩
abbrev y_Tongue_init : MethodName := ⟨"DrumTongue$Tongue", "<init>", "()V"⟩
abbrev y_Rows_init : MethodName := ⟨"DrumTongue$Rows", "<init>", "(I)V"⟩
abbrev y_Math_max : MethodName := ⟨"java/lang/Math", "max", "(II)I"⟩
abbrev y_Tails_init : MethodName := ⟨"DrumTongue$Tails", "<init>", "()V"⟩
abbrev y_Tails_add : MethodName := ⟨"DrumTongue$Tails", "add", "(IIII)V"⟩
abbrev y_Rows_used : MethodName := ⟨"DrumTongue$Rows", "used", "()I"⟩
abbrev y_Rows_add : MethodName := ⟨"DrumTongue$Rows", "add", "(II)V"⟩
abbrev y_Rows_isFull : MethodName := ⟨"DrumTongue$Rows", "isFull", "()Z"⟩
abbrev y_Tongue_forgetPhrases : MethodName := ⟨"DrumTongue$Tongue", "forgetPhrases", "()V"⟩
abbrev y_Arrays_fill : MethodName := ⟨"java/util/Arrays", "fill", "([II)V"⟩
abbrev y_Ear_init : MethodName := ⟨"DrumTongue$Ear", "<init>", "()V"⟩
abbrev y_Reader_init : MethodName := ⟨"DrumTongue$Reader", "<init>", "(LDrumTongue$Tongue;LDrumTongue$Ear;)V"⟩
abbrev y_Hills_init : MethodName := ⟨"DrumTongue$Hills", "<init>", "()V"⟩
abbrev y_X_word : MethodName := ⟨"DrumTongue", "word", "(II)I"⟩
abbrev y_Rows_isRow : MethodName := ⟨"DrumTongue$Rows", "isRow", "(II)Z"⟩
abbrev y_Tongue_addWord : MethodName := ⟨"DrumTongue$Tongue", "addWord", "(II)I"⟩
abbrev y_X_ending : MethodName := ⟨"DrumTongue", "ending", "(II)I"⟩
abbrev y_Tongue_addEnding : MethodName := ⟨"DrumTongue$Tongue", "addEnding", "(II)I"⟩
abbrev y_Tails_remake : MethodName := ⟨"DrumTongue$Tails", "remake", "(LDrumTongue$Rows;)V"⟩
abbrev y_Rows_dropAllBehind : MethodName := ⟨"DrumTongue$Rows", "dropAllBehind", "(I)V"⟩
abbrev y_Tails_addSingles : MethodName := ⟨"DrumTongue$Tails", "addSingles", "(LDrumTongue$Rows;I)V"⟩
abbrev y_Rows_size : MethodName := ⟨"DrumTongue$Rows", "size", "(I)I"⟩
abbrev y_Rows_number : MethodName := ⟨"DrumTongue$Rows", "number", "(I)I"⟩
abbrev y_Tails_addPairs : MethodName := ⟨"DrumTongue$Tails", "addPairs", "(LDrumTongue$Rows;I)V"⟩
abbrev y_X_bound : MethodName := ⟨"DrumTongue", "bound", "(I)I"⟩
abbrev y_Tongue_changeBound : MethodName := ⟨"DrumTongue$Tongue", "changeBound", "(I)I"⟩
abbrev y_X_choose : MethodName := ⟨"DrumTongue", "choose", "()I"⟩
abbrev y_Tongue_chooseInTurn : MethodName := ⟨"DrumTongue$Tongue", "chooseInTurn", "()I"⟩
abbrev y_Tongue_firstTailApart : MethodName := ⟨"DrumTongue$Tongue", "firstTailApart", "(I)I"⟩
abbrev y_Tails_used : MethodName := ⟨"DrumTongue$Tails", "used", "()I"⟩
abbrev y_Tongue_sizeWith : MethodName := ⟨"DrumTongue$Tongue", "sizeWith", "(II)I"⟩
abbrev y_Tails_size : MethodName := ⟨"DrumTongue$Tails", "size", "(I)I"⟩
abbrev y_Tongue_numberWith : MethodName := ⟨"DrumTongue$Tongue", "numberWith", "(II)I"⟩
abbrev y_Tails_number : MethodName := ⟨"DrumTongue$Tails", "number", "(I)I"⟩
abbrev y_Rows_allApartFrom : MethodName := ⟨"DrumTongue$Rows", "allApartFrom", "(III)Z"⟩
abbrev y_Rows_areApart : MethodName := ⟨"DrumTongue$Rows", "areApart", "(IIIII)Z"⟩
abbrev y_Rows_differing : MethodName := ⟨"DrumTongue$Rows", "differing", "(IIII)I"⟩
abbrev y_Math_min : MethodName := ⟨"java/lang/Math", "min", "(II)I"⟩
abbrev y_Integer_bitCount : MethodName := ⟨"java/lang/Integer", "bitCount", "(I)I"⟩
abbrev y_Math_abs : MethodName := ⟨"java/lang/Math", "abs", "(I)I"⟩
abbrev y_Tongue_give : MethodName := ⟨"DrumTongue$Tongue", "give", "(II)V"⟩
abbrev y_X_least : MethodName := ⟨"DrumTongue", "least", "()I"⟩
abbrev y_Tongue_chooseForTheLeast : MethodName := ⟨"DrumTongue$Tongue", "chooseForTheLeast", "()I"⟩
abbrev y_Tongue_lookFrom : MethodName := ⟨"DrumTongue$Tongue", "lookFrom", "(II)V"⟩
abbrev y_X_length : MethodName := ⟨"DrumTongue", "length", "(I)I"⟩
abbrev y_Tongue_isWord : MethodName := ⟨"DrumTongue$Tongue", "isWord", "(I)Z"⟩
abbrev y_Tongue_hasPhrase : MethodName := ⟨"DrumTongue$Tongue", "hasPhrase", "(I)Z"⟩
abbrev y_Tongue_phraseSize : MethodName := ⟨"DrumTongue$Tongue", "phraseSize", "(I)I"⟩
abbrev y_X_beat : MethodName := ⟨"DrumTongue", "beat", "(II)I"⟩
abbrev y_Tongue_phraseBeat : MethodName := ⟨"DrumTongue$Tongue", "phraseBeat", "(II)I"⟩
abbrev y_X_endingAt : MethodName := ⟨"DrumTongue", "endingAt", "(II)I"⟩
abbrev y_Tongue_phraseEnding : MethodName := ⟨"DrumTongue$Tongue", "phraseEnding", "(II)I"⟩
abbrev y_Tails_endingAt : MethodName := ⟨"DrumTongue$Tails", "endingAt", "(II)I"⟩
abbrev y_X_far : MethodName := ⟨"DrumTongue", "far", "(II)I"⟩
abbrev y_Tongue_howFar : MethodName := ⟨"DrumTongue$Tongue", "howFar", "(II)I"⟩
abbrev y_X_hear : MethodName := ⟨"DrumTongue", "hear", "(I)I"⟩
abbrev y_Ear_room : MethodName := ⟨"DrumTongue$Ear", "room", "()I"⟩
abbrev y_Ear_add : MethodName := ⟨"DrumTongue$Ear", "add", "(I)I"⟩
abbrev y_X_drum : MethodName := ⟨"DrumTongue", "drum", "(I)I"⟩
abbrev y_Ear_size : MethodName := ⟨"DrumTongue$Ear", "size", "()I"⟩
abbrev y_X_slip : MethodName := ⟨"DrumTongue", "slip", "(II)I"⟩
abbrev y_Ear_at : MethodName := ⟨"DrumTongue$Ear", "at", "(I)I"⟩
abbrev y_Ear_takeOut : MethodName := ⟨"DrumTongue$Ear", "takeOut", "(I)V"⟩
abbrev y_Ear_change : MethodName := ⟨"DrumTongue$Ear", "change", "(II)V"⟩
abbrev y_X_hush : MethodName := ⟨"DrumTongue", "hush", "()I"⟩
abbrev y_Ear_empty : MethodName := ⟨"DrumTongue$Ear", "empty", "()I"⟩
abbrev y_X_read : MethodName := ⟨"DrumTongue", "read", "()I"⟩
abbrev y_Reader_readNow : MethodName := ⟨"DrumTongue$Reader", "readNow", "()Z"⟩
abbrev y_Tongue_phraseCount : MethodName := ⟨"DrumTongue$Tongue", "phraseCount", "()I"⟩
abbrev y_Reader_weighAllCounts : MethodName := ⟨"DrumTongue$Reader", "weighAllCounts", "()V"⟩
abbrev y_Reader_startFrom : MethodName := ⟨"DrumTongue$Reader", "startFrom", "([I)V"⟩
abbrev y_Tongue_wordCount : MethodName := ⟨"DrumTongue$Tongue", "wordCount", "()I"⟩
abbrev y_Reader_copy : MethodName := ⟨"DrumTongue$Reader", "copy", "([I[I)V"⟩
abbrev y_Reader_putInFront : MethodName := ⟨"DrumTongue$Reader", "putInFront", "(I[I)V"⟩
abbrev y_Reader_putBeatInFront : MethodName := ⟨"DrumTongue$Reader", "putBeatInFront", "(I[I)V"⟩
abbrev y_Reader_costOf : MethodName := ⟨"DrumTongue$Reader", "costOf", "(II)I"⟩
abbrev y_Reader_takeLower : MethodName := ⟨"DrumTongue$Reader", "takeLower", "([I[I)V"⟩
abbrev y_Reader_bestCount : MethodName := ⟨"DrumTongue$Reader", "bestCount", "()I"⟩
abbrev y_Reader_spellFirstByNumbers : MethodName := ⟨"DrumTongue$Reader", "spellFirstByNumbers", "()V"⟩
abbrev y_Reader_startUpTo : MethodName := ⟨"DrumTongue$Reader", "startUpTo", "([I)V"⟩
abbrev y_Reader_firstWordThatKeepsTheLeast : MethodName := ⟨"DrumTongue$Reader", "firstWordThatKeepsTheLeast", "(I)I"⟩
abbrev y_Reader_putBehind : MethodName := ⟨"DrumTongue$Reader", "putBehind", "(I[I)V"⟩
abbrev y_Reader_putBeatBehind : MethodName := ⟨"DrumTongue$Reader", "putBeatBehind", "(I[I)V"⟩
abbrev y_Reader_leastTogether : MethodName := ⟨"DrumTongue$Reader", "leastTogether", "([I[I)I"⟩
abbrev y_Reader_keepAsLast : MethodName := ⟨"DrumTongue$Reader", "keepAsLast", "()V"⟩
abbrev y_Reader_offNow : MethodName := ⟨"DrumTongue$Reader", "offNow", "()I"⟩
abbrev y_X_readAt : MethodName := ⟨"DrumTongue", "readAt", "(I)I"⟩
abbrev y_Reader_lastAt : MethodName := ⟨"DrumTongue$Reader", "lastAt", "(I)I"⟩
abbrev y_X_doubt : MethodName := ⟨"DrumTongue", "doubt", "(I)I"⟩
abbrev y_Reader_sizeNow : MethodName := ⟨"DrumTongue$Reader", "sizeNow", "()I"⟩
abbrev y_Reader_doubtAt : MethodName := ⟨"DrumTongue$Reader", "doubtAt", "(I)I"⟩
abbrev y_Reader_weighAround : MethodName := ⟨"DrumTongue$Reader", "weighAround", "(I)V"⟩
abbrev y_X_most : MethodName := ⟨"DrumTongue", "most", "()I"⟩
abbrev y_Reader_mostInDoubt : MethodName := ⟨"DrumTongue$Reader", "mostInDoubt", "()I"⟩
abbrev y_X_hill : MethodName := ⟨"DrumTongue", "hill", "(IIII)I"⟩
abbrev y_Hills_arePair : MethodName := ⟨"DrumTongue$Hills", "arePair", "(II)Z"⟩
abbrev y_Hills_isHill : MethodName := ⟨"DrumTongue$Hills", "isHill", "(I)Z"⟩
abbrev y_Hills_join : MethodName := ⟨"DrumTongue$Hills", "join", "(IIII)V"⟩
abbrev y_X_way : MethodName := ⟨"DrumTongue", "way", "(II)I"⟩
abbrev y_Hills_findBest : MethodName := ⟨"DrumTongue$Hills", "findBest", "(II)Z"⟩
abbrev y_Hills_walk : MethodName := ⟨"DrumTongue$Hills", "walk", "(IIJI)V"⟩
abbrev y_Hills_keepIfBetter : MethodName := ⟨"DrumTongue$Hills", "keepIfBetter", "(IJI)V"⟩
abbrev y_Hills_isOnPath : MethodName := ⟨"DrumTongue$Hills", "isOnPath", "(II)Z"⟩
abbrev y_Hills_bestChance : MethodName := ⟨"DrumTongue$Hills", "bestChance", "()I"⟩
abbrev y_X_wayAt : MethodName := ⟨"DrumTongue", "wayAt", "(III)I"⟩
abbrev y_Hills_bestAt : MethodName := ⟨"DrumTongue$Hills", "bestAt", "(I)I"⟩
abbrev y_X_age : MethodName := ⟨"DrumTongue", "age", "(II)I"⟩
abbrev y_Hills_bestHours : MethodName := ⟨"DrumTongue$Hills", "bestHours", "()I"⟩
abbrev y_X_enough : MethodName := ⟨"DrumTongue", "enough", "(III)I"⟩
abbrev y_Hills_findEnough : MethodName := ⟨"DrumTongue$Hills", "findEnough", "(III)Z"⟩
abbrev y_Hills_tryTimes : MethodName := ⟨"DrumTongue$Hills", "tryTimes", "(IIJI)V"⟩
abbrev y_Hills_chanceBetween : MethodName := ⟨"DrumTongue$Hills", "chanceBetween", "(II)I"⟩
abbrev y_Hills_heardBy : MethodName := ⟨"DrumTongue$Hills", "heardBy", "(II)J"⟩
abbrev y_Hills_enoughSum : MethodName := ⟨"DrumTongue$Hills", "enoughSum", "()I"⟩
abbrev y_X_times : MethodName := ⟨"DrumTongue", "times", "(IIII)I"⟩
abbrev y_Hills_enoughAt : MethodName := ⟨"DrumTongue$Hills", "enoughAt", "(I)I"⟩
abbrev y_X_count : MethodName := ⟨"DrumTongue", "count", "(I)I"⟩
abbrev y_Tongue_endingCount : MethodName := ⟨"DrumTongue$Tongue", "endingCount", "()I"⟩
abbrev y_Tongue_boundNow : MethodName := ⟨"DrumTongue$Tongue", "boundNow", "()I"⟩
abbrev y_Tongue_beatsOfAllPhrases : MethodName := ⟨"DrumTongue$Tongue", "beatsOfAllPhrases", "()I"⟩
abbrev y_Ear_gaps : MethodName := ⟨"DrumTongue$Ear", "gaps", "()I"⟩
abbrev y_Reader_lastSize : MethodName := ⟨"DrumTongue$Reader", "lastSize", "()I"⟩
abbrev y_X_digest : MethodName := ⟨"DrumTongue", "digest", "()J"⟩
abbrev y_Tongue_mixInto : MethodName := ⟨"DrumTongue$Tongue", "mixInto", "(J)J"⟩
abbrev y_Ear_mixInto : MethodName := ⟨"DrumTongue$Ear", "mixInto", "(J)J"⟩
abbrev y_Reader_mixInto : MethodName := ⟨"DrumTongue$Reader", "mixInto", "(J)J"⟩
abbrev y_Hills_mixInto : MethodName := ⟨"DrumTongue$Hills", "mixInto", "(J)J"⟩
abbrev y_M_init : MethodName := ⟨"DrumTongueModel", "<init>", "()V"⟩
abbrev y_M_word : MethodName := ⟨"DrumTongueModel", "word", "(II)I"⟩
abbrev y_M_isRow : MethodName := ⟨"DrumTongueModel", "isRow", "(II)Z"⟩
abbrev y_M_in : MethodName := ⟨"DrumTongueModel", "in", "(JJJ)Z"⟩
abbrev y_M_gone : MethodName := ⟨"DrumTongueModel", "gone", "()V"⟩
abbrev y_M_ending : MethodName := ⟨"DrumTongueModel", "ending", "(II)I"⟩
abbrev y_M_bound : MethodName := ⟨"DrumTongueModel", "bound", "(I)I"⟩
abbrev y_M_choose : MethodName := ⟨"DrumTongueModel", "choose", "()I"⟩
abbrev y_M_order : MethodName := ⟨"DrumTongueModel", "order", "()V"⟩
abbrev y_M_come : MethodName := ⟨"DrumTongueModel", "come", "(IIII)V"⟩
abbrev y_M_isLater : MethodName := ⟨"DrumTongueModel", "isLater", "(IIIII)Z"⟩
abbrev y_M_isFree : MethodName := ⟨"DrumTongueModel", "isFree", "(II[I)Z"⟩
abbrev y_M_isApart : MethodName := ⟨"DrumTongueModel", "isApart", "(IIII)Z"⟩
abbrev y_M_bitsOf : MethodName := ⟨"DrumTongueModel", "bitsOf", "(II)I"⟩
abbrev y_M_apart : MethodName := ⟨"DrumTongueModel", "apart", "(IIII)I"⟩
abbrev y_M_ones : MethodName := ⟨"DrumTongueModel", "ones", "(I)I"⟩
abbrev y_M_phrased : MethodName := ⟨"DrumTongueModel", "phrased", "()I"⟩
abbrev y_M_least : MethodName := ⟨"DrumTongueModel", "least", "()I"⟩
abbrev y_M_length : MethodName := ⟨"DrumTongueModel", "length", "(I)I"⟩
abbrev y_M_isWord : MethodName := ⟨"DrumTongueModel", "isWord", "(I)Z"⟩
abbrev y_M_lengthOf : MethodName := ⟨"DrumTongueModel", "lengthOf", "(I)I"⟩
abbrev y_M_beat : MethodName := ⟨"DrumTongueModel", "beat", "(II)I"⟩
abbrev y_M_beatOf : MethodName := ⟨"DrumTongueModel", "beatOf", "(II)I"⟩
abbrev y_M_endingAt : MethodName := ⟨"DrumTongueModel", "endingAt", "(II)I"⟩
abbrev y_M_far : MethodName := ⟨"DrumTongueModel", "far", "(II)I"⟩
abbrev y_M_hear : MethodName := ⟨"DrumTongueModel", "hear", "(I)I"⟩
abbrev y_M_drum : MethodName := ⟨"DrumTongueModel", "drum", "(I)I"⟩
abbrev y_M_slip : MethodName := ⟨"DrumTongueModel", "slip", "(II)I"⟩
abbrev y_M_hush : MethodName := ⟨"DrumTongueModel", "hush", "()I"⟩
abbrev y_M_read : MethodName := ⟨"DrumTongueModel", "read", "()I"⟩
abbrev y_M_reading : MethodName := ⟨"DrumTongueModel", "reading", "()I"⟩
abbrev y_M_restFrom : MethodName := ⟨"DrumTongueModel", "restFrom", "(I)V"⟩
abbrev y_M_ahead : MethodName := ⟨"DrumTongueModel", "ahead", "(I)V"⟩
abbrev y_M_lesser : MethodName := ⟨"DrumTongueModel", "lesser", "(II)I"⟩
abbrev y_M_off : MethodName := ⟨"DrumTongueModel", "off", "(II)I"⟩
abbrev y_M_behind : MethodName := ⟨"DrumTongueModel", "behind", "(I)V"⟩
abbrev y_M_readAt : MethodName := ⟨"DrumTongueModel", "readAt", "(I)I"⟩
abbrev y_M_doubt : MethodName := ⟨"DrumTongueModel", "doubt", "(I)I"⟩
abbrev y_M_doubtOf : MethodName := ⟨"DrumTongueModel", "doubtOf", "(II)I"⟩
abbrev y_M_offWith : MethodName := ⟨"DrumTongueModel", "offWith", "(II)I"⟩
abbrev y_M_most : MethodName := ⟨"DrumTongueModel", "most", "()I"⟩
abbrev y_M_hill : MethodName := ⟨"DrumTongueModel", "hill", "(IIII)I"⟩
abbrev y_M_isHill : MethodName := ⟨"DrumTongueModel", "isHill", "(I)Z"⟩
abbrev y_M_way : MethodName := ⟨"DrumTongueModel", "way", "(II)I"⟩
abbrev y_M_areHills : MethodName := ⟨"DrumTongueModel", "areHills", "(II)Z"⟩
abbrev y_M_look : MethodName := ⟨"DrumTongueModel", "look", "(II)V"⟩
abbrev y_M_wayAt : MethodName := ⟨"DrumTongueModel", "wayAt", "(III)I"⟩
abbrev y_M_age : MethodName := ⟨"DrumTongueModel", "age", "(II)I"⟩
abbrev y_M_enough : MethodName := ⟨"DrumTongueModel", "enough", "(III)I"⟩
abbrev y_M_enoughFor : MethodName := ⟨"DrumTongueModel", "enoughFor", "(III)I"⟩
abbrev y_M_times : MethodName := ⟨"DrumTongueModel", "times", "(IIII)I"⟩
abbrev y_M_count : MethodName := ⟨"DrumTongueModel", "count", "(I)I"⟩
abbrev y_M_digest : MethodName := ⟨"DrumTongueModel", "digest", "()J"⟩
abbrev xCl : List vw_C := [(RX0, TX0, 2), (RX1, TX1, 10), (RX2, TX2, 11), (RX3, TX3, 3), (RX4, TX4, 3), (RX5, TX5, 12), (RX6, TX6, 4), (RX7, TX7, 39)]
end
section
/-! THE X MACHINE: an abstract machine over the kit's W. Values are Ints (taken modulo 2^32, 2^64) and references; addresses are counted from the law's start (0 is the script). The heap is: numbers M (address, place) of cells whose shape the table T fixes; other cells, told one by one; the next address. Owed from the names: xCl (classes), xTys (element types by kind), xTB (words) -/
abbrev xV : Type := Int ⊕ Int ⊕ Option Nat
abbrev xI (z : Int) : xV := Sum.inl z
abbrev xJ (z : Int) : xV := Sum.inr (Sum.inl z)
abbrev xR (r : Option Nat) : xV := Sum.inr (Sum.inr r)
abbrev xE : Type := (Nat × List xV) ⊕ (Nat × Nat × (Nat → xV))
abbrev xDf : Type := Option Nat ⊕ Bool
abbrev xDe : Type := (Nat × List xDf) ⊕ (Nat × Nat × Option (Nat → Option Nat))
abbrev xT : Type := Nat → Option xDe
abbrev xM : Type := Nat → Nat → Int
abbrev xH : Type := xM × (Nat → Option xE) × Nat
abbrev xG : Type := va_G × (Nat → ClassId) × Nat × Nat × Cell
abbrev xLs : Type := List (Option xV)
abbrev xMd : Type := MethodName × ByteArray × Nat × Option FieldType
abbrev xTys : List FieldType := [.int, .long, .array .int]
theorem xTy0 : xTys[0]? = some .int := rfl
theorem xTy1 : xTys[1]? = some .long := rfl
def xTB : List Cond := lw_tbl.filter goodWord
theorem xin_tb {w : Cond} (i : Nat) (h : lw_tbl[i]? = some w) (g : goodWord w = true) : w ∈ xTB := List.mem_filter.mpr ⟨List.mem_of_getElem? h, g⟩
theorem xWi : Cond.arrayClass .int ∈ xTB := xin_tb 95 (by decide +kernel) rfl
theorem xWj : Cond.arrayClass .long ∈ xTB := xin_tb 895 (by decide +kernel) rfl
def xup {α : Type} (f : Nat → α) (k : Nat) (v : α) : Nat → α := fun j => if j = k then v else f j
theorem xup_at {α : Type} (f : Nat → α) (k : Nat) (v : α) : xup f k v k = v := if_pos rfl
theorem xup_ne {α : Type} {f : Nat → α} {k j : Nat} {v : α} (h : j ≠ k) : xup f k v j = f j := if_neg h
def xad (G : xG) : Nat → Nat
  | 0 => G.2.2.2.1
  | a + 1 => G.2.2.1 + a
def xc (G : xG) : xV → Value
  | .inl z => .int (Int32.ofInt z)
  | .inr (.inl z) => .long (Int64.ofInt z)
  | .inr (.inr none) => .null
  | .inr (.inr (some a)) => .ref (xad G a)
def xdv (M : xM) (a k : Nat) : xDf → xV
  | .inl r => xR r
  | .inr true => xJ (M a k)
  | .inr false => xI (M a k)
def xdl (M : xM) (a : Nat) : Nat → List xDf → List xV
  | _, [] => []
  | k, d :: ds => xdv M a k d :: xdl M a (k + 1) ds
def xda (M : xM) (a t : Nat) : Option (Nat → Option Nat) → Nat → xV
  | some r => fun j => xR (r j)
  | none => match t with
    | 1 => fun j => xJ (M a j)
    | _ => fun j => xI (M a j)
def xde (M : xM) (a : Nat) : xDe → xE
  | .inl (ci, ds) => .inl (ci, xdl M a 0 ds)
  | .inr (t, n, r) => .inr (t, n, xda M a t r)
def xrd (T : xT) (h : xH) (a : Nat) : Option xE := match T a with
  | some d => some (xde h.1 a d)
  | none => h.2.1 a
/-- the real cell at q is the abstract one; kind 9: the script -/
def xat (G : xG) (q : Nat) (e : xE) (H : Heap) : Prop := match e with
  | .inl (ci, fs) => ∃ r : vw_C, xCl[ci]? = some r ∧ t_OB q (G.1.1 ci) r.2.2 (G.1.2 ci) H (vp_V (fs.map (xc G)))
  | .inr (t, n, f) => if t = 9 then H[q]? = some G.2.2.2.2 ∧ G.2.2.2.2.slots.size = n ∧ ∀ j, j < n → G.2.2.2.2.slots[j]? = some (xc G (f j)) else H[q]? = some (arrV (G.2.1 t) n (fun j => xc G (f j)))
theorem xat.kept {G : xG} {q : Nat} {e : xE} {H H1 : Heap} (h : xat G q e H) (hq : H1[q]? = H[q]?) : xat G q e H1 := by
  rcases e with ⟨ci, fs⟩ | ⟨t, n, f⟩
  · obtain ⟨r, h1, h2⟩ := h
    exact ⟨r, h1, h2.kept hq⟩
  · unfold xat at h ⊢
    by_cases ht : t = 9
    · simp only [ht, if_true] at h ⊢
      exact ⟨hq.trans h.1, h.2⟩
    · simp only [ht, if_false] at h ⊢
      exact hq.trans h
theorem xat.lt {G : xG} {q : Nat} {e : xE} {H : Heap} (h : xat G q e H) : q < H.size := by
  rcases e with ⟨ci, fs⟩ | ⟨t, n, f⟩
  · obtain ⟨r, h1, cell, h2, -⟩ := h
    exact (Array.getElem?_eq_some_iff.mp h2).1
  · unfold xat at h
    by_cases ht : t = 9
    · simp only [ht, if_true] at h
      exact (Array.getElem?_eq_some_iff.mp h.1).1
    · simp only [ht, if_false] at h
      exact (Array.getElem?_eq_some_iff.mp h).1
/-- the abstract heap tells the real one; the script stands below the base and is alone of kind 9 -/
def xMt (T : xT) (G : xG) (h : xH) (H : Heap) : Prop := G.2.2.2.1 < G.2.2.1 ∧ 1 ≤ h.2.2 ∧ H.size = xad G h.2.2 ∧ ∀ (a : Nat) (e : xE), xrd T h a = some e → xat G (xad G a) e H ∧ (a = 0 ↔ ∃ (n : Nat) (f : Nat → xV), e = .inr (9, n, f))
def xKn (G : xG) (U : State) : Prop := va_K G.1 xCl [] U ∧ (∀ (t : Nat) (ty : FieldType), xTys[t]? = some ty → ArrOfT U (G.2.1 t) ty ∧ va_RA U (G.2.1 t) ty) ∧ U.isArrayOf G.2.2.2.2 .int ∧ G.2.2.2.2.vm ≠ .unknown ∧ (Cond.arrayOver (.array .int)).before #[] U = true ∧ va_Nw (.methodLinkNest "DrumTongue" 18 y_Ear_init "DrumTongue") U
theorem xKn.warm {G : xG} {u U : State} (hW : u.WarmedH U.vm) (h : xKn G u) : xKn G U := ⟨va_K.moved hW.alike h.1, fun t ty ht => ⟨arrOfT_moved hW.alike (h.2.1 t ty ht).1, (h.2.1 t ty ht).2.moved hW.alike⟩, State.isArrayOf_alike hW.alike h.2.2.1, h.2.2.2.1, over_moved hW.alike h.2.2.2.2.1, va_Nw.warmM hW h.2.2.2.2.2⟩
theorem xKn.same {G : xG} {u U : State} (hvm : u.vm.Alike U.vm) (he : u.vm = U.vm) (h : xKn G u) : xKn G U := ⟨va_K.moved hvm h.1, fun t ty ht => ⟨arrOfT_moved hvm (h.2.1 t ty ht).1, (h.2.1 t ty ht).2.moved hvm⟩, State.isArrayOf_alike hvm h.2.2.1, h.2.2.2.1, over_moved hvm h.2.2.2.2.1, va_Nw.same rfl he h.2.2.2.2.2⟩
/-- the addresses that the law's walk may write: those from the base on -/
abbrev xA (G : xG) : Nat → Prop := fun q => G.2.2.1 ≤ q
theorem xad_inj {G : xG} (hb : G.2.2.2.1 < G.2.2.1) {a b : Nat} (h : xad G a = xad G b) : a = b := by
  cases a <;> cases b <;> simp [xad] at h ⊢ <;> omega
theorem xad_base {G : xG} {a : Nat} (h : a ≠ 0) : G.2.2.1 ≤ xad G a := by
  cases a with
  | zero => exact absurd rfl h
  | succ a => exact Nat.le_add_right _ _
theorem xMt.put {T : xT} {G : xG} {h h' : xH} {H H1 : Heap} {a : Nat} {e0 e : xE} (hM : xMt T G h H) (ha : xrd T h a = some e0) (ha0 : a ≠ 0) (he9 : ∀ (n : Nat) (f : Nat → xV), e ≠ .inr (9, n, f)) (z : H1.size = H.size) (oq : ∀ q : Nat, q ≠ xad G a → H1[q]? = H[q]?) (e1 : xrd T h' a = some e) (e2 : ∀ b, b ≠ a → xrd T h' b = xrd T h b) (e3 : h'.2.2 = h.2.2) (he : xat G (xad G a) e H1) : xMt T G h' H1 := by
  refine ⟨hM.1, by rw [e3]; exact hM.2.1, by rw [z, e3]; exact hM.2.2.1, fun q e' hq => ?_⟩
  by_cases hqa : q = a
  · subst hqa
    rw [e1] at hq
    cases hq
    exact ⟨he, ⟨fun q0 => absurd q0 ha0, fun ⟨n, f, q0⟩ => absurd q0 (he9 n f)⟩⟩
  · rw [e2 q hqa] at hq
    have h1 := hM.2.2.2 q e' hq
    exact ⟨h1.1.kept (oq _ fun q0 => hqa (xad_inj hM.1 q0)), h1.2⟩
theorem xMt.fresh {T : xT} {G : xG} {h : xH} {H : Heap} (hM : xMt T G h H) {a : Nat} (ha : h.2.2 ≤ a) : xrd T h a = none := by
  cases hx : xrd T h a with
  | none => rfl
  | some e =>
    have h1 := (hM.2.2.2 a e hx).1.lt
    rw [hM.2.2.1] at h1
    have h2 := hM.2.1
    obtain ⟨x, hx1⟩ : ∃ x, h.2.2 = x + 1 := ⟨h.2.2 - 1, by omega⟩
    obtain ⟨y, hy1⟩ : ∃ y, a = y + 1 := ⟨a - 1, by omega⟩
    rw [hx1, hy1] at h1
    simp only [xad] at h1
    omega
theorem xMt.freshT {T : xT} {G : xG} {h : xH} {H : Heap} (hM : xMt T G h H) {a : Nat} (ha : h.2.2 ≤ a) : T a = none := by
  have := hM.fresh ha
  unfold xrd at this
  cases hT : T a with
  | none => rfl
  | some d => rw [hT] at this; cases this
theorem xad_succ {G : xG} {a : Nat} (h : 1 ≤ a) : xad G (a + 1) = xad G a + 1 := by
  obtain ⟨x, rfl⟩ : ∃ x, a = x + 1 := ⟨a - 1, by omega⟩
  simp [xad]; omega
theorem xad_add {G : xG} {a : Nat} (h : 1 ≤ a) (k : Nat) : xad G (a + k) = xad G a + k := by
  obtain ⟨x, rfl⟩ : ∃ x, a = x + 1 := ⟨a - 1, by omega⟩
  rw [show x + 1 + k = (x + k) + 1 by omega]
  simp [xad]; omega
theorem xMt.push {T : xT} {G : xG} {h : xH} {H H1 : Heap} {e : xE} (hM : xMt T G h H) (he9 : ∀ (n : Nat) (f : Nat → xV), e ≠ .inr (9, n, f)) (z : H1.size = H.size + 1) (oq : ∀ q : Nat, q < H.size → H1[q]? = H[q]?) (he : xat G H.size e H1) : xMt T G (h.1, xup h.2.1 h.2.2 (some e), h.2.2 + 1) H1 := by
  refine ⟨hM.1, Nat.le_succ_of_le hM.2.1, by rw [z, hM.2.2.1]; exact (xad_succ hM.2.1).symm, fun q e' hq => ?_⟩
  by_cases hqa : q = h.2.2
  · subst hqa
    unfold xrd at hq
    rw [hM.freshT (Nat.le_refl _)] at hq
    simp only [xup_at] at hq
    cases hq
    rw [← hM.2.2.1]
    exact ⟨he, ⟨fun q0 => absurd hM.2.1 (by omega), fun ⟨n, f, q0⟩ => absurd q0 (he9 n f)⟩⟩
  · have hq' : xrd T h q = some e' := by
      unfold xrd at hq ⊢
      cases hT : T q with
      | none => rw [hT] at hq; simp only [xup_ne hqa] at hq; exact hq
      | some d => rw [hT] at hq; exact hq
    have h1 := hM.2.2.2 q e' hq'
    exact ⟨h1.1.kept (oq _ h1.1.lt), h1.2⟩
/-- a field written: the new heap -/
def xwf (T : xT) (h : xH) (a ci kf : Nat) (v : xV) (K : xH → Prop) : Prop := match h with
  | (M, D, nx) => match T a with
    | some (.inl (c, ds)) => cond (Nat.beq c ci) (match ds[kf]?, v with
      | some (.inr false), .inl z => K (xup M a (xup (M a) kf z), D, nx)
      | some (.inr true), .inr (.inl z) => K (xup M a (xup (M a) kf z), D, nx)
      | _, _ => False) False
    | some (.inr _) => False
    | none => match D a with
      | some (.inl (c, fs)) => cond (Nat.beq c ci && Nat.blt kf fs.length) (K (M, xup D a (some (.inl (c, fs.set kf v))), nx)) False
      | _ => False
/-- an element written -/
def xwa (T : xT) (h : xH) (a k : Nat) (v : xV) (K : xH → Prop) : Prop := match h with
  | (M, D, nx) => match T a with
    | some (.inr (t, _, none)) => match t, v with
      | 0, .inl z => K (xup M a (xup (M a) k z), D, nx)
      | 1, .inr (.inl z) => K (xup M a (xup (M a) k z), D, nx)
      | _, _ => False
    | some _ => False
    | none => match D a with
      | some (.inr (t, n, f)) => K (M, xup D a (some (.inr (t, n, xup f k v))), nx)
      | _ => False
theorem xrd_other {T : xT} {h h' : xH} {a b : Nat} (hn : b ≠ a) (h1 : h'.1 b = h.1 b) (h2 : h'.2.1 b = h.2.1 b) : xrd T h' b = xrd T h b := by
  unfold xrd
  cases T b with
  | none => exact h2
  | some d =>
    have e1 : ∀ k, h'.1 b k = h.1 b k := fun k => by rw [h1]
    have e2 : ∀ (k : Nat) (ds : List xDf), xdl h'.1 b k ds = xdl h.1 b k ds := by
      intro k ds
      induction ds generalizing k with
      | nil => rfl
      | cons d ds ih =>
        simp only [xdl, ih]
        rcases d with r | (_ | _) <;> simp [xdv, e1]
    rcases d with ⟨ci, ds⟩ | ⟨t, n, r⟩
    · simp [xde, e2]
    · simp only [xde]
      cases r with
      | some r => rfl
      | none =>
        have : xda h'.1 b t none = xda h.1 b t none := by
          unfold xda
          simp only [h1]
        rw [this]
theorem xdl_len (M : xM) (a : Nat) : ∀ (k : Nat) (ds : List xDf), (xdl M a k ds).length = ds.length
  | _, [] => rfl
  | k, _ :: ds => by simp [xdl, xdl_len M a (k + 1) ds]
theorem xdl_get (M : xM) (a : Nat) : ∀ (k : Nat) (ds : List xDf) (j : Nat), (xdl M a k ds)[j]? = ds[j]?.map (xdv M a (k + j))
  | _, [], j => by simp [xdl]
  | k, d :: ds, 0 => by simp [xdl]
  | k, d :: ds, j + 1 => by
    simp only [xdl, List.getElem?_cons_succ]
    rw [xdl_get M a (k + 1) ds j, show k + 1 + j = k + (j + 1) by omega]
theorem xdl_set (M : xM) (a : Nat) (ds : List xDf) (kf : Nat) (z : Int) (v : xV) (hd : ds[kf]?.map (xdv (xup M a (xup (M a) kf z)) a kf) = some v) : xdl (xup M a (xup (M a) kf z)) a 0 ds = (xdl M a 0 ds).set kf v := by
  apply List.ext_getElem?
  intro j
  rw [xdl_get, List.getElem?_set, xdl_len, xdl_get]
  by_cases hj : kf = j
  · subst hj
    have hlt : kf < ds.length := by
      rcases Nat.lt_or_ge kf ds.length with q | q
      · exact q
      · rw [List.getElem?_eq_none q] at hd; cases hd
    rw [if_pos rfl, if_pos hlt, Nat.zero_add]
    exact hd
  · rw [if_neg hj]
    cases ds[j]? with
    | none => rfl
    | some d =>
      simp only [Option.map_some, Nat.zero_add]
      rcases d with r | (_ | _) <;> simp [xdv, xup_at, xup_ne (Ne.symm hj)]
theorem xbeq {a b : Nat} (h : Nat.beq a b = true) : a = b := Nat.eq_of_beq_eq_true h
theorem xcond {b : Bool} {A : Prop} (h : cond b A False) : b = true ∧ A := by
  cases b with
  | true => exact ⟨rfl, h⟩
  | false => exact h.elim
theorem xwf_spec {T : xT} {h : xH} {a ci kf : Nat} {v : xV} {K : xH → Prop} (hw : xwf T h a ci kf v K) : ∃ (fs : List xV) (h' : xH), xrd T h a = some (.inl (ci, fs)) ∧ kf < fs.length ∧ xrd T h' a = some (.inl (ci, fs.set kf v)) ∧ (∀ b, b ≠ a → xrd T h' b = xrd T h b) ∧ h'.2.2 = h.2.2 ∧ K h' := by
  obtain ⟨M, D, nx⟩ := h
  simp only [xwf] at hw
  cases hT : T a with
  | some d =>
    rw [hT] at hw
    rcases d with ⟨c, ds⟩ | d
    · simp only at hw
      have hc := (xcond hw).1
      replace hw := (xcond hw).2
      obtain rfl := xbeq hc
      have hlen : ∀ {d : xDf}, ds[kf]? = some d → kf < ds.length := fun {d} q => (List.getElem?_eq_some_iff.mp q).1
      have go : ∀ (z : Int) (d : xDf), ds[kf]? = some d → xdv (xup M a (xup (M a) kf z)) a kf d = v → K (xup M a (xup (M a) kf z), D, nx) → ∃ (fs : List xV) (h' : xH), xrd T (M, D, nx) a = some (.inl (c, fs)) ∧ kf < fs.length ∧ xrd T h' a = some (.inl (c, fs.set kf v)) ∧ (∀ b, b ≠ a → xrd T h' b = xrd T (M, D, nx) b) ∧ h'.2.2 = nx ∧ K h' := by
        intro z d hd hv hk
        refine ⟨xdl M a 0 ds, (xup M a (xup (M a) kf z), D, nx), ?_, ?_, ?_, ?_, rfl, hk⟩
        · simp [xrd, hT, xde]
        · rw [xdl_len]; exact hlen hd
        · simp only [xrd, hT, xde]
          rw [xdl_set M a ds kf z v (by rw [hd, Option.map_some, hv])]
        · intro b hb
          exact xrd_other hb (xup_ne hb) rfl
      cases hd : ds[kf]? with
      | none => rw [hd] at hw; exact hw.elim
      | some d =>
        rw [hd] at hw
        rcases d with r | (_ | _) <;> rcases v with z | z | r2 <;> simp only at hw
        · exact go z _ hd (by simp [xdv, xup_at]) hw
        · exact go z _ hd (by simp [xdv, xup_at]) hw
    · exact hw.elim
  | none =>
    rw [hT] at hw
    simp only at hw
    cases hD : D a with
    | none => rw [hD] at hw; exact hw.elim
    | some e =>
      rw [hD] at hw
      rcases e with ⟨c, fs⟩ | e
      · simp only at hw
        have hc := (xcond hw).1
        replace hw := (xcond hw).2
        rw [Bool.and_eq_true] at hc
        obtain rfl := xbeq hc.1
        refine ⟨fs, (M, xup D a (some (.inl (c, fs.set kf v))), nx), ?_, by simpa [Nat.blt_eq] using hc.2, ?_, ?_, rfl, hw⟩
        · simp [xrd, hT, hD]
        · simp [xrd, hT, xup_at]
        · intro b hb
          exact xrd_other hb rfl (xup_ne hb)
      · exact hw.elim
theorem xwa_spec {T : xT} {h : xH} {a k : Nat} {v : xV} {K : xH → Prop} {t n : Nat} {f : Nat → xV} (ha : xrd T h a = some (.inr (t, n, f))) (hw : xwa T h a k v K) : ∃ h' : xH, xrd T h' a = some (.inr (t, n, xup f k v)) ∧ (∀ b, b ≠ a → xrd T h' b = xrd T h b) ∧ h'.2.2 = h.2.2 ∧ K h' := by
  obtain ⟨M, D, nx⟩ := h
  simp only [xwa] at hw
  cases hT : T a with
  | some d =>
    rw [hT] at hw
    rcases d with d | ⟨t1, n1, r⟩
    · exact hw.elim
    · cases r with
      | some r => exact hw.elim
      | none =>
        simp only at hw
        have hf : t1 = t ∧ n1 = n ∧ xda M a t1 none = f := by
          simp only [xrd, hT, xde] at ha
          have := Option.some.inj ha
          have := Sum.inr.inj this
          simp only [Prod.mk.injEq] at this
          exact this
        obtain ⟨rfl, rfl, rfl⟩ := hf
        rcases t1 with _ | _ | t1 <;> rcases v with z | z | r2 <;> simp only at hw
        · refine ⟨(xup M a (xup (M a) k z), D, nx), ?_, fun b hb => xrd_other hb (xup_ne hb) rfl, rfl, hw⟩
          simp only [xrd, hT, xde]
          refine congrArg (fun f : Nat → xV => (some (Sum.inr (0, n1, f)) : Option xE)) (funext fun j => ?_)
          simp only [xda, xup_at]
          by_cases hj : j = k <;> simp [xup, hj]
        · refine ⟨(xup M a (xup (M a) k z), D, nx), ?_, fun b hb => xrd_other hb (xup_ne hb) rfl, rfl, hw⟩
          simp only [xrd, hT, xde]
          refine congrArg (fun f : Nat → xV => (some (Sum.inr (1, n1, f)) : Option xE)) (funext fun j => ?_)
          simp only [xda, xup_at]
          by_cases hj : j = k <;> simp [xup, hj]
  | none =>
    rw [hT] at hw
    simp only at hw
    have hD : D a = some (.inr (t, n, f)) := by
      simp only [xrd, hT] at ha
      exact ha
    rw [hD] at hw
    simp only at hw
    refine ⟨(M, xup D a (some (.inr (t, n, xup f k v))), nx), ?_, fun b hb => xrd_other hb rfl (xup_ne hb), rfl, hw⟩
    simp [xrd, hT, xup_at]
/-! locals -/
def xls (G : xG) : Nat → xLs → List (Nat × Value)
  | _, [] => []
  | i, none :: L => xls G (i + 1) L
  | i, some v :: L => (i, xc G v) :: xls G (i + 1) L
theorem xls_mem {G : xG} : ∀ {L : xLs} {i : Nat} {q : Nat × Value}, q ∈ xls G i L ↔ ∃ (j : Nat) (v : xV), L[j]? = some (some v) ∧ q = (i + j, xc G v)
  | [], i, q => by simp [xls]
  | none :: L, i, q => by
    rw [xls, xls_mem]
    constructor
    · rintro ⟨j, v, h1, rfl⟩
      exact ⟨j + 1, v, by simpa using h1, by rw [show i + 1 + j = i + (j + 1) by omega]⟩
    · rintro ⟨j, v, h1, rfl⟩
      cases j with
      | zero => simp at h1
      | succ j => exact ⟨j, v, by simpa using h1, by rw [show i + (j + 1) = i + 1 + j by omega]⟩
  | some w :: L, i, q => by
    rw [xls, List.mem_cons, xls_mem]
    constructor
    · rintro (rfl | ⟨j, v, h1, rfl⟩)
      · exact ⟨0, w, rfl, rfl⟩
      · exact ⟨j + 1, v, by simpa using h1, by rw [show i + 1 + j = i + (j + 1) by omega]⟩
    · rintro ⟨j, v, h1, rfl⟩
      cases j with
      | zero =>
        simp at h1
        subst h1
        exact Or.inl rfl
      | succ j => exact Or.inr ⟨j, v, by simpa using h1, by rw [show i + (j + 1) = i + 1 + j by omega]⟩
/-- a local of one word is written: the new list goes to K, spelled out; a long is gone when its second half is written over -/
def xst : xLs → Nat → xV → (xLs → Prop) → Prop
  | [], _, _, _ => False
  | _ :: L, 0, v, K => K (some v :: L)
  | a :: L, i + 1, v, K => match i, a with
    | 0, some (.inr (.inl _)) => xst L 0 v fun L' => K (none :: L')
    | _, _ => xst L i v fun L' => K (a :: L')
/-- a long is written -/
def xst2 : xLs → Nat → Int → (xLs → Prop) → Prop
  | [], _, _, _ => False
  | [_], _, _, _ => False
  | _ :: _ :: L, 0, z, K => K (some (xJ z) :: none :: L)
  | a :: b :: L, i + 1, z, K => match i, a with
    | 0, some (.inr (.inl _)) => xst2 (b :: L) 0 z fun L' => K (none :: L')
    | _, _ => xst2 (b :: L) i z fun L' => K (a :: L')
theorem xst_spec : ∀ {L : xLs} {i : Nat} {v : xV} {K : xLs → Prop}, xst L i v K → i < L.length ∧ ∃ L' : xLs, K L' ∧ L'.length = L.length ∧ ∀ (j : Nat) (w : xV), L'[j]? = some (some w) → (j = i ∧ w = v) ∨ (j ≠ i ∧ L[j]? = some (some w) ∧ (j + 1 = i → ∀ z, w ≠ xJ z))
  | [], i, v, K, h => h.elim
  | a :: L, 0, v, K, h => by
    refine ⟨by simp, _, h, by simp, fun j w hj => ?_⟩
    cases j with
    | zero => simp at hj; exact Or.inl ⟨rfl, hj.symm⟩
    | succ j => exact Or.inr ⟨by omega, by simpa using hj, fun q => by omega⟩
  | a :: L, i + 1, v, K, h => by
    have go : ∀ (a' : Option xV), (a' = none ∨ (a' = a ∧ (i = 0 → ∀ z, a ≠ some (xJ z)))) → xst L i v (fun L' => K (a' :: L')) → i + 1 < (a :: L).length ∧ ∃ L' : xLs, K L' ∧ L'.length = (a :: L).length ∧ ∀ (j : Nat) (w : xV), L'[j]? = some (some w) → (j = i + 1 ∧ w = v) ∨ (j ≠ i + 1 ∧ (a :: L)[j]? = some (some w) ∧ (j + 1 = i + 1 → ∀ z, w ≠ xJ z)) := by
      intro a' ha' h
      obtain ⟨h1, L', h2, h3, h4⟩ := xst_spec (L := L) h
      refine ⟨by simp; omega, _, h2, by simp [h3], fun j w hj => ?_⟩
      cases j with
      | zero =>
        simp at hj
        rcases ha' with ha' | ⟨ha', hz⟩
        · subst ha'; cases hj
        · subst ha'
          subst hj
          exact Or.inr ⟨by omega, rfl, fun q z e => hz (by omega) z (by rw [e])⟩
      | succ j =>
        have hj' : L'[j]? = some (some w) := by simpa using hj
        rcases h4 j w hj' with ⟨q1, q2⟩ | ⟨q1, q2, q3⟩
        · exact Or.inl ⟨by omega, q2⟩
        · exact Or.inr ⟨by omega, by simpa using q2, fun q => q3 (by omega)⟩
    unfold xst at h
    split at h
    · exact go none (Or.inl rfl) h
    · rename_i hne
      refine go a (Or.inr ⟨rfl, fun hi z e => ?_⟩) h
      subst hi
      exact hne z rfl e
theorem xst2_spec : ∀ {L : xLs} {i : Nat} {z : Int} {K : xLs → Prop}, xst2 L i z K → i + 1 < L.length ∧ ∃ L' : xLs, K L' ∧ L'.length = L.length ∧ ∀ (j : Nat) (w : xV), L'[j]? = some (some w) → (j = i ∧ w = xJ z) ∨ (j ≠ i ∧ j ≠ i + 1 ∧ L[j]? = some (some w) ∧ (j + 1 = i → ∀ z, w ≠ xJ z))
  | [], i, z, K, h => by cases i <;> exact h.elim
  | [a], i, z, K, h => by
    rcases i with _ | i <;> exact h.elim
  | a :: b :: L, 0, z, K, h => by
    refine ⟨by simp, _, h, by simp, fun j w hj => ?_⟩
    match j, hj with
    | 0, hj => simp at hj; exact Or.inl ⟨rfl, hj.symm⟩
    | 1, hj => simp at hj
    | j + 2, hj => exact Or.inr ⟨by omega, by omega, by simpa using hj, fun q => by omega⟩
  | a :: b :: L, i + 1, z, K, h => by
    have go : ∀ (a' : Option xV), (a' = none ∨ (a' = a ∧ (i = 0 → ∀ z, a ≠ some (xJ z)))) → xst2 (b :: L) i z (fun L' => K (a' :: L')) → i + 1 + 1 < (a :: b :: L).length ∧ ∃ L' : xLs, K L' ∧ L'.length = (a :: b :: L).length ∧ ∀ (j : Nat) (w : xV), L'[j]? = some (some w) → (j = i + 1 ∧ w = xJ z) ∨ (j ≠ i + 1 ∧ j ≠ i + 1 + 1 ∧ (a :: b :: L)[j]? = some (some w) ∧ (j + 1 = i + 1 → ∀ z, w ≠ xJ z)) := by
      intro a' ha' h
      obtain ⟨h1, L', h2, h3, h4⟩ := xst2_spec (L := b :: L) h
      refine ⟨by simp at h1 ⊢; omega, _, h2, by simp [h3], fun j w hj => ?_⟩
      cases j with
      | zero =>
        simp at hj
        rcases ha' with ha' | ⟨ha', hz⟩
        · subst ha'; cases hj
        · subst ha'
          subst hj
          exact Or.inr ⟨by omega, by omega, rfl, fun q z e => hz (by omega) z (by rw [e])⟩
      | succ j =>
        have hj' : L'[j]? = some (some w) := by simpa using hj
        rcases h4 j w hj' with ⟨q1, q2⟩ | ⟨q1, q2, q3, q4⟩
        · exact Or.inl ⟨by omega, q2⟩
        · exact Or.inr ⟨by omega, by omega, by simpa using q3, fun q => q4 (by omega)⟩
    unfold xst2 at h
    split at h
    · exact go none (Or.inl rfl) h
    · rename_i hne
      refine go a (Or.inr ⟨rfl, fun hi z e => ?_⟩) h
      subst hi
      exact hne z rfl e
theorem xl_get {G : xG} {ls : Array Slot} {nL : Nat} {L : xLs} (hl : lv_has ls nL (xls G 0 L)) {i : Nat} {v : xV} (h : L[i]? = some (some v)) : ls[i]? = some (.val (xc G v)) :=
  hl.2.2 (i, xc G v) (xls_mem.mpr ⟨i, v, h, by rw [Nat.zero_add]⟩)
theorem xcat1 {G : xG} {v : xV} (h : ∀ z, v ≠ xJ z) : (xc G v).category = 1 := by
  rcases v with z | z | z
  · rfl
  · exact absurd rfl (h z)
  · cases z <;> rfl
theorem xl_st {G : xG} {ls : Array Slot} {nL : Nat} {L L' : xLs} {i : Nat} {v : xV} (hL : ∀ (j : Nat) (w : xV), L'[j]? = some (some w) → (j = i ∧ w = v) ∨ (j ≠ i ∧ L[j]? = some (some w) ∧ (j + 1 = i → ∀ z, w ≠ xJ z))) (h : lv_has ls nL ((i, xc G v) :: (xls G 0 L).filter (fun q => !(q.1 == i) && !(q.1 + 1 == i && q.2.category == 2)))) : lv_has ls nL (xls G 0 L') := by
  refine ⟨h.1, h.2.1, fun q hq => h.2.2 q ?_⟩
  obtain ⟨j, w, h1, rfl⟩ := xls_mem.mp hq
  rw [Nat.zero_add]
  rcases hL j w h1 with ⟨rfl, rfl⟩ | ⟨q1, q2, q3⟩
  · exact List.mem_cons_self
  · refine List.mem_cons_of_mem _ (List.mem_filter.mpr ⟨xls_mem.mpr ⟨j, w, q2, by rw [Nat.zero_add]⟩, ?_⟩)
    simp only [Bool.and_eq_true, Bool.not_eq_true', beq_eq_false_iff_ne, ne_eq, Bool.and_eq_false_iff]
    refine ⟨q1, ?_⟩
    by_cases hj : j + 1 = i
    · exact Or.inr (by rw [xcat1 (q3 hj)]; decide)
    · exact Or.inl hj
theorem xl_st2 {G : xG} {ls : Array Slot} {nL : Nat} {L L' : xLs} {i : Nat} {z : Int} (hL : ∀ (j : Nat) (w : xV), L'[j]? = some (some w) → (j = i ∧ w = xJ z) ∨ (j ≠ i ∧ j ≠ i + 1 ∧ L[j]? = some (some w) ∧ (j + 1 = i → ∀ z, w ≠ xJ z))) (h : lv_has ls nL ((i, xc G (xJ z)) :: (xls G 0 L).filter (fun q => !(q.1 == i) && (!(q.1 == i + 1) && !(q.1 + 1 == i && q.2.category == 2))))) : lv_has ls nL (xls G 0 L') := by
  refine ⟨h.1, h.2.1, fun q hq => h.2.2 q ?_⟩
  obtain ⟨j, w, h1, rfl⟩ := xls_mem.mp hq
  rw [Nat.zero_add]
  rcases hL j w h1 with ⟨rfl, rfl⟩ | ⟨q1, q2, q3, q4⟩
  · exact List.mem_cons_self
  · refine List.mem_cons_of_mem _ (List.mem_filter.mpr ⟨xls_mem.mpr ⟨j, w, q3, by rw [Nat.zero_add]⟩, ?_⟩)
    simp only [Bool.and_eq_true, Bool.not_eq_true', beq_eq_false_iff_ne, ne_eq, Bool.and_eq_false_iff]
    refine ⟨q1, q2, ?_⟩
    by_cases hj : j + 1 = i
    · exact Or.inr (by rw [xcat1 (q4 hj)]; decide)
    · exact Or.inl hj
end
section
/-! one lemma an instruction: the X machine's step is the real one's -/
abbrev xrg (z : Int) : Prop := -2147483648 ≤ z ∧ z < 2147483648
abbrev xrl (z : Int) : Prop := -9223372036854775808 ≤ z ∧ z < 9223372036854775808
theorem xi_ti {z : Int} (h : xrg z) : (Int32.ofInt z).toInt = z := Int32.toInt_ofInt_of_le (by omega) (by omega)
theorem xj_ti {z : Int} (h : xrl z) : (Int64.ofInt z).toInt = z := Int64.toInt_ofInt_of_le (by omega) (by omega)
theorem xi_lt {x y : Int} (hx : xrg x) (hy : xrg y) : Int32.ofInt x < Int32.ofInt y ↔ x < y := by rw [Int32.lt_iff_toInt_lt, xi_ti hx, xi_ti hy]
theorem xi_le {x y : Int} (hx : xrg x) (hy : xrg y) : Int32.ofInt x ≤ Int32.ofInt y ↔ x ≤ y := by rw [Int32.le_iff_toInt_le, xi_ti hx, xi_ti hy]
theorem xi_eq {x y : Int} (hx : xrg x) (hy : xrg y) : Int32.ofInt x = Int32.ofInt y ↔ x = y := by rw [← Int32.toInt_inj, xi_ti hx, xi_ti hy]
theorem xj_lt {x y : Int} (hx : xrl x) (hy : xrl y) : Int64.ofInt x < Int64.ofInt y ↔ x < y := by rw [Int64.lt_iff_toInt_lt, xj_ti hx, xj_ti hy]
theorem xj_eq {x y : Int} (hx : xrl x) (hy : xrl y) : Int64.ofInt x = Int64.ofInt y ↔ x = y := by rw [← Int64.toInt_inj, xj_ti hx, xj_ti hy]
theorem xrg0 : xrg 0 := by decide
theorem xi_0 : (0 : Int32) = Int32.ofInt 0 := rfl
theorem xi_cl {z : Int} (h0 : 0 ≤ z) (h : z < 2147483648) : (Int32.ofInt z).toNatClampNeg = z.toNat := by
  show (Int32.ofInt z).toInt.toNat = z.toNat
  rw [xi_ti ⟨by omega, h⟩]
theorem xi_in {z : Int} {n : Nat} (h0 : 0 ≤ z) (h : z < n) (hb : z < 2147483648) : ¬ (Int32.ofInt z < 0 ∨ n ≤ (Int32.ofInt z).toNatClampNeg) := by
  rw [xi_cl h0 hb, xi_0, xi_lt ⟨by omega, hb⟩ ⟨by omega, by omega⟩]
  omega
theorem xi_nn {z : Int} (h0 : 0 ≤ z) (hb : z < 2147483648) : ¬ Int32.ofInt z < 0 := by
  rw [xi_0, xi_lt ⟨by omega, hb⟩ ⟨by omega, by omega⟩]
  omega
def x_iand (x y : Int) : Int := (Int32.ofInt x &&& Int32.ofInt y).toInt
def x_ior (x y : Int) : Int := (Int32.ofInt x ||| Int32.ofInt y).toInt
def x_ixor (x y : Int) : Int := (Int32.ofInt x ^^^ Int32.ofInt y).toInt
def x_ishl (x y : Int) : Int := (Int32.ofInt x <<< (Int32.ofInt y &&& 31)).toInt
def x_ishr (x y : Int) : Int := (Int32.ofInt x >>> (Int32.ofInt y &&& 31)).toInt
def x_iushr (x y : Int) : Int := ((Int32.ofInt x).toUInt32 >>> ((Int32.ofInt y).toUInt32 &&& Int32.toUInt32 31)).toInt32.toInt
def x_lcmp (x y : Int) : Int := if x < y then -1 else if x = y then 0 else 1
section XROWS
variable {T : xT} {p : Program} {l : Launch} {e : Env} {R : Room} {s : State} {m : MethodId} {args : Array Value} {below : List Frame} {meth : Method} {c : Code} {Q : State → Prop} {cc : ByteArray} {G : xG} {nL : Nat} {pc : Nat} {L : xLs} {st : List xV} {h : xH} {k n : Nat}
def xW (T : xT) (p : Program) (l : Launch) (e : Env) (R : Room) (s : State) (m : MethodId) (args : Array Value) (below : List Frame) (meth : Method) (c : Code) (Q : State → Prop) (G : xG) (nL : Nat) (pc : Nat) (L : xLs) (st : List xV) (h : xH) (k n : Nat) : Prop :=
  ∀ (H : Heap) (locs : List Loc) (ls : Array Slot), xMt T G h H → va_S (xA G) s.heap H locs → L.length = nL → lv_has ls nL (xls G 0 L) → W p l e R s m args below meth c H locs k n Q (F0 m pc ls (st.map (xc G)))
theorem xw_iconst (hx : p.tables.exec = Jvm.exec) (hb : c.code = cc) {z : Int} (hd : decode cc pc = .ok (.iconst z, 1)) (kk : xW T p l e R s m args below meth c Q G nL (pc + 1) L (xI z :: st) h k n) : xW T p l e R s m args below meth c Q G nL pc L st h k n :=
  fun H locs ls hM hS hL hl => lv_iconst hx hb hd rfl (kk H locs ls hM hS hL hl)
theorem xw_bipush (hx : p.tables.exec = Jvm.exec) (hb : c.code = cc) {z : Int} (hd : decode cc pc = .ok (.bipush z, 2)) (hz : (Int8.ofInt z).toInt32 = Int32.ofInt z) (kk : xW T p l e R s m args below meth c Q G nL (pc + 2) L (xI z :: st) h k n) : xW T p l e R s m args below meth c Q G nL pc L st h k n :=
  fun H locs ls hM hS hL hl => lv_bipush hx hb hd hz (kk H locs ls hM hS hL hl)
theorem xw_sipush (hx : p.tables.exec = Jvm.exec) (hb : c.code = cc) {z : Int} (hd : decode cc pc = .ok (.sipush z, 3)) (hz : (Int16.ofInt z).toInt32 = Int32.ofInt z) (kk : xW T p l e R s m args below meth c Q G nL (pc + 3) L (xI z :: st) h k n) : xW T p l e R s m args below meth c Q G nL pc L st h k n :=
  fun H locs ls hM hS hL hl => lv_sipush hx hb hd hz (kk H locs ls hM hS hL hl)
theorem xw_lconst (hx : p.tables.exec = Jvm.exec) (hb : c.code = cc) {z : Fin 2} (hd : decode cc pc = .ok (.lconst z, 1)) (kk : xW T p l e R s m args below meth c Q G nL (pc + 1) L (xJ ((z : Nat) : Int) :: st) h k n) : xW T p l e R s m args below meth c Q G nL pc L st h k n :=
  fun H locs ls hM hS hL hl => lv_lconst hx hb hd Int64.ofInt_eq_ofNat.symm (kk H locs ls hM hS hL hl)
theorem xw_ldc (hx : p.tables.exec = Jvm.exec) (hb : c.code = cc) {own : String} {i : Nat} {z : Int} (hown : s.vm.findClass own = some m.cls) (hc : (Cond.constant own i (Int32.ofInt z)).before args s = true) (hd : decode cc pc = .ok (.ldc i, 2)) (kk : xW T p l e R s m args below meth c Q G nL (pc + 2) L (xI z :: st) h k n) : xW T p l e R s m args below meth c Q G nL pc L st h k n :=
  fun H locs ls hM hS hL hl => lv_ldc hx hb hown hc hd (kk H locs ls hM hS hL hl)
theorem xw_ldcw (hx : p.tables.exec = Jvm.exec) (hb : c.code = cc) {own : String} {i : Nat} {z : Int} (hown : s.vm.findClass own = some m.cls) (hc : (Cond.constant own i (Int32.ofInt z)).before args s = true) (hd : decode cc pc = .ok (.ldc_w i, 3)) (kk : xW T p l e R s m args below meth c Q G nL (pc + 3) L (xI z :: st) h k n) : xW T p l e R s m args below meth c Q G nL pc L st h k n :=
  fun H locs ls hM hS hL hl => lv_ldcw hx hb hown hc hd (kk H locs ls hM hS hL hl)
theorem xw_ldc2 (hx : p.tables.exec = Jvm.exec) (hb : c.code = cc) {own : String} {i : Nat} {z : Int} (hown : s.vm.findClass own = some m.cls) (hc : (Cond.constantLong own i (Int64.ofInt z)).before args s = true) (hd : decode cc pc = .ok (.ldc2_w i, 3)) (kk : xW T p l e R s m args below meth c Q G nL (pc + 3) L (xJ z :: st) h k n) : xW T p l e R s m args below meth c Q G nL pc L st h k n :=
  fun H locs ls hM hS hL hl => lv_ldc2 hx hb hown hc hd (kk H locs ls hM hS hL hl)
theorem xw_null (hx : p.tables.exec = Jvm.exec) (hb : c.code = cc) (hd : decode cc pc = .ok (.aconst_null, 1)) (kk : xW T p l e R s m args below meth c Q G nL (pc + 1) L (xR none :: st) h k n) : xW T p l e R s m args below meth c Q G nL pc L st h k n :=
  fun H locs ls hM hS hL hl => lv_null hx hb hd (kk H locs ls hM hS hL hl)
theorem xw_iload_n (hx : p.tables.exec = Jvm.exec) (hb : c.code = cc) {i : Fin 4} {z : Int} (hd : decode cc pc = .ok (.iload_n i, 1)) (hi : L[(i : Nat)]? = some (some (xI z))) (kk : xW T p l e R s m args below meth c Q G nL (pc + 1) L (xI z :: st) h k n) : xW T p l e R s m args below meth c Q G nL pc L st h k n :=
  fun H locs ls hM hS hL hl => lv_iload_n hx hb hd rfl (xl_get hl hi) (kk H locs ls hM hS hL hl)
theorem xw_iload (hx : p.tables.exec = Jvm.exec) (hb : c.code = cc) {i : Nat} {z : Int} (hd : decode cc pc = .ok (.iload i, 2)) (hi : L[i]? = some (some (xI z))) (kk : xW T p l e R s m args below meth c Q G nL (pc + 2) L (xI z :: st) h k n) : xW T p l e R s m args below meth c Q G nL pc L st h k n :=
  fun H locs ls hM hS hL hl => lv_iload hx hb hd (xl_get hl hi) (kk H locs ls hM hS hL hl)
theorem xw_lload_n (hx : p.tables.exec = Jvm.exec) (hb : c.code = cc) {i : Fin 4} {z : Int} (hd : decode cc pc = .ok (.lload_n i, 1)) (hi : L[(i : Nat)]? = some (some (xJ z))) (kk : xW T p l e R s m args below meth c Q G nL (pc + 1) L (xJ z :: st) h k n) : xW T p l e R s m args below meth c Q G nL pc L st h k n :=
  fun H locs ls hM hS hL hl => lv_lload_n hx hb hd rfl (xl_get hl hi) (kk H locs ls hM hS hL hl)
theorem xw_lload (hx : p.tables.exec = Jvm.exec) (hb : c.code = cc) {i : Nat} {z : Int} (hd : decode cc pc = .ok (.lload i, 2)) (hi : L[i]? = some (some (xJ z))) (kk : xW T p l e R s m args below meth c Q G nL (pc + 2) L (xJ z :: st) h k n) : xW T p l e R s m args below meth c Q G nL pc L st h k n :=
  fun H locs ls hM hS hL hl => lv_lload hx hb hd (xl_get hl hi) (kk H locs ls hM hS hL hl)
theorem xw_aload_n (hx : p.tables.exec = Jvm.exec) (hb : c.code = cc) {i : Fin 4} {r : Option Nat} (hd : decode cc pc = .ok (.aload_n i, 1)) (hi : L[(i : Nat)]? = some (some (xR r))) (kk : xW T p l e R s m args below meth c Q G nL (pc + 1) L (xR r :: st) h k n) : xW T p l e R s m args below meth c Q G nL pc L st h k n := by
  intro H locs ls hM hS hL hl
  cases r with
  | none => exact lv_aload_nN hx hb hd rfl (xl_get hl hi) (kk H locs ls hM hS hL hl)
  | some a => exact lv_aload_n hx hb hd rfl (xl_get hl hi) (kk H locs ls hM hS hL hl)
theorem xw_aload (hx : p.tables.exec = Jvm.exec) (hb : c.code = cc) {i : Nat} {r : Option Nat} (hd : decode cc pc = .ok (.aload i, 2)) (hi : L[i]? = some (some (xR r))) (kk : xW T p l e R s m args below meth c Q G nL (pc + 2) L (xR r :: st) h k n) : xW T p l e R s m args below meth c Q G nL pc L st h k n := by
  intro H locs ls hM hS hL hl
  cases r with
  | none => exact lv_aloadN hx hb hd (xl_get hl hi) (kk H locs ls hM hS hL hl)
  | some a => exact lv_aload hx hb hd (xl_get hl hi) (kk H locs ls hM hS hL hl)
theorem xw_istore_n (hx : p.tables.exec = Jvm.exec) (hb : c.code = cc) {i : Fin 4} {z : Int} (hd : decode cc pc = .ok (.istore_n i, 1)) (kk : xst L i (xI z) fun L' => xW T p l e R s m args below meth c Q G nL (pc + 1) L' st h k n) : xW T p l e R s m args below meth c Q G nL pc L (xI z :: st) h k n := by
  intro H locs ls hM hS hL hl
  obtain ⟨hi, L', kk, hL', hg⟩ := xst_spec kk
  exact lv_istore_n hx hb hd rfl hl (hL ▸ hi) rfl fun ls' hl' => kk H locs ls' hM hS (hL'.trans hL) (xl_st hg hl')
theorem xw_istore (hx : p.tables.exec = Jvm.exec) (hb : c.code = cc) {i : Nat} {z : Int} (hd : decode cc pc = .ok (.istore i, 2)) (kk : xst L i (xI z) fun L' => xW T p l e R s m args below meth c Q G nL (pc + 2) L' st h k n) : xW T p l e R s m args below meth c Q G nL pc L (xI z :: st) h k n := by
  intro H locs ls hM hS hL hl
  obtain ⟨hi, L', kk, hL', hg⟩ := xst_spec kk
  exact lv_istore hx hb hd hl (hL ▸ hi) rfl fun ls' hl' => kk H locs ls' hM hS (hL'.trans hL) (xl_st hg hl')
theorem xw_lstore_n (hx : p.tables.exec = Jvm.exec) (hb : c.code = cc) {i : Fin 4} {z : Int} (hd : decode cc pc = .ok (.lstore_n i, 1)) (kk : xst2 L i z fun L' => xW T p l e R s m args below meth c Q G nL (pc + 1) L' st h k n) : xW T p l e R s m args below meth c Q G nL pc L (xJ z :: st) h k n := by
  intro H locs ls hM hS hL hl
  obtain ⟨hi, L', kk, hL', hg⟩ := xst2_spec kk
  exact lv_lstore_n hx hb hd rfl hl (hL ▸ hi) rfl fun ls' hl' => kk H locs ls' hM hS (hL'.trans hL) (xl_st2 hg hl')
theorem xw_lstore (hx : p.tables.exec = Jvm.exec) (hb : c.code = cc) {i : Nat} {z : Int} (hd : decode cc pc = .ok (.lstore i, 2)) (kk : xst2 L i z fun L' => xW T p l e R s m args below meth c Q G nL (pc + 2) L' st h k n) : xW T p l e R s m args below meth c Q G nL pc L (xJ z :: st) h k n := by
  intro H locs ls hM hS hL hl
  obtain ⟨hi, L', kk, hL', hg⟩ := xst2_spec kk
  exact lv_lstore hx hb hd hl (hL ▸ hi) rfl fun ls' hl' => kk H locs ls' hM hS (hL'.trans hL) (xl_st2 hg hl')
theorem xw_astore_n (hx : p.tables.exec = Jvm.exec) (hb : c.code = cc) {i : Fin 4} {r : Option Nat} (hd : decode cc pc = .ok (.astore_n i, 1)) (kk : xst L i (xR r) fun L' => xW T p l e R s m args below meth c Q G nL (pc + 1) L' st h k n) : xW T p l e R s m args below meth c Q G nL pc L (xR r :: st) h k n := by
  intro H locs ls hM hS hL hl
  obtain ⟨hi, L', k2, hL', hg⟩ := xst_spec kk
  cases r with
  | none => exact lv_astore_nN hx hb hd rfl hl (hL ▸ hi) rfl fun ls' hl' => k2 H locs ls' hM hS (hL'.trans hL) (xl_st hg hl')
  | some a => exact lv_astore_n hx hb hd rfl hl (hL ▸ hi) rfl fun ls' hl' => k2 H locs ls' hM hS (hL'.trans hL) (xl_st hg hl')
theorem xw_astore (hx : p.tables.exec = Jvm.exec) (hb : c.code = cc) {i : Nat} {r : Option Nat} (hd : decode cc pc = .ok (.astore i, 2)) (kk : xst L i (xR r) fun L' => xW T p l e R s m args below meth c Q G nL (pc + 2) L' st h k n) : xW T p l e R s m args below meth c Q G nL pc L (xR r :: st) h k n := by
  intro H locs ls hM hS hL hl
  obtain ⟨hi, L', k2, hL', hg⟩ := xst_spec kk
  cases r with
  | none => exact lv_astoreN hx hb hd hl (hL ▸ hi) rfl fun ls' hl' => k2 H locs ls' hM hS (hL'.trans hL) (xl_st hg hl')
  | some a => exact lv_astore hx hb hd hl (hL ▸ hi) rfl fun ls' hl' => k2 H locs ls' hM hS (hL'.trans hL) (xl_st hg hl')
theorem xw_iinc (hx : p.tables.exec = Jvm.exec) (hb : c.code = cc) {i : Nat} {q z : Int} (hd : decode cc pc = .ok (.iinc i q, 3)) (hi : L[i]? = some (some (xI z))) (kk : xst L i (xI (z + q)) fun L' => xW T p l e R s m args below meth c Q G nL (pc + 3) L' st h k n) : xW T p l e R s m args below meth c Q G nL pc L st h k n := by
  intro H locs ls hM hS hL hl
  obtain ⟨hin, L', kk, hL', hg⟩ := xst_spec kk
  obtain ⟨j, hj⟩ := List.getElem?_of_mem (xls_mem (G := G) (L := L) (i := 0) (q := (i, xc G (xI z))).mpr ⟨i, xI z, hi, by rw [Nat.zero_add]⟩)
  exact lv_iinc (v := Int32.ofInt (z + q)) hx hb hd hl hj (Int32.ofInt_add z q).symm (hL ▸ hin) rfl fun ls' hl' => kk H locs ls' hM hS (hL'.trans hL) (xl_st hg hl')
theorem xw_iadd (hx : p.tables.exec = Jvm.exec) (hb : c.code = cc) {x y : Int} (hd : decode cc pc = .ok (.iadd, 1)) (kk : xW T p l e R s m args below meth c Q G nL (pc + 1) L (xI (x + y) :: st) h k n) : xW T p l e R s m args below meth c Q G nL pc L (xI y :: xI x :: st) h k n :=
  fun H locs ls hM hS hL hl => lv_iadd hx hb hd (by rw [← Int32.ofInt_add]; exact kk H locs ls hM hS hL hl)
theorem xw_isub (hx : p.tables.exec = Jvm.exec) (hb : c.code = cc) {x y : Int} (hd : decode cc pc = .ok (.isub, 1)) (kk : xW T p l e R s m args below meth c Q G nL (pc + 1) L (xI (x - y) :: st) h k n) : xW T p l e R s m args below meth c Q G nL pc L (xI y :: xI x :: st) h k n :=
  fun H locs ls hM hS hL hl => lv_isub hx hb hd (by rw [← Int32.ofInt_sub]; exact kk H locs ls hM hS hL hl)
theorem xw_imul (hx : p.tables.exec = Jvm.exec) (hb : c.code = cc) {x y : Int} (hd : decode cc pc = .ok (.imul, 1)) (kk : xW T p l e R s m args below meth c Q G nL (pc + 1) L (xI (x * y) :: st) h k n) : xW T p l e R s m args below meth c Q G nL pc L (xI y :: xI x :: st) h k n :=
  fun H locs ls hM hS hL hl => lv_imul hx hb hd (by rw [← Int32.ofInt_mul]; exact kk H locs ls hM hS hL hl)
theorem xw_ineg (hx : p.tables.exec = Jvm.exec) (hb : c.code = cc) {x : Int} (hd : decode cc pc = .ok (.ineg, 1)) (kk : xW T p l e R s m args below meth c Q G nL (pc + 1) L (xI (-x) :: st) h k n) : xW T p l e R s m args below meth c Q G nL pc L (xI x :: st) h k n := by
  intro H locs ls hM hS hL hl
  refine lv_ineg hx hb hd ?_
  have h1 := kk H locs ls hM hS hL hl
  rw [List.map_cons, show xc G (xI (-x)) = .int (-(Int32.ofInt x)) from congrArg Value.int (by first | exact Int32.ofInt_neg x | exact (Int32.ofInt_neg x).symm | simp)] at h1
  first | exact h1 | simpa using h1
theorem xw_ladd (hx : p.tables.exec = Jvm.exec) (hb : c.code = cc) {x y : Int} (hd : decode cc pc = .ok (.ladd, 1)) (kk : xW T p l e R s m args below meth c Q G nL (pc + 1) L (xJ (x + y) :: st) h k n) : xW T p l e R s m args below meth c Q G nL pc L (xJ y :: xJ x :: st) h k n :=
  fun H locs ls hM hS hL hl => lv_ladd hx hb hd (by rw [← Int64.ofInt_add]; exact kk H locs ls hM hS hL hl)
theorem xw_lsub (hx : p.tables.exec = Jvm.exec) (hb : c.code = cc) {x y : Int} (hd : decode cc pc = .ok (.lsub, 1)) (kk : xW T p l e R s m args below meth c Q G nL (pc + 1) L (xJ (x - y) :: st) h k n) : xW T p l e R s m args below meth c Q G nL pc L (xJ y :: xJ x :: st) h k n :=
  fun H locs ls hM hS hL hl => lv_lsub hx hb hd (by rw [← Int64.ofInt_sub]; exact kk H locs ls hM hS hL hl)
theorem xw_lmul (hx : p.tables.exec = Jvm.exec) (hb : c.code = cc) {x y : Int} (hd : decode cc pc = .ok (.lmul, 1)) (kk : xW T p l e R s m args below meth c Q G nL (pc + 1) L (xJ (x * y) :: st) h k n) : xW T p l e R s m args below meth c Q G nL pc L (xJ y :: xJ x :: st) h k n :=
  fun H locs ls hM hS hL hl => lv_lmul hx hb hd (by rw [← Int64.ofInt_mul]; exact kk H locs ls hM hS hL hl)
theorem xc_i {v : Int32} : xc G (xI v.toInt) = .int v := congrArg Value.int (Int32.ofInt_toInt _)
theorem xc_j {v : Int64} : xc G (xJ v.toInt) = .long v := congrArg Value.long (Int64.ofInt_toInt _)
theorem xw_iand (hx : p.tables.exec = Jvm.exec) (hb : c.code = cc) {x y : Int} (hd : decode cc pc = .ok (.iand, 1)) (kk : xW T p l e R s m args below meth c Q G nL (pc + 1) L (xI (x_iand x y) :: st) h k n) : xW T p l e R s m args below meth c Q G nL pc L (xI y :: xI x :: st) h k n := by
  intro H locs ls hM hS hL hl
  have h1 := kk H locs ls hM hS hL hl
  rw [List.map_cons, x_iand, xc_i] at h1
  exact lv_iand hx hb hd h1
theorem xw_ior (hx : p.tables.exec = Jvm.exec) (hb : c.code = cc) {x y : Int} (hd : decode cc pc = .ok (.ior, 1)) (kk : xW T p l e R s m args below meth c Q G nL (pc + 1) L (xI (x_ior x y) :: st) h k n) : xW T p l e R s m args below meth c Q G nL pc L (xI y :: xI x :: st) h k n := by
  intro H locs ls hM hS hL hl
  have h1 := kk H locs ls hM hS hL hl
  rw [List.map_cons, x_ior, xc_i] at h1
  exact lv_ior hx hb hd h1
theorem xw_ixor (hx : p.tables.exec = Jvm.exec) (hb : c.code = cc) {x y : Int} (hd : decode cc pc = .ok (.ixor, 1)) (kk : xW T p l e R s m args below meth c Q G nL (pc + 1) L (xI (x_ixor x y) :: st) h k n) : xW T p l e R s m args below meth c Q G nL pc L (xI y :: xI x :: st) h k n := by
  intro H locs ls hM hS hL hl
  have h1 := kk H locs ls hM hS hL hl
  rw [List.map_cons, x_ixor, xc_i] at h1
  exact lv_ixor hx hb hd h1
theorem xw_ishl (hx : p.tables.exec = Jvm.exec) (hb : c.code = cc) {x y : Int} (hd : decode cc pc = .ok (.ishl, 1)) (kk : xW T p l e R s m args below meth c Q G nL (pc + 1) L (xI (x_ishl x y) :: st) h k n) : xW T p l e R s m args below meth c Q G nL pc L (xI y :: xI x :: st) h k n := by
  intro H locs ls hM hS hL hl
  have h1 := kk H locs ls hM hS hL hl
  rw [List.map_cons, x_ishl, xc_i] at h1
  exact lv_ishl hx hb hd h1
theorem xw_ishr (hx : p.tables.exec = Jvm.exec) (hb : c.code = cc) {x y : Int} (hd : decode cc pc = .ok (.ishr, 1)) (kk : xW T p l e R s m args below meth c Q G nL (pc + 1) L (xI (x_ishr x y) :: st) h k n) : xW T p l e R s m args below meth c Q G nL pc L (xI y :: xI x :: st) h k n := by
  intro H locs ls hM hS hL hl
  have h1 := kk H locs ls hM hS hL hl
  rw [List.map_cons, x_ishr, xc_i] at h1
  exact lv_ishr hx hb hd h1
theorem xw_iushr (hx : p.tables.exec = Jvm.exec) (hb : c.code = cc) {x y : Int} (hd : decode cc pc = .ok (.iushr, 1)) (kk : xW T p l e R s m args below meth c Q G nL (pc + 1) L (xI (x_iushr x y) :: st) h k n) : xW T p l e R s m args below meth c Q G nL pc L (xI y :: xI x :: st) h k n := by
  intro H locs ls hM hS hL hl
  have h1 := kk H locs ls hM hS hL hl
  rw [List.map_cons, x_iushr, xc_i] at h1
  exact lv_iushr hx hb hd rfl h1
theorem xi_div {x y : Int} (hrx : xrg x) (hy : 0 < y) (hry : xrg y) : Int32.ofInt x / Int32.ofInt y = Int32.ofInt (x.tdiv y) := by
  have hne : ¬ Int32.ofInt y = 0 := by rw [xi_0, xi_eq hry xrg0]; omega
  have hb : xrg (x.tdiv y) := by
    have h1 : (x.tdiv y).natAbs ≤ x.natAbs := by rw [Int.natAbs_tdiv]; exact Nat.div_le_self _ _
    have h2 := hrx.1
    have h3 := hrx.2
    by_cases h4 : x = -2147483648
    · subst h4
      have h5 : (-2147483648 : Int).tdiv y ≤ 0 := by
        rw [show (-2147483648 : Int) = -(2147483648) from rfl, Int.neg_tdiv]
        have := Int.tdiv_nonneg (a := 2147483648) (b := y) (by omega) (by omega)
        omega
      constructor <;> omega
    · constructor <;> omega
  rw [← Int32.toInt_inj, xi_ti hb, Int32.toInt_div_of_ne_right _ _ (by rw [show (-1 : Int32) = Int32.ofInt (-1) from rfl]; intro q; have := (xi_eq hry (by decide)).mp q; omega), xi_ti hrx, xi_ti hry]
theorem xw_idiv (hx : p.tables.exec = Jvm.exec) (hb : c.code = cc) {x y : Int} (hd : decode cc pc = .ok (.idiv, 1)) (hrx : xrg x) (hy : 0 < y) (hry : xrg y) (kk : xW T p l e R s m args below meth c Q G nL (pc + 1) L (xI (x.tdiv y) :: st) h k n) : xW T p l e R s m args below meth c Q G nL pc L (xI y :: xI x :: st) h k n := by
  intro H locs ls hM hS hL hl
  have hne : ¬ Int32.ofInt y = 0 := by rw [xi_0, xi_eq hry xrg0]; omega
  refine lv_idiv hx hb hd hne ?_
  rw [xi_div hrx hy hry]
  exact kk H locs ls hM hS hL hl
theorem xw_irem (hx : p.tables.exec = Jvm.exec) (hb : c.code = cc) {x y : Int} (hd : decode cc pc = .ok (.irem, 1)) (hrx : xrg x) (hy : 0 < y) (hry : xrg y) (kk : xW T p l e R s m args below meth c Q G nL (pc + 1) L (xI (x.tmod y) :: st) h k n) : xW T p l e R s m args below meth c Q G nL pc L (xI y :: xI x :: st) h k n := by
  intro H locs ls hM hS hL hl
  have hne : ¬ Int32.ofInt y = 0 := by rw [xi_0, xi_eq hry xrg0]; omega
  refine lv_irem hx hb hd hne ?_
  rw [xi_div hrx hy hry, ← Int32.ofInt_mul, ← Int32.ofInt_sub, show x - x.tdiv y * y = x.tmod y by rw [Int.tmod_def, Int.mul_comm]]
  exact kk H locs ls hM hS hL hl
theorem xj_div {x y : Int} (hrx : xrl x) (hy : 0 < y) (hry : xrl y) : Int64.ofInt x / Int64.ofInt y = Int64.ofInt (x.tdiv y) := by
  have hb : xrl (x.tdiv y) := by
    have h1 : (x.tdiv y).natAbs ≤ x.natAbs := by rw [Int.natAbs_tdiv]; exact Nat.div_le_self _ _
    have h2 := hrx.1
    have h3 := hrx.2
    by_cases h4 : x = -9223372036854775808
    · subst h4
      have h5 : (-9223372036854775808 : Int).tdiv y ≤ 0 := by
        rw [show (-9223372036854775808 : Int) = -(9223372036854775808) from rfl, Int.neg_tdiv]
        have := Int.tdiv_nonneg (a := 9223372036854775808) (b := y) (by omega) (by omega)
        omega
      constructor <;> omega
    · constructor <;> omega
  rw [← Int64.toInt_inj, xj_ti hb, Int64.toInt_div_of_ne_right _ _ (by rw [show (-1 : Int64) = Int64.ofInt (-1) from rfl]; intro q; have := (xj_eq hry (by decide)).mp q; omega), xj_ti hrx, xj_ti hry]
theorem xw_ldiv (hx : p.tables.exec = Jvm.exec) (hb : c.code = cc) {x y : Int} (hd : decode cc pc = .ok (.ldiv, 1)) (hrx : xrl x) (hy : 0 < y) (hry : xrl y) (kk : xW T p l e R s m args below meth c Q G nL (pc + 1) L (xJ (x.tdiv y) :: st) h k n) : xW T p l e R s m args below meth c Q G nL pc L (xJ y :: xJ x :: st) h k n := by
  intro H locs ls hM hS hL hl
  have hne : ¬ Int64.ofInt y = 0 := by rw [show (0 : Int64) = Int64.ofInt 0 from rfl, xj_eq hry (by decide)]; omega
  refine lv_ldiv hx hb hd hne ?_
  rw [xj_div hrx hy hry]
  exact kk H locs ls hM hS hL hl
theorem xj_cmp {x y : Int} (hrx : xrl x) (hry : xrl y) : lg_cmp (Int64.ofInt x) (Int64.ofInt y) = Int32.ofInt (x_lcmp x y) := by
  unfold lg_cmp x_lcmp
  simp only [xj_lt hry hrx, xj_eq hrx hry]
  by_cases h1 : y < x
  · rw [if_pos h1, if_neg (by omega), if_neg (by omega)]; rfl
  · by_cases h2 : x = y
    · rw [if_neg h1, if_pos h2, if_neg (by omega), if_pos h2]; rfl
    · rw [if_neg h1, if_neg h2, if_pos (by omega)]; rfl
theorem xw_lcmp (hx : p.tables.exec = Jvm.exec) (hb : c.code = cc) {x y : Int} (hd : decode cc pc = .ok (.lcmp, 1)) (hrx : xrl x) (hry : xrl y) (kk : xW T p l e R s m args below meth c Q G nL (pc + 1) L (xI (x_lcmp x y) :: st) h k n) : xW T p l e R s m args below meth c Q G nL pc L (xJ y :: xJ x :: st) h k n := by
  intro H locs ls hM hS hL hl
  refine W.lcmp hx hb hd ?_
  rw [xj_cmp hrx hry]
  exact kk H locs ls hM hS hL hl
theorem xw_i2l (hx : p.tables.exec = Jvm.exec) (hb : c.code = cc) {x : Int} (hd : decode cc pc = .ok (.i2l, 1)) (hr : xrg x) (kk : xW T p l e R s m args below meth c Q G nL (pc + 1) L (xJ x :: st) h k n) : xW T p l e R s m args below meth c Q G nL pc L (xI x :: st) h k n := by
  intro H locs ls hM hS hL hl
  refine lv_i2l hx hb hd ?_ (kk H locs ls hM hS hL hl)
  apply Int64.toInt_inj.mp
  rw [Int32.toInt_toInt64, xi_ti hr, xj_ti ⟨by omega, by omega⟩]
theorem xw_l2i (hx : p.tables.exec = Jvm.exec) (hb : c.code = cc) {x : Int} (hd : decode cc pc = .ok (.l2i, 1)) (kk : xW T p l e R s m args below meth c Q G nL (pc + 1) L (xI x :: st) h k n) : xW T p l e R s m args below meth c Q G nL pc L (xJ x :: st) h k n :=
  fun H locs ls hM hS hL hl => lv_l2i hx hb hd Int64.toInt32_ofInt (kk H locs ls hM hS hL hl)
theorem xw_dup (hx : p.tables.exec = Jvm.exec) (hb : c.code = cc) {v : xV} (hd : decode cc pc = .ok (.dup, 1)) (hv : ∀ z, v ≠ xJ z) (kk : xW T p l e R s m args below meth c Q G nL (pc + 1) L (v :: v :: st) h k n) : xW T p l e R s m args below meth c Q G nL pc L (v :: st) h k n :=
  fun H locs ls hM hS hL hl => lv_dup hx hb hd (xcat1 hv) (kk H locs ls hM hS hL hl)
theorem xw_pop (hx : p.tables.exec = Jvm.exec) (hb : c.code = cc) {v : xV} (hd : decode cc pc = .ok (.pop, 1)) (hv : ∀ z, v ≠ xJ z) (kk : xW T p l e R s m args below meth c Q G nL (pc + 1) L st h k n) : xW T p l e R s m args below meth c Q G nL pc L (v :: st) h k n :=
  fun H locs ls hM hS hL hl => lv_pop hx hb hd (xcat1 hv) (kk H locs ls hM hS hL hl)
theorem xw_dup_x1 (hx : p.tables.exec = Jvm.exec) (hb : c.code = cc) {v w : xV} (hd : decode cc pc = .ok (.dup_x1, 1)) (hv : ∀ z, v ≠ xJ z) (hw : ∀ z, w ≠ xJ z) (kk : xW T p l e R s m args below meth c Q G nL (pc + 1) L (v :: w :: v :: st) h k n) : xW T p l e R s m args below meth c Q G nL pc L (v :: w :: st) h k n :=
  fun H locs ls hM hS hL hl => lv_dup_x1 hx hb hd (xcat1 hv) (xcat1 hw) (kk H locs ls hM hS hL hl)
theorem xw_dup_x2 (hx : p.tables.exec = Jvm.exec) (hb : c.code = cc) {v w u : xV} (hd : decode cc pc = .ok (.dup_x2, 1)) (hv : ∀ z, v ≠ xJ z) (hw : ∀ z, w ≠ xJ z) (hu : ∀ z, u ≠ xJ z) (kk : xW T p l e R s m args below meth c Q G nL (pc + 1) L (v :: w :: u :: v :: st) h k n) : xW T p l e R s m args below meth c Q G nL pc L (v :: w :: u :: st) h k n :=
  fun H locs ls hM hS hL hl => lv_dup_x2 hx hb hd (xcat1 hv) (xcat1 hw) (xcat1 hu) (kk H locs ls hM hS hL hl)
theorem xw_dup2 (hx : p.tables.exec = Jvm.exec) (hb : c.code = cc) {v w : xV} (hd : decode cc pc = .ok (.dup2, 1)) (hv : ∀ z, v ≠ xJ z) (hw : ∀ z, w ≠ xJ z) (kk : xW T p l e R s m args below meth c Q G nL (pc + 1) L (v :: w :: v :: w :: st) h k n) : xW T p l e R s m args below meth c Q G nL pc L (v :: w :: st) h k n :=
  fun H locs ls hM hS hL hl => lv_dup2_11 hx hb hd (xcat1 hv) (xcat1 hw) (kk H locs ls hM hS hL hl)
theorem xw_icmp_lt (hx : p.tables.exec = Jvm.exec) (hb : c.code = cc) {x y off : Int} {tgt : Nat} (hd : decode cc pc = .ok (.if_icmp .lt off, 3)) (ht : (pc : Int) + off = (tgt : Int)) (hrx : xrg x) (hry : xrg y) (kt : x < y → xW T p l e R s m args below meth c Q G nL tgt L st h k n) (kf : y ≤ x → xW T p l e R s m args below meth c Q G nL (pc + 3) L st h k n) : xW T p l e R s m args below meth c Q G nL pc L (xI y :: xI x :: st) h k n :=
  fun H locs ls hM hS hL hl => lv_icmp_lt hx hb hd ht (fun q => kt ((xi_lt hrx hry).mp q) H locs ls hM hS hL hl) (fun q => kf (by have := mt (xi_lt hrx hry).mpr q; omega) H locs ls hM hS hL hl)
theorem xw_icmp_ge (hx : p.tables.exec = Jvm.exec) (hb : c.code = cc) {x y off : Int} {tgt : Nat} (hd : decode cc pc = .ok (.if_icmp .ge off, 3)) (ht : (pc : Int) + off = (tgt : Int)) (hrx : xrg x) (hry : xrg y) (kt : y ≤ x → xW T p l e R s m args below meth c Q G nL tgt L st h k n) (kf : x < y → xW T p l e R s m args below meth c Q G nL (pc + 3) L st h k n) : xW T p l e R s m args below meth c Q G nL pc L (xI y :: xI x :: st) h k n :=
  fun H locs ls hM hS hL hl => lv_icmp_ge hx hb hd ht (fun q => kt ((xi_le hry hrx).mp q) H locs ls hM hS hL hl) (fun q => kf (by have := mt (xi_le hry hrx).mpr q; omega) H locs ls hM hS hL hl)
theorem xw_icmp_gt (hx : p.tables.exec = Jvm.exec) (hb : c.code = cc) {x y off : Int} {tgt : Nat} (hd : decode cc pc = .ok (.if_icmp .gt off, 3)) (ht : (pc : Int) + off = (tgt : Int)) (hrx : xrg x) (hry : xrg y) (kt : y < x → xW T p l e R s m args below meth c Q G nL tgt L st h k n) (kf : x ≤ y → xW T p l e R s m args below meth c Q G nL (pc + 3) L st h k n) : xW T p l e R s m args below meth c Q G nL pc L (xI y :: xI x :: st) h k n :=
  fun H locs ls hM hS hL hl => lv_icmp_gt hx hb hd ht (fun q => kt ((xi_lt hry hrx).mp q) H locs ls hM hS hL hl) (fun q => kf (by have := mt (xi_lt hry hrx).mpr q; omega) H locs ls hM hS hL hl)
theorem xw_icmp_le (hx : p.tables.exec = Jvm.exec) (hb : c.code = cc) {x y off : Int} {tgt : Nat} (hd : decode cc pc = .ok (.if_icmp .le off, 3)) (ht : (pc : Int) + off = (tgt : Int)) (hrx : xrg x) (hry : xrg y) (kt : x ≤ y → xW T p l e R s m args below meth c Q G nL tgt L st h k n) (kf : y < x → xW T p l e R s m args below meth c Q G nL (pc + 3) L st h k n) : xW T p l e R s m args below meth c Q G nL pc L (xI y :: xI x :: st) h k n :=
  fun H locs ls hM hS hL hl => lv_icmp_le hx hb hd ht (fun q => kt ((xi_le hrx hry).mp q) H locs ls hM hS hL hl) (fun q => kf (by have := mt (xi_le hrx hry).mpr q; omega) H locs ls hM hS hL hl)
theorem xw_icmp_eq (hx : p.tables.exec = Jvm.exec) (hb : c.code = cc) {x y off : Int} {tgt : Nat} (hd : decode cc pc = .ok (.if_icmp .eq off, 3)) (ht : (pc : Int) + off = (tgt : Int)) (hrx : xrg x) (hry : xrg y) (kt : x = y → xW T p l e R s m args below meth c Q G nL tgt L st h k n) (kf : x ≠ y → xW T p l e R s m args below meth c Q G nL (pc + 3) L st h k n) : xW T p l e R s m args below meth c Q G nL pc L (xI y :: xI x :: st) h k n :=
  fun H locs ls hM hS hL hl => lv_icmp_eq hx hb hd ht (fun q => kt ((xi_eq hrx hry).mp q) H locs ls hM hS hL hl) (fun q => kf (by have := mt (xi_eq hrx hry).mpr q; omega) H locs ls hM hS hL hl)
theorem xw_icmp_ne (hx : p.tables.exec = Jvm.exec) (hb : c.code = cc) {x y off : Int} {tgt : Nat} (hd : decode cc pc = .ok (.if_icmp .ne off, 3)) (ht : (pc : Int) + off = (tgt : Int)) (hrx : xrg x) (hry : xrg y) (kt : x ≠ y → xW T p l e R s m args below meth c Q G nL tgt L st h k n) (kf : x = y → xW T p l e R s m args below meth c Q G nL (pc + 3) L st h k n) : xW T p l e R s m args below meth c Q G nL pc L (xI y :: xI x :: st) h k n :=
  fun H locs ls hM hS hL hl => lv_icmp_ne hx hb hd ht (fun q => kt (mt (xi_eq hrx hry).mpr q) H locs ls hM hS hL hl) (fun q => kf ((xi_eq hrx hry).mp q) H locs ls hM hS hL hl)
theorem xw_if_lt (hx : p.tables.exec = Jvm.exec) (hb : c.code = cc) {x off : Int} {tgt : Nat} (hd : decode cc pc = .ok (.ifCond .lt off, 3)) (ht : (pc : Int) + off = (tgt : Int)) (hrx : xrg x) (kt : x < 0 → xW T p l e R s m args below meth c Q G nL tgt L st h k n) (kf : 0 ≤ x → xW T p l e R s m args below meth c Q G nL (pc + 3) L st h k n) : xW T p l e R s m args below meth c Q G nL pc L (xI x :: st) h k n :=
  fun H locs ls hM hS hL hl => lv_if_lt hx hb hd ht (fun q => kt ((xi_lt hrx xrg0).mp q) H locs ls hM hS hL hl) (fun q => kf (by have := mt (xi_lt hrx xrg0).mpr q; omega) H locs ls hM hS hL hl)
theorem xw_if_ge (hx : p.tables.exec = Jvm.exec) (hb : c.code = cc) {x off : Int} {tgt : Nat} (hd : decode cc pc = .ok (.ifCond .ge off, 3)) (ht : (pc : Int) + off = (tgt : Int)) (hrx : xrg x) (kt : 0 ≤ x → xW T p l e R s m args below meth c Q G nL tgt L st h k n) (kf : x < 0 → xW T p l e R s m args below meth c Q G nL (pc + 3) L st h k n) : xW T p l e R s m args below meth c Q G nL pc L (xI x :: st) h k n :=
  fun H locs ls hM hS hL hl => lv_if_ge hx hb hd ht (fun q => kt ((xi_le xrg0 hrx).mp q) H locs ls hM hS hL hl) (fun q => kf (by have := mt (xi_le xrg0 hrx).mpr q; omega) H locs ls hM hS hL hl)
theorem xw_if_gt (hx : p.tables.exec = Jvm.exec) (hb : c.code = cc) {x off : Int} {tgt : Nat} (hd : decode cc pc = .ok (.ifCond .gt off, 3)) (ht : (pc : Int) + off = (tgt : Int)) (hrx : xrg x) (kt : 0 < x → xW T p l e R s m args below meth c Q G nL tgt L st h k n) (kf : x ≤ 0 → xW T p l e R s m args below meth c Q G nL (pc + 3) L st h k n) : xW T p l e R s m args below meth c Q G nL pc L (xI x :: st) h k n :=
  fun H locs ls hM hS hL hl => lv_if_gt hx hb hd ht (fun q => kt ((xi_lt xrg0 hrx).mp q) H locs ls hM hS hL hl) (fun q => kf (by have := mt (xi_lt xrg0 hrx).mpr q; omega) H locs ls hM hS hL hl)
theorem xw_if_le (hx : p.tables.exec = Jvm.exec) (hb : c.code = cc) {x off : Int} {tgt : Nat} (hd : decode cc pc = .ok (.ifCond .le off, 3)) (ht : (pc : Int) + off = (tgt : Int)) (hrx : xrg x) (kt : x ≤ 0 → xW T p l e R s m args below meth c Q G nL tgt L st h k n) (kf : 0 < x → xW T p l e R s m args below meth c Q G nL (pc + 3) L st h k n) : xW T p l e R s m args below meth c Q G nL pc L (xI x :: st) h k n :=
  fun H locs ls hM hS hL hl => lv_if_le hx hb hd ht (fun q => kt ((xi_le hrx xrg0).mp q) H locs ls hM hS hL hl) (fun q => kf (by have := mt (xi_le hrx xrg0).mpr q; omega) H locs ls hM hS hL hl)
theorem xw_if_eq (hx : p.tables.exec = Jvm.exec) (hb : c.code = cc) {x off : Int} {tgt : Nat} (hd : decode cc pc = .ok (.ifCond .eq off, 3)) (ht : (pc : Int) + off = (tgt : Int)) (hrx : xrg x) (kt : x = 0 → xW T p l e R s m args below meth c Q G nL tgt L st h k n) (kf : x ≠ 0 → xW T p l e R s m args below meth c Q G nL (pc + 3) L st h k n) : xW T p l e R s m args below meth c Q G nL pc L (xI x :: st) h k n :=
  fun H locs ls hM hS hL hl => lv_if_eq hx hb hd ht (fun q => kt ((xi_eq hrx xrg0).mp q) H locs ls hM hS hL hl) (fun q => kf (by have := mt (xi_eq hrx xrg0).mpr q; omega) H locs ls hM hS hL hl)
theorem xw_if_ne (hx : p.tables.exec = Jvm.exec) (hb : c.code = cc) {x off : Int} {tgt : Nat} (hd : decode cc pc = .ok (.ifCond .ne off, 3)) (ht : (pc : Int) + off = (tgt : Int)) (hrx : xrg x) (kt : x ≠ 0 → xW T p l e R s m args below meth c Q G nL tgt L st h k n) (kf : x = 0 → xW T p l e R s m args below meth c Q G nL (pc + 3) L st h k n) : xW T p l e R s m args below meth c Q G nL pc L (xI x :: st) h k n :=
  fun H locs ls hM hS hL hl => lv_if_ne hx hb hd ht (fun q => kt (mt (xi_eq hrx xrg0).mpr q) H locs ls hM hS hL hl) (fun q => kf ((xi_eq hrx xrg0).mp q) H locs ls hM hS hL hl)
theorem xw_goto (hx : p.tables.exec = Jvm.exec) (hb : c.code = cc) {off : Int} {tgt : Nat} (hd : decode cc pc = .ok (.goto off, 3)) (ht : (pc : Int) + off = (tgt : Int)) (kk : xW T p l e R s m args below meth c Q G nL tgt L st h k n) : xW T p l e R s m args below meth c Q G nL pc L st h k n :=
  fun H locs ls hM hS hL hl => lv_goto hx hb hd ht (kk H locs ls hM hS hL hl)
theorem xw_tableOut (hx : p.tables.exec = Jvm.exec) (hb : c.code = cc) {dflt lo hi x : Int} {offs : Array Int} {len tgt : Nat} (hd : decode cc pc = .ok (.tableswitch dflt lo hi offs, len)) (hrx : xrg x) (hxo : x < lo ∨ hi < x) (ht : (pc : Int) + dflt = (tgt : Int)) (kk : xW T p l e R s m args below meth c Q G nL tgt L st h k n) : xW T p l e R s m args below meth c Q G nL pc L (xI x :: st) h k n :=
  fun H locs ls hM hS hL hl => lv_tableOut hx hb hd (by rw [xi_ti hrx]; exact hxo) ht (kk H locs ls hM hS hL hl)
theorem xw_tableIn (hx : p.tables.exec = Jvm.exec) (hb : c.code = cc) {dflt lo hi x off : Int} {offs : Array Int} {len tgt : Nat} (hd : decode cc pc = .ok (.tableswitch dflt lo hi offs, len)) (hrx : xrg x) (h1 : lo ≤ x) (h2 : x ≤ hi) (ho : offs[(x - lo).toNat]? = some off) (ht : (pc : Int) + off = (tgt : Int)) (kk : xW T p l e R s m args below meth c Q G nL tgt L st h k n) : xW T p l e R s m args below meth c Q G nL pc L (xI x :: st) h k n :=
  fun H locs ls hM hS hL hl => lv_tableIn hx hb hd (by rw [xi_ti hrx]; omega) (by rw [xi_ti hrx]; omega) (by rw [xi_ti hrx]; exact ho) ht (kk H locs ls hM hS hL hl)
/-! the heap -/
/-- a field reference of the class own: the kf-th field of class ci; of a nest mate, or not -/
def xFld (own : String) (idx ci kf : Nat) (ty : FieldType) (fin nest : Bool) : Prop := ∃ (C : String) (F : u_T) (N : Nat) (tys : Nat → FieldType), xCl[ci]? = some (C, F, N) ∧ kf < N ∧ (∀ w ∈ u_ws C F N, w ∈ xTB) ∧ (∀ k, k < N → parseFieldDescriptor (F k).2.2.1 = some (tys k)) ∧ (∀ a, a < N → ∀ b, b < N → a ≠ b → (F a).2.1 ≠ (F b).2.1) ∧ tys kf = ty ∧ (F kf).2.2.2 = fin ∧ (nest = false → Cond.fieldLink own idx (F kf).1 (F kf).2.1 (F kf).2.2.1 ∈ xTB ∧ (fin = true → (F kf).1 = own)) ∧ (nest = true → ∃ host : String, Cond.fieldLinkNest own idx (F kf).1 (F kf).2.1 (F kf).2.2.1 host ∈ xTB)
/-- a value of a field's type -/
def xfit : FieldType → xV → Bool
  | .int, .inl _ => true
  | .long, .inr (.inl _) => true
  | .object _, .inr (.inr _) => true
  | .array _, .inr (.inr _) => true
  | _, _ => false
theorem xfit_ok {G : xG} {ty : FieldType} {v : xV} (h : xfit ty v = true) : narrow ty (xc G v) = xc G v ∧ fits ty (xc G v) = true := by
  rcases v with z | z | z <;> cases ty <;> simp [xfit] at h
  · exact ⟨rfl, rfl⟩
  · exact ⟨rfl, rfl⟩
  · cases z <;> exact ⟨rfl, rfl⟩
  · cases z <;> exact ⟨rfl, rfl⟩
theorem xmt_P {H : Heap} (hM : xMt T G h H) {a ci : Nat} {fs : List xV} (ha : xrd T h a = some (.inl (ci, fs))) : va_P G.1 xCl [(xad G a, .inr (ci, fs.map (xc G)))] H := by
  intro j q hj
  have hz : j < 1 := (List.getElem?_eq_some_iff.mp hj).1
  rw [show j = 0 by omega] at hj
  cases hj
  exact (hM.2.2.2 a _ ha).1
theorem xw_get (hx : p.tables.exec = Jvm.exec) (hb : c.code = cc) (hts : ∀ w ∈ xTB, w.before args s = true) {own : String} (hown : s.vm.findClass own = some m.cls) (hK : xKn G s) {idx ci kf : Nat} {ty : FieldType} {fin nest : Bool} (hF : xFld own idx ci kf ty fin nest) (hd : decode cc pc = .ok (.getfield idx, 3)) {a : Nat} {fs : List xV} {v : xV} (ha : xrd T h a = some (.inl (ci, fs))) (hv : fs[kf]? = some v) (kk : xW T p l e R s m args below meth c Q G nL (pc + 3) L (v :: st) h k n) : xW T p l e R s m args below meth c Q G nL pc L (xR (some a) :: st) h k n := by
  intro H locs ls hM hS hL hl
  have hv' : (fs.map (xc G))[kf]? = some (xc G v) := by simp [hv]
  obtain ⟨C, F, N, tys, hc, hk, hin, -, -, -, -, hl1, hl2⟩ := hF
  cases nest with
  | false => exact va_get (D := G.1) hx hb hts hin hown hK.1 (xmt_P hM ha) 0 rfl hc kf hk (hts _ (hl1 rfl).1) (fun _ q => q) hv' hd (kk H locs ls hM hS hL hl)
  | true =>
    obtain ⟨host, hlink⟩ := hl2 rfl
    exact va_getN (D := G.1) hx hb hts hin hown hK.1 (xmt_P hM ha) 0 rfl hc kf hk (hts _ hlink) (fun _ q => q) hv' hd (kk H locs ls hM hS hL hl)
theorem xat_set {C : String} {F : u_T} {N q ci kf : Nat} {fs : List xV} {v : xV} {H1 : Heap} {cell : Cell} (hc : xCl[ci]? = some (C, F, N)) (hap : ∀ x y, x < N → y < N → x ≠ y → (G.1.2 ci) x ≠ (G.1.2 ci) y) (hk : kf < N) (hlen : kf < fs.length) (q2 : cell.cls = G.1.1 ci) (q3 : cell.vm = .none) (q4 : ∀ k, k < N → cell.slots[G.1.2 ci k]? = some (vp_V (fs.map (xc G)) k)) (e1 : H1[q]? = some (cell.setSlot (G.1.2 ci kf) (xc G v))) : xat G q (.inl (ci, fs.set kf v)) H1 := by
  refine ⟨_, hc, t_OB.to (V := updV (vp_V (fs.map (xc G))) kf (xc G v)) ⟨_, e1, q2, q3, t_set q4 hap hk _⟩ (fun j _ => ?_)⟩
  rw [vp_updV_set (by rw [List.length_map]; exact hlen), List.map_set]
theorem xw_put (hx : p.tables.exec = Jvm.exec) (hb : c.code = cc) (hts : ∀ w ∈ xTB, w.before args s = true) {own : String} (hown : s.vm.findClass own = some m.cls) (hK : xKn G s) {idx ci kf : Nat} {ty : FieldType} {fin nest : Bool} (hF : xFld own idx ci kf ty fin nest) (hnest : fin = true → meth.name = "<init>" ∧ nest = false) {v : xV} (hfit : xfit ty v = true) (hd : decode cc pc = .ok (.putfield idx, 3)) {a : Nat} (kk : xwf T h a ci kf v fun h' => xW T p l e R s m args below meth c Q G nL (pc + 3) L st h' k n) : xW T p l e R s m args below meth c Q G nL pc L (v :: xR (some a) :: st) h k n := by
  intro H locs ls hM hS hL hl
  obtain ⟨fs, h', ha, hlen, e1', e2', e3', kk⟩ := xwf_spec kk
  obtain ⟨C, F, N, tys, hc, hk, hin, hty0, hnm, hty, hfin, hl1, hl2⟩ := hF
  have hap := va_apart (D := G.1) (own := own) hts hin tys hty0 hnm hK.1 hc
  obtain ⟨r, h1, cell, q1, q2, q3, q4⟩ := (hM.2.2.2 a _ ha).1
  have hr : r = (C, F, N) := Option.some.inj (h1.symm.trans hc)
  subst hr
  have ha0 : a ≠ 0 := fun q => by
    obtain ⟨n', f', q'⟩ := (hM.2.2.2 a _ ha).2.mp q
    cases q'
  have hbase := xad_base (G := G) ha0
  obtain ⟨hS1, hfc, kC, hkC, hkind⟩ := hK.1.1 ci _ hc
  obtain ⟨cf, kf', fi, f, hi, hsl⟩ := hS1 kf hk
  have hlay := hts _ (hin _ (u_in_lay hk))
  unfold u_lay at hlay
  have hst := (u_facts hfc hkC (u_lays hts hin hk) hi).1
  obtain ⟨n1, n2⟩ := xfit_ok (G := G) hfit
  have hd1 : parseFieldDescriptor (F kf).2.2.1 = some ty := by rw [hty0 kf hk, hty]
  have put : ∀ H' : Heap, H'[xad G a]? = some (cell.setSlot (G.1.2 ci kf) (xc G v)) → H'.size = H.size → (∀ q, q ≠ xad G a → H'[q]? = H[q]?) → xMt T G h' H' := fun H' e1 e2 e3 => hM.put ha ha0 (fun n f q => by cases q) e2 e3 e1' e2' e3' (xat_set hc hap hk hlen q2 q3 q4 e1)
  cases fin with
  | false =>
    rw [if_neg (by rw [hfin]; decide)] at hlay
    have h6 := u_store hfc hkC hkind hlay hi hd1 n1 n2
    cases nest with
    | false =>
      refine W.putK hx hb (f := f) ⟨hown, hts _ (hl1 rfl).1, ⟨_, _, _, hi⟩, hst⟩ (by rw [q2]; exact h6) q1 q3 (by rw [hsl]; exact k2_hasslot (q4 kf hk)) rfl rfl hd fun H' e1 e2 e3 => ?_
      rw [hsl] at e1 ⊢
      exact kk H' _ ls (put H' e1 e2 e3) (hS.put e2 e3 hbase) hL hl
    | true =>
      obtain ⟨host, hlink⟩ := hl2 rfl
      refine va_WputK hx hb (f := f) hown (hts _ hlink) hi hst (by rw [q2]; exact h6) q1 q3 (by rw [hsl]; exact k2_hasslot (q4 kf hk)) rfl rfl hd fun H' e1 e2 e3 => ?_
      rw [hsl] at e1 ⊢
      exact kk H' _ ls (put H' e1 e2 e3) (hS.put e2 e3 hbase) hL hl
  | true =>
    rw [if_pos hfin] at hlay
    obtain ⟨hnm1, rfl⟩ := hnest rfl
    obtain ⟨hlink, hown2⟩ := hl1 rfl
    have hcf : m.cls = cf := by
      obtain ⟨_, _, c', _, _, _, -, -, hf', -, -, -, hown3, -⟩ := Cond.laysFinal_spec hlay
      have e1 : c' = cf := by have := hi.symm.trans hf'; simp at this; exact this.1.symm
      rw [hown2 rfl] at hown3
      rw [← e1]; exact Option.some.inj (hown.symm.trans hown3)
    have h6 := u_fits hfc hkC hkind (Or.inr hlay) hi hd1 n1 n2
    refine W.putFinK hx hb hown (hts _ hlink) hi hst hcf hnm1 (by rw [q2]; exact h6) q1 q3 (by rw [hsl]; exact k2_hasslot (q4 kf hk)) rfl rfl hd fun H' e1 e2 e3 => ?_
    rw [hsl] at e1 ⊢
    exact kk H' _ ls (put H' e1 e2 e3) (hS.put e2 e3 hbase) hL hl
end XROWS
end
section
/-! arrays, makings, returns -/
section XHEAP
variable {T : xT} {p : Program} {l : Launch} {e : Env} {R : Room} {s : State} {m : MethodId} {args : Array Value} {below : List Frame} {meth : Method} {c : Code} {Q : State → Prop} {cc : ByteArray} {G : xG} {nL : Nat} {pc : Nat} {L : xLs} {st : List xV} {h : xH} {k n : Nat}
/-- what the machine must know of an array's cell -/
theorem xarr {H : Heap} (hK : xKn G s) (hM : xMt T G h H) {a t N : Nat} {f : Nat → xV} {ty : FieldType} (ha : xrd T h a = some (.inr (t, N, f))) (ht : (t = 9 ∧ ty = .int) ∨ (t ≠ 9 ∧ xTys[t]? = some ty)) : ∃ cell : Cell, H[xad G a]? = some cell ∧ s.isArrayOf cell ty ∧ cell.vm ≠ .unknown ∧ cell.slots.size = N ∧ (∀ j, j < N → cell.slots[j]? = some (xc G (f j))) ∧ (t ≠ 9 → cell = arrV (G.2.1 t) N (fun j => xc G (f j))) := by
  have h1 := (hM.2.2.2 a _ ha).1
  unfold xat at h1
  rcases ht with ⟨rfl, rfl⟩ | ⟨h9, ht⟩
  · simp only [if_true] at h1
    exact ⟨_, h1.1, hK.2.2.1, hK.2.2.2.1, h1.2.1, h1.2.2, fun q => absurd rfl q⟩
  · simp only [if_neg h9] at h1
    exact ⟨_, h1, (hK.2.1 t _ ht).1 N _, fun q => (by cases q), arrV_size _ _ _, fun j hj => arrV_read _ _ hj, fun _ => rfl⟩
theorem xw_alen (hx : p.tables.exec = Jvm.exec) (hb : c.code = cc) (hK : xKn G s) (hd : decode cc pc = .ok (.arraylength, 1)) {a t N : Nat} {f : Nat → xV} {ty : FieldType} (ha : xrd T h a = some (.inr (t, N, f))) (ht : (t = 9 ∧ ty = .int) ∨ (t ≠ 9 ∧ xTys[t]? = some ty)) (kk : xW T p l e R s m args below meth c Q G nL (pc + 1) L (xI (N : Int) :: st) h k n) : xW T p l e R s m args below meth c Q G nL pc L (xR (some a) :: st) h k n := by
  intro H locs ls hM hS hL hl
  obtain ⟨cell, q1, q2, q3, q4, -, -⟩ := xarr hK hM ha ht
  exact W.alen (n := Int32.ofInt N) hx hb q1 q2 (by rw [q4]; rfl) rfl rfl hd (kk H locs ls hM hS hL hl)
theorem xw_iald (hx : p.tables.exec = Jvm.exec) (hb : c.code = cc) (hK : xKn G s) (hd : decode cc pc = .ok (.iaload, 1)) {a t N : Nat} {f : Nat → xV} {z : Int} (ha : xrd T h a = some (.inr (t, N, f))) (ht : (t = 9 ∧ FieldType.int = .int) ∨ (t ≠ 9 ∧ xTys[t]? = some .int)) (h0 : 0 ≤ z) (h1 : z < N) (h2 : z < 2147483648) (kk : xW T p l e R s m args below meth c Q G nL (pc + 1) L (f z.toNat :: st) h k n) : xW T p l e R s m args below meth c Q G nL pc L (xI z :: xR (some a) :: st) h k n := by
  intro H locs ls hM hS hL hl
  obtain ⟨cell, q1, q2, q3, q4, q5, -⟩ := xarr hK hM ha ht
  refine W.iald (v := xc G (f z.toNat)) hx hb q1 q2 q3 (by rw [q4]; exact xi_in h0 h1 h2) ?_ rfl rfl hd (kk H locs ls hM hS hL hl)
  rw [xi_cl h0 h2]; exact q5 _ (by omega)
theorem xw_lald (hx : p.tables.exec = Jvm.exec) (hb : c.code = cc) (hK : xKn G s) (hd : decode cc pc = .ok (.laload, 1)) {a t N : Nat} {f : Nat → xV} {z : Int} (ha : xrd T h a = some (.inr (t, N, f))) (ht : (t = 9 ∧ FieldType.long = .int) ∨ (t ≠ 9 ∧ xTys[t]? = some .long)) (h0 : 0 ≤ z) (h1 : z < N) (h2 : z < 2147483648) (kk : xW T p l e R s m args below meth c Q G nL (pc + 1) L (f z.toNat :: st) h k n) : xW T p l e R s m args below meth c Q G nL pc L (xI z :: xR (some a) :: st) h k n := by
  intro H locs ls hM hS hL hl
  obtain ⟨cell, q1, q2, q3, q4, q5, -⟩ := xarr hK hM ha ht
  refine W.lald (v := xc G (f z.toNat)) hx hb q1 q2 q3 (by rw [q4]; exact xi_in h0 h1 h2) ?_ rfl rfl hd (kk H locs ls hM hS hL hl)
  rw [xi_cl h0 h2]; exact q5 _ (by omega)
theorem xw_aald (hx : p.tables.exec = Jvm.exec) (hb : c.code = cc) (hK : xKn G s) (hd : decode cc pc = .ok (.aaload, 1)) {a t N : Nat} {f : Nat → xV} {ty : FieldType} {z : Int} (ha : xrd T h a = some (.inr (t, N, f))) (ht : (t = 9 ∧ ty = .int) ∨ (t ≠ 9 ∧ xTys[t]? = some ty)) (href : ty.isReference = true) (h0 : 0 ≤ z) (h1 : z < N) (h2 : z < 2147483648) (kk : xW T p l e R s m args below meth c Q G nL (pc + 1) L (f z.toNat :: st) h k n) : xW T p l e R s m args below meth c Q G nL pc L (xI z :: xR (some a) :: st) h k n := by
  intro H locs ls hM hS hL hl
  obtain ⟨cell, q1, q2, q3, q4, q5, -⟩ := xarr hK hM ha ht
  refine W.aald (v := xc G (f z.toNat)) (ty := ty) hx hb q1 q2 href q3 (by rw [q4]; exact xi_in h0 h1 h2) ?_ rfl rfl hd (kk H locs ls hM hS hL hl)
  rw [xi_cl h0 h2]; exact q5 _ (by omega)
theorem xat_ast {q t N i : Nat} {f : Nat → xV} {v : xV} {H1 : Heap} (ht : t ≠ 9) (e : H1[q]? = some ((arrV (G.2.1 t) N (fun j => xc G (f j))).setSlot i (xc G v))) : xat G q (.inr (t, N, xup f i v)) H1 := by
  unfold xat
  simp only [if_neg ht]
  rw [e, arrV_store]
  congr 2
  funext q
  by_cases hq : q = i
  · subst hq; simp [updV, xup]
  · simp [updV, xup, hq]
theorem xMt.ne0 {H : Heap} (hM : xMt T G h H) {a t N : Nat} {f : Nat → xV} (ha : xrd T h a = some (.inr (t, N, f))) (ht : t ≠ 9) : a ≠ 0 := fun q => by
  obtain ⟨n', f', q'⟩ := (hM.2.2.2 a _ ha).2.mp q
  cases q'
  exact ht rfl
theorem xw_iast (hx : p.tables.exec = Jvm.exec) (hb : c.code = cc) (hK : xKn G s) (hd : decode cc pc = .ok (.iastore, 1)) {a t N : Nat} {f : Nat → xV} {z v : Int} (ha : xrd T h a = some (.inr (t, N, f))) (h9 : t ≠ 9) (ht : xTys[t]? = some .int) (h0 : 0 ≤ z) (h1 : z < N) (h2 : z < 2147483648) (kk : xwa T h a z.toNat (xI v) fun h' => xW T p l e R s m args below meth c Q G nL (pc + 1) L st h' k n) : xW T p l e R s m args below meth c Q G nL pc L (xI v :: xI z :: xR (some a) :: st) h k n := by
  intro H locs ls hM hS hL hl
  obtain ⟨cell, q1, q2, q3, q4, q5, q6⟩ := xarr hK hM ha (Or.inr ⟨h9, ht⟩)
  obtain ⟨h', e1', e2', e3', kk⟩ := xwa_spec ha kk
  have ha0 := hM.ne0 ha h9
  refine W.iast hx hb q1 q2 q3 (by rw [q4]; exact xi_in h0 h1 h2) rfl rfl hd fun H1 e1 z1 oq => ?_
  rw [xi_cl h0 h2] at e1
  rw [q6 h9] at e1
  exact kk H1 _ ls (hM.put ha ha0 (fun n f q => by cases q; exact h9 rfl) z1 oq e1' e2' e3' (xat_ast h9 e1)) (hS.put z1 oq (xad_base ha0)) hL hl
theorem xw_last (hx : p.tables.exec = Jvm.exec) (hb : c.code = cc) (hK : xKn G s) (hd : decode cc pc = .ok (.lastore, 1)) {a t N : Nat} {f : Nat → xV} {z v : Int} (ha : xrd T h a = some (.inr (t, N, f))) (h9 : t ≠ 9) (ht : xTys[t]? = some .long) (h0 : 0 ≤ z) (h1 : z < N) (h2 : z < 2147483648) (kk : xwa T h a z.toNat (xJ v) fun h' => xW T p l e R s m args below meth c Q G nL (pc + 1) L st h' k n) : xW T p l e R s m args below meth c Q G nL pc L (xJ v :: xI z :: xR (some a) :: st) h k n := by
  intro H locs ls hM hS hL hl
  obtain ⟨cell, q1, q2, q3, q4, q5, q6⟩ := xarr hK hM ha (Or.inr ⟨h9, ht⟩)
  obtain ⟨h', e1', e2', e3', kk⟩ := xwa_spec ha kk
  have ha0 := hM.ne0 ha h9
  refine W.last hx hb q1 q2 q3 (by rw [q4]; exact xi_in h0 h1 h2) rfl rfl hd fun H1 e1 z1 oq => ?_
  rw [xi_cl h0 h2] at e1
  rw [q6 h9] at e1
  exact kk H1 _ ls (hM.put ha ha0 (fun n f q => by cases q; exact h9 rfl) z1 oq e1' e2' e3' (xat_ast h9 e1)) (hS.put z1 oq (xad_base ha0)) hL hl
/-- a class that is made: its number of fields, and what they hold at first -/
def xNw (own : String) (idx ci : Nat) (fs : List xV) : Prop := ∃ (C : String) (F : u_T) (N : Nat) (tys : Nat → FieldType), xCl[ci]? = some (C, F, N) ∧ (∀ w ∈ u_ws C F N, w ∈ xTB) ∧ (∀ k, k < N → parseFieldDescriptor (F k).2.2.1 = some (tys k)) ∧ Cond.classLink own idx C ∈ xTB ∧ Cond.instantiable C N ∈ xTB ∧ Cond.initialized C ∈ xTB ∧ fs.length = N ∧ ∀ (G : xG) (j : Nat), j < N → defaultValue (tys j) = vp_V (fs.map (xc G)) j
theorem xw_new (hx : p.tables.exec = Jvm.exec) (hb : c.code = cc) (hts : ∀ w ∈ xTB, w.before args s = true) {own : String} (hown : s.vm.findClass own = some m.cls) (hK : xKn G s) (hbase : G.2.2.1 ≤ s.heap.size) {idx ci : Nat} {fs : List xV} (hN : xNw own idx ci fs) (hd : decode cc pc = .ok (.new idx, 3)) (hcells : k + 1 ≤ R.cells) (hslots : n + fs.length ≤ R.slots) (kk : xW T p l e R s m args below meth c Q G nL (pc + 3) L (xR (some h.2.2) :: st) (h.1, xup h.2.1 h.2.2 (some (.inl (ci, fs))), h.2.2 + 1) (k + 1) (n + fs.length)) : xW T p l e R s m args below meth c Q G nL pc L st h k n := by
  intro H locs ls hM hS hL hl
  obtain ⟨C, F, N, tys, hc, hin, hty, w1, w2, w3, hlen, hfs⟩ := hN
  subst hlen
  have hKn := hK.1.1 ci _ hc
  refine W.newcK hx hb hown (hts _ w1) (hts _ w2) (hts _ w3) rfl hd hcells hslots hKn.2.1 rfl fun H1 kC hkC e1 z1 o1 => ?_
  have hat : xat G H.size (.inl (ci, fs)) H1 := ⟨_, hc, (u_born tys hts hin hKn hkC e1 hty).to (hfs G)⟩
  have := kk H1 locs ls (hM.push (fun n f q => by cases q) z1 o1 hat) ⟨Nat.le_trans hS.1 (by omega), fun q h1 h2 => (o1 q (Nat.lt_of_lt_of_le h1 hS.1)).trans (hS.2.1 q h1 h2), hS.2.2⟩ hL hl
  rw [List.map_cons, show xc G (xR (some h.2.2)) = .ref H.size from congrArg Value.ref hM.2.2.1.symm] at this
  exact this
theorem xw_newa (hx : p.tables.exec = Jvm.exec) (hb : c.code = cc) (hts : ∀ w ∈ xTB, w.before args s = true) (hK : xKn G s) {at_ : ArrayType} {t : Nat} {z : Int} {v0 : xV} (h9 : t ≠ 9) (ht : xTys[t]? = some (newarray.typeOf at_)) (hra : ∀ cA : ClassId, va_RA s cA (newarray.typeOf at_) → s.vm.findClass ("[" ++ (newarray.typeOf at_).toString) = some cA) (hw : Cond.arrayClass (newarray.typeOf at_) ∈ xTB) (hv0 : xc G v0 = defaultValue (newarray.typeOf at_)) (hd : decode cc pc = .ok (.newarray at_, 2)) (h0 : 0 ≤ z) (h1 : z.toNat * componentBytes (newarray.typeOf at_) ≤ 536870912) (h2 : z < 2147483648) (hcells : k + 1 ≤ R.cells) (hslots : n + z.toNat ≤ R.slots) (kk : xW T p l e R s m args below meth c Q G nL (pc + 2) L (xR (some h.2.2) :: st) (h.1, xup h.2.1 h.2.2 (some (.inr (t, z.toNat, fun _ => v0))), h.2.2 + 1) (k + 1) (n + z.toNat)) : xW T p l e R s m args below meth c Q G nL pc L (xI z :: st) h k n := by
  intro H locs ls hM hS hL hl
  refine va_newaK hx hb (hts _ hw) rfl hd rfl (xi_nn h0 h2) (xi_cl h0 h2) h1 hcells hslots rfl fun H1 cA e1 z1 o1 hAr hNm => ?_
  have hcA : cA = G.2.1 t := Option.some.inj (hNm.symm.trans (hra _ (hK.2.1 t _ ht).2))
  subst hcA
  have hat : xat G H.size (.inr (t, z.toNat, fun _ => v0)) H1 := by
    unfold xat
    simp only [if_neg h9, hv0]
    exact e1
  have := kk H1 locs ls (hM.push (fun n f q => by cases q; exact h9 rfl) z1 o1 hat) ⟨Nat.le_trans hS.1 (by omega), fun q h1 h2 => (o1 q (Nat.lt_of_lt_of_le h1 hS.1)).trans (hS.2.1 q h1 h2), hS.2.2⟩ hL hl
  rw [List.map_cons, show xc G (xR (some h.2.2)) = .ref H.size from congrArg Value.ref hM.2.2.1.symm] at this
  exact this
theorem xat_arr {q t N : Nat} {f : Nat → xV} {H : Heap} (ht : t ≠ 9) (h : H[q]? = some (arrV (G.2.1 t) N (fun j => xc G (f j)))) : xat G q (.inr (t, N, f)) H := by
  unfold xat
  simp only [if_neg ht]
  exact h
theorem arrV_congr {cI : ClassId} {N : Nat} {f g : Nat → Value} (h : ∀ j, j < N → f j = g j) : arrV cI N f = arrV cI N g := by
  unfold arrV
  have : (fun j : Fin N => f j.val) = fun j : Fin N => g j.val := funext fun j => h j.val j.isLt
  rw [this]
theorem xouter (c : ClassId) (N h0 : Nat) : ∀ i : Nat, Jvm.Free.Multi.outerC c N h0 i = arrV c N (fun j => if j < i then .ref (h0 + 1 + j) else .null)
  | 0 => by
    show ({ cls := c, slots := Array.replicate N .null, vm := .none } : Cell) = _
    rw [arrV_new]
    refine congrArg (arrV c N) (funext fun j => ?_)
    simp
  | i + 1 => by
    show (Jvm.Free.Multi.outerC c N h0 i).setSlot i (.ref (h0 + 1 + i)) = _
    rw [xouter c N h0 i, arrV_store]
    refine congrArg (arrV c N) (funext fun j => ?_)
    by_cases e : j = i
    · subst e
      simp [updV]
    · by_cases h : j < i
      · simp [updV, e, h, Nat.lt_succ_of_lt h]
      · simp [updV, e, h, show ¬ j < i + 1 by omega]
/-- y new arrays of z ints behind an array of them -/
def xgrid (D : Nat → Option xE) (a y z : Nat) : Nat → Option xE := fun b => if b = a then some (.inr (2, y, fun j => xR (some (a + 1 + j)))) else if a < b ∧ b < a + 1 + y then some (.inr (0, z, fun _ => xI 0)) else D b
theorem xw_mna (hx : p.tables.exec = Jvm.exec) (hb : c.code = cc) (hts : ∀ w ∈ xTB, w.before args s = true) {own : String} (hown : s.vm.findClass own = some m.cls) (hK : xKn G s) {idx : Nat} (w1 : Cond.classLink own idx "[[I" ∈ xTB) (w3 : Cond.arrayClass .int ∈ xTB) {y z : Int} (hd : decode cc pc = .ok (.multianewarray idx 2, 4)) (h0 : 0 ≤ y) (h1 : y ≤ 10000) (h2 : 0 ≤ z) (h3 : z ≤ 10000) (hcells : k + (1 + y.toNat) ≤ R.cells) (hslots : n + (y.toNat + y.toNat * z.toNat) ≤ R.slots) (kk : xW T p l e R s m args below meth c Q G nL (pc + 4) L (xR (some h.2.2) :: st) (h.1, xgrid h.2.1 h.2.2 y.toNat z.toNat, h.2.2 + 1 + y.toNat) (k + (1 + y.toNat)) (n + (y.toNat + y.toNat * z.toNat))) : xW T p l e R s m args below meth c Q G nL pc L (xI z :: xI y :: st) h k n := by
  intro H locs ls hM hS hL hl T0 hT Xs
  have iy := xi_cl h0 (show y < 2147483648 by omega)
  have iz := xi_cl h2 (show z < 2147483648 by omega)
  obtain ⟨vm₁, cA, comp, -, fA, fC, -, -, X', step⟩ := Xs.multianewarray2F (ty := .int) hx hown (hts _ w1) hK.2.2.2.2.1 (hts _ w3) (g := F0 m pc ls ((xI z :: xI y :: st).map (xc G))) rfl (by rw [hb]; exact hd) (n := Int32.ofInt y) (k := Int32.ofInt z) (rest := st.map (xc G)) rfl (xi_nn h0 (by omega)) (xi_nn h2 (by omega)) (by rw [iy]; omega) (by rw [iz]; show z.toNat * 4 ≤ _; omega) (by rw [iz]; omega) rfl rfl (by rw [iy]; exact hcells) (by rw [iy, iz]; exact hslots)
  rw [iy, iz] at X' step
  obtain rfl : cA = G.2.1 2 := Option.some.inj (fA.symm.trans (hK.2.1 2 _ rfl).2)
  obtain rfl : comp = G.2.1 0 := Option.some.inj (fC.symm.trans (hK.2.1 0 _ rfl).2)
  generalize hF : Jvm.Free.Multi.fill (T0.setVm vm₁) (G.2.1 2) (G.2.1 0) y.toNat z.toNat (defaultValue .int) y.toNat = F at X' step
  have hTh : (T0.setVm vm₁).heap = H := hT
  obtain ⟨f1, f2, -, -⟩ := Jvm.Free.Multi.fill_facts (T0.setVm vm₁) (G.2.1 2) (G.2.1 0) y.toNat z.toNat (defaultValue .int) y.toNat
  rw [hF, hTh] at f1 f2
  have hold : ∀ x : Nat, x < H.size → F.heap[x]? = H[x]? := fun x hx => by
    have := Jvm.Free.Multi.fill_old (T0.setVm vm₁) (G.2.1 2) (G.2.1 0) y.toNat z.toNat (defaultValue .int) (a := x) (by rw [hTh]; exact hx) y.toNat
    rw [hF, hTh] at this
    exact this
  have hrow : ∀ j : Nat, j < y.toNat → F.heap[H.size + 1 + j]? = some (arrV (G.2.1 0) z.toNat (fun _ => .int 0)) := fun j hj => by
    have := Jvm.Free.Multi.fill_inner (T0.setVm vm₁) (G.2.1 2) (G.2.1 0) y.toNat z.toNat (defaultValue .int) y.toNat j hj
    rw [hF, hTh] at this
    rw [this]
    exact congrArg some (arrV_new _ _ _)
  rw [xouter] at f2
  have hsz := hM.2.2.1
  have hpos := hM.2.1
  have hMt : xMt T G (h.1, xgrid h.2.1 h.2.2 y.toNat z.toNat, h.2.2 + 1 + y.toNat) F.heap := by
    refine ⟨hM.1, by show 1 ≤ h.2.2 + 1 + y.toNat; omega, ?_, fun q e' hq => ?_⟩
    · rw [f1, hsz]
      show xad G h.2.2 + 1 + y.toNat = xad G (h.2.2 + 1 + y.toNat)
      rw [show h.2.2 + 1 + y.toNat = h.2.2 + (1 + y.toNat) by omega, xad_add hpos]
      omega
    · by_cases hqn : q < h.2.2
      · have hq' : xrd T h q = some e' := by
          unfold xrd at hq ⊢
          cases hTq : T q with
          | none =>
            rw [hTq] at hq
            simp only [xgrid, if_neg (show ¬ q = h.2.2 by omega), if_neg (show ¬ (h.2.2 < q ∧ q < h.2.2 + 1 + y.toNat) by omega)] at hq
            exact hq
          | some d => rw [hTq] at hq; exact hq
        have h4 := hM.2.2.2 q e' hq'
        exact ⟨h4.1.kept (hold _ h4.1.lt), h4.2⟩
      · have hTq := hM.freshT (a := q) (by omega)
        unfold xrd at hq
        rw [hTq] at hq
        simp only [xgrid] at hq
        by_cases hqa : q = h.2.2
        · subst hqa
          rw [if_pos rfl] at hq
          cases hq
          refine ⟨?_, fun q0 => absurd q0 (by omega), fun ⟨n', f', q0⟩ => by cases q0⟩
          refine xat_arr (by decide) ?_
          rw [← hsz, f2]
          refine congrArg some (arrV_congr fun j hj => ?_)
          rw [if_pos hj]
          show Value.ref (H.size + 1 + j) = Value.ref (xad G (h.2.2 + 1 + j))
          rw [show h.2.2 + 1 + j = h.2.2 + (1 + j) by omega, xad_add hpos, hsz]
          exact congrArg Value.ref (Nat.add_assoc _ _ _)
        · rw [if_neg hqa] at hq
          by_cases hqb : h.2.2 < q ∧ q < h.2.2 + 1 + y.toNat
          · rw [if_pos hqb] at hq
            cases hq
            refine ⟨?_, fun q0 => absurd q0 (by omega), fun ⟨n', f', q0⟩ => by cases q0⟩
            obtain ⟨j, rfl⟩ : ∃ j, q = h.2.2 + (1 + j) := ⟨q - h.2.2 - 1, by omega⟩
            refine xat_arr (by decide) ?_
            rw [xad_add hpos, ← hsz, show H.size + (1 + j) = H.size + 1 + j by omega, hrow j (by omega)]
            rfl
          · rw [if_neg hqb] at hq
            have h4 := hM.fresh (a := q) (by omega)
            unfold xrd at h4
            rw [hTq] at h4
            cases h4.symm.trans hq
  have hS' : va_S (xA G) s.heap F.heap locs := ⟨by rw [f1]; have := hS.1; omega, fun q h1 h2 => (hold q (Nat.lt_of_lt_of_le h1 hS.1)).trans (hS.2.1 q h1 h2), hS.2.2⟩
  have key := kk F.heap locs ls hMt hS' hL hl
  rw [show k + (1 + y.toNat) = k + 1 + y.toNat by omega, show n + (y.toNat + y.toNat * z.toNat) = n + y.toNat + y.toNat * z.toNat by omega] at key
  obtain ⟨t, a1, b1⟩ := key F rfl X'
  refine ⟨t, step t ?_, b1⟩
  have e : T0.heap.size = xad G h.2.2 := by rw [hT, hsz]
  rw [e]
  exact a1
theorem xw_copy (hx : p.tables.exec = Jvm.exec) (hb : c.code = cc) (hml : c.maxLocals = nL) (hts : ∀ w ∈ xTB, w.before args s = true) {own : String} (hown : s.vm.findClass own = some m.cls) (hK : xKn G s) {idx : Nat} (w1 : Cond.methodLink own idx arraycopyName ∈ xTB) (w2 : Cond.native arraycopyName ∈ xTB) (w3 : Cond.static arraycopyName ∈ xTB) (w4 : Cond.initialized "java/lang/System" ∈ xTB) (hty0 : xTys[0]? = some .int) (hd : decode cc pc = .ok (.invokestatic idx, 3)) {a0 a1 n0 n1 : Nat} {sp dp len : Int} (ha0 : T a0 = some (.inr (0, n0, none))) (ha1 : T a1 = some (.inr (0, n1, none))) (h1 : 0 ≤ sp) (h2 : 0 ≤ dp) (h3 : 0 ≤ len) (h4 : sp + len ≤ n0) (h5 : dp + len ≤ n1) (h6 : (n0 : Int) < 2147483648) (h7 : (n1 : Int) < 2147483648) (hfr : 1 ≤ R.frames) (hlo : (st.map fun v => (xc G v).category).sum + (nativeFrameWords "java/lang/System" "arraycopy" 5 + 11) ≤ R.locals) (kk : xW T p l e R s m args below meth c Q G nL (pc + 3) L st (xup h.1 a1 (va_cpy (h.1 a0) (h.1 a1) sp.toNat dp.toNat len.toNat), h.2) k n) : xW T p l e R s m args below meth c Q G nL pc L (xI len :: xI dp :: xR (some a1) :: xI sp :: xR (some a0) :: st) h k n := by
  intro H locs ls hM hS hL hl
  have r0 : xrd T h a0 = some (.inr (0, n0, fun j => xI (h.1 a0 j))) := by simp [xrd, ha0, xde, xda]
  have r1 : xrd T h a1 = some (.inr (0, n1, fun j => xI (h.1 a1 j))) := by simp [xrd, ha1, xde, xda]
  have c0 := (hM.2.2.2 a0 _ r0).1
  have c1 := (hM.2.2.2 a1 _ r1).1
  unfold xat at c0 c1
  simp only [if_neg (show ¬ (0 : Nat) = 9 by decide)] at c0 c1
  have ne1 := hM.ne0 r1 (by decide)
  have b1 := xad_base (G := G) ne1
  have i0 := xi_cl h1 (show sp < 2147483648 by omega)
  have i1 := xi_cl h2 (show dp < 2147483648 by omega)
  have i2 := xi_cl h3 (show len < 2147483648 by omega)
  obtain ⟨-, k0, hk0, cm0, hkk0⟩ := (hK.2.1 0 _ hty0).1 n0 (fun j => xc G (xI (h.1 a0 j)))
  intro S hT X
  obtain ⟨vm', X', step⟩ := X.arraycopy hx hown (hts _ w1) (hts _ w2) (hts _ w3) (hts _ w4) (src := xad G a0) (dst := xad G a1) (cs := arrV (G.2.1 0) n0 (fun j => xc G (xI (h.1 a0 j)))) (cd := arrV (G.2.1 0) n1 (fun j => xc G (xI (h.1 a1 j)))) (srcPos := Int32.ofInt sp) (destPos := Int32.ofInt dp) (n := Int32.ofInt len) (by rw [hT]; exact c0) (by rw [hT]; exact c1)
    (fun _ h => by cases h) (fun _ h => by cases h) (fun h => by cases h) (fun h => by cases h) hk0 hk0 hkk0 hkk0 (by decide) (xi_nn h1 (by omega)) (xi_nn h2 (by omega)) (xi_nn h3 (by omega))
    (by rw [xi_ti ⟨by omega, by omega⟩, xi_ti ⟨by omega, by omega⟩, arrV_size]; omega)
    (by rw [xi_ti ⟨by omega, by omega⟩, xi_ti ⟨by omega, by omega⟩, arrV_size]; omega)
    (fun vm₁ _ i hi => by
      rw [i2] at hi
      have e : (arrV (G.2.1 0) n0 (fun j => xc G (xI (h.1 a0 j)))).slots.getD ((Int32.ofInt sp).toNatClampNeg + i) .null = xc G (xI (h.1 a0 (sp.toNat + i))) := by
        rw [Array.getD_eq_getD_getElem?, i0, arrV_read _ _ (by omega)]
        rfl
      rw [e]
      exact ⟨rfl, trivial⟩)
    (g := F0 m pc ls ((xI len :: xI dp :: xR (some a1) :: xI sp :: xR (some a0) :: st).map (xc G))) rfl (by rw [hml]; exact hl.1) (rest := st.map (xc G)) rfl (by rw [hb]; exact hd) hfr (by rw [List.map_map]; show 2 * 0 + _ + _ ≤ _; have := hlo; simp only [Function.comp_def] at this ⊢; omega)
  have e1 : copied (arrV (G.2.1 0) n0 (fun j => xc G (xI (h.1 a0 j)))) (arrV (G.2.1 0) n1 (fun j => xc G (xI (h.1 a1 j)))) (Int32.ofInt sp) (Int32.ofInt dp) (Int32.ofInt len) = arrV (G.2.1 0) n1 (fun j => xc G (xI (va_cpy (h.1 a0) (h.1 a1) sp.toNat dp.toNat len.toNat j))) := by
    have := va_copied (fun z => xc G (xI z)) (G.2.1 0) (G.2.1 0) (n0 := n0) (n1 := n1) (sp := sp.toNat) (dp := dp.toNat) (n := len.toNat) (h.1 a0) (h.1 a1) (by omega)
    rw [← i0, ← i1, ← i2] at this ⊢
    exact this
  rw [e1] at X' step
  have hlt : xad G a1 < H.size := (Array.getElem?_eq_some_iff.mp c1).1
  have oq : ∀ q : Nat, q ≠ xad G a1 → (H.setIfInBounds (xad G a1) (arrV (G.2.1 0) n1 (fun j => xc G (xI (va_cpy (h.1 a0) (h.1 a1) sp.toNat dp.toNat len.toNat j)))))[q]? = H[q]? := fun q hq => by simp [Array.getElem?_setIfInBounds, Ne.symm hq]
  have hat : xat G (xad G a1) (.inr (0, n1, fun j => xI (va_cpy (h.1 a0) (h.1 a1) sp.toNat dp.toNat len.toNat j))) (H.setIfInBounds (xad G a1) (arrV (G.2.1 0) n1 (fun j => xc G (xI (va_cpy (h.1 a0) (h.1 a1) sp.toNat dp.toNat len.toNat j))))) := by
    unfold xat
    simp only [if_neg (show ¬ (0 : Nat) = 9 by decide)]
    simp [Array.getElem?_setIfInBounds, hlt]
  obtain ⟨t, a1', b1'⟩ := kk _ _ ls (hM.put (h' := (xup h.1 a1 (va_cpy (h.1 a0) (h.1 a1) sp.toNat dp.toNat len.toNat), h.2)) r1 ne1 (fun n f q => by cases q) (by simp) oq (by simp [xrd, ha1, xde, xda, xup_at]) (fun b hb => xrd_other hb (xup_ne hb) rfl) rfl hat)
    ⟨by simp; exact hS.1, fun q g1 g2 => by
      rw [oq q (fun e => g2 (by rw [e]; exact b1))]
      exact hS.2.1 q g1 g2, fun q hq => by
      rcases List.mem_append.mp hq with h | h
      · exact hS.2.2 q h
      · obtain ⟨z, -, hz⟩ := List.mem_map.mp h
        rw [← hz]
        exact b1⟩ hL hl _ (by rw [← hT]; rfl) X'
  exact ⟨t, step t a1', b1'⟩
theorem xw_max (hx : p.tables.exec = Jvm.exec) (hb : c.code = cc) (hml : c.maxLocals = nL) (hts : ∀ w ∈ xTB, w.before args s = true) {own : String} (hown : s.vm.findClass own = some m.cls) {idx : Nat} (w1 : Cond.methodLink own idx Lib.Math.max.name ∈ xTB) (w2 : Cond.static Lib.Math.max.name ∈ xTB) (w3 : Cond.initialized "java/lang/Math" ∈ xTB) (w4 : Cond.code Lib.Math.max.name Lib.Math.max.code 2 (some .int) ∈ xTB) (hd : decode cc pc = .ok (.invokestatic idx, 3)) {x y : Int} (hrx : xrg x) (hry : xrg y) (hfr : 1 ≤ R.frames) (hlo : (st.map fun v => (xc G v).category).sum + 13 ≤ R.locals) (hk : k ≤ R.cells) (hn : n ≤ R.slots) (kk : xW T p l e R s m args below meth c Q G nL (pc + 3) L (xI (max x y) :: st) h k n) : xW T p l e R s m args below meth c Q G nL pc L (xI y :: xI x :: st) h k n := by
  intro H locs ls hM hS hL hl
  refine va_mmax hx hb (hml.trans hl.1.symm) hown (hts _ w1) (hts _ w2) (hts _ w3) (hts _ w4) hfr (by rw [List.map_map]; exact hlo) hk hn hd ?_
  have h1 := kk H locs ls hM hS hL hl
  rw [List.map_cons, show xc G (xI (max x y)) = .int (if Int32.ofInt x < Int32.ofInt y then Int32.ofInt y else Int32.ofInt x) by
    by_cases q : x < y
    · rw [if_pos ((xi_lt hrx hry).mpr q), show max x y = y by omega]; rfl
    · rw [if_neg (mt (xi_lt hrx hry).mp q), show max x y = x by omega]; rfl] at h1
  exact h1
theorem xw_min (hx : p.tables.exec = Jvm.exec) (hb : c.code = cc) (hml : c.maxLocals = nL) (hts : ∀ w ∈ xTB, w.before args s = true) {own : String} (hown : s.vm.findClass own = some m.cls) {idx : Nat} (w1 : Cond.methodLink own idx Lib.Math.min.name ∈ xTB) (w2 : Cond.static Lib.Math.min.name ∈ xTB) (w3 : Cond.initialized "java/lang/Math" ∈ xTB) (w4 : Cond.code Lib.Math.min.name Lib.Math.min.code 2 (some .int) ∈ xTB) (hd : decode cc pc = .ok (.invokestatic idx, 3)) {x y : Int} (hrx : xrg x) (hry : xrg y) (hfr : 1 ≤ R.frames) (hlo : (st.map fun v => (xc G v).category).sum + 13 ≤ R.locals) (hk : k ≤ R.cells) (hn : n ≤ R.slots) (kk : xW T p l e R s m args below meth c Q G nL (pc + 3) L (xI (min x y) :: st) h k n) : xW T p l e R s m args below meth c Q G nL pc L (xI y :: xI x :: st) h k n := by
  intro H locs ls hM hS hL hl
  refine va_mmin hx hb (hml.trans hl.1.symm) hown (hts _ w1) (hts _ w2) (hts _ w3) (hts _ w4) hfr (by rw [List.map_map]; exact hlo) hk hn hd ?_
  have h1 := kk H locs ls hM hS hL hl
  rw [List.map_cons, show xc G (xI (min x y)) = .int (if Int32.ofInt y < Int32.ofInt x then Int32.ofInt y else Int32.ofInt x) by
    by_cases q : y < x
    · rw [if_pos ((xi_lt hry hrx).mpr q), show min x y = y by omega]; rfl
    · rw [if_neg (mt (xi_lt hry hrx).mp q), show min x y = x by omega]; rfl] at h1
  exact h1
theorem xw_abs (hx : p.tables.exec = Jvm.exec) (hb : c.code = cc) (hml : c.maxLocals = nL) (hts : ∀ w ∈ xTB, w.before args s = true) {own : String} (hown : s.vm.findClass own = some m.cls) {idx : Nat} (w1 : Cond.methodLink own idx Lib.Math.abs.name ∈ xTB) (w2 : Cond.static Lib.Math.abs.name ∈ xTB) (w3 : Cond.initialized "java/lang/Math" ∈ xTB) (w4 : Cond.code Lib.Math.abs.name Lib.Math.abs.code 1 (some .int) ∈ xTB) (hd : decode cc pc = .ok (.invokestatic idx, 3)) {x : Int} (hrx : xrg x) (hfr : 1 ≤ R.frames) (hlo : (st.map fun v => (xc G v).category).sum + 13 ≤ R.locals) (hk : k ≤ R.cells) (hn : n ≤ R.slots) (kk : xW T p l e R s m args below meth c Q G nL (pc + 3) L (xI (if 0 ≤ x then x else -x) :: st) h k n) : xW T p l e R s m args below meth c Q G nL pc L (xI x :: st) h k n := by
  intro H locs ls hM hS hL hl
  refine va_mabs hx hb (hml.trans hl.1.symm) hown (hts _ w1) (hts _ w2) (hts _ w3) (hts _ w4) hfr (by rw [List.map_map]; exact hlo) hk hn hd ?_
  have h1 := kk H locs ls hM hS hL hl
  rw [List.map_cons, show xc G (xI (if 0 ≤ x then x else -x)) = .int (if 0 ≤ Int32.ofInt x then Int32.ofInt x else 0 - Int32.ofInt x) by
    by_cases q : 0 ≤ x
    · rw [xi_0, if_pos ((xi_le xrg0 hrx).mpr q), if_pos q]; rfl
    · rw [xi_0, if_neg (mt (xi_le xrg0 hrx).mp q), if_neg q, ← Int32.ofInt_sub, Int.zero_sub]; rfl] at h1
  exact h1
theorem xw_vret {Qc : Array Value → State → Outcome → State → Prop} (hx : p.tables.exec = Jvm.exec) (hb : c.code = cc) (hr : meth.sig.returnType = none) (hlocks : meth.locks = false) (hd : decode cc pc = .ok (.return_, 1)) (hq : ∀ (H : Heap) (t : State), xMt T G h H → t.heap = H → va_F (xA G) s t → Qc args s (.returned none) t) (st : List xV) (hst : st = []) : xW T p l e R s m args below meth c (MQ below Qc args s k n (xA G)) G nL pc L st h k n := by
  subst hst
  intro H locs ls hM hS hL hl
  exact W.vret hx hb hr (fun t ht hW => hq H t hM ht (hS.F ht)) hS.2.2 hd
theorem xw_iret {Qc : Array Value → State → Outcome → State → Prop} (hx : p.tables.exec = Jvm.exec) (hb : c.code = cc) {ty : FieldType} {z : Int} (hr : meth.sig.returnType = some ty) (hn : narrow ty (.int (Int32.ofInt z)) = .int (Int32.ofInt z)) (hlocks : meth.locks = false) (hd : decode cc pc = .ok (.ireturn, 1)) (hq : ∀ (H : Heap) (t : State), xMt T G h H → t.heap = H → va_F (xA G) s t → Qc args s (.returned (some (xc G (xI z)))) t) : xW T p l e R s m args below meth c (MQ below Qc args s k n (xA G)) G nL pc L [xI z] h k n := by
  intro H locs ls hM hS hL hl
  exact W.zret hx hb hr hn (fun t ht hW => hq H t hM ht (hS.F ht)) hS.2.2 hd
theorem xw_lret {Qc : Array Value → State → Outcome → State → Prop} (hx : p.tables.exec = Jvm.exec) (hb : c.code = cc) {z : Int} (hr : meth.sig.returnType = some .long) (hlocks : meth.locks = false) (hd : decode cc pc = .ok (.lreturn, 1)) (hq : ∀ (H : Heap) (t : State), xMt T G h H → t.heap = H → va_F (xA G) s t → Qc args s (.returned (some (xc G (xJ z)))) t) : xW T p l e R s m args below meth c (MQ below Qc args s k n (xA G)) G nL pc L [xJ z] h k n := by
  intro H locs ls hM hS hL hl
  exact W.lret hx hb hr (fun t ht hW => hq H t hM ht (hS.F ht)) hS.2.2 hd
theorem xw_aret {Qc : Array Value → State → Outcome → State → Prop} (hx : p.tables.exec = Jvm.exec) (hb : c.code = cc) {rt : FieldType} {r : Option Nat} (hr : meth.sig.returnType = some rt) (hrt : (∃ n, rt = .object n) ∨ ∃ t, rt = .array t) (hlocks : meth.locks = false) (hd : decode cc pc = .ok (.areturn, 1)) (hq : ∀ (H : Heap) (t : State), xMt T G h H → t.heap = H → va_F (xA G) s t → Qc args s (.returned (some (xc G (xR r)))) t) : xW T p l e R s m args below meth c (MQ below Qc args s k n (xA G)) G nL pc L [xR r] h k n := by
  intro H locs ls hM hS hL hl
  exact W.aret (v := xc G (xR r)) hx hb hr hrt (by cases r; exact Or.inl rfl; exact Or.inr ⟨_, rfl⟩) (fun t ht hW => hq H t hM ht (hS.F ht)) hS.2.2 hd
end XHEAP
end
section
/-! contracts and calls -/
def xws (μ : xMd) : List Cond := .code μ.1 μ.2.1 μ.2.2.1 μ.2.2.2 :: xTB
def xPc (T : xT) (G : xG) (as : List xV) (h : xH) : Array Value → State → Prop := fun v U => v = (as.map (xc G)).toArray ∧ xMt T G h U.heap ∧ xKn G U ∧ G.2.2.1 ≤ U.heap.size
def xQc (T : xT) (G : xG) (Q : Option xV → xH → Prop) : Array Value → State → Outcome → State → Prop := fun _ st o t => ∃ (r : Option xV) (h' : xH), o = .returned (r.map (xc G)) ∧ Q r h' ∧ xMt T G h' t.heap ∧ va_F (xA G) st t
/-- the method μ, called with as on the heap h, comes back, and Q holds of its answer and the heap; it asks fr frames, lo words of locals; makes at most mc cells of ms slots -/
def xCt (T : xT) (G : xG) (μ : xMd) (fr lo mc ms : Nat) (as : List xV) (h : xH) (Q : Option xV → xH → Prop) : Prop :=
  ∀ l : Launch, Met l μ.1 (xws μ) { frames := fr, cells := mc, slots := ms, locals := lo } (xPc T G as h) (xQc T G Q) mc ms (xA G)
theorem xPc_blind {T : xT} {G : xG} {as : List xV} {h : xH} : FrameBlind (xPc T G as h) := fun a U g mk q => ⟨q.1, q.2.1, q.2.2.1.same (u := U) (U := U.calling g mk a) (Vm.Alike.refl U.vm) rfl, q.2.2.2⟩
/-- a call site: own's pool number idx names μ, with na parameters -/
def xLk (own : String) (idx : Nat) (μ : xMd) (na : Nat) : Prop := (Cond.methodLink own idx μ.1 ∈ xTB ∨ (own = "DrumTongue" ∧ idx = 18 ∧ μ.1 = y_Ear_init)) ∧ Cond.code μ.1 μ.2.1 μ.2.2.1 μ.2.2.2 ∈ xTB ∧ Cond.initialized μ.1.cls ∈ xTB ∧ μ.1.cls ≠ "java/lang/invoke/MethodHandle" ∧ μ.1.cls ≠ "java/lang/invoke/VarHandle" ∧ (parseMethodDescriptor μ.1.desc).map (fun d => d.parameters.length) = some na
section XCALL
variable {T : xT} {p : Program} {l : Launch} {e : Env} {R : Room} {s : State} {m : MethodId} {args : Array Value} {below : List Frame} {meth : Method} {c : Code} {Q : State → Prop} {cc : ByteArray} {G : xG} {nL : Nat} {pc : Nat} {L : xLs} {st : List xV} {h : xH} {k n : Nat}
theorem xw_run {H : Heap} {locs : List Loc} {ls : Array Slot} {st0 rest : List Value} {mc ms : Nat} {Q1 : Option xV → xH → Prop} {a : Array Value} (hr : va_Run p l e R s m args below meth c H locs k n mc ms (F0 m pc ls st0) rest (xQc T G Q1 a) (xA G)) (hS : va_S (xA G) s.heap H locs)
    (kk : ∀ (r : Option xV) (h' : xH), Q1 r h' → ∀ (H1 : Heap) (locs1 : List Loc), xMt T G h' H1 → va_S (xA G) s.heap H1 locs1 → W p l e R s m args below meth c H1 locs1 (k + mc) (n + ms) Q (F0 m (pc + 3) ls ((r.map (xc G)).toList ++ rest))) : W p l e R s m args below meth c H locs k n Q (F0 m pc ls st0) := by
  intro S hT X
  obtain ⟨v, st₀, t, T', L1, h0, X', hL, e1, e2, ⟨r, h', hv, hq, hm, hz, hk⟩, sts⟩ := hr S hT X
  have hv' : v = r.map (xc G) := Outcome.returned.inj hv
  subst hv'
  rw [h0] at hz hk
  obtain ⟨t2, a1, b1⟩ := kk r h' hq T'.heap (locs ++ L1) (by rw [e1]; exact hm)
    ⟨Nat.le_trans hS.1 (by rw [e1]; exact hz), fun q h1 h2 => by rw [e1, hk q (Nat.lt_of_lt_of_le h1 hS.1) h2]; exact hS.2.1 q h1 h2, fun q hq => by
      rcases List.mem_append.mp hq with h | h
      · exact hS.2.2 q h
      · exact hL q h⟩ T' rfl X'
  exact ⟨t2, sts t2 a1, b1⟩
theorem xTB_good (w : Cond) (h : w ∈ xTB) : (w.onTables && w.keeps) = true ∨ ∃ ty, w = .arrayClass ty := good_of_word (List.mem_filter.mp h).2
theorem xws_good {μ : xMd} (h : Cond.code μ.1 μ.2.1 μ.2.2.1 μ.2.2.2 ∈ xTB) : GoodIn xTB (xws μ) := by
  intro w hw
  rcases List.mem_cons.mp hw with rfl | hw
  · exact ⟨h, xTB_good _ h⟩
  · exact ⟨hw, xTB_good _ hw⟩
/-- how many words a stack takes -/
def xct : List xV → Nat
  | [] => 0
  | .inr (.inl _) :: r => 2 + xct r
  | _ :: r => 1 + xct r
theorem xct_eq {G : xG} : ∀ st : List xV, (st.map fun v => (xc G v).category).sum = xct st
  | [] => rfl
  | .inl z :: r => by rw [List.map_cons, List.sum_cons, xct_eq r]; rfl
  | .inr (.inl z) :: r => by rw [List.map_cons, List.sum_cons, xct_eq r]; rfl
  | .inr (.inr none) :: r => by rw [List.map_cons, List.sum_cons, xct_eq r]; rfl
  | .inr (.inr (some a)) :: r => by rw [List.map_cons, List.sum_cons, xct_eq r]; rfl
theorem xroom {st st0 : List xV} {ls : Array Slot} (h : xct st ≤ 8) : 2 * (F0 m pc ls (st0.map (xc G))).monitorRoom + ((st.map (xc G)).map fun v => v.category).sum ≤ 8 := lv_room (by rw [List.map_map]; have := xct_eq (G := G) st; simp only [Function.comp_def]; omega)
/-- the numbers of a call: frames, words of locals, cells, slots that are left -/
abbrev xRm : Type := Nat × Nat × Nat × Nat
def xfits (R : xRm) (μ : xMd) (fr lo mc ms k n : Nat) : Prop := fr + 1 ≤ R.1 ∧ 8 + (μ.2.2.1 + 11) + lo ≤ R.2.1 ∧ k + mc ≤ R.2.2.1 ∧ n + ms ≤ R.2.2.2
theorem xw_callS (hx : p.tables.exec = Jvm.exec) (hb : c.code = cc) (hml : c.maxLocals = nL) (hts : ∀ w ∈ xTB, w.before args s = true) {own : String} (hown : s.vm.findClass own = some m.cls) (hK : xKn G s) (hbase : G.2.2.1 ≤ s.heap.size) {idx na : Nat} {μ : xMd} (hlk : xLk own idx μ na) (hstat : Cond.static μ.1 ∈ xTB) (hd : decode cc pc = .ok (.invokestatic idx, 3)) {as : List xV} (hna : as.length = na) {fr lo mc ms : Nat} (hrm : xfits (R.frames, R.locals, R.cells, R.slots) μ fr lo mc ms k n) {Q1 : Option xV → xH → Prop} (hct : xCt T G μ fr lo mc ms as h Q1) (hcat : xct st ≤ 8)
    (kk : ∀ (r : Option xV) (h' : xH), Q1 r h' → xW T p l e R s m args below meth c Q G nL (pc + 3) L (r.toList ++ st) h' (k + mc) (n + ms)) : xW T p l e R s m args below meth c Q G nL pc L (as.reverse ++ st) h k n := by
  intro H locs ls hM hS hL hl
  obtain ⟨hlink, hcode, hini, hc1, hc2, hdesc⟩ := hlk
  have hp : PreS s H (xPc T G as h) (as.map (xc G)) := ⟨xPc_blind, fun U hU hW => ⟨rfl, by rw [hU]; exact hM, hK.warm hW, by rw [hU]; exact Nat.le_trans hbase hS.1⟩⟩
  have hR : fr + 1 ≤ R.frames ∧ 8 + (μ.2.2.1 + 11) + lo ≤ R.locals := ⟨hrm.1, hrm.2.1⟩
  have hgo : ∀ (hrun : va_Run p l e R s m args below meth c H locs k n mc ms (F0 m pc ls ((as.reverse ++ st).map (xc G))) (st.map (xc G)) (xQc T G Q1 (as.map (xc G)).toArray) (xA G)), W p l e R s m args below meth c H locs k n Q (F0 m pc ls ((as.reverse ++ st).map (xc G))) := fun hrun =>
    xw_run hrun hS fun r h' hq H1 locs1 hM1 hS1 => by
      have := kk r h' hq H1 locs1 ls hM1 hS1 hL hl
      cases r <;> exact this
  rcases hlink with hlink | ⟨rfl, rfl, hlink⟩
  · exact hgo (va_runS (As := as.map (xc G)) (rest := st.map (xc G)) (Ts := xTB) ⟨hx, hb, hml, hown, hts⟩ (hct l) ⟨callB_of na hts (xws_good hcode) rfl rfl rfl (hts _ hini) (hts _ hlink) ⟨hc1, hc2, hdesc⟩ hR, hts _ hstat⟩ hp rfl (by rw [List.length_map]; exact hna) hl.1 (by simp) (xroom hcat) hd ⟨hrm.2.2.1, hrm.2.2.2⟩)
  · exact hgo (va_runSN (As := as.map (xc G)) (rest := st.map (xc G)) (Ts := xTB) ⟨hx, hb, hml, hown, hts⟩ (hct l) ⟨va_cnB na hts (xws_good hcode) rfl rfl rfl (hlink ▸ hK.2.2.2.2.2) (hts _ hini) ⟨hc1, hc2, hdesc⟩ hR, hts _ hstat, trivial⟩ hp rfl (by rw [List.length_map]; exact hna) hl.1 (by simp) (xroom hcat) hd ⟨hrm.2.2.1, hrm.2.2.2⟩)
theorem xw_callV (hx : p.tables.exec = Jvm.exec) (hb : c.code = cc) (hml : c.maxLocals = nL) (hts : ∀ w ∈ xTB, w.before args s = true) {own : String} (hown : s.vm.findClass own = some m.cls) (hK : xKn G s) (hbase : G.2.2.1 ≤ s.heap.size) {idx na : Nat} {μ : xMd} (hlk : xLk own idx μ na) (hinst : Cond.instanceMethod μ.1 ∈ xTB) (hsel : Cond.selects μ.1.cls μ.1 μ.1 ∈ xTB) {ci : Nat} (hci : ∃ (F : u_T) (N : Nat), xCl[ci]? = some (μ.1.cls, F, N)) (hd : decode cc pc = .ok (.invokevirtual idx, 3)) {a : Nat} {fs as : List xV} (ha : xrd T h a = some (.inl (ci, fs))) (hna : as.length = na) {fr lo mc ms : Nat} (hrm : xfits (R.frames, R.locals, R.cells, R.slots) μ fr lo mc ms k n) {Q1 : Option xV → xH → Prop} (hct : xCt T G μ fr lo mc ms (xR (some a) :: as) h Q1) (hcat : xct st ≤ 8)
    (kk : ∀ (r : Option xV) (h' : xH), Q1 r h' → xW T p l e R s m args below meth c Q G nL (pc + 3) L (r.toList ++ st) h' (k + mc) (n + ms)) : xW T p l e R s m args below meth c Q G nL pc L (as.reverse ++ xR (some a) :: st) h k n := by
  intro H locs ls hM hS hL hl
  obtain ⟨hlink, hcode, hini, hc1, hc2, hdesc⟩ := hlk
  obtain ⟨F, N, hci⟩ := hci
  have hp : PreV s H μ.1.cls (xad G a) (xPc T G (xR (some a) :: as) h) (as.map (xc G)) := ⟨xPc_blind, va_recv hK.1 (xmt_P hM ha) (q0 := 0) hci rfl, fun U hU hW => ⟨rfl, by rw [hU]; exact hM, hK.warm hW, by rw [hU]; exact Nat.le_trans hbase hS.1⟩⟩
  have hR : fr + 1 ≤ R.frames ∧ 8 + (μ.2.2.1 + 11) + lo ≤ R.locals := ⟨hrm.1, hrm.2.1⟩
  have hgo : ∀ (hrun : va_Run p l e R s m args below meth c H locs k n mc ms (F0 m pc ls ((as.reverse ++ xR (some a) :: st).map (xc G))) (st.map (xc G)) (xQc T G Q1 (Value.ref (xad G a) :: as.map (xc G)).toArray) (xA G)), W p l e R s m args below meth c H locs k n Q (F0 m pc ls ((as.reverse ++ xR (some a) :: st).map (xc G))) := fun hrun =>
    xw_run hrun hS fun r h' hq H1 locs1 hM1 hS1 => by
      have := kk r h' hq H1 locs1 ls hM1 hS1 hL hl
      cases r <;> exact this
  rcases hlink with hlink | ⟨rfl, rfl, hlink⟩
  · exact hgo (va_runV (C := μ.1.cls) (As := as.map (xc G)) (rest := st.map (xc G)) (Ts := xTB) ⟨hx, hb, hml, hown, hts⟩ (hct l) ⟨callB_of na hts (xws_good hcode) rfl rfl rfl (hts _ hini) (hts _ hlink) ⟨hc1, hc2, hdesc⟩ hR, hts _ hinst, hts _ hsel⟩ hp rfl (by rw [List.length_map]; exact hna) hl.1 (by simp [xc]) (xroom hcat) hd ⟨hrm.2.2.1, hrm.2.2.2⟩)
  · exact hgo (va_runVN (C := μ.1.cls) (As := as.map (xc G)) (rest := st.map (xc G)) (Ts := xTB) ⟨hx, hb, hml, hown, hts⟩ (hct l) ⟨va_cnB na hts (xws_good hcode) rfl rfl rfl (hlink ▸ hK.2.2.2.2.2) (hts _ hini) ⟨hc1, hc2, hdesc⟩ hR, hts _ hinst, hts _ hsel⟩ hp rfl (by rw [List.length_map]; exact hna) hl.1 (by simp [xc]) (xroom hcat) hd ⟨hrm.2.2.1, hrm.2.2.2⟩)
theorem xw_callI (hx : p.tables.exec = Jvm.exec) (hb : c.code = cc) (hml : c.maxLocals = nL) (hts : ∀ w ∈ xTB, w.before args s = true) {own : String} (hown : s.vm.findClass own = some m.cls) (hK : xKn G s) (hbase : G.2.2.1 ≤ s.heap.size) {idx na : Nat} {μ : xMd} (hlk : xLk own idx μ na) (hinst : Cond.instanceMethod μ.1 ∈ xTB) (hnm : μ.1.name = "<init>") (hrt : μ.2.2.2 = none) (hd : decode cc pc = .ok (.invokespecial idx, 3)) {a : Nat} {as : List xV} (hna : as.length = na) {fr lo mc ms : Nat} (hrm : xfits (R.frames, R.locals, R.cells, R.slots) μ fr lo mc ms k n) {Q1 : Option xV → xH → Prop} (hct : xCt T G μ fr lo mc ms (xR (some a) :: as) h Q1) (hcat : xct st ≤ 8)
    (kk : ∀ (r : Option xV) (h' : xH), Q1 r h' → xW T p l e R s m args below meth c Q G nL (pc + 3) L (r.toList ++ st) h' (k + mc) (n + ms)) : xW T p l e R s m args below meth c Q G nL pc L (as.reverse ++ xR (some a) :: st) h k n := by
  intro H locs ls hM hS hL hl
  obtain ⟨y, bytes, maxL, rt⟩ := μ
  obtain rfl : rt = none := hrt
  obtain ⟨hlink, hcode, hini, hc1, hc2, hdesc⟩ := hlk
  have hp : PreS s H (xPc T G (xR (some a) :: as) h) (Value.ref (xad G a) :: as.map (xc G)) := ⟨xPc_blind, fun U hU hW => ⟨rfl, by rw [hU]; exact hM, hK.warm hW, by rw [hU]; exact Nat.le_trans hbase hS.1⟩⟩
  have hR : fr + 1 ≤ R.frames ∧ 8 + (maxL + 11) + lo ≤ R.locals := ⟨hrm.1, hrm.2.1⟩
  have hgo : ∀ (hrun : va_Run p l e R s m args below meth c H locs k n mc ms (F0 m pc ls ((as.reverse ++ xR (some a) :: st).map (xc G))) (st.map (xc G)) (xQc T G Q1 (Value.ref (xad G a) :: as.map (xc G)).toArray) (xA G)), W p l e R s m args below meth c H locs k n Q (F0 m pc ls ((as.reverse ++ xR (some a) :: st).map (xc G))) := fun hrun =>
    xw_run hrun hS fun r h' hq H1 locs1 hM1 hS1 => by
      have := kk r h' hq H1 locs1 ls hM1 hS1 hL hl
      cases r <;> exact this
  rcases hlink with hlink | ⟨rfl, rfl, hlink⟩
  · exact hgo (va_runI (As := as.map (xc G)) (rest := st.map (xc G)) (Ts := xTB) ⟨hx, hb, hml, hown, hts⟩ (hct l) ⟨callB_of na hts (xws_good (μ := (y, bytes, maxL, none)) hcode) rfl rfl rfl (hts _ hini) (hts _ hlink) ⟨hc1, hc2, hdesc⟩ hR, hnm, hts _ hinst⟩ hp rfl (by rw [List.length_map]; exact hna) hl.1 (by simp [xc]) (xroom hcat) hd ⟨hrm.2.2.1, hrm.2.2.2⟩)
  · exact hgo (va_runIN (As := as.map (xc G)) (rest := st.map (xc G)) (Ts := xTB) ⟨hx, hb, hml, hown, hts⟩ (hct l) ⟨va_cnB na hts (xws_good (μ := (y, bytes, maxL, none)) hcode) rfl rfl rfl (hlink ▸ hK.2.2.2.2.2) (hts _ hini) ⟨hc1, hc2, hdesc⟩ hR, hnm, hts _ hinst⟩ hp rfl (by rw [List.length_map]; exact hna) hl.1 (by simp [xc]) (xroom hcat) hd ⟨hrm.2.2.1, hrm.2.2.2⟩)
end XCALL
end
section
/-! what must hold so that the machine goes on well: xop. N: what must hold behind the instruction; J: at the aim of a jump. tb: own's tables: fields idx -> (class, field, its type, final, nest); methods idx -> (0 static, 1 virtual, 2 <init>, 3 Object.<init>, 4 arraycopy; method, parameters, class of the receiver); new idx -> class and its fresh fields; constants int; constants long; int[][] -/
abbrev xTb : Type := List (Nat × Nat × Nat × FieldType × Bool × Bool) × List (Nat × Nat × xMd × Nat × Nat) × List (Nat × Nat × List xV) × List (Nat × Int) × List (Nat × Int) × List Nat
abbrev xP : Type := Option xV → xH → Prop
abbrev xN : Type := xLs → List xV → xH → Nat → Nat → Prop
abbrev xS : Type := Nat → xLs → List xV → xH → Nat → Nat → Prop
def xlk {α : Type} : List (Nat × α) → Nat → Option α
  | [], _ => none
  | (j, x) :: r, i => match Nat.beq i j with
    | true => some x
    | false => xlk r i
theorem xlk_mem {α : Type} {i : Nat} {x : α} : ∀ {l : List (Nat × α)}, xlk l i = some x → (i, x) ∈ l
  | [], h => by cases h
  | (j, y) :: r, h => by
    unfold xlk at h
    split at h
    · rename_i hj
      cases h
      rw [xbeq hj]
      exact List.mem_cons_self
    · exact List.mem_cons_of_mem _ (xlk_mem h)
def xo {α : Type} (o : Option α) (K : α → Prop) : Prop := match o with
  | some a => K a
  | none => False
theorem xo_spec {α : Type} {o : Option α} {K : α → Prop} (h : xo o K) : ∃ a, o = some a ∧ K a := by
  cases o with
  | none => exact h.elim
  | some a => exact ⟨a, rfl, h⟩
def x1i (st : List xV) (K : Int → List xV → Prop) : Prop := match st with
  | .inl z :: r => K z r
  | _ => False
theorem x1i_spec {st : List xV} {K : Int → List xV → Prop} (h : x1i st K) : ∃ z r, st = xI z :: r ∧ K z r := by
  rcases st with _ | ⟨z | z | z, r⟩ <;> first | exact h.elim | exact ⟨z, r, rfl, h⟩
def x2i (st : List xV) (K : Int → Int → List xV → Prop) : Prop := match st with
  | .inl y :: .inl x :: r => K x y r
  | _ => False
theorem x2i_spec {st : List xV} {K : Int → Int → List xV → Prop} (h : x2i st K) : ∃ x y r, st = xI y :: xI x :: r ∧ K x y r := by
  rcases st with _ | ⟨y | y | y, _ | ⟨x | x | x, r⟩⟩ <;> first | exact h.elim | exact ⟨x, y, r, rfl, h⟩
def x1j (st : List xV) (K : Int → List xV → Prop) : Prop := match st with
  | .inr (.inl z) :: r => K z r
  | _ => False
theorem x1j_spec {st : List xV} {K : Int → List xV → Prop} (h : x1j st K) : ∃ z r, st = xJ z :: r ∧ K z r := by
  rcases st with _ | ⟨z | z | z, r⟩ <;> first | exact h.elim | exact ⟨z, r, rfl, h⟩
def x2j (st : List xV) (K : Int → Int → List xV → Prop) : Prop := match st with
  | .inr (.inl y) :: .inr (.inl x) :: r => K x y r
  | _ => False
theorem x2j_spec {st : List xV} {K : Int → Int → List xV → Prop} (h : x2j st K) : ∃ x y r, st = xJ y :: xJ x :: r ∧ K x y r := by
  rcases st with _ | ⟨y | y | y, _ | ⟨x | x | x, r⟩⟩ <;> first | exact h.elim | exact ⟨x, y, r, rfl, h⟩
def x1r (st : List xV) (K : Option Nat → List xV → Prop) : Prop := match st with
  | .inr (.inr z) :: r => K z r
  | _ => False
theorem x1r_spec {st : List xV} {K : Option Nat → List xV → Prop} (h : x1r st K) : ∃ z r, st = xR z :: r ∧ K z r := by
  rcases st with _ | ⟨z | z | z, r⟩ <;> first | exact h.elim | exact ⟨z, r, rfl, h⟩
/-- a value of one word on top -/
def x1w (st : List xV) (K : xV → List xV → Prop) : Prop := match st with
  | .inl z :: r => K (.inl z) r
  | .inr (.inr z) :: r => K (.inr (.inr z)) r
  | _ => False
theorem x1w_spec {st : List xV} {K : xV → List xV → Prop} (h : x1w st K) : ∃ v r, st = v :: r ∧ (∀ z, v ≠ xJ z) ∧ K v r := by
  rcases st with _ | ⟨z | z | z, r⟩
  · exact h.elim
  · exact ⟨_, r, rfl, fun z q => (by cases q), h⟩
  · exact h.elim
  · exact ⟨_, r, rfl, fun z q => (by cases q), h⟩
def xli (L : xLs) (i : Nat) (K : Int → Prop) : Prop := match L[i]? with
  | some (some (.inl z)) => K z
  | _ => False
theorem xli_spec {L : xLs} {i : Nat} {K : Int → Prop} (h : xli L i K) : ∃ z, L[i]? = some (some (xI z)) ∧ K z := by
  unfold xli at h
  split at h
  · exact ⟨_, by assumption, h⟩
  · exact h.elim
def xlj (L : xLs) (i : Nat) (K : Int → Prop) : Prop := match L[i]? with
  | some (some (.inr (.inl z))) => K z
  | _ => False
theorem xlj_spec {L : xLs} {i : Nat} {K : Int → Prop} (h : xlj L i K) : ∃ z, L[i]? = some (some (xJ z)) ∧ K z := by
  unfold xlj at h
  split at h
  · exact ⟨_, by assumption, h⟩
  · exact h.elim
def xlr (L : xLs) (i : Nat) (K : Option Nat → Prop) : Prop := match L[i]? with
  | some (some (.inr (.inr z))) => K z
  | _ => False
theorem xlr_spec {L : xLs} {i : Nat} {K : Option Nat → Prop} (h : xlr L i K) : ∃ z, L[i]? = some (some (xR z)) ∧ K z := by
  unfold xlr at h
  split at h
  · exact ⟨_, by assumption, h⟩
  · exact h.elim
/-- a field read -/
def xgf (T : xT) (h : xH) (a ci kf : Nat) (K : xV → Prop) : Prop := match h with
  | (M, D, _) => match T a with
    | some (.inl (c, ds)) => cond (Nat.beq c ci) (match ds[kf]? with
      | some (.inr false) => K (xI (M a kf))
      | some (.inr true) => K (xJ (M a kf))
      | some (.inl r) => K (xR r)
      | none => False) False
    | some (.inr _) => False
    | none => match D a with
      | some (.inl (c, fs)) => cond (Nat.beq c ci) (match fs[kf]? with
        | some v => K v
        | none => False) False
      | _ => False
theorem xgf_spec {T : xT} {h : xH} {a ci kf : Nat} {K : xV → Prop} (hg : xgf T h a ci kf K) : ∃ fs v, xrd T h a = some (.inl (ci, fs)) ∧ fs[kf]? = some v ∧ K v := by
  obtain ⟨M, D, nx⟩ := h
  simp only [xgf] at hg
  cases hT : T a with
  | some d =>
    rw [hT] at hg
    rcases d with ⟨c, ds⟩ | d
    · simp only at hg
      have hc := (xcond hg).1
      replace hg := (xcond hg).2
      obtain rfl := xbeq hc
      cases hd : ds[kf]? with
      | none => rw [hd] at hg; exact hg.elim
      | some d =>
        rw [hd] at hg
        refine ⟨xdl M a 0 ds, xdv M a kf d, by simp [xrd, hT, xde], by rw [xdl_get, hd]; simp, ?_⟩
        rcases d with r | (_ | _) <;> exact hg
    · exact hg.elim
  | none =>
    rw [hT] at hg
    simp only at hg
    cases hD : D a with
    | none => rw [hD] at hg; exact hg.elim
    | some e =>
      rw [hD] at hg
      rcases e with ⟨c, fs⟩ | e
      · simp only at hg
        have hc := (xcond hg).1
        replace hg := (xcond hg).2
        obtain rfl := xbeq hc
        cases hd : fs[kf]? with
        | none => rw [hd] at hg; exact hg.elim
        | some v =>
          rw [hd] at hg
          exact ⟨fs, v, by simp [xrd, hT, hD], hd, hg⟩
      · exact hg.elim
/-- an array is there: its kind, its length, what it holds at j -/
def xar (T : xT) (h : xH) (a j : Nat) (K : Nat → Nat → xV → Prop) : Prop := match h with
  | (M, D, _) => match T a with
    | some (.inr (0, n, none)) => K 0 n (xI (M a j))
    | some (.inr (1, n, none)) => K 1 n (xJ (M a j))
    | some (.inr (2, n, some r)) => K 2 n (xR (r j))
    | some _ => False
    | none => match D a with
      | some (.inr (t, n, f)) => K t n (f j)
      | _ => False
theorem xar_spec {T : xT} {h : xH} {a j : Nat} {K : Nat → Nat → xV → Prop} (hg : xar T h a j K) : ∃ t n f, xrd T h a = some (.inr (t, n, f)) ∧ K t n (f j) := by
  obtain ⟨M, D, nx⟩ := h
  simp only [xar] at hg
  cases hT : T a with
  | some d =>
    rw [hT] at hg
    rcases d with d | ⟨t, n, r⟩
    · exact hg.elim
    · rcases t with _ | _ | _ | t <;> rcases r with _ | r <;> simp only at hg
      · exact ⟨0, n, fun j => xI (M a j), by simp [xrd, hT, xde, xda], hg⟩
      · exact ⟨1, n, fun j => xJ (M a j), by simp [xrd, hT, xde, xda], hg⟩
      · exact ⟨2, n, fun j => xR (r j), by simp [xrd, hT, xde, xda], hg⟩
  | none =>
    rw [hT] at hg
    simp only at hg
    cases hD : D a with
    | none => rw [hD] at hg; exact hg.elim
    | some e =>
      rw [hD] at hg
      rcases e with e | ⟨t, n, f⟩
      · exact hg.elim
      · exact ⟨t, n, f, by simp [xrd, hT, hD], hg⟩
/-- the receiver is of class ci -/
def xcv (T : xT) (h : xH) (a ci : Nat) (A : Prop) : Prop := match h with
  | (_, D, _) => match T a with
    | some (.inl (c, _)) => cond (Nat.beq c ci) A False
    | some (.inr _) => False
    | none => match D a with
      | some (.inl (c, _)) => cond (Nat.beq c ci) A False
      | _ => False
theorem xcv_spec {T : xT} {h : xH} {a ci : Nat} {A : Prop} (hg : xcv T h a ci A) : ∃ fs, xrd T h a = some (.inl (ci, fs)) ∧ A := by
  obtain ⟨M, D, nx⟩ := h
  simp only [xcv] at hg
  cases hT : T a with
  | some d =>
    rw [hT] at hg
    rcases d with ⟨c, ds⟩ | d
    · have hc := (xcond hg).1
      replace hg := (xcond hg).2
      obtain rfl := xbeq hc
      exact ⟨xdl M a 0 ds, by simp [xrd, hT, xde], hg⟩
    · exact hg.elim
  | none =>
    rw [hT] at hg
    simp only at hg
    cases hD : D a with
    | none => rw [hD] at hg; exact hg.elim
    | some e =>
      rw [hD] at hg
      rcases e with ⟨c, fs⟩ | e
      · have hc := (xcond hg).1
        replace hg := (xcond hg).2
        obtain rfl := xbeq hc
        exact ⟨fs, by simp [xrd, hT, hD], hg⟩
      · exact hg.elim
/-- a jump's aim -/
def xto (pc : Nat) (off : Int) (K : Nat → Prop) : Prop := match (pc : Int) + off with
  | .ofNat t => K t
  | _ => False
theorem xto_spec {pc : Nat} {off : Int} {K : Nat → Prop} (h : xto pc off K) : ∃ t : Nat, (pc : Int) + off = (t : Int) ∧ K t := by
  unfold xto at h
  split at h
  · rename_i t e
    exact ⟨t, e, h⟩
  · exact h.elim
/-- a branch: both numbers in range; each road under its condition -/
def xbr (c : ClassFile.Cond) (x y : Int) (a b : Prop) : Prop := match c with
  | .eq => (x = y → a) ∧ (x ≠ y → b)
  | .ne => (x ≠ y → a) ∧ (x = y → b)
  | .lt => (x < y → a) ∧ (y ≤ x → b)
  | .ge => (y ≤ x → a) ∧ (x < y → b)
  | .gt => (y < x → a) ∧ (x ≤ y → b)
  | .le => (x ≤ y → a) ∧ (y < x → b)
/-- a table of jumps: from the number i on -/
def xsw (x : Int) (pc : Nat) (K : Nat → Prop) : Int → List Int → Prop
  | _, [] => True
  | i, off :: r => (x = i → xto pc off K) ∧ xsw x pc K (i + 1) r
theorem xsw_spec {x : Int} {pc : Nat} {K : Nat → Prop} : ∀ {i : Int} {offs : List Int}, xsw x pc K i offs → i ≤ x → x < i + offs.length → ∃ off, offs[(x - i).toNat]? = some off ∧ xto pc off K
  | i, [], _, h1, h2 => by simp at h2; omega
  | i, off :: r, h, h1, h2 => by
    by_cases hx : x = i
    · subst hx
      exact ⟨off, by simp, h.1 rfl⟩
    · obtain ⟨o, q1, q2⟩ := xsw_spec h.2 (by omega) (by simp at h2; omega)
      refine ⟨o, ?_, q2⟩
      rw [show (x - i).toNat = (x - (i + 1)).toNat + 1 by omega]
      simpa using q1
/-- arguments off the stack -/
def xtk : Nat → List xV → List xV → (List xV → List xV → Prop) → Prop
  | 0, st, as, K => K as st
  | _ + 1, [], _, _ => False
  | i + 1, v :: st, as, K => xtk i st (v :: as) K
theorem xtk_spec {K : List xV → List xV → Prop} : ∀ {i : Nat} {st as : List xV}, xtk i st as K → ∃ bs st', K (bs ++ as) st' ∧ bs.length = i ∧ st = bs.reverse ++ st'
  | 0, st, as, h => ⟨[], st, h, rfl, rfl⟩
  | i + 1, [], as, h => h.elim
  | i + 1, v :: st, as, h => by
    obtain ⟨bs, st', h1, h2, h3⟩ := xtk_spec (i := i) (st := st) h
    exact ⟨bs ++ [v], st', by simpa using h1, by simp [h2], by simp [h3]⟩
/-- an answer's kind -/
def xrt (rt : Option FieldType) (r : Option xV) (K : List xV → Prop) : Prop := match rt, r with
  | none, none => K []
  | some .int, some (.inl z) => K [xI z]
  | some .boolean, some (.inl z) => K [xI z]
  | some .long, some (.inr (.inl z)) => K [xJ z]
  | some (.object _), some (.inr (.inr q)) => K [xR q]
  | some (.array _), some (.inr (.inr q)) => K [xR q]
  | _, _ => False
theorem xrt_spec {rt : Option FieldType} {r : Option xV} {K : List xV → Prop} (h : xrt rt r K) : K r.toList := by
  unfold xrt at h
  split at h <;> first | exact h | exact h.elim
/-- a call: the method, its arguments, the heap, what is made so far, the rest of the stack, what must hold behind it -/
abbrev xC : Type := xMd → List xV → xH → Nat → Nat → List xV → (List xV → xH → Nat → Nat → Prop) → Prop
def xcl (T : xT) (R : xRm) (G : xG) : xC := fun μ as h k n rest K =>
  xct rest ≤ 8 ∧ ∃ fr lo mc ms : Nat, xfits R μ fr lo mc ms k n ∧ xCt T G μ fr lo mc ms as h (fun r h' => xrt μ.2.2.2 r fun w => K (w ++ rest) h' (k + mc) (n + ms))
def xlen : Instr → Nat
  | .bipush _ | .iload _ | .istore _ | .lload _ | .lstore _ | .aload _ | .astore _ | .ldc _ | .newarray _ => 2
  | .sipush _ | .iinc _ _ | .goto _ | .if_icmp _ _ | .ifCond _ _ | .getfield _ | .putfield _ | .invokevirtual _ | .invokespecial _ | .invokestatic _ | .new _ | .ldc2_w _ | .ldc_w _ => 3
  | .multianewarray _ _ => 4
  | .tableswitch .. => 0
  | _ => 1
/-- the aim of a jump, told ahead -/
def xtg (pc tg : Nat) : Instr → Bool
  | .goto off => decide ((pc : Int) + off = (tg : Int))
  | .if_icmp _ off => decide ((pc : Int) + off = (tg : Int))
  | .ifCond _ off => decide ((pc : Int) + off = (tg : Int))
  | _ => true
def xend (R : xRm) (k n : Nat) (A : Prop) : Prop := cond (Nat.ble k R.2.2.1 && Nat.ble n R.2.2.2) A False
theorem xend_spec {R : xRm} {k n : Nat} {A : Prop} (h : xend R k n A) : k ≤ R.2.2.1 ∧ n ≤ R.2.2.2 ∧ A := by
  have h1 := xcond h
  rw [Bool.and_eq_true] at h1
  exact ⟨Nat.le_of_ble_eq_true h1.1.1, Nat.le_of_ble_eq_true h1.1.2, h1.2⟩
def xbool (z : Int) (A : Prop) : Prop := (z = 0 ∨ z = 1) ∧ A
/-- an array's kind is one of whole numbers -/
def xki (t : Nat) (A : Prop) : Prop := cond (Nat.beq t 0 || Nat.beq t 9) A False
/-- room for one of the library's own -/
def xnat (R : xRm) (k n : Nat) (r : List xV) : Prop := (xct r ≤ 8 ∧ 1 ≤ R.1 ∧ 30 ≤ R.2.1) ∧ k ≤ R.2.2.1 ∧ n ≤ R.2.2.2
def xop (tb : xTb) (T : xT) (R : xRm) (rt : Option FieldType) (ini : Bool) (C : xC) (P : xP) (op : Instr) (tg pc : Nat) (L : xLs) (st : List xV) (h : xH) (k n : Nat) (N : xN) (J : xS) : Prop := match op with
  | .iconst z => N L (xI z :: st) h k n
  | .bipush z => (-128 ≤ z ∧ z < 128) ∧ N L (xI z :: st) h k n
  | .sipush z => (-32768 ≤ z ∧ z < 32768) ∧ N L (xI z :: st) h k n
  | .lconst z => N L (xJ ((z : Nat) : Int) :: st) h k n
  | .ldc i => xo (xlk tb.2.2.2.1 i) fun z => N L (xI z :: st) h k n
  | .ldc_w i => xo (xlk tb.2.2.2.1 i) fun z => N L (xI z :: st) h k n
  | .ldc2_w i => xo (xlk tb.2.2.2.2.1 i) fun z => N L (xJ z :: st) h k n
  | .iload_n i => xli L i fun z => N L (xI z :: st) h k n
  | .iload i => xli L i fun z => N L (xI z :: st) h k n
  | .lload_n i => xlj L i fun z => N L (xJ z :: st) h k n
  | .lload i => xlj L i fun z => N L (xJ z :: st) h k n
  | .aload_n i => xlr L i fun z => N L (xR z :: st) h k n
  | .aload i => xlr L i fun z => N L (xR z :: st) h k n
  | .istore_n i => x1i st fun z r => xst L i (xI z) fun L' => N L' r h k n
  | .istore i => x1i st fun z r => xst L i (xI z) fun L' => N L' r h k n
  | .lstore_n i => x1j st fun z r => xst2 L i z fun L' => N L' r h k n
  | .lstore i => x1j st fun z r => xst2 L i z fun L' => N L' r h k n
  | .astore_n i => x1r st fun z r => xst L i (xR z) fun L' => N L' r h k n
  | .astore i => x1r st fun z r => xst L i (xR z) fun L' => N L' r h k n
  | .iinc i q => xli L i fun z => xst L i (xI (z + q)) fun L' => N L' st h k n
  | .iadd => x2i st fun x y r => N L (xI (x + y) :: r) h k n
  | .isub => x2i st fun x y r => N L (xI (x - y) :: r) h k n
  | .imul => x2i st fun x y r => N L (xI (x * y) :: r) h k n
  | .iand => x2i st fun x y r => N L (xI (x_iand x y) :: r) h k n
  | .ior => x2i st fun x y r => N L (xI (x_ior x y) :: r) h k n
  | .ixor => x2i st fun x y r => N L (xI (x_ixor x y) :: r) h k n
  | .ishl => x2i st fun x y r => N L (xI (x_ishl x y) :: r) h k n
  | .ishr => x2i st fun x y r => N L (xI (x_ishr x y) :: r) h k n
  | .iushr => x2i st fun x y r => N L (xI (x_iushr x y) :: r) h k n
  | .irem => x2i st fun x y r => (xrg x ∧ 0 < y ∧ xrg y) ∧ N L (xI (x.tmod y) :: r) h k n
  | .ineg => x1i st fun x r => N L (xI (-x) :: r) h k n
  | .ladd => x2j st fun x y r => N L (xJ (x + y) :: r) h k n
  | .lsub => x2j st fun x y r => N L (xJ (x - y) :: r) h k n
  | .lmul => x2j st fun x y r => N L (xJ (x * y) :: r) h k n
  | .ldiv => x2j st fun x y r => (xrl x ∧ 0 < y ∧ xrl y) ∧ N L (xJ (x.tdiv y) :: r) h k n
  | .lcmp => x2j st fun x y r => (xrl x ∧ xrl y) ∧ N L (xI (x_lcmp x y) :: r) h k n
  | .i2l => x1i st fun x r => xrg x ∧ N L (xJ x :: r) h k n
  | .l2i => x1j st fun x r => N L (xI x :: r) h k n
  | .dup => x1w st fun v r => N L (v :: v :: r) h k n
  | .pop => x1w st fun _ r => N L r h k n
  | .dup2 => x1w st fun v r => x1w r fun w r => N L (v :: w :: v :: w :: r) h k n
  | .goto _ => J tg L st h k n
  | .if_icmp c _ => x2i st fun x y r => (xrg x ∧ xrg y) ∧ xbr c x y (J tg L r h k n) (N L r h k n)
  | .ifCond c _ => x1i st fun x r => xrg x ∧ xbr c x 0 (J tg L r h k n) (N L r h k n)
  | .tableswitch dflt lo hi offs => x1i st fun x r => (hi + 1 = lo + offs.toList.length) ∧ xrg x ∧ (x < lo ∨ hi < x → xto pc dflt fun t => J t L r h k n) ∧ xsw x pc (fun t => J t L r h k n) lo offs.toList
  | .getfield i => xo (xlk tb.1 i) fun d => match d with
    | (ci, kf, _) => x1r st fun a r => xo a fun a => xgf T h a ci kf fun v => N L (v :: r) h k n
  | .putfield i => xo (xlk tb.1 i) fun d => match d, st with
    | (ci, kf, ty, fin, nest), v :: .inr (.inr (some a)) :: r => cond (xfit ty v && (!fin || (ini && !nest))) (xwf T h a ci kf v fun h' => N L r h' k n) False
    | _, _ => False
  | .arraylength => x1r st fun a r => xo a fun a => xar T h a 0 fun t N1 _ => cond (Nat.beq t 9 || Nat.blt t 3) (N L (xI (N1 : Int) :: r) h k n) False
  | .iaload => match st with
    | .inl z :: .inr (.inr (some a)) :: r => xar T h a z.toNat fun t N1 v => xki t ((0 ≤ z ∧ z < (N1 : Int) ∧ z < 2147483648) ∧ N L (v :: r) h k n)
    | _ => False
  | .laload => match st with
    | .inl z :: .inr (.inr (some a)) :: r => xar T h a z.toNat fun t N1 v => cond (Nat.beq t 1) ((0 ≤ z ∧ z < (N1 : Int) ∧ z < 2147483648) ∧ N L (v :: r) h k n) False
    | _ => False
  | .aaload => match st with
    | .inl z :: .inr (.inr (some a)) :: r => xar T h a z.toNat fun t N1 v => cond (Nat.beq t 2) ((0 ≤ z ∧ z < (N1 : Int) ∧ z < 2147483648) ∧ N L (v :: r) h k n) False
    | _ => False
  | .iastore => match st with
    | .inl v :: .inl z :: .inr (.inr (some a)) :: r => xar T h a 0 fun t N1 _ => cond (Nat.beq t 0) ((0 ≤ z ∧ z < (N1 : Int) ∧ z < 2147483648) ∧ xwa T h a z.toNat (xI v) fun h' => N L r h' k n) False
    | _ => False
  | .lastore => match st with
    | .inr (.inl v) :: .inl z :: .inr (.inr (some a)) :: r => xar T h a 0 fun t N1 _ => cond (Nat.beq t 1) ((0 ≤ z ∧ z < (N1 : Int) ∧ z < 2147483648) ∧ xwa T h a z.toNat (xJ v) fun h' => N L r h' k n) False
    | _ => False
  | .new i => xo (xlk tb.2.2.1 i) fun d => match h, d with
    | (M, D, nx), (ci, fs) => (k + 1 ≤ R.2.2.1 ∧ n + fs.length ≤ R.2.2.2) ∧ N L (xR (some nx) :: st) (M, xup D nx (some (.inl (ci, fs))), nx + 1) (k + 1) (n + fs.length)
  | .newarray at_ => x1i st fun z r => match h with
    | (M, D, nx) => (0 ≤ z ∧ z ≤ 10000000 ∧ k + 1 ≤ R.2.2.1 ∧ n + z.toNat ≤ R.2.2.2) ∧ match at_ with
      | .int => N L (xR (some nx) :: r) (M, xup D nx (some (.inr (0, z.toNat, fun _ => xI 0))), nx + 1) (k + 1) (n + z.toNat)
      | .long => N L (xR (some nx) :: r) (M, xup D nx (some (.inr (1, z.toNat, fun _ => xJ 0))), nx + 1) (k + 1) (n + z.toNat)
      | _ => False
  | .multianewarray i dm => match st with
    | .inl z :: .inl y :: r => match h with
      | (M, D, nx) => (dm = 2 ∧ i ∈ tb.2.2.2.2.2 ∧ 0 ≤ y ∧ y ≤ 10000 ∧ 0 ≤ z ∧ z ≤ 10000 ∧ k + (1 + y.toNat) ≤ R.2.2.1 ∧ n + (y.toNat + y.toNat * z.toNat) ≤ R.2.2.2) ∧ N L (xR (some nx) :: r) (M, xgrid D nx y.toNat z.toNat, nx + 1 + y.toNat) (k + (1 + y.toNat)) (n + (y.toNat + y.toNat * z.toNat))
    | _ => False
  | .invokestatic i => xo (xlk tb.2.1 i) fun d => match d with
    | (0, μ, np, _) => xtk np st [] fun as r => C μ as h k n r (N L)
    | (5, _) => x2i st fun x y r => (xrg x ∧ xrg y ∧ xnat R k n r) ∧ N L (xI (max x y) :: r) h k n
    | (6, _) => x2i st fun x y r => (xrg x ∧ xrg y ∧ xnat R k n r) ∧ N L (xI (min x y) :: r) h k n
    | (7, _) => x1i st fun x r => (xrg x ∧ -2147483648 < x ∧ xnat R k n r) ∧ N L (xI (if 0 ≤ x then x else -x) :: r) h k n
    | (4, _) => match st with
      | .inl len :: .inl dp :: .inr (.inr (some a1)) :: .inl sp :: .inr (.inr (some a0)) :: r => match h with
        | (M, D, nx) => match T a0, T a1 with
          | some (.inr (0, n0, none)), some (.inr (0, n1, none)) => (n0 < 2147483648 ∧ n1 < 2147483648 ∧ xct r ≤ 8 ∧ 1 ≤ R.1 ∧ 30 ≤ R.2.1 ∧ 0 ≤ sp ∧ 0 ≤ dp ∧ 0 ≤ len ∧ sp + len ≤ (n0 : Int) ∧ dp + len ≤ (n1 : Int)) ∧ N L r (xup M a1 (va_cpy (M a0) (M a1) sp.toNat dp.toNat len.toNat), D, nx) k n
          | _, _ => False
      | _ => False
    | _ => False
  | .invokevirtual i => xo (xlk tb.2.1 i) fun d => match d with
    | (1, μ, np, ci) => xtk np st [] fun as r => x1r r fun a r => xo a fun a => xcv T h a ci (C μ (xR (some a) :: as) h k n r (N L))
    | _ => False
  | .invokespecial i => xo (xlk tb.2.1 i) fun d => match d with
    | (2, μ, np, _) => xtk np st [] fun as r => x1r r fun a r => xo a fun a => C μ (xR (some a) :: as) h k n r (N L)
    | (3, _) => x1r st fun a r => xo a fun _ => (xct r ≤ 8 ∧ 1 ≤ R.1 ∧ 30 ≤ R.2.1) ∧ N L r h k n
    | _ => False
  | .ireturn => match st, rt with
    | [.inl z], some .int => xend R k n (P (some (xI z)) h)
    | [.inl z], some .boolean => xend R k n (xbool z (P (some (xI z)) h))
    | _, _ => False
  | .lreturn => match st, rt with
    | [.inr (.inl z)], some .long => xend R k n (P (some (xJ z)) h)
    | _, _ => False
  | .return_ => match st, rt with
    | [], none => xend R k n (P none h)
    | _, _ => False
  | _ => False
end
section
/-! xop is sound: an instruction's xop gives the step of the real machine -/
theorem xst_mono {K K' : xLs → Prop} (hk : ∀ L, K L → K' L) {L : xLs} {i : Nat} {v : xV} (h : xst L i v K) : xst L i v K' := by
  induction L generalizing i K K' with
  | nil => exact h.elim
  | cons a L ih =>
    cases i with
    | zero => exact hk _ h
    | succ i =>
      unfold xst at h ⊢
      split at h
      · exact ih (fun L q => hk _ q) h
      · exact ih (fun L q => hk _ q) h
theorem xst2_mono : ∀ {L : xLs} {i : Nat} {v : Int} {K K' : xLs → Prop}, (∀ L, K L → K' L) → xst2 L i v K → xst2 L i v K'
  | [], i, _, _, _, _, h => by cases i <;> exact h.elim
  | [_], i, _, _, _, _, h => by rcases i with _ | i <;> exact h.elim
  | _ :: _ :: _, 0, _, _, _, hk, h => hk _ h
  | a :: b :: L, i + 1, z, K, K', hk, h => by
    unfold xst2 at h ⊢
    split at h
    · exact xst2_mono (L := b :: L) (fun L q => hk _ q) h
    · exact xst2_mono (L := b :: L) (fun L q => hk _ q) h
theorem xwf_mono {T : xT} {h : xH} {a ci kf : Nat} {v : xV} {K K' : xH → Prop} (hk : ∀ h, K h → K' h) (hw : xwf T h a ci kf v K) : xwf T h a ci kf v K' := by
  obtain ⟨M, D, nx⟩ := h
  unfold xwf at hw ⊢
  simp only at hw ⊢
  split at hw
  · have h1 := xcond hw
    rw [h1.1]
    simp only [cond_true]
    have h2 := h1.2
    split at h2 <;> first | exact hk _ h2 | exact h2.elim
  · exact hw.elim
  · split at hw
    · have h1 := xcond hw
      rw [h1.1]
      exact hk _ h1.2
    · exact hw.elim
theorem xwa_mono {T : xT} {h : xH} {a k : Nat} {v : xV} {K K' : xH → Prop} (hk : ∀ h, K h → K' h) (hw : xwa T h a k v K) : xwa T h a k v K' := by
  obtain ⟨M, D, nx⟩ := h
  unfold xwa at hw ⊢
  simp only at hw ⊢
  split at hw
  · split at hw <;> first | exact hk _ hw | exact hw.elim
  · exact hw.elim
  · split at hw
    · exact hk _ hw
    · exact hw.elim
def xMk (own : String) (i : Nat) (d : Nat × xMd × Nat × Nat) : Prop := match d.1 with
  | 0 => xLk own i d.2.1 d.2.2.1 ∧ Cond.static d.2.1.1 ∈ xTB
  | 1 => xLk own i d.2.1 d.2.2.1 ∧ Cond.instanceMethod d.2.1.1 ∈ xTB ∧ Cond.selects d.2.1.1.cls d.2.1.1 d.2.1.1 ∈ xTB ∧ ∃ (F : u_T) (N : Nat), xCl[d.2.2.2]? = some (d.2.1.1.cls, F, N)
  | 2 => xLk own i d.2.1 d.2.2.1 ∧ Cond.instanceMethod d.2.1.1 ∈ xTB ∧ d.2.1.1.name = "<init>" ∧ d.2.1.2.2.2 = none
  | 3 => Cond.methodLink own i objectInit ∈ xTB ∧ Cond.instanceMethod objectInit ∈ xTB ∧ Cond.code objectInit ⟨#[0xb1]⟩ 1 none ∈ xTB
  | 5 => Cond.methodLink own i Lib.Math.max.name ∈ xTB ∧ Cond.static Lib.Math.max.name ∈ xTB ∧ Cond.initialized "java/lang/Math" ∈ xTB ∧ Cond.code Lib.Math.max.name Lib.Math.max.code 2 (some .int) ∈ xTB
  | 6 => Cond.methodLink own i Lib.Math.min.name ∈ xTB ∧ Cond.static Lib.Math.min.name ∈ xTB ∧ Cond.initialized "java/lang/Math" ∈ xTB ∧ Cond.code Lib.Math.min.name Lib.Math.min.code 2 (some .int) ∈ xTB
  | 7 => Cond.methodLink own i Lib.Math.abs.name ∈ xTB ∧ Cond.static Lib.Math.abs.name ∈ xTB ∧ Cond.initialized "java/lang/Math" ∈ xTB ∧ Cond.code Lib.Math.abs.name Lib.Math.abs.code 1 (some .int) ∈ xTB
  | 4 => Cond.methodLink own i arraycopyName ∈ xTB ∧ Cond.native arraycopyName ∈ xTB ∧ Cond.static arraycopyName ∈ xTB ∧ Cond.initialized "java/lang/System" ∈ xTB
  | _ => False
def xTbOk (own : String) (tb : xTb) : Prop :=
  (∀ i d, (i, d) ∈ tb.1 → xFld own i d.1 d.2.1 d.2.2.1 d.2.2.2.1 d.2.2.2.2) ∧ (∀ i d, (i, d) ∈ tb.2.1 → xMk own i d) ∧ (∀ i d, (i, d) ∈ tb.2.2.1 → xNw own i d.1 d.2) ∧ (∀ i z, (i, z) ∈ tb.2.2.2.1 → Cond.constant own i (Int32.ofInt z) ∈ xTB) ∧ (∀ i z, (i, z) ∈ tb.2.2.2.2.1 → Cond.constantLong own i (Int64.ofInt z) ∈ xTB) ∧ (∀ i, i ∈ tb.2.2.2.2.2 → Cond.classLink own i "[[I" ∈ xTB)
/-- what the walk of a method's body rests on -/
def xEv (p : Program) (s : State) (m : MethodId) (args : Array Value) (meth : Method) (c : Code) (cc : ByteArray) (nL : Nat) (own : String) (tb : xTb) (G : xG) (ini : Bool) : Prop :=
  p.tables.exec = Jvm.exec ∧ c.code = cc ∧ c.maxLocals = nL ∧ (∀ w ∈ xTB, w.before args s = true) ∧ s.vm.findClass own = some m.cls ∧ xKn G s ∧ G.2.2.1 ≤ s.heap.size ∧ xTbOk own tb ∧ (ini = true → meth.name = "<init>")
section XSOUND
variable {T : xT} {p : Program} {l : Launch} {e : Env} {R : Room} {s : State} {m : MethodId} {args : Array Value} {below : List Frame} {meth : Method} {c : Code} {Q : State → Prop} {cc : ByteArray} {G : xG} {nL : Nat} {own : String} {tb : xTb} {ini : Bool} {rt : Option FieldType} {P : xP} {C : xC}
/-- the ends of the body -/
def xRet (T : xT) (p : Program) (l : Launch) (e : Env) (R : Room) (s : State) (m : MethodId) (args : Array Value) (below : List Frame) (meth : Method) (c : Code) (Q : State → Prop) (G : xG) (nL : Nat) (cc : ByteArray) (rt : Option FieldType) (P : xP) : Prop :=
  ∀ (pc : Nat) (op : Instr) (L : xLs) (st : List xV) (r : Option xV) (h : xH) (k n : Nat), decode cc pc = .ok (op, 1) → st = r.toList → P r h → k ≤ R.cells → n ≤ R.slots →
    (op = .ireturn ∧ (∃ z, r = some (xI z) ∧ (rt = some .int ∨ (rt = some .boolean ∧ (z = 0 ∨ z = 1))))) ∨ (op = .lreturn ∧ (∃ z, r = some (xJ z)) ∧ rt = some .long) ∨ (op = .areturn ∧ (∃ q, r = some (xR q)) ∧ ((∃ C, rt = some (.object C)) ∨ ∃ t, rt = some (.array t))) ∨ (op = .return_ ∧ r = none ∧ rt = none) → xW T p l e R s m args below meth c Q G nL pc L st h k n
theorem xop_ok (E : xEv p s m args meth c cc nL own tb G ini) (hC : ∀ μ as h k n rest K, C μ as h k n rest K → xcl T (R.frames, R.locals, R.cells, R.slots) G μ as h k n rest K) (hret : xRet T p l e R s m args below meth c Q G nL cc rt P) {op : Instr} {len tg pc : Nat} (hd : decode cc pc = .ok (op, len)) (hlen : xlen op = 0 ∨ xlen op = len) (htg : xtg pc tg op = true) {N : xN} {J : xS} (hN : ∀ L st h k n, N L st h k n → xW T p l e R s m args below meth c Q G nL (pc + len) L st h k n) (hJ : ∀ t L st h k n, J t L st h k n → xW T p l e R s m args below meth c Q G nL t L st h k n) {L : xLs} {st : List xV} {h : xH} {k n : Nat} (hop : xop tb T (R.frames, R.locals, R.cells, R.slots) rt ini C P op tg pc L st h k n N J) : xW T p l e R s m args below meth c Q G nL pc L st h k n := by
  obtain ⟨hx, hb, hml, hts, hown, hK, hbase, ⟨tF, tM, tN, tC, tL, tA⟩, hini⟩ := E
  cases op
  case iconst z =>
    obtain rfl : 1 = len := by simpa [xlen] using hlen
    exact xw_iconst hx hb hd (hN _ _ _ _ _ hop)
  case bipush z =>
    obtain rfl : 2 = len := by simpa [xlen] using hlen
    obtain ⟨hz, hop⟩ := hop
    refine xw_bipush hx hb hd ?_ (hN _ _ _ _ _ hop)
    apply Int32.toInt_inj.mp
    rw [Int8.toInt_toInt32, Int8.toInt_ofInt_of_le (by omega) (by omega), xi_ti ⟨by omega, by omega⟩]
  case sipush z =>
    obtain rfl : 3 = len := by simpa [xlen] using hlen
    obtain ⟨hz, hop⟩ := hop
    refine xw_sipush hx hb hd ?_ (hN _ _ _ _ _ hop)
    apply Int32.toInt_inj.mp
    rw [Int16.toInt_toInt32, Int16.toInt_ofInt_of_le (by omega) (by omega), xi_ti ⟨by omega, by omega⟩]
  case lconst z =>
    obtain rfl : 1 = len := by simpa [xlen] using hlen
    exact xw_lconst hx hb hd (hN _ _ _ _ _ hop)
  case ldc i =>
    obtain rfl : 2 = len := by simpa [xlen] using hlen
    obtain ⟨z, h1, h2⟩ := xo_spec (show xo _ _ from hop)
    exact xw_ldc hx hb hown (hts _ (tC _ _ (xlk_mem h1))) hd (hN _ _ _ _ _ h2)
  case ldc_w i =>
    obtain rfl : 3 = len := by simpa [xlen] using hlen
    obtain ⟨z, h1, h2⟩ := xo_spec (show xo _ _ from hop)
    exact xw_ldcw hx hb hown (hts _ (tC _ _ (xlk_mem h1))) hd (hN _ _ _ _ _ h2)
  case ldc2_w i =>
    obtain rfl : 3 = len := by simpa [xlen] using hlen
    obtain ⟨z, h1, h2⟩ := xo_spec (show xo _ _ from hop)
    exact xw_ldc2 hx hb hown (hts _ (tL _ _ (xlk_mem h1))) hd (hN _ _ _ _ _ h2)
  case iload_n i =>
    obtain rfl : 1 = len := by simpa [xlen] using hlen
    obtain ⟨z, h1, h2⟩ := xli_spec (show xli _ _ _ from hop)
    exact xw_iload_n hx hb hd h1 (hN _ _ _ _ _ h2)
  case iload i =>
    obtain rfl : 2 = len := by simpa [xlen] using hlen
    obtain ⟨z, h1, h2⟩ := xli_spec (show xli _ _ _ from hop)
    exact xw_iload hx hb hd h1 (hN _ _ _ _ _ h2)
  case lload_n i =>
    obtain rfl : 1 = len := by simpa [xlen] using hlen
    obtain ⟨z, h1, h2⟩ := xlj_spec (show xlj _ _ _ from hop)
    exact xw_lload_n hx hb hd h1 (hN _ _ _ _ _ h2)
  case lload i =>
    obtain rfl : 2 = len := by simpa [xlen] using hlen
    obtain ⟨z, h1, h2⟩ := xlj_spec (show xlj _ _ _ from hop)
    exact xw_lload hx hb hd h1 (hN _ _ _ _ _ h2)
  case aload_n i =>
    obtain rfl : 1 = len := by simpa [xlen] using hlen
    obtain ⟨z, h1, h2⟩ := xlr_spec (show xlr _ _ _ from hop)
    exact xw_aload_n hx hb hd h1 (hN _ _ _ _ _ h2)
  case aload i =>
    obtain rfl : 2 = len := by simpa [xlen] using hlen
    obtain ⟨z, h1, h2⟩ := xlr_spec (show xlr _ _ _ from hop)
    exact xw_aload hx hb hd h1 (hN _ _ _ _ _ h2)
  case istore_n i =>
    obtain rfl : 1 = len := by simpa [xlen] using hlen
    obtain ⟨z, r, rfl, h2⟩ := x1i_spec (show x1i _ _ from hop)
    exact xw_istore_n hx hb hd (xst_mono (fun L' h3 => hN _ _ _ _ _ h3) h2)
  case istore i =>
    obtain rfl : 2 = len := by simpa [xlen] using hlen
    obtain ⟨z, r, rfl, h2⟩ := x1i_spec (show x1i _ _ from hop)
    exact xw_istore hx hb hd (xst_mono (fun L' h3 => hN _ _ _ _ _ h3) h2)
  case lstore_n i =>
    obtain rfl : 1 = len := by simpa [xlen] using hlen
    obtain ⟨z, r, rfl, h2⟩ := x1j_spec (show x1j _ _ from hop)
    exact xw_lstore_n hx hb hd (xst2_mono (fun L' h3 => hN _ _ _ _ _ h3) h2)
  case lstore i =>
    obtain rfl : 2 = len := by simpa [xlen] using hlen
    obtain ⟨z, r, rfl, h2⟩ := x1j_spec (show x1j _ _ from hop)
    exact xw_lstore hx hb hd (xst2_mono (fun L' h3 => hN _ _ _ _ _ h3) h2)
  case astore_n i =>
    obtain rfl : 1 = len := by simpa [xlen] using hlen
    obtain ⟨z, r, rfl, h2⟩ := x1r_spec (show x1r _ _ from hop)
    exact xw_astore_n hx hb hd (xst_mono (fun L' h3 => hN _ _ _ _ _ h3) h2)
  case astore i =>
    obtain rfl : 2 = len := by simpa [xlen] using hlen
    obtain ⟨z, r, rfl, h2⟩ := x1r_spec (show x1r _ _ from hop)
    exact xw_astore hx hb hd (xst_mono (fun L' h3 => hN _ _ _ _ _ h3) h2)
  case iinc i q =>
    obtain rfl : 3 = len := by simpa [xlen] using hlen
    obtain ⟨z, h1, h2⟩ := xli_spec (show xli _ _ _ from hop)
    exact xw_iinc hx hb hd h1 (xst_mono (fun L' h3 => hN _ _ _ _ _ h3) h2)
  case iadd =>
    obtain rfl : 1 = len := by simpa [xlen] using hlen
    obtain ⟨x, y, r, rfl, h2⟩ := x2i_spec (show x2i _ _ from hop)
    exact xw_iadd hx hb hd (hN _ _ _ _ _ h2)
  case isub =>
    obtain rfl : 1 = len := by simpa [xlen] using hlen
    obtain ⟨x, y, r, rfl, h2⟩ := x2i_spec (show x2i _ _ from hop)
    exact xw_isub hx hb hd (hN _ _ _ _ _ h2)
  case imul =>
    obtain rfl : 1 = len := by simpa [xlen] using hlen
    obtain ⟨x, y, r, rfl, h2⟩ := x2i_spec (show x2i _ _ from hop)
    exact xw_imul hx hb hd (hN _ _ _ _ _ h2)
  case iand =>
    obtain rfl : 1 = len := by simpa [xlen] using hlen
    obtain ⟨x, y, r, rfl, h2⟩ := x2i_spec (show x2i _ _ from hop)
    exact xw_iand hx hb hd (hN _ _ _ _ _ h2)
  case ior =>
    obtain rfl : 1 = len := by simpa [xlen] using hlen
    obtain ⟨x, y, r, rfl, h2⟩ := x2i_spec (show x2i _ _ from hop)
    exact xw_ior hx hb hd (hN _ _ _ _ _ h2)
  case ixor =>
    obtain rfl : 1 = len := by simpa [xlen] using hlen
    obtain ⟨x, y, r, rfl, h2⟩ := x2i_spec (show x2i _ _ from hop)
    exact xw_ixor hx hb hd (hN _ _ _ _ _ h2)
  case ishl =>
    obtain rfl : 1 = len := by simpa [xlen] using hlen
    obtain ⟨x, y, r, rfl, h2⟩ := x2i_spec (show x2i _ _ from hop)
    exact xw_ishl hx hb hd (hN _ _ _ _ _ h2)
  case ishr =>
    obtain rfl : 1 = len := by simpa [xlen] using hlen
    obtain ⟨x, y, r, rfl, h2⟩ := x2i_spec (show x2i _ _ from hop)
    exact xw_ishr hx hb hd (hN _ _ _ _ _ h2)
  case iushr =>
    obtain rfl : 1 = len := by simpa [xlen] using hlen
    obtain ⟨x, y, r, rfl, h2⟩ := x2i_spec (show x2i _ _ from hop)
    exact xw_iushr hx hb hd (hN _ _ _ _ _ h2)
  case ladd =>
    obtain rfl : 1 = len := by simpa [xlen] using hlen
    obtain ⟨x, y, r, rfl, h2⟩ := x2j_spec (show x2j _ _ from hop)
    exact xw_ladd hx hb hd (hN _ _ _ _ _ h2)
  case lsub =>
    obtain rfl : 1 = len := by simpa [xlen] using hlen
    obtain ⟨x, y, r, rfl, h2⟩ := x2j_spec (show x2j _ _ from hop)
    exact xw_lsub hx hb hd (hN _ _ _ _ _ h2)
  case lmul =>
    obtain rfl : 1 = len := by simpa [xlen] using hlen
    obtain ⟨x, y, r, rfl, h2⟩ := x2j_spec (show x2j _ _ from hop)
    exact xw_lmul hx hb hd (hN _ _ _ _ _ h2)
  case irem =>
    obtain rfl : 1 = len := by simpa [xlen] using hlen
    obtain ⟨x, y, r, rfl, ⟨h1, h2, h3⟩, h4⟩ := x2i_spec (show x2i _ _ from hop)
    exact xw_irem hx hb hd h1 h2 h3 (hN _ _ _ _ _ h4)
  case ldiv =>
    obtain rfl : 1 = len := by simpa [xlen] using hlen
    obtain ⟨x, y, r, rfl, ⟨h1, h2, h3⟩, h4⟩ := x2j_spec (show x2j _ _ from hop)
    exact xw_ldiv hx hb hd h1 h2 h3 (hN _ _ _ _ _ h4)
  case lcmp =>
    obtain rfl : 1 = len := by simpa [xlen] using hlen
    obtain ⟨x, y, r, rfl, ⟨h1, h2⟩, h4⟩ := x2j_spec (show x2j _ _ from hop)
    exact xw_lcmp hx hb hd h1 h2 (hN _ _ _ _ _ h4)
  case ineg =>
    obtain rfl : 1 = len := by simpa [xlen] using hlen
    obtain ⟨x, r, rfl, h2⟩ := x1i_spec (show x1i _ _ from hop)
    exact xw_ineg hx hb hd (hN _ _ _ _ _ h2)
  case i2l =>
    obtain rfl : 1 = len := by simpa [xlen] using hlen
    obtain ⟨x, r, rfl, h1, h2⟩ := x1i_spec (show x1i _ _ from hop)
    exact xw_i2l hx hb hd h1 (hN _ _ _ _ _ h2)
  case l2i =>
    obtain rfl : 1 = len := by simpa [xlen] using hlen
    obtain ⟨x, r, rfl, h2⟩ := x1j_spec (show x1j _ _ from hop)
    exact xw_l2i hx hb hd (hN _ _ _ _ _ h2)
  case dup =>
    obtain rfl : 1 = len := by simpa [xlen] using hlen
    obtain ⟨v, r, rfl, hv, h2⟩ := x1w_spec (show x1w st (fun v r => N L (v :: v :: r) h k n) from hop)
    exact xw_dup hx hb hd hv (hN _ _ _ _ _ h2)
  case pop =>
    obtain rfl : 1 = len := by simpa [xlen] using hlen
    obtain ⟨v, r, rfl, hv, h2⟩ := x1w_spec (show x1w st (fun _ r => N L r h k n) from hop)
    exact xw_pop hx hb hd hv (hN _ _ _ _ _ h2)
  case dup2 =>
    obtain rfl : 1 = len := by simpa [xlen] using hlen
    obtain ⟨v, r, rfl, hv, h2⟩ := x1w_spec (show x1w st (fun v r => x1w r fun w r => N L (v :: w :: v :: w :: r) h k n) from hop)
    obtain ⟨w, r, rfl, hw, h3⟩ := x1w_spec h2
    replace h2 := h3
    exact xw_dup2 hx hb hd hv hw (hN _ _ _ _ _ h2)
  case goto off =>
    obtain rfl : 3 = len := by simpa [xlen] using hlen
    exact xw_goto hx hb hd (of_decide_eq_true htg) (hJ _ _ _ _ _ _ hop)
  case if_icmp cnd off =>
    obtain rfl : 3 = len := by simpa [xlen] using hlen
    obtain ⟨x, y, r, rfl, h2⟩ := x2i_spec (show x2i _ _ from hop)
    obtain ⟨⟨r1, r2⟩, h3⟩ := h2
    have h1 := of_decide_eq_true (show decide _ = true from htg)
    cases cnd
    case eq => exact xw_icmp_eq hx hb hd h1 r1 r2 (fun q => hJ _ _ _ _ _ _ (h3.1 q)) (fun q => hN _ _ _ _ _ (h3.2 q))
    case ne => exact xw_icmp_ne hx hb hd h1 r1 r2 (fun q => hJ _ _ _ _ _ _ (h3.1 q)) (fun q => hN _ _ _ _ _ (h3.2 q))
    case lt => exact xw_icmp_lt hx hb hd h1 r1 r2 (fun q => hJ _ _ _ _ _ _ (h3.1 q)) (fun q => hN _ _ _ _ _ (h3.2 q))
    case ge => exact xw_icmp_ge hx hb hd h1 r1 r2 (fun q => hJ _ _ _ _ _ _ (h3.1 q)) (fun q => hN _ _ _ _ _ (h3.2 q))
    case gt => exact xw_icmp_gt hx hb hd h1 r1 r2 (fun q => hJ _ _ _ _ _ _ (h3.1 q)) (fun q => hN _ _ _ _ _ (h3.2 q))
    case le => exact xw_icmp_le hx hb hd h1 r1 r2 (fun q => hJ _ _ _ _ _ _ (h3.1 q)) (fun q => hN _ _ _ _ _ (h3.2 q))
  case ifCond cnd off =>
    obtain rfl : 3 = len := by simpa [xlen] using hlen
    obtain ⟨x, r, rfl, h2⟩ := x1i_spec (show x1i _ _ from hop)
    obtain ⟨r1, h3⟩ := h2
    have h1 := of_decide_eq_true (show decide _ = true from htg)
    cases cnd
    case eq => exact xw_if_eq hx hb hd h1 r1 (fun q => hJ _ _ _ _ _ _ (h3.1 q)) (fun q => hN _ _ _ _ _ (h3.2 q))
    case ne => exact xw_if_ne hx hb hd h1 r1 (fun q => hJ _ _ _ _ _ _ (h3.1 q)) (fun q => hN _ _ _ _ _ (h3.2 q))
    case lt => exact xw_if_lt hx hb hd h1 r1 (fun q => hJ _ _ _ _ _ _ (h3.1 q)) (fun q => hN _ _ _ _ _ (h3.2 q))
    case ge => exact xw_if_ge hx hb hd h1 r1 (fun q => hJ _ _ _ _ _ _ (h3.1 q)) (fun q => hN _ _ _ _ _ (h3.2 q))
    case gt => exact xw_if_gt hx hb hd h1 r1 (fun q => hJ _ _ _ _ _ _ (h3.1 q)) (fun q => hN _ _ _ _ _ (h3.2 q))
    case le => exact xw_if_le hx hb hd h1 r1 (fun q => hJ _ _ _ _ _ _ (h3.1 q)) (fun q => hN _ _ _ _ _ (h3.2 q))
  case tableswitch dflt lo hi offs =>
    obtain ⟨x, r, rfl, hsz, r1, h3, h4⟩ := x1i_spec (show x1i _ _ from hop)
    by_cases hxo : x < lo ∨ hi < x
    · obtain ⟨t, h5, h6⟩ := xto_spec (h3 hxo)
      exact xw_tableOut hx hb hd r1 hxo h5 (hJ _ _ _ _ _ _ h6)
    · obtain ⟨off, h5, h6⟩ := xsw_spec h4 (by omega) (by omega)
      obtain ⟨t, h7, h8⟩ := xto_spec h6
      exact xw_tableIn hx hb hd r1 (by omega) (by omega) (by rw [← Array.getElem?_toList]; exact h5) h7 (hJ _ _ _ _ _ _ h8)
  case getfield i =>
    obtain rfl : 3 = len := by simpa [xlen] using hlen
    obtain ⟨d, h1, h2⟩ := xo_spec (show xo _ _ from hop)
    obtain ⟨ci, kf, dd⟩ := d
    obtain ⟨a0, r, rfl, h2a⟩ := x1r_spec h2
    obtain ⟨a, rfl, h2b⟩ := xo_spec h2a
    obtain ⟨fs, v, h3, h4, h5⟩ := xgf_spec h2b
    exact xw_get hx hb hts hown hK (tF _ _ (xlk_mem h1)) hd h3 h4 (hN _ _ _ _ _ h5)
  case putfield i =>
    obtain rfl : 3 = len := by simpa [xlen] using hlen
    obtain ⟨d, h1, h2⟩ := xo_spec (show xo _ _ from hop)
    split at h2
    · rename_i ci kf ty fin nest v a r
      have h3 := xcond h2
      have hq := h3.1
      simp only [Bool.and_eq_true, Bool.or_eq_true, Bool.not_eq_true'] at hq
      exact xw_put hx hb hts hown hK (tF _ _ (xlk_mem h1)) (fun q => by
        rcases hq.2 with h9 | h9
        · rw [h9] at q; cases q
        · exact ⟨hini h9.1, h9.2⟩) hq.1 hd (xwf_mono (fun h' h3 => hN _ _ _ _ _ h3) h3.2)
    · exact h2.elim
  case arraylength =>
    obtain rfl : 1 = len := by simpa [xlen] using hlen
    obtain ⟨a0, r, rfl, h2⟩ := x1r_spec (show x1r _ _ from hop)
    obtain ⟨a, rfl, h2b⟩ := xo_spec h2
    obtain ⟨t, N1, f, h3, h4⟩ := xar_spec h2b
    have ht := (xcond h4).1
    replace h4 := (xcond h4).2
    rw [Bool.or_eq_true] at ht
    by_cases h9 : t = 9
    · exact xw_alen hx hb hK hd h3 (Or.inl ⟨h9, rfl⟩) (hN _ _ _ _ _ h4)
    · have hlt : t < xTys.length := by
        rcases ht with ht | ht
        · exact absurd (xbeq ht) h9
        · simpa [Nat.blt_eq] using ht
      exact xw_alen hx hb hK hd h3 (Or.inr ⟨h9, List.getElem?_eq_getElem hlt⟩) (hN _ _ _ _ _ h4)
  case iaload =>
    obtain rfl : 1 = len := by simpa [xlen] using hlen
    unfold xop at hop
    simp only at hop
    split at hop
    · obtain ⟨t, N1, f, h3, h4⟩ := xar_spec hop
      have ht := (xcond h4).1
      obtain ⟨⟨q0, q1, q2⟩, h5⟩ := (xcond h4).2
      rw [Bool.or_eq_true] at ht
      rcases ht with ht | ht
      · obtain rfl := xbeq ht
        exact xw_iald hx hb hK hd h3 (Or.inr ⟨by decide, xTy0⟩) q0 q1 q2 (hN _ _ _ _ _ h5)
      · obtain rfl := xbeq ht
        exact xw_iald hx hb hK hd h3 (Or.inl ⟨rfl, rfl⟩) q0 q1 q2 (hN _ _ _ _ _ h5)
    · exact hop.elim
  case laload =>
    obtain rfl : 1 = len := by simpa [xlen] using hlen
    unfold xop at hop
    simp only at hop
    split at hop
    · obtain ⟨t, N1, f, h3, h4⟩ := xar_spec hop
      have ht := (xcond h4).1
      obtain ⟨⟨q0, q1, q2⟩, h5⟩ := (xcond h4).2
      obtain rfl := xbeq ht
      exact xw_lald hx hb hK hd h3 (Or.inr ⟨by decide, xTy1⟩) q0 q1 q2 (hN _ _ _ _ _ h5)
    · exact hop.elim
  case aaload =>
    obtain rfl : 1 = len := by simpa [xlen] using hlen
    unfold xop at hop
    simp only at hop
    split at hop
    · obtain ⟨t, N1, f, h3, h4⟩ := xar_spec hop
      have ht := (xcond h4).1
      obtain ⟨⟨q0, q1, q2⟩, h5⟩ := (xcond h4).2
      obtain rfl := xbeq ht
      exact xw_aald hx hb hK hd h3 (ty := .array .int) (Or.inr ⟨by decide, rfl⟩) rfl q0 q1 q2 (hN _ _ _ _ _ h5)
    · exact hop.elim
  case iastore =>
    obtain rfl : 1 = len := by simpa [xlen] using hlen
    unfold xop at hop
    simp only at hop
    split at hop
    · obtain ⟨t, N1, f, h3, h4⟩ := xar_spec hop
      have ht := (xcond h4).1
      obtain ⟨⟨q0, q1, q2⟩, h5⟩ := (xcond h4).2
      obtain rfl := xbeq ht
      exact xw_iast hx hb hK hd h3 (by decide) xTy0 q0 q1 q2 (xwa_mono (fun h' h6 => hN _ _ _ _ _ h6) h5)
    · exact hop.elim
  case lastore =>
    obtain rfl : 1 = len := by simpa [xlen] using hlen
    unfold xop at hop
    simp only at hop
    split at hop
    · obtain ⟨t, N1, f, h3, h4⟩ := xar_spec hop
      have ht := (xcond h4).1
      obtain ⟨⟨q0, q1, q2⟩, h5⟩ := (xcond h4).2
      obtain rfl := xbeq ht
      exact xw_last hx hb hK hd h3 (by decide) xTy1 q0 q1 q2 (xwa_mono (fun h' h6 => hN _ _ _ _ _ h6) h5)
    · exact hop.elim
  case new i =>
    obtain rfl : 3 = len := by simpa [xlen] using hlen
    obtain ⟨⟨ci, fs⟩, h1, h2⟩ := xo_spec (show xo _ _ from hop)
    obtain ⟨M, D, nx⟩ := h
    obtain ⟨hq, h2⟩ := h2
    exact xw_new hx hb hts hown hK hbase (tN _ _ (xlk_mem h1)) hd hq.1 hq.2 (hN _ _ _ _ _ h2)
  case newarray at_ =>
    obtain ⟨M, D, nx⟩ := h
    cases at_
    case int =>
      obtain rfl : 2 = len := by simpa [xlen] using hlen
      obtain ⟨z, r, rfl, ⟨q0, q1, q2, q3⟩, h2⟩ := x1i_spec (show x1i _ _ from hop)
      exact xw_newa hx hb hts hK (at_ := .int) (t := 0) (v0 := xI 0) (by decide) xTy0 (fun cA q => q) xWi rfl hd q0 (by show z.toNat * 4 ≤ _; omega) (by omega) q2 q3 (hN _ _ _ _ _ h2)
    case long =>
      obtain rfl : 2 = len := by simpa [xlen] using hlen
      obtain ⟨z, r, rfl, ⟨q0, q1, q2, q3⟩, h2⟩ := x1i_spec (show x1i _ _ from hop)
      exact xw_newa hx hb hts hK (at_ := .long) (t := 1) (v0 := xJ 0) (by decide) xTy1 (fun cA q => q) xWj rfl hd q0 (by show z.toNat * 8 ≤ _; omega) (by omega) q2 q3 (hN _ _ _ _ _ h2)
    all_goals
      obtain ⟨z, r, rfl, -, h2⟩ := x1i_spec (show x1i _ _ from hop)
      exact h2.elim
  case multianewarray i dims =>
    obtain rfl : 4 = len := by simpa [xlen] using hlen
    obtain ⟨M, D, nx⟩ := h
    unfold xop at hop
    simp only at hop
    split at hop
    · obtain ⟨⟨rfl, hi, q1, q2, q3, q4, q5, q6⟩, h2⟩ := hop
      exact xw_mna hx hb hts hown hK (tA _ hi) xWi hd q1 q2 q3 q4 q5 q6 (hN _ _ _ _ _ h2)
    · exact hop.elim
  case invokestatic i =>
    obtain rfl : 3 = len := by simpa [xlen] using hlen
    obtain ⟨d, h1, h2⟩ := xo_spec (show xo _ _ from hop)
    have hmk := tM _ _ (xlk_mem h1)
    unfold xMk at hmk
    split at h2
    · simp only at hmk
      obtain ⟨hlk, hst⟩ := hmk
      obtain ⟨bs, st', h3, h4, rfl⟩ := xtk_spec h2
      rw [List.append_nil] at h3
      obtain ⟨hcat, fr, lo, mc, ms, hrm, hct⟩ := hC _ _ _ _ _ _ _ h3
      exact xw_callS hx hb hml hts hown hK hbase hlk hst hd h4 hrm hct hcat (fun r h' hq => hN _ _ _ _ _ (xrt_spec hq))
    · simp only at hmk
      obtain ⟨w1, w2, w3, w4⟩ := hmk
      obtain ⟨x, y, r, rfl, ⟨q1, q2, ⟨q3, q4, q5⟩, q6, q7⟩, h3⟩ := x2i_spec h2
      exact xw_max hx hb hml hts hown w1 w2 w3 w4 hd q1 q2 q4 (by rw [xct_eq]; simp only at q5; omega) q6 q7 (hN _ _ _ _ _ h3)
    · simp only at hmk
      obtain ⟨w1, w2, w3, w4⟩ := hmk
      obtain ⟨x, y, r, rfl, ⟨q1, q2, ⟨q3, q4, q5⟩, q6, q7⟩, h3⟩ := x2i_spec h2
      exact xw_min hx hb hml hts hown w1 w2 w3 w4 hd q1 q2 q4 (by rw [xct_eq]; simp only at q5; omega) q6 q7 (hN _ _ _ _ _ h3)
    · simp only at hmk
      obtain ⟨w1, w2, w3, w4⟩ := hmk
      obtain ⟨x, r, rfl, ⟨q1, -, ⟨q3, q4, q5⟩, q6, q7⟩, h3⟩ := x1i_spec h2
      exact xw_abs hx hb hml hts hown w1 w2 w3 w4 hd q1 q4 (by rw [xct_eq]; simp only at q5; omega) q6 q7 (hN _ _ _ _ _ h3)
    · simp only at hmk
      obtain ⟨w1, w2, w3, w4⟩ := hmk
      obtain ⟨M, D, nx⟩ := h
      split at h2
      · simp only at h2
        split at h2
        · rename_i ha0 ha1
          obtain ⟨⟨q6, q7, q8, q9, q10, q1, q2, q3, q4, q5⟩, h5⟩ := h2
          refine xw_copy hx hb hml hts hown hK w1 w2 w3 w4 xTy0 hd ha0 ha1 q1 q2 q3 q4 q5 (by omega) (by omega) q9 ?_ (hN _ _ _ _ _ h5)
          rw [xct_eq]
          have : nativeFrameWords "java/lang/System" "arraycopy" 5 + 11 ≤ 22 := by decide +kernel
          omega
        · exact h2.elim
      · exact h2.elim
    · exact h2.elim
  case invokevirtual i =>
    obtain rfl : 3 = len := by simpa [xlen] using hlen
    obtain ⟨d, h1, h2⟩ := xo_spec (show xo _ _ from hop)
    have hmk := tM _ _ (xlk_mem h1)
    unfold xMk at hmk
    split at h2
    · simp only at hmk
      obtain ⟨hlk, hin, hsel, hci⟩ := hmk
      obtain ⟨bs, st', h3, h4, rfl⟩ := xtk_spec h2
      rw [List.append_nil] at h3
      obtain ⟨a, r, rfl, h3⟩ := x1r_spec h3
      obtain ⟨a, rfl, h3⟩ := xo_spec h3
      obtain ⟨fs, ha, h3⟩ := xcv_spec h3
      obtain ⟨hcat, fr, lo, mc, ms, hrm, hct⟩ := hC _ _ _ _ _ _ _ h3
      exact xw_callV hx hb hml hts hown hK hbase hlk hin hsel hci hd ha h4 hrm hct hcat (fun r h' hq => hN _ _ _ _ _ (xrt_spec hq))
    · exact h2.elim
  case invokespecial i =>
    obtain rfl : 3 = len := by simpa [xlen] using hlen
    obtain ⟨d, h1, h2⟩ := xo_spec (show xo _ _ from hop)
    have hmk := tM _ _ (xlk_mem h1)
    unfold xMk at hmk
    split at h2
    · simp only at hmk
      obtain ⟨hlk, hin, hnm, hrt⟩ := hmk
      obtain ⟨bs, st', h3, h4, rfl⟩ := xtk_spec h2
      rw [List.append_nil] at h3
      obtain ⟨a, r, rfl, h3⟩ := x1r_spec h3
      obtain ⟨a, rfl, h3⟩ := xo_spec h3
      obtain ⟨hcat, fr, lo, mc, ms, hrm, hct⟩ := hC _ _ _ _ _ _ _ h3
      exact xw_callI hx hb hml hts hown hK hbase hlk hin hnm hrt hd h4 hrm hct hcat (fun r h' hq => hN _ _ _ _ _ (xrt_spec hq))
    · simp only at hmk
      obtain ⟨w1, w2, w3⟩ := hmk
      obtain ⟨a, r, rfl, h2⟩ := x1r_spec h2
      obtain ⟨a, rfl, hq, h2⟩ := xo_spec h2
      intro H locs ls hM hS hL hl
      exact W.objInit hx hb hown (hts _ w1) (hts _ w2) (hts _ w3) rfl (by rw [hml]; exact hl.1) rfl hd hq.2.1 (by rw [List.map_map]; show 2 * 0 + _ + 12 ≤ _; have := xct_eq (G := G) r; simp only [Function.comp_def] at *; omega) (hN _ _ _ _ _ h2 H locs ls hM hS hL hl)
    · exact h2.elim
  case ireturn =>
    obtain rfl : 1 = len := by simpa [xlen] using hlen
    unfold xop at hop
    simp only at hop
    split at hop
    · obtain ⟨q1, q2, hop⟩ := xend_spec hop
      exact hret _ _ _ _ _ _ _ _ hd rfl hop q1 q2 (Or.inl ⟨rfl, _, rfl, Or.inl rfl⟩)
    · obtain ⟨q1, q2, hz, hop⟩ := xend_spec hop
      exact hret _ _ _ _ _ _ _ _ hd rfl hop q1 q2 (Or.inl ⟨rfl, _, rfl, Or.inr ⟨rfl, hz⟩⟩)
    · exact hop.elim
  case lreturn =>
    obtain rfl : 1 = len := by simpa [xlen] using hlen
    unfold xop at hop
    simp only at hop
    split at hop
    · obtain ⟨q1, q2, hop⟩ := xend_spec hop
      exact hret _ _ _ _ _ _ _ _ hd rfl hop q1 q2 (Or.inr (Or.inl ⟨rfl, ⟨_, rfl⟩, rfl⟩))
    · exact hop.elim
  case return_ =>
    obtain rfl : 1 = len := by simpa [xlen] using hlen
    unfold xop at hop
    simp only at hop
    split at hop
    · obtain ⟨q1, q2, hop⟩ := xend_spec hop
      exact hret _ _ _ _ _ _ _ _ hd rfl hop q1 q2 (Or.inr (Or.inr (Or.inr ⟨rfl, rfl, rfl⟩)))
    · exact hop.elim
  all_goals exact (show False from hop).elim
end XSOUND
end
section
/-! code by blocks; the walk of a body; a method's contract out of it -/
abbrev xCd : Type := List (Instr × Nat × Nat)
abbrev xBk : Type := List (Nat × xCd)
def xsq (tb : xTb) (T : xT) (R : xRm) (rt : Option FieldType) (ini : Bool) (C : xC) (P : xP) (J : xS) (code : xCd) : xS :=
  List.rec (motive := fun _ => xS) J (fun q _ ih => match q with
    | (op, nx, tg) => fun pc L st h k n => xop tb T R rt ini C P op tg pc L st h k n (ih nx) J) code
def xin : Nat → List Nat → Bool
  | _, [] => false
  | i, j :: r => match Nat.beq i j with
    | true => true
    | false => xin i r
def xfd (B : xBk) (pc : Nat) : xCd := match xlk B pc with
  | some c => c
  | none => []
/-- the walk from a pc on, over at most so many jumps, till a pc of cut -/
def xwp (tb : xTb) (T : xT) (R : xRm) (rt : Option FieldType) (ini : Bool) (C : xC) (P : xP) (cut : List Nat) (B : xBk) (X : xS) (f : Nat) : xS :=
  Nat.rec (motive := fun _ => xS) X (fun _ ih => fun pc => match xin pc cut with
    | true => X pc
    | false => xsq tb T R rt ini C P ih (xfd B pc) pc) f
def xcl1 (cc : ByteArray) : Nat → xCd → Bool
  | _, [] => true
  | pc, (op, nx, tg) :: r => decide (decode cc pc = .ok (op, nx - pc)) && (xlen op == 0 || xlen op == nx - pc) && xtg pc tg op && Nat.ble pc nx && xcl1 cc nx r
def xck (cc : ByteArray) (B : xBk) : Bool := B.all fun q => xcl1 cc q.1 q.2
/-- X is told by what comes behind each instruction -/
def xClo (cc : ByteArray) (tb : xTb) (T : xT) (R : xRm) (rt : Option FieldType) (ini : Bool) (C : xC) (P : xP) (X : xS) : Prop :=
  (∀ (pc len tg : Nat) (op : Instr), decode cc pc = .ok (op, len) → (xlen op = 0 ∨ xlen op = len) → xtg pc tg op = true → ∀ (N : xN) (J : xS), (∀ L st h k n, N L st h k n → X (pc + len) L st h k n) → (∀ t L st h k n, J t L st h k n → X t L st h k n) → ∀ L st h k n, xop tb T R rt ini C P op tg pc L st h k n N J → X pc L st h k n) ∧
  ∀ pc L st h k n k' n', k ≤ k' → n ≤ n' → X pc L st h k' n' → X pc L st h k n
section XMET
variable {cc : ByteArray} {tb : xTb} {T : xT} {R : xRm} {rt : Option FieldType} {ini : Bool} {C : xC} {P : xP} {X : xS} {B : xBk}
theorem xsq_ok (hX : xClo cc tb T R rt ini C P X) {J : xS} (hJ : ∀ t L st h k n, J t L st h k n → X t L st h k n) : ∀ (code : xCd) (pc : Nat), xcl1 cc pc code = true → ∀ L st h k n, xsq tb T R rt ini C P J code pc L st h k n → X pc L st h k n
  | [], pc, _, L, st, h, k, n, hs => hJ _ _ _ _ _ _ hs
  | (op, nx, tg) :: r, pc, hc, L, st, h, k, n, hs => by
    simp only [xcl1, Bool.and_eq_true, Bool.or_eq_true, decide_eq_true_eq, beq_iff_eq] at hc
    have hle := Nat.le_of_ble_eq_true hc.1.2
    exact hX.1 pc (nx - pc) tg op hc.1.1.1.1 hc.1.1.1.2 hc.1.1.2 _ J (fun L st h k n q => by rw [Nat.add_sub_cancel' hle]; exact xsq_ok hX hJ r nx hc.2 L st h k n q) hJ L st h k n hs
theorem xfd_ok (hB : xck cc B = true) (pc : Nat) : xcl1 cc pc (xfd B pc) = true := by
  unfold xfd
  cases h : xlk B pc with
  | none => rfl
  | some code =>
    have := List.all_eq_true.mp hB _ (xlk_mem h)
    exact this
theorem xwp_ok (hX : xClo cc tb T R rt ini C P X) (hB : xck cc B = true) {cut : List Nat} : ∀ (f pc : Nat) (L : xLs) (st : List xV) (h : xH) (k n : Nat), xwp tb T R rt ini C P cut B X f pc L st h k n → X pc L st h k n
  | 0, _, _, _, _, _, _, hs => hs
  | f + 1, pc, L, st, h, k, n, hs => by
    have hs : (match xin pc cut with | true => X pc | false => xsq tb T R rt ini C P (xwp tb T R rt ini C P cut B X f) (xfd B pc) pc) L st h k n := hs
    cases hq : xin pc cut with
    | true => rw [hq] at hs; exact hs
    | false => rw [hq] at hs; exact xsq_ok hX (fun t L st h k n q => xwp_ok hX hB f t L st h k n q) _ _ (xfd_ok hB pc) _ _ _ _ _ hs
/-- the walk from pc on; a cut at pc itself is passed -/
theorem xgo (hX : xClo cc tb T R rt ini C P X) (hB : xck cc B = true) (cut : List Nat) (f : Nat) {pc : Nat} {L : xLs} {st : List xV} {h : xH} {k n : Nat} (hs : xsq tb T R rt ini C P (xwp tb T R rt ini C P cut B X f) (xfd B pc) pc L st h k n) : X pc L st h k n :=
  xsq_ok hX (fun t L st h k n q => xwp_ok hX hB f t L st h k n q) _ _ (xfd_ok hB pc) _ _ _ _ _ hs
end XMET
/-- the locals at the entry -/
def xen : List xV → xLs
  | [] => []
  | .inr (.inl z) :: r => some (xJ z) :: none :: xen r
  | v :: r => some v :: xen r
theorem xen_args {G : xG} {q : Nat × Value} : ∀ {as : List xV} {i : Nat} {j : Nat}, q ∈ xls G i (xen as ++ List.replicate j none) → q ∈ lv_args i (as.map (xc G))
  | [], i, 0, h => by simp [xen, xls] at h
  | [], i, j + 1, h => by
    rw [xen, List.nil_append, List.replicate_succ, xls] at h
    exact xen_args (as := []) (i := i + 1) (j := j) (by simpa [xen] using h)
  | .inr (.inl z) :: r, i, j, h => by
    simp only [xen, List.cons_append, xls, List.mem_cons] at h
    simp only [List.map_cons, lv_args, List.mem_cons]
    rcases h with h | h
    · exact Or.inl h
    · exact Or.inr (xen_args (as := r) h)
  | .inl z :: r, i, j, h => by
    simp only [xen, List.cons_append, xls, List.mem_cons] at h
    simp only [List.map_cons, lv_args, List.mem_cons]
    rcases h with h | h
    · exact Or.inl h
    · exact Or.inr (xen_args (as := r) h)
  | .inr (.inr none) :: r, i, j, h => by
    simp only [xen, List.cons_append, xls, List.mem_cons] at h
    simp only [List.map_cons, lv_args, List.mem_cons]
    rcases h with h | h
    · exact Or.inl h
    · exact Or.inr (xen_args (as := r) h)
  | .inr (.inr (some a)) :: r, i, j, h => by
    simp only [xen, List.cons_append, xls, List.mem_cons] at h
    simp only [List.map_cons, lv_args, List.mem_cons]
    rcases h with h | h
    · exact Or.inl h
    · exact Or.inr (xen_args (as := r) h)
theorem lg_sl_cons (v : Value) (r : List Value) : lg_sl (v :: r) = lg_sl [v] ++ lg_sl r := by simp [lg_sl]
theorem xen_len {G : xG} : ∀ as : List xV, (lg_sl (as.map (xc G))).length = (xen as).length
  | [] => rfl
  | .inl z :: r => by rw [List.map_cons, lg_sl_cons, List.length_append, xen_len r, show (xen (.inl z :: r)).length = (xen r).length + 1 from rfl, Nat.add_comm]; rfl
  | .inr (.inl z) :: r => by rw [List.map_cons, lg_sl_cons, List.length_append, xen_len r, show (xen (.inr (.inl z) :: r)).length = (xen r).length + 2 from rfl, Nat.add_comm]; rfl
  | .inr (.inr none) :: r => by rw [List.map_cons, lg_sl_cons, List.length_append, xen_len r, show (xen (.inr (.inr none) :: r)).length = (xen r).length + 1 from rfl, Nat.add_comm]; rfl
  | .inr (.inr (some a)) :: r => by rw [List.map_cons, lg_sl_cons, List.length_append, xen_len r, show (xen (.inr (.inr (some a)) :: r)).length = (xen r).length + 1 from rfl, Nat.add_comm]; rfl
theorem xCt_of {T : xT} {G : xG} {μ : xMd} {fr lo mc ms : Nat} {as : List xV} {h : xH} {Q : Option xV → xH → Prop} {own : String} {tb : xTb} (ini : Bool) (hcls : μ.1.cls = own) (hpl : plainName own = true) (htb : xTbOk own tb) (hini : ini = true → μ.1.name = "<init>") (L0 : xLs) (hlen : (xen as).length ≤ μ.2.2.1) (hL0 : xen as ++ List.replicate (μ.2.2.1 - (xen as).length) none = L0)
    (body : ∀ (X : xS) (C : xC), (∀ μ' as' h' k n rest K, xcl T (fr, lo, mc, ms) G μ' as' h' k n rest K → C μ' as' h' k n rest K) → xClo μ.2.1 tb T (fr, lo, mc, ms) μ.2.2.2 ini C Q X → X 0 L0 [] h 0 0) : xCt T G μ fr lo mc ms as h Q := by
  intro l
  refine Met.ofW (cc := μ.2.1) (maxL := μ.2.2.1) (ret := μ.2.2.2) (by rw [hcls]; exact hpl) rfl ?_
  intro p e s m args below meth c s₁ B hml hv
  obtain ⟨rfl, hM, hK, hbase⟩ := hv
  have hx := B.exec
  have hb := B.bytes
  have hr := B.returns
  have hts0 := atoms_spec (ws := xws μ) B.pre
  have hts : ∀ w ∈ xTB, w.before (as.map (xc G)).toArray s = true := fun w hw => hts0 w (List.mem_cons_of_mem _ hw)
  have hown : s.vm.findClass own = some m.cls := by rw [← hcls]; exact findClass_of_methodNamed B.named
  have hlocks := B.notSynchronized
  have hnm : ini = true → meth.name = "<init>" := fun q => (name_of_methodNamed B.named B.method).1.trans (hini q)
  have E : xEv p s m (as.map (xc G)).toArray meth c μ.2.1 μ.2.2.1 own tb G ini := ⟨hx, hb, hml, hts, hown, hK, hbase, htb, hnm⟩
  have hret : xRet T p l e (headSpec (xws μ) { frames := fr, cells := mc, slots := ms, locals := lo }).room s m (as.map (xc G)).toArray below meth c (MQ below (xQc T G Q) (as.map (xc G)).toArray s mc ms (xA G)) G μ.2.2.1 μ.2.1 μ.2.2.2 Q := by
    intro pc op L st r h k n hd hst hP hk hn hop
    have hq : ∀ (H : Heap) (t : State), xMt T G h H → t.heap = H → va_F (xA G) s t → xQc T G Q (as.map (xc G)).toArray s (.returned (r.map (xc G))) t := fun H t hM ht hF => ⟨r, h, rfl, hP, by rw [ht]; exact hM, hF⟩
    intro H locs ls hM hS hL hl
    refine W.widen hk hn ?_
    rcases hop with ⟨rfl, z, rfl, hrt⟩ | ⟨rfl, ⟨z, rfl⟩, hrt⟩ | ⟨rfl, ⟨q, rfl⟩, hrt⟩ | ⟨rfl, rfl, hrt⟩
    · subst hst
      rcases hrt with hrt | ⟨hrt, hz⟩
      · exact xw_iret hx hb (hr.trans hrt) rfl hlocks hd hq H locs ls hM hS hL hl
      · exact xw_iret hx hb (hr.trans hrt) (by rcases hz with rfl | rfl <;> rfl) hlocks hd hq H locs ls hM hS hL hl
    · subst hst
      exact xw_lret hx hb (hr.trans hrt) hlocks hd hq H locs ls hM hS hL hl
    · subst hst
      rcases hrt with ⟨C, hrt⟩ | ⟨t, hrt⟩
      · exact xw_aret hx hb (hr.trans hrt) (Or.inl ⟨_, rfl⟩) hlocks hd hq H locs ls hM hS hL hl
      · exact xw_aret hx hb (hr.trans hrt) (Or.inr ⟨_, rfl⟩) hlocks hd hq H locs ls hM hS hL hl
    · exact xw_vret hx hb (hr.trans hrt) hlocks hd hq st hst H locs ls hM hS hL hl
  have hgo := body (xW T p l e (headSpec (xws μ) { frames := fr, cells := mc, slots := ms, locals := lo }).room s m (as.map (xc G)).toArray below meth c (MQ below (xQc T G Q) (as.map (xc G)).toArray s mc ms (xA G)) G μ.2.2.1) (xcl T (fr, lo, mc, ms) G) (fun _ _ _ _ _ _ _ q => q)
    ⟨fun pc len tg op hd hln htg N J hN hJ L st h k n hop => xop_ok E (fun _ _ _ _ _ _ _ q => q) hret hd hln htg hN hJ hop, fun pc L st h k n k' n' hk hn hX H locs ls hM hS hL hl => W.widen hk hn (hX H locs ls hM hS hL hl)⟩
  have hl := lv_entry (as.map (xc G)) (n := μ.2.2.1) (by rw [xen_len]; exact hlen)
  rw [lg_entry_eq]
  subst hL0
  refine hgo s.heap [] _ hM va_S.rf ?_ ⟨hl.1, hl.2.1, fun q hq => hl.2.2 q (xen_args hq)⟩
  rw [List.length_append, List.length_replicate]
  omega
theorem xall {α : Type} {l : List (Nat × α)} {F : Nat → α → Prop} (h : ∀ q ∈ l, F q.1 q.2) : ∀ i d, (i, d) ∈ l → F i d := fun i d hq => h (i, d) hq
end
