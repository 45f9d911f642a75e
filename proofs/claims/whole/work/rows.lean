section
-- ===== PART A: goes FIRST, ahead of the names: the tables' words, and 'selects' of the private methods out of them =====
/-- a private method of a class that the tables say can be made, by its rows of tables_1 -/
def lw_okq (q : MethodName × Nat) : Prop := (q.1.cls ≠ "java/lang/invoke/MethodHandle" ∧ q.1.cls ≠ "java/lang/invoke/VarHandle") ∧ Cond.instantiable q.1.cls q.2 ∈ tables_1 ∧ Cond.privateMethod q.1 ∈ tables_1 ∧ Cond.instanceMethod q.1 ∈ tables_1
theorem lw_p0 : lw_okq (⟨"SaddlerKnows$CountyReader", "keepRules", "(II)V"⟩, 4) := ⟨⟨by decide +kernel, by decide +kernel⟩, List.mem_of_getElem? (i := 54) (by decide +kernel), List.mem_of_getElem? (i := 414) (by decide +kernel), List.mem_of_getElem? (i := 415) (by decide +kernel)⟩
theorem lw_p1 : lw_okq (⟨"SaddlerKnows$CountyReader", "readsClause", "()Z"⟩, 4) := ⟨⟨by decide +kernel, by decide +kernel⟩, List.mem_of_getElem? (i := 54) (by decide +kernel), List.mem_of_getElem? (i := 418) (by decide +kernel), List.mem_of_getElem? (i := 419) (by decide +kernel)⟩
theorem lw_p2 : lw_okq (⟨"SaddlerKnows$CountyReader", "readsRules", "()Z"⟩, 4) := ⟨⟨by decide +kernel, by decide +kernel⟩, List.mem_of_getElem? (i := 54) (by decide +kernel), List.mem_of_getElem? (i := 426) (by decide +kernel), List.mem_of_getElem? (i := 427) (by decide +kernel)⟩
theorem lw_p3 : lw_okq (⟨"SaddlerKnows$CountyReader", "begin", "(III)V"⟩, 4) := ⟨⟨by decide +kernel, by decide +kernel⟩, List.mem_of_getElem? (i := 54) (by decide +kernel), List.mem_of_getElem? (i := 430) (by decide +kernel), List.mem_of_getElem? (i := 431) (by decide +kernel)⟩
theorem lw_p4 : lw_okq (⟨"SaddlerKnows$CountyReader", "readsItems", "(Ljava/lang/String;[I)Z"⟩, 4) := ⟨⟨by decide +kernel, by decide +kernel⟩, List.mem_of_getElem? (i := 54) (by decide +kernel), List.mem_of_getElem? (i := 442) (by decide +kernel), List.mem_of_getElem? (i := 443) (by decide +kernel)⟩
theorem lw_p5 : lw_okq (⟨"SaddlerKnows$Tape", "byteHere", "()I"⟩, 3) := ⟨⟨by decide +kernel, by decide +kernel⟩, List.mem_of_getElem? (i := 34) (by decide +kernel), List.mem_of_getElem? (i := 547) (by decide +kernel), List.mem_of_getElem? (i := 548) (by decide +kernel)⟩
theorem lw_p6 : lw_okq (⟨"SaddlerKnows$CountyReader", "readsPerson", "()Z"⟩, 4) := ⟨⟨by decide +kernel, by decide +kernel⟩, List.mem_of_getElem? (i := 54) (by decide +kernel), List.mem_of_getElem? (i := 551) (by decide +kernel), List.mem_of_getElem? (i := 552) (by decide +kernel)⟩
theorem lw_p7 : lw_okq (⟨"SaddlerKnows$CountyReader", "readsSaddle", "()Z"⟩, 4) := ⟨⟨by decide +kernel, by decide +kernel⟩, List.mem_of_getElem? (i := 54) (by decide +kernel), List.mem_of_getElem? (i := 558) (by decide +kernel), List.mem_of_getElem? (i := 559) (by decide +kernel)⟩
theorem lw_p8 : lw_okq (⟨"SaddlerKnows$Told", "isToldAhead", "(I)Z"⟩, 10) := ⟨⟨by decide +kernel, by decide +kernel⟩, List.mem_of_getElem? (i := 60) (by decide +kernel), List.mem_of_getElem? (i := 570) (by decide +kernel), List.mem_of_getElem? (i := 571) (by decide +kernel)⟩
theorem lw_p9 : lw_okq (⟨"SaddlerKnows$LawReader", "readsClause", "()Z"⟩, 3) := ⟨⟨by decide +kernel, by decide +kernel⟩, List.mem_of_getElem? (i := 139) (by decide +kernel), List.mem_of_getElem? (i := 582) (by decide +kernel), List.mem_of_getElem? (i := 583) (by decide +kernel)⟩
theorem lw_p10 : lw_okq (⟨"SaddlerKnows$LawReader", "readsCondition", "(IZ)Z"⟩, 3) := ⟨⟨by decide +kernel, by decide +kernel⟩, List.mem_of_getElem? (i := 139) (by decide +kernel), List.mem_of_getElem? (i := 588) (by decide +kernel), List.mem_of_getElem? (i := 589) (by decide +kernel)⟩
theorem lw_p11 : lw_okq (⟨"SaddlerKnows$LawReader", "readsTruth", "(IZ)Z"⟩, 3) := ⟨⟨by decide +kernel, by decide +kernel⟩, List.mem_of_getElem? (i := 139) (by decide +kernel), List.mem_of_getElem? (i := 592) (by decide +kernel), List.mem_of_getElem? (i := 593) (by decide +kernel)⟩
theorem lw_p12 : lw_okq (⟨"SaddlerKnows$LawReader", "readsUnit", "(IZ)Z"⟩, 3) := ⟨⟨by decide +kernel, by decide +kernel⟩, List.mem_of_getElem? (i := 139) (by decide +kernel), List.mem_of_getElem? (i := 596) (by decide +kernel), List.mem_of_getElem? (i := 597) (by decide +kernel)⟩
theorem lw_p13 : lw_okq (⟨"SaddlerKnows$LawReader", "readsNested", "(II)Z"⟩, 3) := ⟨⟨by decide +kernel, by decide +kernel⟩, List.mem_of_getElem? (i := 139) (by decide +kernel), List.mem_of_getElem? (i := 600) (by decide +kernel), List.mem_of_getElem? (i := 601) (by decide +kernel)⟩
theorem lw_p14 : lw_okq (⟨"SaddlerKnows$LawReader", "emit", "(I)V"⟩, 3) := ⟨⟨by decide +kernel, by decide +kernel⟩, List.mem_of_getElem? (i := 139) (by decide +kernel), List.mem_of_getElem? (i := 605) (by decide +kernel), List.mem_of_getElem? (i := 606) (by decide +kernel)⟩
theorem lw_p15 : lw_okq (⟨"SaddlerKnows$LawReader", "readsSum", "(I)Z"⟩, 3) := ⟨⟨by decide +kernel, by decide +kernel⟩, List.mem_of_getElem? (i := 139) (by decide +kernel), List.mem_of_getElem? (i := 610) (by decide +kernel), List.mem_of_getElem? (i := 611) (by decide +kernel)⟩
def lw_privs_1 : List (MethodName × Nat) := [(⟨"SaddlerKnows$CountyReader", "keepRules", "(II)V"⟩, 4), (⟨"SaddlerKnows$CountyReader", "readsClause", "()Z"⟩, 4), (⟨"SaddlerKnows$CountyReader", "readsRules", "()Z"⟩, 4), (⟨"SaddlerKnows$CountyReader", "begin", "(III)V"⟩, 4), (⟨"SaddlerKnows$CountyReader", "readsItems", "(Ljava/lang/String;[I)Z"⟩, 4), (⟨"SaddlerKnows$Tape", "byteHere", "()I"⟩, 3), (⟨"SaddlerKnows$CountyReader", "readsPerson", "()Z"⟩, 4), (⟨"SaddlerKnows$CountyReader", "readsSaddle", "()Z"⟩, 4), (⟨"SaddlerKnows$Told", "isToldAhead", "(I)Z"⟩, 10), (⟨"SaddlerKnows$LawReader", "readsClause", "()Z"⟩, 3), (⟨"SaddlerKnows$LawReader", "readsCondition", "(IZ)Z"⟩, 3), (⟨"SaddlerKnows$LawReader", "readsTruth", "(IZ)Z"⟩, 3), (⟨"SaddlerKnows$LawReader", "readsUnit", "(IZ)Z"⟩, 3), (⟨"SaddlerKnows$LawReader", "readsNested", "(II)Z"⟩, 3), (⟨"SaddlerKnows$LawReader", "emit", "(I)V"⟩, 3), (⟨"SaddlerKnows$LawReader", "readsSum", "(I)Z"⟩, 3)]
theorem lw_r1 : ∀ q ∈ lw_privs_1, lw_okq q := List.forall_mem_cons.mpr ⟨lw_p0, List.forall_mem_cons.mpr ⟨lw_p1, List.forall_mem_cons.mpr ⟨lw_p2, List.forall_mem_cons.mpr ⟨lw_p3, List.forall_mem_cons.mpr ⟨lw_p4, List.forall_mem_cons.mpr ⟨lw_p5, List.forall_mem_cons.mpr ⟨lw_p6, List.forall_mem_cons.mpr ⟨lw_p7, List.forall_mem_cons.mpr ⟨lw_p8, List.forall_mem_cons.mpr ⟨lw_p9, List.forall_mem_cons.mpr ⟨lw_p10, List.forall_mem_cons.mpr ⟨lw_p11, List.forall_mem_cons.mpr ⟨lw_p12, List.forall_mem_cons.mpr ⟨lw_p13, List.forall_mem_cons.mpr ⟨lw_p14, List.forall_mem_cons.mpr ⟨lw_p15, fun _ h => absurd h List.not_mem_nil⟩⟩⟩⟩⟩⟩⟩⟩⟩⟩⟩⟩⟩⟩⟩⟩
theorem lw_p16 : lw_okq (⟨"SaddlerKnows$LawReader", "readsTerm", "(I)Z"⟩, 3) := ⟨⟨by decide +kernel, by decide +kernel⟩, List.mem_of_getElem? (i := 139) (by decide +kernel), List.mem_of_getElem? (i := 614) (by decide +kernel), List.mem_of_getElem? (i := 615) (by decide +kernel)⟩
theorem lw_p17 : lw_okq (⟨"SaddlerKnows$LawReader", "readsAtom", "(I)Z"⟩, 3) := ⟨⟨by decide +kernel, by decide +kernel⟩, List.mem_of_getElem? (i := 139) (by decide +kernel), List.mem_of_getElem? (i := 618) (by decide +kernel), List.mem_of_getElem? (i := 619) (by decide +kernel)⟩
theorem lw_p18 : lw_okq (⟨"SaddlerKnows$LawReader", "readsGuarded", "()Z"⟩, 3) := ⟨⟨by decide +kernel, by decide +kernel⟩, List.mem_of_getElem? (i := 139) (by decide +kernel), List.mem_of_getElem? (i := 628) (by decide +kernel), List.mem_of_getElem? (i := 629) (by decide +kernel)⟩
theorem lw_p19 : lw_okq (⟨"SaddlerKnows", "takeCounty", "()I"⟩, 13) := ⟨⟨by decide +kernel, by decide +kernel⟩, List.mem_of_getElem? (i := 26) (by decide +kernel), List.mem_of_getElem? (i := 637) (by decide +kernel), List.mem_of_getElem? (i := 638) (by decide +kernel)⟩
theorem lw_p20 : lw_okq (⟨"SaddlerKnows", "takeLaw", "()I"⟩, 13) := ⟨⟨by decide +kernel, by decide +kernel⟩, List.mem_of_getElem? (i := 26) (by decide +kernel), List.mem_of_getElem? (i := 666) (by decide +kernel), List.mem_of_getElem? (i := 667) (by decide +kernel)⟩
theorem lw_p21 : lw_okq (⟨"SaddlerKnows", "hasCounty", "()Z"⟩, 13) := ⟨⟨by decide +kernel, by decide +kernel⟩, List.mem_of_getElem? (i := 26) (by decide +kernel), List.mem_of_getElem? (i := 697) (by decide +kernel), List.mem_of_getElem? (i := 698) (by decide +kernel)⟩
theorem lw_p22 : lw_okq (⟨"SaddlerKnows$Pinches", "pinchAt", "(IIIII)I"⟩, 4) := ⟨⟨by decide +kernel, by decide +kernel⟩, List.mem_of_getElem? (i := 159) (by decide +kernel), List.mem_of_getElem? (i := 719) (by decide +kernel), List.mem_of_getElem? (i := 720) (by decide +kernel)⟩
theorem lw_p23 : lw_okq (⟨"SaddlerKnows$Law", "push", "(I)V"⟩, 3) := ⟨⟨by decide +kernel, by decide +kernel⟩, List.mem_of_getElem? (i := 670) (by decide +kernel), List.mem_of_getElem? (i := 730) (by decide +kernel), List.mem_of_getElem? (i := 731) (by decide +kernel)⟩
theorem lw_p24 : lw_okq (⟨"SaddlerKnows$Law", "pop", "()I"⟩, 3) := ⟨⟨by decide +kernel, by decide +kernel⟩, List.mem_of_getElem? (i := 670) (by decide +kernel), List.mem_of_getElem? (i := 734) (by decide +kernel), List.mem_of_getElem? (i := 735) (by decide +kernel)⟩
theorem lw_p25 : lw_okq (⟨"SaddlerKnows", "isPerson", "(I)Z"⟩, 13) := ⟨⟨by decide +kernel, by decide +kernel⟩, List.mem_of_getElem? (i := 26) (by decide +kernel), List.mem_of_getElem? (i := 760) (by decide +kernel), List.mem_of_getElem? (i := 761) (by decide +kernel)⟩
theorem lw_p26 : lw_okq (⟨"SaddlerKnows", "loggedWeeks", "()I"⟩, 13) := ⟨⟨by decide +kernel, by decide +kernel⟩, List.mem_of_getElem? (i := 26) (by decide +kernel), List.mem_of_getElem? (i := 772) (by decide +kernel), List.mem_of_getElem? (i := 773) (by decide +kernel)⟩
theorem lw_p27 : lw_okq (⟨"SaddlerKnows", "refused", "(I)I"⟩, 13) := ⟨⟨by decide +kernel, by decide +kernel⟩, List.mem_of_getElem? (i := 26) (by decide +kernel), List.mem_of_getElem? (i := 809) (by decide +kernel), List.mem_of_getElem? (i := 810) (by decide +kernel)⟩
theorem lw_p28 : lw_okq (⟨"SaddlerKnows$Past", "standAt", "(I)LSaddlerKnows$Stand;"⟩, 7) := ⟨⟨by decide +kernel, by decide +kernel⟩, List.mem_of_getElem? (i := 222) (by decide +kernel), List.mem_of_getElem? (i := 818) (by decide +kernel), List.mem_of_getElem? (i := 819) (by decide +kernel)⟩
theorem lw_p29 : lw_okq (⟨"SaddlerKnows", "passWeek", "()V"⟩, 13) := ⟨⟨by decide +kernel, by decide +kernel⟩, List.mem_of_getElem? (i := 26) (by decide +kernel), List.mem_of_getElem? (i := 828) (by decide +kernel), List.mem_of_getElem? (i := 829) (by decide +kernel)⟩
theorem lw_p30 : lw_okq (⟨"SaddlerKnows$Pinches", "loadAt", "(LSaddlerKnows$Stand;III)I"⟩, 4) := ⟨⟨by decide +kernel, by decide +kernel⟩, List.mem_of_getElem? (i := 159) (by decide +kernel), List.mem_of_getElem? (i := 849) (by decide +kernel), List.mem_of_getElem? (i := 850) (by decide +kernel)⟩
theorem lw_p31 : lw_okq (⟨"SaddlerKnows", "drawAhead", "()V"⟩, 13) := ⟨⟨by decide +kernel, by decide +kernel⟩, List.mem_of_getElem? (i := 26) (by decide +kernel), List.mem_of_getElem? (i := 924) (by decide +kernel), List.mem_of_getElem? (i := 925) (by decide +kernel)⟩
def lw_privs_2 : List (MethodName × Nat) := [(⟨"SaddlerKnows$LawReader", "readsTerm", "(I)Z"⟩, 3), (⟨"SaddlerKnows$LawReader", "readsAtom", "(I)Z"⟩, 3), (⟨"SaddlerKnows$LawReader", "readsGuarded", "()Z"⟩, 3), (⟨"SaddlerKnows", "takeCounty", "()I"⟩, 13), (⟨"SaddlerKnows", "takeLaw", "()I"⟩, 13), (⟨"SaddlerKnows", "hasCounty", "()Z"⟩, 13), (⟨"SaddlerKnows$Pinches", "pinchAt", "(IIIII)I"⟩, 4), (⟨"SaddlerKnows$Law", "push", "(I)V"⟩, 3), (⟨"SaddlerKnows$Law", "pop", "()I"⟩, 3), (⟨"SaddlerKnows", "isPerson", "(I)Z"⟩, 13), (⟨"SaddlerKnows", "loggedWeeks", "()I"⟩, 13), (⟨"SaddlerKnows", "refused", "(I)I"⟩, 13), (⟨"SaddlerKnows$Past", "standAt", "(I)LSaddlerKnows$Stand;"⟩, 7), (⟨"SaddlerKnows", "passWeek", "()V"⟩, 13), (⟨"SaddlerKnows$Pinches", "loadAt", "(LSaddlerKnows$Stand;III)I"⟩, 4), (⟨"SaddlerKnows", "drawAhead", "()V"⟩, 13)]
theorem lw_r2 : ∀ q ∈ lw_privs_2, lw_okq q := List.forall_mem_cons.mpr ⟨lw_p16, List.forall_mem_cons.mpr ⟨lw_p17, List.forall_mem_cons.mpr ⟨lw_p18, List.forall_mem_cons.mpr ⟨lw_p19, List.forall_mem_cons.mpr ⟨lw_p20, List.forall_mem_cons.mpr ⟨lw_p21, List.forall_mem_cons.mpr ⟨lw_p22, List.forall_mem_cons.mpr ⟨lw_p23, List.forall_mem_cons.mpr ⟨lw_p24, List.forall_mem_cons.mpr ⟨lw_p25, List.forall_mem_cons.mpr ⟨lw_p26, List.forall_mem_cons.mpr ⟨lw_p27, List.forall_mem_cons.mpr ⟨lw_p28, List.forall_mem_cons.mpr ⟨lw_p29, List.forall_mem_cons.mpr ⟨lw_p30, List.forall_mem_cons.mpr ⟨lw_p31, fun _ h => absurd h List.not_mem_nil⟩⟩⟩⟩⟩⟩⟩⟩⟩⟩⟩⟩⟩⟩⟩⟩
theorem lw_p32 : lw_okq (⟨"SaddlerKnows", "draw", "(I)I"⟩, 13) := ⟨⟨by decide +kernel, by decide +kernel⟩, List.mem_of_getElem? (i := 26) (by decide +kernel), List.mem_of_getElem? (i := 928) (by decide +kernel), List.mem_of_getElem? (i := 929) (by decide +kernel)⟩
theorem lw_p33 : lw_okq (⟨"SaddlerKnows", "arePair", "(II)Z"⟩, 13) := ⟨⟨by decide +kernel, by decide +kernel⟩, List.mem_of_getElem? (i := 26) (by decide +kernel), List.mem_of_getElem? (i := 955) (by decide +kernel), List.mem_of_getElem? (i := 956) (by decide +kernel)⟩
theorem lw_p34 : lw_okq (⟨"SaddlerKnows$Stitching", "searchFrom", "(III)V"⟩, 6) := ⟨⟨by decide +kernel, by decide +kernel⟩, List.mem_of_getElem? (i := 295) (by decide +kernel), List.mem_of_getElem? (i := 986) (by decide +kernel), List.mem_of_getElem? (i := 987) (by decide +kernel)⟩
theorem lw_p35 : lw_okq (⟨"SaddlerKnows$Stitching", "fitsTold", "()I"⟩, 6) := ⟨⟨by decide +kernel, by decide +kernel⟩, List.mem_of_getElem? (i := 295) (by decide +kernel), List.mem_of_getElem? (i := 990) (by decide +kernel), List.mem_of_getElem? (i := 991) (by decide +kernel)⟩
theorem lw_p36 : lw_okq (⟨"SaddlerKnows$Stand", "riddenBy", "(I)I"⟩, 6) := ⟨⟨by decide +kernel, by decide +kernel⟩, List.mem_of_getElem? (i := 182) (by decide +kernel), List.mem_of_getElem? (i := 1007) (by decide +kernel), List.mem_of_getElem? (i := 1008) (by decide +kernel)⟩
theorem lw_p37 : lw_okq (⟨"SaddlerKnows$Seating", "seatFrom", "(IIII)V"⟩, 5) := ⟨⟨by decide +kernel, by decide +kernel⟩, List.mem_of_getElem? (i := 324) (by decide +kernel), List.mem_of_getElem? (i := 1027) (by decide +kernel), List.mem_of_getElem? (i := 1028) (by decide +kernel)⟩
theorem lw_p38 : lw_okq (⟨"SaddlerKnows", "isToldSaddle", "(I)Z"⟩, 13) := ⟨⟨by decide +kernel, by decide +kernel⟩, List.mem_of_getElem? (i := 26) (by decide +kernel), List.mem_of_getElem? (i := 1046) (by decide +kernel), List.mem_of_getElem? (i := 1047) (by decide +kernel)⟩
theorem lw_p39 : lw_okq (⟨"SaddlerKnows$Seeing", "agreesBehind", "(I)Z"⟩, 10) := ⟨⟨by decide +kernel, by decide +kernel⟩, List.mem_of_getElem? (i := 254) (by decide +kernel), List.mem_of_getElem? (i := 1056) (by decide +kernel), List.mem_of_getElem? (i := 1057) (by decide +kernel)⟩
theorem lw_p40 : lw_okq (⟨"SaddlerKnows$Seeing", "apartAt", "(I)I"⟩, 10) := ⟨⟨by decide +kernel, by decide +kernel⟩, List.mem_of_getElem? (i := 254) (by decide +kernel), List.mem_of_getElem? (i := 1075) (by decide +kernel), List.mem_of_getElem? (i := 1076) (by decide +kernel)⟩
theorem lw_p41 : lw_okq (⟨"SaddlerKnows", "partsThrown", "(IIIIII)I"⟩, 13) := ⟨⟨by decide +kernel, by decide +kernel⟩, List.mem_of_getElem? (i := 26) (by decide +kernel), List.mem_of_getElem? (i := 1103) (by decide +kernel), List.mem_of_getElem? (i := 1104) (by decide +kernel)⟩
theorem lw_p42 : lw_okq (⟨"SaddlerKnows", "foremost", "(I)I"⟩, 13) := ⟨⟨by decide +kernel, by decide +kernel⟩, List.mem_of_getElem? (i := 26) (by decide +kernel), List.mem_of_getElem? (i := 1118) (by decide +kernel), List.mem_of_getElem? (i := 1119) (by decide +kernel)⟩
theorem lw_p43 : lw_okq (⟨"SaddlerKnows", "measure", "(II)I"⟩, 13) := ⟨⟨by decide +kernel, by decide +kernel⟩, List.mem_of_getElem? (i := 26) (by decide +kernel), List.mem_of_getElem? (i := 1122) (by decide +kernel), List.mem_of_getElem? (i := 1123) (by decide +kernel)⟩
theorem lw_p44 : lw_okq (⟨"SaddlerKnows", "tightest", "()I"⟩, 13) := ⟨⟨by decide +kernel, by decide +kernel⟩, List.mem_of_getElem? (i := 26) (by decide +kernel), List.mem_of_getElem? (i := 1134) (by decide +kernel), List.mem_of_getElem? (i := 1135) (by decide +kernel)⟩
theorem lw_p45 : lw_okq (⟨"SaddlerKnows", "freePeople", "()I"⟩, 13) := ⟨⟨by decide +kernel, by decide +kernel⟩, List.mem_of_getElem? (i := 26) (by decide +kernel), List.mem_of_getElem? (i := 1138) (by decide +kernel), List.mem_of_getElem? (i := 1139) (by decide +kernel)⟩
theorem lw_p46 : lw_okq (⟨"SaddlerKnows", "throwingNext", "()I"⟩, 13) := ⟨⟨by decide +kernel, by decide +kernel⟩, List.mem_of_getElem? (i := 26) (by decide +kernel), List.mem_of_getElem? (i := 1146) (by decide +kernel), List.mem_of_getElem? (i := 1147) (by decide +kernel)⟩
theorem lw_p47 : lw_okq (⟨"SaddlerKnows", "peopleInRings", "()I"⟩, 13) := ⟨⟨by decide +kernel, by decide +kernel⟩, List.mem_of_getElem? (i := 26) (by decide +kernel), List.mem_of_getElem? (i := 1151) (by decide +kernel), List.mem_of_getElem? (i := 1152) (by decide +kernel)⟩
def lw_privs_3 : List (MethodName × Nat) := [(⟨"SaddlerKnows", "draw", "(I)I"⟩, 13), (⟨"SaddlerKnows", "arePair", "(II)Z"⟩, 13), (⟨"SaddlerKnows$Stitching", "searchFrom", "(III)V"⟩, 6), (⟨"SaddlerKnows$Stitching", "fitsTold", "()I"⟩, 6), (⟨"SaddlerKnows$Stand", "riddenBy", "(I)I"⟩, 6), (⟨"SaddlerKnows$Seating", "seatFrom", "(IIII)V"⟩, 5), (⟨"SaddlerKnows", "isToldSaddle", "(I)Z"⟩, 13), (⟨"SaddlerKnows$Seeing", "agreesBehind", "(I)Z"⟩, 10), (⟨"SaddlerKnows$Seeing", "apartAt", "(I)I"⟩, 10), (⟨"SaddlerKnows", "partsThrown", "(IIIIII)I"⟩, 13), (⟨"SaddlerKnows", "foremost", "(I)I"⟩, 13), (⟨"SaddlerKnows", "measure", "(II)I"⟩, 13), (⟨"SaddlerKnows", "tightest", "()I"⟩, 13), (⟨"SaddlerKnows", "freePeople", "()I"⟩, 13), (⟨"SaddlerKnows", "throwingNext", "()I"⟩, 13), (⟨"SaddlerKnows", "peopleInRings", "()I"⟩, 13)]
theorem lw_r3 : ∀ q ∈ lw_privs_3, lw_okq q := List.forall_mem_cons.mpr ⟨lw_p32, List.forall_mem_cons.mpr ⟨lw_p33, List.forall_mem_cons.mpr ⟨lw_p34, List.forall_mem_cons.mpr ⟨lw_p35, List.forall_mem_cons.mpr ⟨lw_p36, List.forall_mem_cons.mpr ⟨lw_p37, List.forall_mem_cons.mpr ⟨lw_p38, List.forall_mem_cons.mpr ⟨lw_p39, List.forall_mem_cons.mpr ⟨lw_p40, List.forall_mem_cons.mpr ⟨lw_p41, List.forall_mem_cons.mpr ⟨lw_p42, List.forall_mem_cons.mpr ⟨lw_p43, List.forall_mem_cons.mpr ⟨lw_p44, List.forall_mem_cons.mpr ⟨lw_p45, List.forall_mem_cons.mpr ⟨lw_p46, List.forall_mem_cons.mpr ⟨lw_p47, fun _ h => absurd h List.not_mem_nil⟩⟩⟩⟩⟩⟩⟩⟩⟩⟩⟩⟩⟩⟩⟩⟩
theorem lw_p48 : lw_okq (⟨"SaddlerKnows", "sidePairs", "()I"⟩, 13) := ⟨⟨by decide +kernel, by decide +kernel⟩, List.mem_of_getElem? (i := 26) (by decide +kernel), List.mem_of_getElem? (i := 1159) (by decide +kernel), List.mem_of_getElem? (i := 1160) (by decide +kernel)⟩
theorem lw_p49 : lw_okq (⟨"java/lang/Throwable", "fillInStackTrace", "(I)Ljava/lang/Throwable;"⟩, 6) := ⟨⟨by decide +kernel, by decide +kernel⟩, List.mem_of_getElem? (i := 1207) (by decide +kernel), List.mem_of_getElem? (i := 1205) (by decide +kernel), List.mem_of_getElem? (i := 1206) (by decide +kernel)⟩
theorem lw_p50 : lw_okq (⟨"SaddlerKnowsModel", "readCounty", "()I"⟩, 51) := ⟨⟨by decide +kernel, by decide +kernel⟩, List.mem_of_getElem? (i := 1232) (by decide +kernel), List.mem_of_getElem? (i := 1411) (by decide +kernel), List.mem_of_getElem? (i := 1412) (by decide +kernel)⟩
theorem lw_p51 : lw_okq (⟨"SaddlerKnowsModel", "look", "()I"⟩, 51) := ⟨⟨by decide +kernel, by decide +kernel⟩, List.mem_of_getElem? (i := 1232) (by decide +kernel), List.mem_of_getElem? (i := 1418) (by decide +kernel), List.mem_of_getElem? (i := 1419) (by decide +kernel)⟩
theorem lw_p52 : lw_okq (⟨"SaddlerKnowsModel", "here", "()I"⟩, 51) := ⟨⟨by decide +kernel, by decide +kernel⟩, List.mem_of_getElem? (i := 1232) (by decide +kernel), List.mem_of_getElem? (i := 1422) (by decide +kernel), List.mem_of_getElem? (i := 1423) (by decide +kernel)⟩
theorem lw_p53 : lw_okq (⟨"SaddlerKnowsModel", "items", "(I[III)V"⟩, 51) := ⟨⟨by decide +kernel, by decide +kernel⟩, List.mem_of_getElem? (i := 1232) (by decide +kernel), List.mem_of_getElem? (i := 1426) (by decide +kernel), List.mem_of_getElem? (i := 1427) (by decide +kernel)⟩
theorem lw_p54 : lw_okq (⟨"SaddlerKnowsModel", "number", "(I)I"⟩, 51) := ⟨⟨by decide +kernel, by decide +kernel⟩, List.mem_of_getElem? (i := 1232) (by decide +kernel), List.mem_of_getElem? (i := 1439) (by decide +kernel), List.mem_of_getElem? (i := 1440) (by decide +kernel)⟩
theorem lw_p55 : lw_okq (⟨"SaddlerKnowsModel", "bad", "()V"⟩, 51) := ⟨⟨by decide +kernel, by decide +kernel⟩, List.mem_of_getElem? (i := 1232) (by decide +kernel), List.mem_of_getElem? (i := 1446) (by decide +kernel), List.mem_of_getElem? (i := 1447) (by decide +kernel)⟩
theorem lw_p56 : lw_okq (⟨"SaddlerKnowsModel", "isWhole", "()Z"⟩, 51) := ⟨⟨by decide +kernel, by decide +kernel⟩, List.mem_of_getElem? (i := 1232) (by decide +kernel), List.mem_of_getElem? (i := 1450) (by decide +kernel), List.mem_of_getElem? (i := 1451) (by decide +kernel)⟩
theorem lw_p57 : lw_okq (⟨"SaddlerKnowsModel", "readLaw", "(I)I"⟩, 51) := ⟨⟨by decide +kernel, by decide +kernel⟩, List.mem_of_getElem? (i := 1232) (by decide +kernel), List.mem_of_getElem? (i := 1454) (by decide +kernel), List.mem_of_getElem? (i := 1455) (by decide +kernel)⟩
theorem lw_p58 : lw_okq (⟨"SaddlerKnowsModel", "open", "(I)V"⟩, 51) := ⟨⟨by decide +kernel, by decide +kernel⟩, List.mem_of_getElem? (i := 1232) (by decide +kernel), List.mem_of_getElem? (i := 1458) (by decide +kernel), List.mem_of_getElem? (i := 1459) (by decide +kernel)⟩
theorem lw_p59 : lw_okq (⟨"SaddlerKnowsModel", "clause", "()V"⟩, 51) := ⟨⟨by decide +kernel, by decide +kernel⟩, List.mem_of_getElem? (i := 1232) (by decide +kernel), List.mem_of_getElem? (i := 1462) (by decide +kernel), List.mem_of_getElem? (i := 1463) (by decide +kernel)⟩
theorem lw_p60 : lw_okq (⟨"SaddlerKnowsModel", "condition", "()V"⟩, 51) := ⟨⟨by decide +kernel, by decide +kernel⟩, List.mem_of_getElem? (i := 1232) (by decide +kernel), List.mem_of_getElem? (i := 1466) (by decide +kernel), List.mem_of_getElem? (i := 1467) (by decide +kernel)⟩
theorem lw_p61 : lw_okq (⟨"SaddlerKnowsModel", "unit", "()V"⟩, 51) := ⟨⟨by decide +kernel, by decide +kernel⟩, List.mem_of_getElem? (i := 1232) (by decide +kernel), List.mem_of_getElem? (i := 1470) (by decide +kernel), List.mem_of_getElem? (i := 1471) (by decide +kernel)⟩
theorem lw_p62 : lw_okq (⟨"SaddlerKnowsModel", "opens", "()V"⟩, 51) := ⟨⟨by decide +kernel, by decide +kernel⟩, List.mem_of_getElem? (i := 1232) (by decide +kernel), List.mem_of_getElem? (i := 1474) (by decide +kernel), List.mem_of_getElem? (i := 1475) (by decide +kernel)⟩
theorem lw_p63 : lw_okq (⟨"SaddlerKnowsModel", "put", "(II)V"⟩, 51) := ⟨⟨by decide +kernel, by decide +kernel⟩, List.mem_of_getElem? (i := 1232) (by decide +kernel), List.mem_of_getElem? (i := 1478) (by decide +kernel), List.mem_of_getElem? (i := 1479) (by decide +kernel)⟩
def lw_privs_4 : List (MethodName × Nat) := [(⟨"SaddlerKnows", "sidePairs", "()I"⟩, 13), (⟨"java/lang/Throwable", "fillInStackTrace", "(I)Ljava/lang/Throwable;"⟩, 6), (⟨"SaddlerKnowsModel", "readCounty", "()I"⟩, 51), (⟨"SaddlerKnowsModel", "look", "()I"⟩, 51), (⟨"SaddlerKnowsModel", "here", "()I"⟩, 51), (⟨"SaddlerKnowsModel", "items", "(I[III)V"⟩, 51), (⟨"SaddlerKnowsModel", "number", "(I)I"⟩, 51), (⟨"SaddlerKnowsModel", "bad", "()V"⟩, 51), (⟨"SaddlerKnowsModel", "isWhole", "()Z"⟩, 51), (⟨"SaddlerKnowsModel", "readLaw", "(I)I"⟩, 51), (⟨"SaddlerKnowsModel", "open", "(I)V"⟩, 51), (⟨"SaddlerKnowsModel", "clause", "()V"⟩, 51), (⟨"SaddlerKnowsModel", "condition", "()V"⟩, 51), (⟨"SaddlerKnowsModel", "unit", "()V"⟩, 51), (⟨"SaddlerKnowsModel", "opens", "()V"⟩, 51), (⟨"SaddlerKnowsModel", "put", "(II)V"⟩, 51)]
theorem lw_r4 : ∀ q ∈ lw_privs_4, lw_okq q := List.forall_mem_cons.mpr ⟨lw_p48, List.forall_mem_cons.mpr ⟨lw_p49, List.forall_mem_cons.mpr ⟨lw_p50, List.forall_mem_cons.mpr ⟨lw_p51, List.forall_mem_cons.mpr ⟨lw_p52, List.forall_mem_cons.mpr ⟨lw_p53, List.forall_mem_cons.mpr ⟨lw_p54, List.forall_mem_cons.mpr ⟨lw_p55, List.forall_mem_cons.mpr ⟨lw_p56, List.forall_mem_cons.mpr ⟨lw_p57, List.forall_mem_cons.mpr ⟨lw_p58, List.forall_mem_cons.mpr ⟨lw_p59, List.forall_mem_cons.mpr ⟨lw_p60, List.forall_mem_cons.mpr ⟨lw_p61, List.forall_mem_cons.mpr ⟨lw_p62, List.forall_mem_cons.mpr ⟨lw_p63, fun _ h => absurd h List.not_mem_nil⟩⟩⟩⟩⟩⟩⟩⟩⟩⟩⟩⟩⟩⟩⟩⟩
theorem lw_p64 : lw_okq (⟨"SaddlerKnowsModel", "closes", "(I)V"⟩, 51) := ⟨⟨by decide +kernel, by decide +kernel⟩, List.mem_of_getElem? (i := 1232) (by decide +kernel), List.mem_of_getElem? (i := 1482) (by decide +kernel), List.mem_of_getElem? (i := 1483) (by decide +kernel)⟩
theorem lw_p65 : lw_okq (⟨"SaddlerKnowsModel", "sum", "()V"⟩, 51) := ⟨⟨by decide +kernel, by decide +kernel⟩, List.mem_of_getElem? (i := 1232) (by decide +kernel), List.mem_of_getElem? (i := 1486) (by decide +kernel), List.mem_of_getElem? (i := 1487) (by decide +kernel)⟩
theorem lw_p66 : lw_okq (⟨"SaddlerKnowsModel", "term", "()V"⟩, 51) := ⟨⟨by decide +kernel, by decide +kernel⟩, List.mem_of_getElem? (i := 1232) (by decide +kernel), List.mem_of_getElem? (i := 1490) (by decide +kernel), List.mem_of_getElem? (i := 1491) (by decide +kernel)⟩
theorem lw_p67 : lw_okq (⟨"SaddlerKnowsModel", "atom", "()V"⟩, 51) := ⟨⟨by decide +kernel, by decide +kernel⟩, List.mem_of_getElem? (i := 1232) (by decide +kernel), List.mem_of_getElem? (i := 1494) (by decide +kernel), List.mem_of_getElem? (i := 1495) (by decide +kernel)⟩
theorem lw_p68 : lw_okq (⟨"SaddlerKnowsModel", "plainNumber", "()I"⟩, 51) := ⟨⟨by decide +kernel, by decide +kernel⟩, List.mem_of_getElem? (i := 1232) (by decide +kernel), List.mem_of_getElem? (i := 1498) (by decide +kernel), List.mem_of_getElem? (i := 1499) (by decide +kernel)⟩
theorem lw_p69 : lw_okq (⟨"SaddlerKnowsModel", "compare", "()V"⟩, 51) := ⟨⟨by decide +kernel, by decide +kernel⟩, List.mem_of_getElem? (i := 1232) (by decide +kernel), List.mem_of_getElem? (i := 1505) (by decide +kernel), List.mem_of_getElem? (i := 1506) (by decide +kernel)⟩
theorem lw_p70 : lw_okq (⟨"SaddlerKnowsModel", "goOnAnd", "()V"⟩, 51) := ⟨⟨by decide +kernel, by decide +kernel⟩, List.mem_of_getElem? (i := 1232) (by decide +kernel), List.mem_of_getElem? (i := 1512) (by decide +kernel), List.mem_of_getElem? (i := 1513) (by decide +kernel)⟩
theorem lw_p71 : lw_okq (⟨"SaddlerKnowsModel", "goOnOr", "()V"⟩, 51) := ⟨⟨by decide +kernel, by decide +kernel⟩, List.mem_of_getElem? (i := 1232) (by decide +kernel), List.mem_of_getElem? (i := 1516) (by decide +kernel), List.mem_of_getElem? (i := 1517) (by decide +kernel)⟩
theorem lw_p72 : lw_okq (⟨"SaddlerKnowsModel", "atEnd", "()I"⟩, 51) := ⟨⟨by decide +kernel, by decide +kernel⟩, List.mem_of_getElem? (i := 1232) (by decide +kernel), List.mem_of_getElem? (i := 1520) (by decide +kernel), List.mem_of_getElem? (i := 1521) (by decide +kernel)⟩
theorem lw_p73 : lw_okq (⟨"SaddlerKnowsModel", "takeCounty", "()I"⟩, 51) := ⟨⟨by decide +kernel, by decide +kernel⟩, List.mem_of_getElem? (i := 1232) (by decide +kernel), List.mem_of_getElem? (i := 1528) (by decide +kernel), List.mem_of_getElem? (i := 1529) (by decide +kernel)⟩
theorem lw_p74 : lw_okq (⟨"SaddlerKnowsModel", "layTold", "()V"⟩, 51) := ⟨⟨by decide +kernel, by decide +kernel⟩, List.mem_of_getElem? (i := 1232) (by decide +kernel), List.mem_of_getElem? (i := 1532) (by decide +kernel), List.mem_of_getElem? (i := 1533) (by decide +kernel)⟩
theorem lw_p75 : lw_okq (⟨"SaddlerKnowsModel", "isPerson", "(I)Z"⟩, 51) := ⟨⟨by decide +kernel, by decide +kernel⟩, List.mem_of_getElem? (i := 1232) (by decide +kernel), List.mem_of_getElem? (i := 1547) (by decide +kernel), List.mem_of_getElem? (i := 1548) (by decide +kernel)⟩
theorem lw_p76 : lw_okq (⟨"SaddlerKnowsModel", "loadOf", "(I)I"⟩, 51) := ⟨⟨by decide +kernel, by decide +kernel⟩, List.mem_of_getElem? (i := 1232) (by decide +kernel), List.mem_of_getElem? (i := 1551) (by decide +kernel), List.mem_of_getElem? (i := 1552) (by decide +kernel)⟩
theorem lw_p77 : lw_okq (⟨"SaddlerKnowsModel", "isOn", "(II)Z"⟩, 51) := ⟨⟨by decide +kernel, by decide +kernel⟩, List.mem_of_getElem? (i := 1232) (by decide +kernel), List.mem_of_getElem? (i := 1555) (by decide +kernel), List.mem_of_getElem? (i := 1556) (by decide +kernel)⟩
theorem lw_p78 : lw_okq (⟨"SaddlerKnowsModel", "isThere", "(I)Z"⟩, 51) := ⟨⟨by decide +kernel, by decide +kernel⟩, List.mem_of_getElem? (i := 1232) (by decide +kernel), List.mem_of_getElem? (i := 1559) (by decide +kernel), List.mem_of_getElem? (i := 1560) (by decide +kernel)⟩
theorem lw_p79 : lw_okq (⟨"SaddlerKnowsModel", "of", "(II)I"⟩, 51) := ⟨⟨by decide +kernel, by decide +kernel⟩, List.mem_of_getElem? (i := 1232) (by decide +kernel), List.mem_of_getElem? (i := 1563) (by decide +kernel), List.mem_of_getElem? (i := 1564) (by decide +kernel)⟩
def lw_privs_5 : List (MethodName × Nat) := [(⟨"SaddlerKnowsModel", "closes", "(I)V"⟩, 51), (⟨"SaddlerKnowsModel", "sum", "()V"⟩, 51), (⟨"SaddlerKnowsModel", "term", "()V"⟩, 51), (⟨"SaddlerKnowsModel", "atom", "()V"⟩, 51), (⟨"SaddlerKnowsModel", "plainNumber", "()I"⟩, 51), (⟨"SaddlerKnowsModel", "compare", "()V"⟩, 51), (⟨"SaddlerKnowsModel", "goOnAnd", "()V"⟩, 51), (⟨"SaddlerKnowsModel", "goOnOr", "()V"⟩, 51), (⟨"SaddlerKnowsModel", "atEnd", "()I"⟩, 51), (⟨"SaddlerKnowsModel", "takeCounty", "()I"⟩, 51), (⟨"SaddlerKnowsModel", "layTold", "()V"⟩, 51), (⟨"SaddlerKnowsModel", "isPerson", "(I)Z"⟩, 51), (⟨"SaddlerKnowsModel", "loadOf", "(I)I"⟩, 51), (⟨"SaddlerKnowsModel", "isOn", "(II)Z"⟩, 51), (⟨"SaddlerKnowsModel", "isThere", "(I)Z"⟩, 51), (⟨"SaddlerKnowsModel", "of", "(II)I"⟩, 51)]
theorem lw_r5 : ∀ q ∈ lw_privs_5, lw_okq q := List.forall_mem_cons.mpr ⟨lw_p64, List.forall_mem_cons.mpr ⟨lw_p65, List.forall_mem_cons.mpr ⟨lw_p66, List.forall_mem_cons.mpr ⟨lw_p67, List.forall_mem_cons.mpr ⟨lw_p68, List.forall_mem_cons.mpr ⟨lw_p69, List.forall_mem_cons.mpr ⟨lw_p70, List.forall_mem_cons.mpr ⟨lw_p71, List.forall_mem_cons.mpr ⟨lw_p72, List.forall_mem_cons.mpr ⟨lw_p73, List.forall_mem_cons.mpr ⟨lw_p74, List.forall_mem_cons.mpr ⟨lw_p75, List.forall_mem_cons.mpr ⟨lw_p76, List.forall_mem_cons.mpr ⟨lw_p77, List.forall_mem_cons.mpr ⟨lw_p78, List.forall_mem_cons.mpr ⟨lw_p79, fun _ h => absurd h List.not_mem_nil⟩⟩⟩⟩⟩⟩⟩⟩⟩⟩⟩⟩⟩⟩⟩⟩
theorem lw_p80 : lw_okq (⟨"SaddlerKnowsModel", "pinchOf", "(I)I"⟩, 51) := ⟨⟨by decide +kernel, by decide +kernel⟩, List.mem_of_getElem? (i := 1232) (by decide +kernel), List.mem_of_getElem? (i := 1567) (by decide +kernel), List.mem_of_getElem? (i := 1568) (by decide +kernel)⟩
theorem lw_p81 : lw_okq (⟨"SaddlerKnowsModel", "pinchBy", "(III)I"⟩, 51) := ⟨⟨by decide +kernel, by decide +kernel⟩, List.mem_of_getElem? (i := 1232) (by decide +kernel), List.mem_of_getElem? (i := 1571) (by decide +kernel), List.mem_of_getElem? (i := 1572) (by decide +kernel)⟩
theorem lw_p82 : lw_okq (⟨"SaddlerKnowsModel", "ofPerson", "(II)I"⟩, 51) := ⟨⟨by decide +kernel, by decide +kernel⟩, List.mem_of_getElem? (i := 1232) (by decide +kernel), List.mem_of_getElem? (i := 1575) (by decide +kernel), List.mem_of_getElem? (i := 1576) (by decide +kernel)⟩
theorem lw_p83 : lw_okq (⟨"SaddlerKnowsModel", "worthOf", "(I)I"⟩, 51) := ⟨⟨by decide +kernel, by decide +kernel⟩, List.mem_of_getElem? (i := 1232) (by decide +kernel), List.mem_of_getElem? (i := 1580) (by decide +kernel), List.mem_of_getElem? (i := 1581) (by decide +kernel)⟩
theorem lw_p84 : lw_okq (⟨"SaddlerKnowsModel", "workOut", "(III)I"⟩, 51) := ⟨⟨by decide +kernel, by decide +kernel⟩, List.mem_of_getElem? (i := 1232) (by decide +kernel), List.mem_of_getElem? (i := 1584) (by decide +kernel), List.mem_of_getElem? (i := 1585) (by decide +kernel)⟩
theorem lw_p85 : lw_okq (⟨"SaddlerKnowsModel", "aboveOf", "(I)I"⟩, 51) := ⟨⟨by decide +kernel, by decide +kernel⟩, List.mem_of_getElem? (i := 1232) (by decide +kernel), List.mem_of_getElem? (i := 1600) (by decide +kernel), List.mem_of_getElem? (i := 1601) (by decide +kernel)⟩
theorem lw_p86 : lw_okq (⟨"SaddlerKnowsModel", "areWeeks", "(I)Z"⟩, 51) := ⟨⟨by decide +kernel, by decide +kernel⟩, List.mem_of_getElem? (i := 1232) (by decide +kernel), List.mem_of_getElem? (i := 1616) (by decide +kernel), List.mem_of_getElem? (i := 1617) (by decide +kernel)⟩
theorem lw_p87 : lw_okq (⟨"SaddlerKnowsModel", "isRefused", "(I)Z"⟩, 51) := ⟨⟨by decide +kernel, by decide +kernel⟩, List.mem_of_getElem? (i := 1232) (by decide +kernel), List.mem_of_getElem? (i := 1620) (by decide +kernel), List.mem_of_getElem? (i := 1621) (by decide +kernel)⟩
theorem lw_p88 : lw_okq (⟨"SaddlerKnowsModel", "keep", "()V"⟩, 51) := ⟨⟨by decide +kernel, by decide +kernel⟩, List.mem_of_getElem? (i := 1232) (by decide +kernel), List.mem_of_getElem? (i := 1624) (by decide +kernel), List.mem_of_getElem? (i := 1625) (by decide +kernel)⟩
theorem lw_p89 : lw_okq (⟨"SaddlerKnowsModel", "passWeek", "()V"⟩, 51) := ⟨⟨by decide +kernel, by decide +kernel⟩, List.mem_of_getElem? (i := 1232) (by decide +kernel), List.mem_of_getElem? (i := 1628) (by decide +kernel), List.mem_of_getElem? (i := 1629) (by decide +kernel)⟩
theorem lw_p90 : lw_okq (⟨"SaddlerKnowsModel", "live", "(I)V"⟩, 51) := ⟨⟨by decide +kernel, by decide +kernel⟩, List.mem_of_getElem? (i := 1232) (by decide +kernel), List.mem_of_getElem? (i := 1632) (by decide +kernel), List.mem_of_getElem? (i := 1633) (by decide +kernel)⟩
theorem lw_p91 : lw_okq (⟨"SaddlerKnowsModel", "bornBy", "(I)I"⟩, 51) := ⟨⟨by decide +kernel, by decide +kernel⟩, List.mem_of_getElem? (i := 1232) (by decide +kernel), List.mem_of_getElem? (i := 1636) (by decide +kernel), List.mem_of_getElem? (i := 1637) (by decide +kernel)⟩
theorem lw_p92 : lw_okq (⟨"SaddlerKnowsModel", "heal", "(I)V"⟩, 51) := ⟨⟨by decide +kernel, by decide +kernel⟩, List.mem_of_getElem? (i := 1232) (by decide +kernel), List.mem_of_getElem? (i := 1640) (by decide +kernel), List.mem_of_getElem? (i := 1641) (by decide +kernel)⟩
theorem lw_p93 : lw_okq (⟨"SaddlerKnowsModel", "limitOf", "(I)I"⟩, 51) := ⟨⟨by decide +kernel, by decide +kernel⟩, List.mem_of_getElem? (i := 1232) (by decide +kernel), List.mem_of_getElem? (i := 1644) (by decide +kernel), List.mem_of_getElem? (i := 1645) (by decide +kernel)⟩
theorem lw_p94 : lw_okq (⟨"SaddlerKnowsModel", "throwAll", "(I)V"⟩, 51) := ⟨⟨by decide +kernel, by decide +kernel⟩, List.mem_of_getElem? (i := 1232) (by decide +kernel), List.mem_of_getElem? (i := 1648) (by decide +kernel), List.mem_of_getElem? (i := 1649) (by decide +kernel)⟩
theorem lw_p95 : lw_okq (⟨"SaddlerKnowsModel", "saddleOnes", "()I"⟩, 51) := ⟨⟨by decide +kernel, by decide +kernel⟩, List.mem_of_getElem? (i := 1232) (by decide +kernel), List.mem_of_getElem? (i := 1652) (by decide +kernel), List.mem_of_getElem? (i := 1653) (by decide +kernel)⟩
def lw_privs_6 : List (MethodName × Nat) := [(⟨"SaddlerKnowsModel", "pinchOf", "(I)I"⟩, 51), (⟨"SaddlerKnowsModel", "pinchBy", "(III)I"⟩, 51), (⟨"SaddlerKnowsModel", "ofPerson", "(II)I"⟩, 51), (⟨"SaddlerKnowsModel", "worthOf", "(I)I"⟩, 51), (⟨"SaddlerKnowsModel", "workOut", "(III)I"⟩, 51), (⟨"SaddlerKnowsModel", "aboveOf", "(I)I"⟩, 51), (⟨"SaddlerKnowsModel", "areWeeks", "(I)Z"⟩, 51), (⟨"SaddlerKnowsModel", "isRefused", "(I)Z"⟩, 51), (⟨"SaddlerKnowsModel", "keep", "()V"⟩, 51), (⟨"SaddlerKnowsModel", "passWeek", "()V"⟩, 51), (⟨"SaddlerKnowsModel", "live", "(I)V"⟩, 51), (⟨"SaddlerKnowsModel", "bornBy", "(I)I"⟩, 51), (⟨"SaddlerKnowsModel", "heal", "(I)V"⟩, 51), (⟨"SaddlerKnowsModel", "limitOf", "(I)I"⟩, 51), (⟨"SaddlerKnowsModel", "throwAll", "(I)V"⟩, 51), (⟨"SaddlerKnowsModel", "saddleOnes", "()I"⟩, 51)]
theorem lw_r6 : ∀ q ∈ lw_privs_6, lw_okq q := List.forall_mem_cons.mpr ⟨lw_p80, List.forall_mem_cons.mpr ⟨lw_p81, List.forall_mem_cons.mpr ⟨lw_p82, List.forall_mem_cons.mpr ⟨lw_p83, List.forall_mem_cons.mpr ⟨lw_p84, List.forall_mem_cons.mpr ⟨lw_p85, List.forall_mem_cons.mpr ⟨lw_p86, List.forall_mem_cons.mpr ⟨lw_p87, List.forall_mem_cons.mpr ⟨lw_p88, List.forall_mem_cons.mpr ⟨lw_p89, List.forall_mem_cons.mpr ⟨lw_p90, List.forall_mem_cons.mpr ⟨lw_p91, List.forall_mem_cons.mpr ⟨lw_p92, List.forall_mem_cons.mpr ⟨lw_p93, List.forall_mem_cons.mpr ⟨lw_p94, List.forall_mem_cons.mpr ⟨lw_p95, fun _ h => absurd h List.not_mem_nil⟩⟩⟩⟩⟩⟩⟩⟩⟩⟩⟩⟩⟩⟩⟩⟩
theorem lw_p96 : lw_okq (⟨"SaddlerKnowsModel", "allGall", "()I"⟩, 51) := ⟨⟨by decide +kernel, by decide +kernel⟩, List.mem_of_getElem? (i := 1232) (by decide +kernel), List.mem_of_getElem? (i := 1657) (by decide +kernel), List.mem_of_getElem? (i := 1658) (by decide +kernel)⟩
theorem lw_p97 : lw_okq (⟨"SaddlerKnowsModel", "sitsOn", "(II)Z"⟩, 51) := ⟨⟨by decide +kernel, by decide +kernel⟩, List.mem_of_getElem? (i := 1232) (by decide +kernel), List.mem_of_getElem? (i := 1665) (by decide +kernel), List.mem_of_getElem? (i := 1666) (by decide +kernel)⟩
theorem lw_p98 : lw_okq (⟨"SaddlerKnowsModel", "freePlace", "()I"⟩, 51) := ⟨⟨by decide +kernel, by decide +kernel⟩, List.mem_of_getElem? (i := 1232) (by decide +kernel), List.mem_of_getElem? (i := 1669) (by decide +kernel), List.mem_of_getElem? (i := 1670) (by decide +kernel)⟩
theorem lw_p99 : lw_okq (⟨"SaddlerKnowsModel", "makeNow", "(III)I"⟩, 51) := ⟨⟨by decide +kernel, by decide +kernel⟩, List.mem_of_getElem? (i := 1232) (by decide +kernel), List.mem_of_getElem? (i := 1673) (by decide +kernel), List.mem_of_getElem? (i := 1674) (by decide +kernel)⟩
theorem lw_p100 : lw_okq (⟨"SaddlerKnowsModel", "drawWeek", "()V"⟩, 51) := ⟨⟨by decide +kernel, by decide +kernel⟩, List.mem_of_getElem? (i := 1232) (by decide +kernel), List.mem_of_getElem? (i := 1701) (by decide +kernel), List.mem_of_getElem? (i := 1702) (by decide +kernel)⟩
theorem lw_p101 : lw_okq (⟨"SaddlerKnowsModel", "draw", "(I)I"⟩, 51) := ⟨⟨by decide +kernel, by decide +kernel⟩, List.mem_of_getElem? (i := 1232) (by decide +kernel), List.mem_of_getElem? (i := 1705) (by decide +kernel), List.mem_of_getElem? (i := 1706) (by decide +kernel)⟩
theorem lw_p102 : lw_okq (⟨"SaddlerKnowsModel", "areTwo", "(II)Z"⟩, 51) := ⟨⟨by decide +kernel, by decide +kernel⟩, List.mem_of_getElem? (i := 1232) (by decide +kernel), List.mem_of_getElem? (i := 1731) (by decide +kernel), List.mem_of_getElem? (i := 1732) (by decide +kernel)⟩
theorem lw_p103 : lw_okq (⟨"SaddlerKnowsModel", "bestFit", "(II)I"⟩, 51) := ⟨⟨by decide +kernel, by decide +kernel⟩, List.mem_of_getElem? (i := 1232) (by decide +kernel), List.mem_of_getElem? (i := 1739) (by decide +kernel), List.mem_of_getElem? (i := 1740) (by decide +kernel)⟩
theorem lw_p104 : lw_okq (⟨"SaddlerKnowsModel", "throwsIn", "(II)I"⟩, 51) := ⟨⟨by decide +kernel, by decide +kernel⟩, List.mem_of_getElem? (i := 1232) (by decide +kernel), List.mem_of_getElem? (i := 1747) (by decide +kernel), List.mem_of_getElem? (i := 1748) (by decide +kernel)⟩
theorem lw_p105 : lw_okq (⟨"SaddlerKnowsModel", "putAside", "(I)V"⟩, 51) := ⟨⟨by decide +kernel, by decide +kernel⟩, List.mem_of_getElem? (i := 1232) (by decide +kernel), List.mem_of_getElem? (i := 1751) (by decide +kernel), List.mem_of_getElem? (i := 1752) (by decide +kernel)⟩
theorem lw_p106 : lw_okq (⟨"SaddlerKnowsModel", "takeBack", "(I)V"⟩, 51) := ⟨⟨by decide +kernel, by decide +kernel⟩, List.mem_of_getElem? (i := 1232) (by decide +kernel), List.mem_of_getElem? (i := 1755) (by decide +kernel), List.mem_of_getElem? (i := 1756) (by decide +kernel)⟩
theorem lw_p107 : lw_okq (⟨"SaddlerKnowsModel", "tryTwo", "(IIII)V"⟩, 51) := ⟨⟨by decide +kernel, by decide +kernel⟩, List.mem_of_getElem? (i := 1232) (by decide +kernel), List.mem_of_getElem? (i := 1763) (by decide +kernel), List.mem_of_getElem? (i := 1764) (by decide +kernel)⟩
theorem lw_p108 : lw_okq (⟨"SaddlerKnowsModel", "tryFits", "(III)V"⟩, 51) := ⟨⟨by decide +kernel, by decide +kernel⟩, List.mem_of_getElem? (i := 1232) (by decide +kernel), List.mem_of_getElem? (i := 1767) (by decide +kernel), List.mem_of_getElem? (i := 1768) (by decide +kernel)⟩
theorem lw_p109 : lw_okq (⟨"SaddlerKnowsModel", "fitsOf", "(I)I"⟩, 51) := ⟨⟨by decide +kernel, by decide +kernel⟩, List.mem_of_getElem? (i := 1232) (by decide +kernel), List.mem_of_getElem? (i := 1771) (by decide +kernel), List.mem_of_getElem? (i := 1772) (by decide +kernel)⟩
theorem lw_p110 : lw_okq (⟨"SaddlerKnowsModel", "layAway", "(I)V"⟩, 51) := ⟨⟨by decide +kernel, by decide +kernel⟩, List.mem_of_getElem? (i := 1232) (by decide +kernel), List.mem_of_getElem? (i := 1779) (by decide +kernel), List.mem_of_getElem? (i := 1780) (by decide +kernel)⟩
theorem lw_p111 : lw_okq (⟨"SaddlerKnowsModel", "trySeats", "(IIII)V"⟩, 51) := ⟨⟨by decide +kernel, by decide +kernel⟩, List.mem_of_getElem? (i := 1232) (by decide +kernel), List.mem_of_getElem? (i := 1791) (by decide +kernel), List.mem_of_getElem? (i := 1792) (by decide +kernel)⟩
def lw_privs_7 : List (MethodName × Nat) := [(⟨"SaddlerKnowsModel", "allGall", "()I"⟩, 51), (⟨"SaddlerKnowsModel", "sitsOn", "(II)Z"⟩, 51), (⟨"SaddlerKnowsModel", "freePlace", "()I"⟩, 51), (⟨"SaddlerKnowsModel", "makeNow", "(III)I"⟩, 51), (⟨"SaddlerKnowsModel", "drawWeek", "()V"⟩, 51), (⟨"SaddlerKnowsModel", "draw", "(I)I"⟩, 51), (⟨"SaddlerKnowsModel", "areTwo", "(II)Z"⟩, 51), (⟨"SaddlerKnowsModel", "bestFit", "(II)I"⟩, 51), (⟨"SaddlerKnowsModel", "throwsIn", "(II)I"⟩, 51), (⟨"SaddlerKnowsModel", "putAside", "(I)V"⟩, 51), (⟨"SaddlerKnowsModel", "takeBack", "(I)V"⟩, 51), (⟨"SaddlerKnowsModel", "tryTwo", "(IIII)V"⟩, 51), (⟨"SaddlerKnowsModel", "tryFits", "(III)V"⟩, 51), (⟨"SaddlerKnowsModel", "fitsOf", "(I)I"⟩, 51), (⟨"SaddlerKnowsModel", "layAway", "(I)V"⟩, 51), (⟨"SaddlerKnowsModel", "trySeats", "(IIII)V"⟩, 51)]
theorem lw_r7 : ∀ q ∈ lw_privs_7, lw_okq q := List.forall_mem_cons.mpr ⟨lw_p96, List.forall_mem_cons.mpr ⟨lw_p97, List.forall_mem_cons.mpr ⟨lw_p98, List.forall_mem_cons.mpr ⟨lw_p99, List.forall_mem_cons.mpr ⟨lw_p100, List.forall_mem_cons.mpr ⟨lw_p101, List.forall_mem_cons.mpr ⟨lw_p102, List.forall_mem_cons.mpr ⟨lw_p103, List.forall_mem_cons.mpr ⟨lw_p104, List.forall_mem_cons.mpr ⟨lw_p105, List.forall_mem_cons.mpr ⟨lw_p106, List.forall_mem_cons.mpr ⟨lw_p107, List.forall_mem_cons.mpr ⟨lw_p108, List.forall_mem_cons.mpr ⟨lw_p109, List.forall_mem_cons.mpr ⟨lw_p110, List.forall_mem_cons.mpr ⟨lw_p111, fun _ h => absurd h List.not_mem_nil⟩⟩⟩⟩⟩⟩⟩⟩⟩⟩⟩⟩⟩⟩⟩⟩
theorem lw_p112 : lw_okq (⟨"SaddlerKnowsModel", "isTold", "(I)Z"⟩, 51) := ⟨⟨by decide +kernel, by decide +kernel⟩, List.mem_of_getElem? (i := 1232) (by decide +kernel), List.mem_of_getElem? (i := 1803) (by decide +kernel), List.mem_of_getElem? (i := 1804) (by decide +kernel)⟩
theorem lw_p113 : lw_okq (⟨"SaddlerKnowsModel", "isFit", "(II)Z"⟩, 51) := ⟨⟨by decide +kernel, by decide +kernel⟩, List.mem_of_getElem? (i := 1232) (by decide +kernel), List.mem_of_getElem? (i := 1807) (by decide +kernel), List.mem_of_getElem? (i := 1808) (by decide +kernel)⟩
theorem lw_p114 : lw_okq (⟨"SaddlerKnowsModel", "layGalls", "(II)V"⟩, 51) := ⟨⟨by decide +kernel, by decide +kernel⟩, List.mem_of_getElem? (i := 1232) (by decide +kernel), List.mem_of_getElem? (i := 1811) (by decide +kernel), List.mem_of_getElem? (i := 1812) (by decide +kernel)⟩
theorem lw_p115 : lw_okq (⟨"SaddlerKnowsModel", "waitOf", "(IIII)I"⟩, 51) := ⟨⟨by decide +kernel, by decide +kernel⟩, List.mem_of_getElem? (i := 1232) (by decide +kernel), List.mem_of_getElem? (i := 1824) (by decide +kernel), List.mem_of_getElem? (i := 1825) (by decide +kernel)⟩
theorem lw_p116 : lw_okq (⟨"SaddlerKnowsModel", "isRest", "(IIII)Z"⟩, 51) := ⟨⟨by decide +kernel, by decide +kernel⟩, List.mem_of_getElem? (i := 1232) (by decide +kernel), List.mem_of_getElem? (i := 1832) (by decide +kernel), List.mem_of_getElem? (i := 1833) (by decide +kernel)⟩
theorem lw_p117 : lw_okq (⟨"SaddlerKnowsModel", "oddsFrom", "(IIIII)I"⟩, 51) := ⟨⟨by decide +kernel, by decide +kernel⟩, List.mem_of_getElem? (i := 1232) (by decide +kernel), List.mem_of_getElem? (i := 1841) (by decide +kernel), List.mem_of_getElem? (i := 1842) (by decide +kernel)⟩
theorem lw_p118 : lw_okq (⟨"SaddlerKnowsModel", "tightest", "()I"⟩, 51) := ⟨⟨by decide +kernel, by decide +kernel⟩, List.mem_of_getElem? (i := 1232) (by decide +kernel), List.mem_of_getElem? (i := 1854) (by decide +kernel), List.mem_of_getElem? (i := 1855) (by decide +kernel)⟩
theorem lw_p119 : lw_okq (⟨"SaddlerKnowsModel", "freeOnes", "(Z)I"⟩, 51) := ⟨⟨by decide +kernel, by decide +kernel⟩, List.mem_of_getElem? (i := 1232) (by decide +kernel), List.mem_of_getElem? (i := 1858) (by decide +kernel), List.mem_of_getElem? (i := 1859) (by decide +kernel)⟩
theorem lw_p120 : lw_okq (⟨"SaddlerKnowsModel", "satBy", "(I)I"⟩, 51) := ⟨⟨by decide +kernel, by decide +kernel⟩, List.mem_of_getElem? (i := 1232) (by decide +kernel), List.mem_of_getElem? (i := 1862) (by decide +kernel), List.mem_of_getElem? (i := 1863) (by decide +kernel)⟩
theorem lw_p121 : lw_okq (⟨"SaddlerKnowsModel", "throwers", "()I"⟩, 51) := ⟨⟨by decide +kernel, by decide +kernel⟩, List.mem_of_getElem? (i := 1232) (by decide +kernel), List.mem_of_getElem? (i := 1866) (by decide +kernel), List.mem_of_getElem? (i := 1867) (by decide +kernel)⟩
theorem lw_p122 : lw_okq (⟨"SaddlerKnowsModel", "inRings", "()I"⟩, 51) := ⟨⟨by decide +kernel, by decide +kernel⟩, List.mem_of_getElem? (i := 1232) (by decide +kernel), List.mem_of_getElem? (i := 1870) (by decide +kernel), List.mem_of_getElem? (i := 1871) (by decide +kernel)⟩
theorem lw_p123 : lw_okq (⟨"SaddlerKnowsModel", "sides", "()I"⟩, 51) := ⟨⟨by decide +kernel, by decide +kernel⟩, List.mem_of_getElem? (i := 1232) (by decide +kernel), List.mem_of_getElem? (i := 1874) (by decide +kernel), List.mem_of_getElem? (i := 1875) (by decide +kernel)⟩
theorem lw_p124 : lw_okq (⟨"SaddlerKnowsModel", "topBy", "(I)I"⟩, 51) := ⟨⟨by decide +kernel, by decide +kernel⟩, List.mem_of_getElem? (i := 1232) (by decide +kernel), List.mem_of_getElem? (i := 1878) (by decide +kernel), List.mem_of_getElem? (i := 1879) (by decide +kernel)⟩
theorem lw_p125 : lw_okq (⟨"SaddlerKnowsModel", "valueOf", "(II)I"⟩, 51) := ⟨⟨by decide +kernel, by decide +kernel⟩, List.mem_of_getElem? (i := 1232) (by decide +kernel), List.mem_of_getElem? (i := 1882) (by decide +kernel), List.mem_of_getElem? (i := 1883) (by decide +kernel)⟩
def lw_privs_8 : List (MethodName × Nat) := [(⟨"SaddlerKnowsModel", "isTold", "(I)Z"⟩, 51), (⟨"SaddlerKnowsModel", "isFit", "(II)Z"⟩, 51), (⟨"SaddlerKnowsModel", "layGalls", "(II)V"⟩, 51), (⟨"SaddlerKnowsModel", "waitOf", "(IIII)I"⟩, 51), (⟨"SaddlerKnowsModel", "isRest", "(IIII)Z"⟩, 51), (⟨"SaddlerKnowsModel", "oddsFrom", "(IIIII)I"⟩, 51), (⟨"SaddlerKnowsModel", "tightest", "()I"⟩, 51), (⟨"SaddlerKnowsModel", "freeOnes", "(Z)I"⟩, 51), (⟨"SaddlerKnowsModel", "satBy", "(I)I"⟩, 51), (⟨"SaddlerKnowsModel", "throwers", "()I"⟩, 51), (⟨"SaddlerKnowsModel", "inRings", "()I"⟩, 51), (⟨"SaddlerKnowsModel", "sides", "()I"⟩, 51), (⟨"SaddlerKnowsModel", "topBy", "(I)I"⟩, 51), (⟨"SaddlerKnowsModel", "valueOf", "(II)I"⟩, 51)]
theorem lw_r8 : ∀ q ∈ lw_privs_8, lw_okq q := List.forall_mem_cons.mpr ⟨lw_p112, List.forall_mem_cons.mpr ⟨lw_p113, List.forall_mem_cons.mpr ⟨lw_p114, List.forall_mem_cons.mpr ⟨lw_p115, List.forall_mem_cons.mpr ⟨lw_p116, List.forall_mem_cons.mpr ⟨lw_p117, List.forall_mem_cons.mpr ⟨lw_p118, List.forall_mem_cons.mpr ⟨lw_p119, List.forall_mem_cons.mpr ⟨lw_p120, List.forall_mem_cons.mpr ⟨lw_p121, List.forall_mem_cons.mpr ⟨lw_p122, List.forall_mem_cons.mpr ⟨lw_p123, List.forall_mem_cons.mpr ⟨lw_p124, List.forall_mem_cons.mpr ⟨lw_p125, fun _ h => absurd h List.not_mem_nil⟩⟩⟩⟩⟩⟩⟩⟩⟩⟩⟩⟩⟩⟩
def lw_privs : List (MethodName × Nat) := lw_privs_1 ++ (lw_privs_2 ++ (lw_privs_3 ++ (lw_privs_4 ++ (lw_privs_5 ++ (lw_privs_6 ++ (lw_privs_7 ++ (lw_privs_8)))))))
def lw_tbl : List Cond := k2_sels lw_privs ++ tables_1
theorem lw_privs_ok : ∀ q ∈ lw_privs, lw_okq q := by
  show ∀ q ∈ lw_privs_1 ++ (lw_privs_2 ++ (lw_privs_3 ++ (lw_privs_4 ++ (lw_privs_5 ++ (lw_privs_6 ++ (lw_privs_7 ++ (lw_privs_8))))))), lw_okq q
  exact List.forall_mem_append.mpr ⟨lw_r1, List.forall_mem_append.mpr ⟨lw_r2, List.forall_mem_append.mpr ⟨lw_r3, List.forall_mem_append.mpr ⟨lw_r4, List.forall_mem_append.mpr ⟨lw_r5, List.forall_mem_append.mpr ⟨lw_r6, List.forall_mem_append.mpr ⟨lw_r7, lw_r8⟩⟩⟩⟩⟩⟩⟩
end
section
/-! THE SMALL MACHINE: the methods' resolved code, run over a memory of cells by number; a call is a run of its own -/
/-- a cell: an object (class, fields), an array of ints (tag 0: int; 1: byte; 2: boolean; 5: int, read only), of longs, of references (the class of its elements) -/
abbrev zk_AC : Type := (Nat × List Value) ⊕ ((Nat × Nat × (Nat → Int32)) ⊕ ((Nat × (Nat → Int64)) ⊕ (Nat × Nat × (Nat → Option Nat))))
abbrev zk_M : Type := Nat → zk_AC
/-- the memory, how many cells, how many slots were made -/
abbrev zk_S : Type := zk_M × Nat × Nat
abbrev zk_R : Type := Option Value × zk_S
/-- resolved code: pc, the next pc, the instruction (operands resolved, targets absolute) -/
abbrev zk_C : Type := List (Nat × Nat × Instr)
abbrev zk_ob (ci : Nat) (fs : List Value) : zk_AC := .inl (ci, fs)
abbrev zk_ia (tag n : Nat) (f : Nat → Int32) : zk_AC := .inr (.inl (tag, n, f))
abbrev zk_la (n : Nat) (f : Nat → Int64) : zk_AC := .inr (.inr (.inl (n, f)))
abbrev zk_ra (ci n : Nat) (f : Nat → Option Nat) : zk_AC := .inr (.inr (.inr (ci, n, f)))
def zk_up (M : zk_M) (k : Nat) (c : zk_AC) : zk_M := fun j => if j = k then c else M j
theorem zk_up_s (M : zk_M) (k : Nat) (c : zk_AC) : zk_up M k c k = c := if_pos rfl
theorem zk_up_n {M : zk_M} {k j : Nat} {c : zk_AC} (h : j ≠ k) : zk_up M k c j = M j := if_neg h
/-- no cell -/
abbrev zk_no : zk_AC := .inl (99, [])
def zk_lk (pc : Nat) : zk_C → Option (Nat × Instr)
  | [] => none
  | (p, n, i) :: r => bif Nat.beq p pc then some (n, i) else zk_lk pc r
def zk_gf (s : zk_S) (a ci j : Nat) : Option Value := match s.1 a with
  | .inl (c, fs) => if c = ci then fs[j]? else none
  | .inr _ => none
def zk_gI (s : zk_S) (a ci j : Nat) : Option Int32 := match zk_gf s a ci j with
  | some (.int x) => some x
  | _ => none
def zk_gL (s : zk_S) (a ci j : Nat) : Option Int64 := match zk_gf s a ci j with
  | some (.long x) => some x
  | _ => none
def zk_gR (s : zk_S) (a ci j : Nat) : Option Nat := match zk_gf s a ci j with
  | some (.ref x) => some x
  | _ => none
def zk_pf (s : zk_S) (a ci j : Nat) (v : Value) : Option zk_S := match s.1 a with
  | .inl (c, fs) => if c = ci ∧ j < fs.length then some (zk_up s.1 a (.inl (c, fs.set j v)), s.2) else none
  | .inr _ => none
def zk_al (s : zk_S) (a : Nat) : Option Int32 := match s.1 a with
  | .inl _ => none
  | .inr (.inl (_, n, _)) => some (nI n)
  | .inr (.inr (.inl (n, _))) => some (nI n)
  | .inr (.inr (.inr (_, n, _))) => some (nI n)
def zk_ldI (s : zk_S) (a : Nat) (i : Int32) : Option Int32 := match s.1 a with
  | .inr (.inl (t, n, f)) => if (t = 0 ∨ t = 5) ∧ ¬ (i < 0 ∨ n ≤ i.toNatClampNeg) then some (f i.toNatClampNeg) else none
  | _ => none
def zk_ldB (s : zk_S) (a : Nat) (i : Int32) : Option Int32 := match s.1 a with
  | .inr (.inl (t, n, f)) => if (t = 1 ∨ t = 2) ∧ ¬ (i < 0 ∨ n ≤ i.toNatClampNeg) then some (f i.toNatClampNeg) else none
  | _ => none
def zk_ldL (s : zk_S) (a : Nat) (i : Int32) : Option Int64 := match s.1 a with
  | .inr (.inr (.inl (n, f))) => if ¬ (i < 0 ∨ n ≤ i.toNatClampNeg) then some (f i.toNatClampNeg) else none
  | _ => none
def zk_ldR (s : zk_S) (a : Nat) (i : Int32) : Option (Option Nat) := match s.1 a with
  | .inr (.inr (.inr (_, n, f))) => if ¬ (i < 0 ∨ n ≤ i.toNatClampNeg) then some (f i.toNatClampNeg) else none
  | _ => none
def zk_stI (s : zk_S) (a : Nat) (i x : Int32) : Option zk_S := match s.1 a with
  | .inr (.inl (t, n, f)) => if t = 0 ∧ ¬ (i < 0 ∨ n ≤ i.toNatClampNeg) then some (zk_up s.1 a (zk_ia t n (upd f i.toNatClampNeg x)), s.2) else none
  | _ => none
def zk_stZ (s : zk_S) (a : Nat) (i x : Int32) : Option zk_S := match s.1 a with
  | .inr (.inl (t, n, f)) => if t = 2 ∧ ¬ (i < 0 ∨ n ≤ i.toNatClampNeg) then some (zk_up s.1 a (zk_ia t n (upd f i.toNatClampNeg (x &&& 1))), s.2) else none
  | _ => none
def zk_stL (s : zk_S) (a : Nat) (i : Int32) (x : Int64) : Option zk_S := match s.1 a with
  | .inr (.inr (.inl (n, f))) => if ¬ (i < 0 ∨ n ≤ i.toNatClampNeg) then some (zk_up s.1 a (zk_la n (vp_updL f i.toNatClampNeg x)), s.2) else none
  | _ => none
def zk_stR (s : zk_S) (a : Nat) (i : Int32) (v : Nat) : Option zk_S := match s.1 a with
  | .inr (.inr (.inr (ci, n, f))) => match s.1 v with
    | .inl (c, _) => if c = ci ∧ ¬ (i < 0 ∨ n ≤ i.toNatClampNeg) then some (zk_up s.1 a (zk_ra ci n (va_up f i.toNatClampNeg (some v))), s.2) else none
    | .inr _ => none
  | _ => none
/-- a new cell of so many slots -/
def zk_nw (s : zk_S) (c : zk_AC) (w : Nat) : zk_S := (zk_up s.1 s.2.1 c, s.2.1 + 1, s.2.2 + w)
def zk_cI (r : Option zk_R) : Option (Int32 × zk_S) := r.bind fun p => match p with
  | (some (.int x), s) => some (x, s)
  | _ => none
def zk_cL (r : Option zk_R) : Option (Int64 × zk_S) := r.bind fun p => match p with
  | (some (.long x), s) => some (x, s)
  | _ => none
def zk_cV (r : Option zk_R) : Option zk_S := r.bind fun p => match p with
  | (none, s) => some s
  | _ => none
def zk_cR (r : Option zk_R) : Option (Option Nat × zk_S) := r.bind fun p => match p with
  | (some (.ref x), s) => some (some x, s)
  | (some .null, s) => some (none, s)
  | _ => none
/-- the receiver's class -/
def zk_rv (s : zk_S) (b ci : Nat) : Option Unit := match s.1 b with
  | .inl (c, _) => if c = ci then some () else none
  | .inr _ => none
/-- no long stands ahead of place n -/
def zk_nl (L : List Value) (n : Nat) : Bool := match n with
  | 0 => true
  | j + 1 => match L[j]? with
    | some (.long _) => false
    | some (.double _) => false
    | _ => true
def zk_sw {α : Type} (x : Int32) (d : Int) (k : Nat → Option α) : List (Int × Int) → Option α
  | [] => k d.toNat
  | (c, t) :: r => if x = Int32.ofInt c then k t.toNat else zk_sw x d k r
section
variable (df : Nat → List Value)
/-- a call's operand: the method's number, how many arguments, what it answers (0: nothing, 1: int, 2: long, 3: a reference), its class -/
def zk_inv (call : Nat → List Value → zk_S → Option zk_R) (nx : Nat) (L : List Value) (o : Nat) (as rest : List Value) (s : zk_S) (k : Nat → List Value → List Value → zk_S → Option zk_R) : Option zk_R :=
  bif Nat.ble (rest.map fun v => v.category).sum 8 then
    match o / 10000 % 10 with
    | 0 => (zk_cV (call (o % 1000) as s)).bind fun t => k nx L rest t
    | 1 => (zk_cI (call (o % 1000) as s)).bind fun p => k nx L (.int p.1 :: rest) p.2
    | 2 => (zk_cL (call (o % 1000) as s)).bind fun p => k nx L (.long p.1 :: rest) p.2
    | _ => (zk_cR (call (o % 1000) as s)).bind fun p => match p.1 with
      | some a => k nx L (.ref a :: rest) p.2
      | none => k nx L (.null :: rest) p.2
  else none
def zk_ins (call : Nat → List Value → zk_S → Option zk_R) (d : Nat) (i : Instr) (nx : Nat) (L S : List Value) (s : zk_S) (k : Nat → List Value → List Value → zk_S → Option zk_R) : Option zk_R :=
  match i with
  | .iload n => match L[n]? with
    | some (.int x) => k nx L (.int x :: S) s
    | _ => none
  | .lload n => match L[n]? with
    | some (.long x) => k nx L (.long x :: S) s
    | _ => none
  | .aload n => match L[n]? with
    | some (.ref a) => k nx L (.ref a :: S) s
    | some .null => k nx L (.null :: S) s
    | _ => none
  | .istore n => match S with
    | .int x :: S => bif zk_nl L n && Nat.blt n L.length then k nx (L.set n (.int x)) S s else none
    | _ => none
  | .lstore n => match S with
    | .long x :: S => bif zk_nl L n && Nat.blt (n + 1) L.length then k nx ((L.set n (.long x)).set (n + 1) (.retAddr 0)) S s else none
    | _ => none
  | .astore n => match S with
    | .ref a :: S => bif zk_nl L n && Nat.blt n L.length then k nx (L.set n (.ref a)) S s else none
    | .null :: S => bif zk_nl L n && Nat.blt n L.length then k nx (L.set n .null) S s else none
    | _ => none
  | .iconst v => k nx L (.int (Int32.ofInt v) :: S) s
  | .sipush v => k nx L (.long (Int64.ofInt v) :: S) s
  | .ldc e => k nx L (.ref e :: S) s
  | .aconst_null => k nx L (.null :: S) s
  | .dup => match S with
    | v :: S => bif Nat.beq v.category 1 then k nx L (v :: v :: S) s else none
    | _ => none
  | .dup2 => match S with
    | v :: w :: S => bif Nat.beq v.category 1 && Nat.beq w.category 1 then k nx L (v :: w :: v :: w :: S) s else none
    | _ => none
  | .pop => match S with
    | v :: S => bif Nat.beq v.category 1 then k nx L S s else none
    | _ => none
  | .iinc n c => match L[n]? with
    | some (.int x) => bif zk_nl L n && Nat.blt n L.length then k nx (L.set n (.int (x + Int32.ofInt c))) S s else none
    | _ => none
  | .iadd => match S with
    | .int y :: .int x :: S => k nx L (.int (x + y) :: S) s
    | _ => none
  | .isub => match S with
    | .int y :: .int x :: S => k nx L (.int (x - y) :: S) s
    | _ => none
  | .imul => match S with
    | .int y :: .int x :: S => k nx L (.int (x * y) :: S) s
    | _ => none
  | .idiv => match S with
    | .int y :: .int x :: S => if y = 0 then none else k nx L (.int (x / y) :: S) s
    | _ => none
  | .irem => match S with
    | .int y :: .int x :: S => if y = 0 then none else k nx L (.int (x - x / y * y) :: S) s
    | _ => none
  | .ineg => match S with
    | .int x :: S => k nx L (.int (-x) :: S) s
    | _ => none
  | .ishl => match S with
    | .int y :: .int x :: S => k nx L (.int (x <<< (y &&& 31)) :: S) s
    | _ => none
  | .ishr => match S with
    | .int y :: .int x :: S => k nx L (.int (x >>> (y &&& 31)) :: S) s
    | _ => none
  | .iushr => match S with
    | .int y :: .int x :: S => k nx L (.int ((x.toUInt32 >>> (y.toUInt32 &&& Int32.toUInt32 31)).toInt32) :: S) s
    | _ => none
  | .iand => match S with
    | .int y :: .int x :: S => k nx L (.int (x &&& y) :: S) s
    | _ => none
  | .ior => match S with
    | .int y :: .int x :: S => k nx L (.int (x ||| y) :: S) s
    | _ => none
  | .ixor => match S with
    | .int y :: .int x :: S => k nx L (.int (x ^^^ y) :: S) s
    | _ => none
  | .ladd => match S with
    | .long y :: .long x :: S => k nx L (.long (x + y) :: S) s
    | _ => none
  | .lsub => match S with
    | .long y :: .long x :: S => k nx L (.long (x - y) :: S) s
    | _ => none
  | .lmul => match S with
    | .long y :: .long x :: S => k nx L (.long (x * y) :: S) s
    | _ => none
  | .ldiv => match S with
    | .long y :: .long x :: S => if y = 0 then none else k nx L (.long (x / y) :: S) s
    | _ => none
  | .lrem => match S with
    | .long y :: .long x :: S => if y = 0 then none else k nx L (.long (x - x / y * y) :: S) s
    | _ => none
  | .land => match S with
    | .long y :: .long x :: S => k nx L (.long (x &&& y) :: S) s
    | _ => none
  | .lor => match S with
    | .long y :: .long x :: S => k nx L (.long (x ||| y) :: S) s
    | _ => none
  | .lshl => match S with
    | .int y :: .long x :: S => k nx L (.long (x <<< (y.toInt64 &&& 63)) :: S) s
    | _ => none
  | .lushr => match S with
    | .int y :: .long x :: S => k nx L (.long ((x.toUInt64 >>> (y.toInt64.toUInt64 &&& Int64.toUInt64 63)).toInt64) :: S) s
    | _ => none
  | .i2l => match S with
    | .int x :: S => k nx L (.long x.toInt64 :: S) s
    | _ => none
  | .l2i => match S with
    | .long x :: S => k nx L (.int x.toInt32 :: S) s
    | _ => none
  | .i2b => match S with
    | .int x :: S => k nx L (.int x.toInt8.toInt32 :: S) s
    | _ => none
  | .i2c => match S with
    | .int x :: S => k nx L (.int ((x.toUInt32 % 65536).toInt32) :: S) s
    | _ => none
  | .lcmp => match S with
    | .long y :: .long x :: S => k nx L (.int (lg_cmp x y) :: S) s
    | _ => none
  | .ifCond c t => match S with
    | .int x :: S => match c with
      | .eq => if x = 0 then k t.toNat L S s else k nx L S s
      | .ne => if x = 0 then k nx L S s else k t.toNat L S s
      | .lt => if x < 0 then k t.toNat L S s else k nx L S s
      | .ge => if x < 0 then k nx L S s else k t.toNat L S s
      | .gt => if 0 < x then k t.toNat L S s else k nx L S s
      | .le => if 0 < x then k nx L S s else k t.toNat L S s
    | _ => none
  | .if_icmp c t => match S with
    | .int y :: .int x :: S => match c with
      | .eq => if x = y then k t.toNat L S s else k nx L S s
      | .ne => if x = y then k nx L S s else k t.toNat L S s
      | .lt => if x < y then k t.toNat L S s else k nx L S s
      | .ge => if x < y then k nx L S s else k t.toNat L S s
      | .gt => if y < x then k t.toNat L S s else k nx L S s
      | .le => if y < x then k nx L S s else k t.toNat L S s
    | _ => none
  | .ifnull t => match S with
    | .ref _ :: S => k nx L S s
    | .null :: S => k t.toNat L S s
    | _ => none
  | .ifnonnull t => match S with
    | .ref _ :: S => k t.toNat L S s
    | .null :: S => k nx L S s
    | _ => none
  | .goto t => k t.toNat L S s
  | .lookupswitch dflt ps => match S with
    | .int x :: S => zk_sw x dflt (fun t => k t L S s) ps.toList
    | _ => none
  | .getstatic i => match i with
    | 0 => k nx L (.int 1 :: S) s
    | j + 1 => k nx L (.ref (j + 1) :: S) s
  | .getfield o => match S with
    | .ref a :: S => match o % 10 with
      | 0 => (zk_gI s a (o / 1000) (o / 10 % 100)).bind fun x => k nx L (.int x :: S) s
      | 1 => (zk_gL s a (o / 1000) (o / 10 % 100)).bind fun x => k nx L (.long x :: S) s
      | 2 => (zk_gR s a (o / 1000) (o / 10 % 100)).bind fun x => k nx L (.ref x :: S) s
      | _ => none
    | _ => none
  | .putfield o => match S with
    | .int x :: .ref a :: S => match o % 10 with
      | 0 => (zk_pf s a (o / 1000) (o / 10 % 100) (.int x)).bind fun t => k nx L S t
      | 3 => if x = 0 ∨ x = 1 then (zk_pf s a (o / 1000) (o / 10 % 100) (.int x)).bind fun t => k nx L S t else none
      | _ => none
    | .long x :: .ref a :: S => match o % 10 with
      | 1 => (zk_pf s a (o / 1000) (o / 10 % 100) (.long x)).bind fun t => k nx L S t
      | _ => none
    | .ref x :: .ref a :: S => match o % 10 with
      | 2 => (zk_pf s a (o / 1000) (o / 10 % 100) (.ref x)).bind fun t => k nx L S t
      | _ => none
    | _ => none
  | .arraylength => match S with
    | .ref a :: S => (zk_al s a).bind fun x => k nx L (.int x :: S) s
    | _ => none
  | .iaload => match S with
    | .int i :: .ref a :: S => (zk_ldI s a i).bind fun x => k nx L (.int x :: S) s
    | _ => none
  | .baload => match S with
    | .int i :: .ref a :: S => (zk_ldB s a i).bind fun x => k nx L (.int x :: S) s
    | _ => none
  | .laload => match S with
    | .int i :: .ref a :: S => (zk_ldL s a i).bind fun x => k nx L (.long x :: S) s
    | _ => none
  | .aaload => match S with
    | .int i :: .ref a :: S => (zk_ldR s a i).bind fun x => match x with
      | some b => k nx L (.ref b :: S) s
      | none => k nx L (.null :: S) s
    | _ => none
  | .iastore => match S with
    | .int x :: .int i :: .ref a :: S => (zk_stI s a i x).bind fun t => k nx L S t
    | _ => none
  | .bastore => match S with
    | .int x :: .int i :: .ref a :: S => (zk_stZ s a i x).bind fun t => k nx L S t
    | _ => none
  | .lastore => match S with
    | .long x :: .int i :: .ref a :: S => (zk_stL s a i x).bind fun t => k nx L S t
    | _ => none
  | .aastore => match S with
    | .ref v :: .int i :: .ref a :: S => (zk_stR s a i v).bind fun t => k nx L S t
    | _ => none
  | .new ci => k nx L (.ref s.2.1 :: S) (zk_nw s (zk_ob ci (df ci)) (df ci).length)
  | .newarray ty => match S with
    | .int n :: S => if n < 0 ∨ 100000 < n then none else match ty with
      | .int => k nx L (.ref s.2.1 :: S) (zk_nw s (zk_ia 0 n.toNatClampNeg (fun _ => 0)) n.toNatClampNeg)
      | .boolean => k nx L (.ref s.2.1 :: S) (zk_nw s (zk_ia 2 n.toNatClampNeg (fun _ => 0)) n.toNatClampNeg)
      | .long => k nx L (.ref s.2.1 :: S) (zk_nw s (zk_la n.toNatClampNeg (fun _ => 0)) n.toNatClampNeg)
      | _ => none
    | _ => none
  | .anewarray ci => match S with
    | .int n :: S => if n < 0 ∨ 100000 < n then none else k nx L (.ref s.2.1 :: S) (zk_nw s (zk_ra ci n.toNatClampNeg (fun _ => none)) n.toNatClampNeg)
    | _ => none
  | .invokestatic o => bif Nat.ble (o / 1000 % 10) S.length then zk_inv call nx L o (S.take (o / 1000 % 10)).reverse (S.drop (o / 1000 % 10)) s k else none
  | .invokevirtual o => bif Nat.ble (o / 1000 % 10) S.length then match (S.take (o / 1000 % 10)).reverse with
    | .ref b :: as => (zk_rv s b (o / 100000)).bind fun _ => zk_inv call nx L o (.ref b :: as) (S.drop (o / 1000 % 10)) s k
    | _ => none
    else none
  | .invokespecial o => match o with
    | 0 => match S with
      | .ref _ :: S => match d with
        | 0 => none
        | _ + 1 => bif Nat.ble (S.map fun v => v.category).sum 8 then k nx L S s else none
      | _ => none
    | o + 1 => bif Nat.ble ((o + 1) / 1000 % 10) S.length then match (S.take ((o + 1) / 1000 % 10)).reverse with
      | .ref b :: as => zk_inv call nx L (o + 1) (.ref b :: as) (S.drop ((o + 1) / 1000 % 10)) s k
      | _ => none
      else none
  | .ireturn => match S with
    | [.int x] => some (some (.int x), s)
    | _ => none
  | .ret 1 => match S with
    | [.int x] => some (some (.int (x &&& 1)), s)
    | _ => none
  | .ret 2 => match S with
    | [.int x] => some (some (.int x.toInt8.toInt32), s)
    | _ => none
  | .lreturn => match S with
    | [.long x] => some (some (.long x), s)
    | _ => none
  | .areturn => match S with
    | [.ref a] => some (some (.ref a), s)
    | [.null] => some (some .null, s)
    | _ => none
  | .return_ => match S with
    | [] => some (none, s)
    | _ => none
  | .athrow => some (some (.retAddr 0), s)
  | _ => none
end
end
section
/-! NAMES: classes, fields, methods, their resolved code (printed by wip/whole/gen/names.py out of the claim) -/
def RX0 : String := "SaddlerKnows$CountyReader"
def TX0 : u_T := fun k => match k with
  | 0 => ("SaddlerKnows$CountyReader", "draft", "LSaddlerKnows$Told;", true)
  | 1 => ("SaddlerKnows$CountyReader", "tape", "LSaddlerKnows$Tape;", true)
  | 2 => ("SaddlerKnows$CountyReader", "items", "[I", true)
  | _ => ("SaddlerKnows$CountyReader", "rulesTold", "Z", false)
def RX1 : String := "SaddlerKnows$Law"
def TX1 : u_T := fun k => match k with
  | 0 => ("SaddlerKnows$Law", "code", "[I", true)
  | 1 => ("SaddlerKnows$Law", "stack", "[I", true)
  | _ => ("SaddlerKnows$Law", "height", "I", false)
def RX2 : String := "SaddlerKnows$LawReader"
def TX2 : u_T := fun k => match k with
  | 0 => ("SaddlerKnows$LawReader", "code", "[I", true)
  | 1 => ("SaddlerKnows$LawReader", "used", "I", false)
  | _ => ("SaddlerKnows$LawReader", "tape", "LSaddlerKnows$Tape;", true)
def RX3 : String := "SaddlerKnows$Past"
def TX3 : u_T := fun k => match k with
  | 0 => ("SaddlerKnows$Past", "entries", "[I", true)
  | 1 => ("SaddlerKnows$Past", "imageEntries", "[I", true)
  | 2 => ("SaddlerKnows$Past", "imageStand", "LSaddlerKnows$Stand;", true)
  | 3 => ("SaddlerKnows$Past", "stands", "[LSaddlerKnows$Stand;", true)
  | 4 => ("SaddlerKnows$Past", "hasImage", "Z", false)
  | 5 => ("SaddlerKnows$Past", "next", "I", false)
  | _ => ("SaddlerKnows$Past", "kept", "I", false)
def RX4 : String := "SaddlerKnows$Pinches"
def TX4 : u_T := fun k => match k with
  | 0 => ("SaddlerKnows$Pinches", "told", "LSaddlerKnows$Told;", true)
  | 1 => ("SaddlerKnows$Pinches", "laws", "[LSaddlerKnows$Law;", true)
  | 2 => ("SaddlerKnows$Pinches", "lawCount", "I", false)
  | _ => ("SaddlerKnows$Pinches", "holding", "I", false)
def RX5 : String := "SaddlerKnows$Seating"
def TX5 : u_T := fun k => match k with
  | 0 => ("SaddlerKnows$Seating", "told", "LSaddlerKnows$Told;", true)
  | 1 => ("SaddlerKnows$Seating", "pinches", "LSaddlerKnows$Pinches;", true)
  | 2 => ("SaddlerKnows$Seating", "least", "[I", true)
  | 3 => ("SaddlerKnows$Seating", "leastRow", "I", false)
  | _ => ("SaddlerKnows$Seating", "leastPinch", "I", false)
def RX6 : String := "SaddlerKnows$Seeing"
def TX6 : u_T := fun k => match k with
  | 0 => ("SaddlerKnows$Seeing", "told", "LSaddlerKnows$Told;", true)
  | 1 => ("SaddlerKnows$Seeing", "pinches", "LSaddlerKnows$Pinches;", true)
  | 2 => ("SaddlerKnows$Seeing", "trial", "LSaddlerKnows$Stand;", true)
  | 3 => ("SaddlerKnows$Seeing", "person", "[I", true)
  | 4 => ("SaddlerKnows$Seeing", "weeks", "[I", true)
  | 5 => ("SaddlerKnows$Seeing", "mark", "[I", true)
  | 6 => ("SaddlerKnows$Seeing", "more", "[Z", true)
  | 7 => ("SaddlerKnows$Seeing", "fittingGall", "[I", true)
  | 8 => ("SaddlerKnows$Seeing", "fittingFits", "I", false)
  | _ => ("SaddlerKnows$Seeing", "kept", "I", false)
def RX7 : String := "SaddlerKnows$Stand"
def TX7 : u_T := fun k => match k with
  | 0 => ("SaddlerKnows$Stand", "who", "[I", true)
  | 1 => ("SaddlerKnows$Stand", "under", "[I", true)
  | 2 => ("SaddlerKnows$Stand", "fit", "[I", true)
  | 3 => ("SaddlerKnows$Stand", "gall", "[I", true)
  | 4 => ("SaddlerKnows$Stand", "coins", "I", false)
  | _ => ("SaddlerKnows$Stand", "week", "I", false)
def RX8 : String := "SaddlerKnows$Stitching"
def TX8 : u_T := fun k => match k with
  | 0 => ("SaddlerKnows$Stitching", "pinches", "LSaddlerKnows$Pinches;", true)
  | 1 => ("SaddlerKnows$Stitching", "trial", "LSaddlerKnows$Stand;", true)
  | 2 => ("SaddlerKnows$Stitching", "person", "I", false)
  | 3 => ("SaddlerKnows$Stitching", "weeks", "I", false)
  | 4 => ("SaddlerKnows$Stitching", "leastCoins", "I", false)
  | _ => ("SaddlerKnows$Stitching", "leastFits", "I", false)
def RX9 : String := "SaddlerKnows$Tape"
def TX9 : u_T := fun k => match k with
  | 0 => ("SaddlerKnows$Tape", "length", "I", false)
  | 1 => ("SaddlerKnows$Tape", "mark", "I", false)
  | _ => ("SaddlerKnows$Tape", "bytes", "[I", true)
def RX10 : String := "SaddlerKnows$Told"
def TX10 : u_T := fun k => match k with
  | 0 => ("SaddlerKnows$Told", "heals", "I", false)
  | 1 => ("SaddlerKnows$Told", "coins", "I", false)
  | 2 => ("SaddlerKnows$Told", "persons", "I", false)
  | 3 => ("SaddlerKnows$Told", "saddles", "I", false)
  | 4 => ("SaddlerKnows$Told", "strength", "[I", true)
  | 5 => ("SaddlerKnows$Told", "breadth", "[I", true)
  | 6 => ("SaddlerKnows$Told", "temper", "[I", true)
  | 7 => ("SaddlerKnows$Told", "who", "[I", true)
  | 8 => ("SaddlerKnows$Told", "under", "[I", true)
  | _ => ("SaddlerKnows$Told", "fit", "[I", true)
def RX11 : String := "SaddlerKnows"
def TX11 : u_T := fun k => match k with
  | 0 => ("SaddlerKnows", "tape", "LSaddlerKnows$Tape;", true)
  | 1 => ("SaddlerKnows", "countyReader", "LSaddlerKnows$CountyReader;", true)
  | 2 => ("SaddlerKnows", "lawReader", "LSaddlerKnows$LawReader;", true)
  | 3 => ("SaddlerKnows", "told", "LSaddlerKnows$Told;", true)
  | 4 => ("SaddlerKnows", "pinches", "LSaddlerKnows$Pinches;", true)
  | 5 => ("SaddlerKnows", "now", "LSaddlerKnows$Stand;", true)
  | 6 => ("SaddlerKnows", "past", "LSaddlerKnows$Past;", true)
  | 7 => ("SaddlerKnows", "seeing", "LSaddlerKnows$Seeing;", true)
  | 8 => ("SaddlerKnows", "stitching", "LSaddlerKnows$Stitching;", true)
  | 9 => ("SaddlerKnows", "seating", "LSaddlerKnows$Seating;", true)
  | 10 => ("SaddlerKnows", "refusals", "[I", true)
  | 11 => ("SaddlerKnows", "restBelow", "I", false)
  | _ => ("SaddlerKnows", "drawn", "J", false)
def RX12 : String := "SaddlerKnowsModel"
def TX12 : u_T := fun k => match k with
  | 0 => ("SaddlerKnowsModel", "thrown", "I", false)
  | 1 => ("SaddlerKnowsModel", "tape", "[I", true)
  | 2 => ("SaddlerKnowsModel", "size", "I", false)
  | 3 => ("SaddlerKnowsModel", "at", "I", false)
  | 4 => ("SaddlerKnowsModel", "wrong", "I", false)
  | 5 => ("SaddlerKnowsModel", "deep", "I", false)
  | 6 => ("SaddlerKnowsModel", "code", "[I", true)
  | 7 => ("SaddlerKnowsModel", "value", "[I", true)
  | 8 => ("SaddlerKnowsModel", "codes", "[I", true)
  | 9 => ("SaddlerKnowsModel", "clauses", "[I", true)
  | 10 => ("SaddlerKnowsModel", "testFrom", "[I", true)
  | 11 => ("SaddlerKnowsModel", "sumFrom", "[I", true)
  | 12 => ("SaddlerKnowsModel", "sumTo", "[I", true)
  | 13 => ("SaddlerKnowsModel", "laws", "I", false)
  | 14 => ("SaddlerKnowsModel", "text", "I", false)
  | 15 => ("SaddlerKnowsModel", "letters", "[I", true)
  | 16 => ("SaddlerKnowsModel", "stack", "[I", true)
  | 17 => ("SaddlerKnowsModel", "readRule", "[I", true)
  | 18 => ("SaddlerKnowsModel", "readPerson", "[I", true)
  | 19 => ("SaddlerKnowsModel", "readSaddle", "[I", true)
  | 20 => ("SaddlerKnowsModel", "readPersons", "I", false)
  | 21 => ("SaddlerKnowsModel", "readSaddles", "I", false)
  | 22 => ("SaddlerKnowsModel", "rule", "[I", true)
  | 23 => ("SaddlerKnowsModel", "person", "[I", true)
  | 24 => ("SaddlerKnowsModel", "saddle", "[I", true)
  | 25 => ("SaddlerKnowsModel", "persons", "I", false)
  | 26 => ("SaddlerKnowsModel", "toldMany", "I", false)
  | 27 => ("SaddlerKnowsModel", "now", "[I", true)
  | 28 => ("SaddlerKnowsModel", "refused", "[I", true)
  | 29 => ("SaddlerKnowsModel", "holding", "I", false)
  | 30 => ("SaddlerKnowsModel", "resting", "I", false)
  | 31 => ("SaddlerKnowsModel", "load", "[I", true)
  | 32 => ("SaddlerKnowsModel", "threw", "I", false)
  | 33 => ("SaddlerKnowsModel", "kept", "[I", true)
  | 34 => ("SaddlerKnowsModel", "acts", "I", false)
  | 35 => ("SaddlerKnowsModel", "draws", "J", false)
  | 36 => ("SaddlerKnowsModel", "aside", "[I", true)
  | 37 => ("SaddlerKnowsModel", "bestCoins", "I", false)
  | 38 => ("SaddlerKnowsModel", "bestFits", "I", false)
  | 39 => ("SaddlerKnowsModel", "away", "[I", true)
  | 40 => ("SaddlerKnowsModel", "bestRow", "I", false)
  | 41 => ("SaddlerKnowsModel", "bestSum", "I", false)
  | 42 => ("SaddlerKnowsModel", "notePerson", "[I", true)
  | 43 => ("SaddlerKnowsModel", "noteWeeks", "[I", true)
  | 44 => ("SaddlerKnowsModel", "noteGall", "[I", true)
  | 45 => ("SaddlerKnowsModel", "noteMore", "[Z", true)
  | 46 => ("SaddlerKnowsModel", "noted", "I", false)
  | 47 => ("SaddlerKnowsModel", "gallBehind", "[I", true)
  | 48 => ("SaddlerKnowsModel", "galls", "[I", true)
  | 49 => ("SaddlerKnowsModel", "image", "[I", true)
  | _ => ("SaddlerKnowsModel", "hasImage", "Z", false)
abbrev vwCl : List vw_C := [(RX0, TX0, 4), (RX1, TX1, 3), (RX2, TX2, 3), (RX3, TX3, 7), (RX4, TX4, 4), (RX5, TX5, 5), (RX6, TX6, 10), (RX7, TX7, 6), (RX8, TX8, 6), (RX9, TX9, 3), (RX10, TX10, 10), (RX11, TX11, 13), (RX12, TX12, 51)]
def zk_cn : List String := ["SaddlerKnows$CountyReader", "SaddlerKnows$Law", "SaddlerKnows$LawReader", "SaddlerKnows$Past", "SaddlerKnows$Pinches", "SaddlerKnows$Seating", "SaddlerKnows$Seeing", "SaddlerKnows$Stand", "SaddlerKnows$Stitching", "SaddlerKnows$Tape", "SaddlerKnows$Told", "SaddlerKnows", "SaddlerKnowsModel", "java/lang/String", "java/lang/StringLatin1", "java/lang/Math", "java/lang/Integer", "SaddlerKnowsLaw"]
abbrev m_CountyReader_new : Nat := 1
abbrev m_CountyReader_firstFault : Nat := 2
abbrev m_CountyReader_readsClause : Nat := 3
abbrev m_CountyReader_readsRules : Nat := 4
abbrev m_CountyReader_keepRules : Nat := 5
abbrev m_CountyReader_readsPerson : Nat := 6
abbrev m_CountyReader_readsSaddle : Nat := 7
abbrev m_CountyReader_begin : Nat := 8
abbrev m_CountyReader_readsItems : Nat := 9
abbrev m_Law_new : Nat := 10
abbrev m_Law_worth : Nat := 11
abbrev m_Law_joined : Nat := 12
abbrev m_Law_push : Nat := 13
abbrev m_Law_pop : Nat := 14
abbrev m_LawReader_new : Nat := 15
abbrev m_LawReader_firstFault : Nat := 16
abbrev m_LawReader_readsClause : Nat := 17
abbrev m_LawReader_readsGuarded : Nat := 18
abbrev m_LawReader_readsCondition : Nat := 19
abbrev m_LawReader_readsTruth : Nat := 20
abbrev m_LawReader_readsUnit : Nat := 21
abbrev m_LawReader_readsNested : Nat := 22
abbrev m_LawReader_readsSum : Nat := 23
abbrev m_LawReader_readsTerm : Nat := 24
abbrev m_LawReader_readsAtom : Nat := 25
abbrev m_LawReader_emit : Nat := 26
abbrev m_LawReader_isComparison : Nat := 27
abbrev m_Past_new : Nat := 28
abbrev m_Past_forget : Nat := 29
abbrev m_Past_keep : Nat := 30
abbrev m_Past_takeBack : Nat := 31
abbrev m_Past_standAt : Nat := 32
abbrev m_Past_takeImage : Nat := 33
abbrev m_Past_goBack : Nat := 34
abbrev m_Past_write : Nat := 35
abbrev m_Past_entry : Nat := 36
abbrev m_Pinches_new : Nat := 37
abbrev m_Pinches_addLaw : Nat := 38
abbrev m_Pinches_pinchAt : Nat := 39
abbrev m_Pinches_wereIt : Nat := 40
abbrev m_Pinches_inPlace : Nat := 41
abbrev m_Pinches_loadAt : Nat := 42
abbrev m_Pinches_loadNow : Nat := 43
abbrev m_Pinches_galledBy : Nat := 44
abbrev m_Pinches_bestFit : Nat := 45
abbrev m_Pinches_firstThrow : Nat := 46
abbrev m_Pinches_pass : Nat := 47
abbrev m_Seating_new : Nat := 48
abbrev m_Seating_search : Nat := 49
abbrev m_Seating_seatFrom : Nat := 50
abbrev m_Seeing_new : Nat := 51
abbrev m_Seeing_add : Nat := 52
abbrev m_Seeing_tryFits : Nat := 53
abbrev m_Seeing_agreesBehind : Nat := 54
abbrev m_Seeing_fitting : Nat := 55
abbrev m_Seeing_fairestMark : Nat := 56
abbrev m_Seeing_apartAt : Nat := 57
abbrev m_Stand_new : Nat := 58
abbrev m_Stand_begin : Nat := 59
abbrev m_Stand_copy : Nat := 60
abbrev m_Stand_isSaddle : Nat := 61
abbrev m_Stand_isOn : Nat := 62
abbrev m_Stand_girth : Nat := 63
abbrev m_Stand_ungirth : Nat := 64
abbrev m_Stand_ungirthAll : Nat := 65
abbrev m_Stand_placeOf : Nat := 66
abbrev m_Stand_freePlace : Nat := 67
abbrev m_Stand_saddlePlaces : Nat := 68
abbrev m_Stand_saddleCount : Nat := 69
abbrev m_Stand_bearsAny : Nat := 70
abbrev m_Stand_satBy : Nat := 71
abbrev m_Stand_sittingPeople : Nat := 72
abbrev m_Stand_allGall : Nat := 73
abbrev m_Stand_riddenBy : Nat := 74
abbrev m_Stand_above : Nat := 75
abbrev m_Stand_ridesBetween : Nat := 76
abbrev m_Stitching_new : Nat := 77
abbrev m_Stitching_search : Nat := 78
abbrev m_Stitching_searchFrom : Nat := 79
abbrev m_Stitching_fitsTold : Nat := 80
abbrev m_Tape_new : Nat := 81
abbrev m_Tape_bytesOf : Nat := 82
abbrev m_Tape_append : Nat := 83
abbrev m_Tape_sign : Nat := 84
abbrev m_Tape_step : Nat := 85
abbrev m_Tape_takes : Nat := 86
abbrev m_Tape_number : Nat := 87
abbrev m_Tape_byteHere : Nat := 88
abbrev m_Tape_isDigit : Nat := 89
abbrev m_Told_new : Nat := 90
abbrev m_Told_copy : Nat := 91
abbrev m_Told_limitOf : Nat := 92
abbrev m_Told_isWhole : Nat := 93
abbrev m_Told_isToldAhead : Nat := 94
abbrev m_Told_waitsFor : Nat := 95
abbrev m_Told_waitsBest : Nat := 96
abbrev m_SaddlerKnows_new : Nat := 97
abbrev m_SaddlerKnows_feed : Nat := 98
abbrev m_SaddlerKnows_end : Nat := 99
abbrev m_SaddlerKnows_fault : Nat := 100
abbrev m_SaddlerKnows_text : Nat := 101
abbrev m_SaddlerKnows_takeCounty : Nat := 102
abbrev m_SaddlerKnows_takeLaw : Nat := 103
abbrev m_SaddlerKnows_rule : Nat := 104
abbrev m_SaddlerKnows_person : Nat := 105
abbrev m_SaddlerKnows_saddle : Nat := 106
abbrev m_SaddlerKnows_law : Nat := 107
abbrev m_SaddlerKnows_limit : Nat := 108
abbrev m_SaddlerKnows_log : Nat := 109
abbrev m_SaddlerKnows_count : Nat := 110
abbrev m_SaddlerKnows_weeks : Nat := 111
abbrev m_SaddlerKnows_makes : Nat := 112
abbrev m_SaddlerKnows_stitch : Nat := 113
abbrev m_SaddlerKnows_off : Nat := 114
abbrev m_SaddlerKnows_salve : Nat := 115
abbrev m_SaddlerKnows_give : Nat := 116
abbrev m_SaddlerKnows_status : Nat := 117
abbrev m_SaddlerKnows_undo : Nat := 118
abbrev m_SaddlerKnows_rest : Nat := 119
abbrev m_SaddlerKnows_years : Nat := 120
abbrev m_SaddlerKnows_image : Nat := 121
abbrev m_SaddlerKnows_back : Nat := 122
abbrev m_SaddlerKnows_pinch : Nat := 123
abbrev m_SaddlerKnows_best : Nat := 124
abbrev m_SaddlerKnows_throwing : Nat := 125
abbrev m_SaddlerKnows_bears : Nat := 126
abbrev m_SaddlerKnows_ring : Nat := 127
abbrev m_SaddlerKnows_chain : Nat := 128
abbrev m_SaddlerKnows_seats : Nat := 129
abbrev m_SaddlerKnows_seen : Nat := 130
abbrev m_SaddlerKnows_fits : Nat := 131
abbrev m_SaddlerKnows_ask : Nat := 132
abbrev m_SaddlerKnows_waiting : Nat := 133
abbrev m_SaddlerKnows_rests : Nat := 134
abbrev m_SaddlerKnows_odds : Nat := 135
abbrev m_SaddlerKnows_shares : Nat := 136
abbrev m_SaddlerKnows_most : Nat := 137
abbrev m_SaddlerKnows_refused : Nat := 138
abbrev m_SaddlerKnows_passWeek : Nat := 139
abbrev m_SaddlerKnows_drawAhead : Nat := 140
abbrev m_SaddlerKnows_draw : Nat := 141
abbrev m_SaddlerKnows_loggedWeeks : Nat := 142
abbrev m_SaddlerKnows_hasCounty : Nat := 143
abbrev m_SaddlerKnows_isPerson : Nat := 144
abbrev m_SaddlerKnows_arePair : Nat := 145
abbrev m_SaddlerKnows_isToldSaddle : Nat := 146
abbrev m_SaddlerKnows_isFit : Nat := 147
abbrev m_SaddlerKnows_partsThrown : Nat := 148
abbrev m_SaddlerKnows_foremost : Nat := 149
abbrev m_SaddlerKnows_measure : Nat := 150
abbrev m_SaddlerKnows_tightest : Nat := 151
abbrev m_SaddlerKnows_freePeople : Nat := 152
abbrev m_SaddlerKnows_throwingNext : Nat := 153
abbrev m_SaddlerKnows_peopleInRings : Nat := 154
abbrev m_SaddlerKnows_sidePairs : Nat := 155
abbrev m_SaddlerKnows_at : Nat := 156
abbrev m_SaddlerKnows_put : Nat := 157
abbrev m_SaddlerKnows_copyRow : Nat := 158
abbrev m_SaddlerKnows_hasBit : Nat := 159
abbrev m_R_in : Nat := 160
abbrev m_R_has : Nat := 161
abbrev m_R_new : Nat := 162
abbrev m_R_thrown : Nat := 163
abbrev m_R_byteOf : Nat := 164
abbrev m_R_feed : Nat := 165
abbrev m_R_end : Nat := 166
abbrev m_R_here : Nat := 167
abbrev m_R_look : Nat := 168
abbrev m_R_bad : Nat := 169
abbrev m_R_isDigit : Nat := 170
abbrev m_R_put : Nat := 171
abbrev m_R_letterOf : Nat := 172
abbrev m_R_opens : Nat := 173
abbrev m_R_closes : Nat := 174
abbrev m_R_plainNumber : Nat := 175
abbrev m_R_atom : Nat := 176
abbrev m_R_term : Nat := 177
abbrev m_R_sum : Nat := 178
abbrev m_R_isSign : Nat := 179
abbrev m_R_compare : Nat := 180
abbrev m_R_unit : Nat := 181
abbrev m_R_goOnAnd : Nat := 182
abbrev m_R_goOnOr : Nat := 183
abbrev m_R_condition : Nat := 184
abbrev m_R_clause : Nat := 185
abbrev m_R_open : Nat := 186
abbrev m_R_atEnd : Nat := 187
abbrev m_R_readLaw : Nat := 188
abbrev m_R_bounded : Nat := 189
abbrev m_R_worked : Nat := 190
abbrev m_R_workOut : Nat := 191
abbrev m_R_worthOf : Nat := 192
abbrev m_R_number : Nat := 193
abbrev m_R_itemOf : Nat := 194
abbrev m_R_highest : Nat := 195
abbrev m_R_usual : Nat := 196
abbrev m_R_items : Nat := 197
abbrev m_R_isWhole : Nat := 198
abbrev m_R_readCounty : Nat := 199
abbrev m_R_fault : Nat := 200
abbrev m_R_layTold : Nat := 201
abbrev m_R_takeCounty : Nat := 202
abbrev m_R_text : Nat := 203
abbrev m_R_isPerson : Nat := 204
abbrev m_R_areTwo : Nat := 205
abbrev m_R_ofPerson : Nat := 206
abbrev m_R_of : Nat := 207
abbrev m_R_isThere : Nat := 208
abbrev m_R_isOn : Nat := 209
abbrev m_R_limitOf : Nat := 210
abbrev m_R_pinchBy : Nat := 211
abbrev m_R_pinchOf : Nat := 212
abbrev m_R_loadOf : Nat := 213
abbrev m_R_bornBy : Nat := 214
abbrev m_R_satBy : Nat := 215
abbrev m_R_saddleOnes : Nat := 216
abbrev m_R_allGall : Nat := 217
abbrev m_R_throwAll : Nat := 218
abbrev m_R_heal : Nat := 219
abbrev m_R_live : Nat := 220
abbrev m_R_passWeek : Nat := 221
abbrev m_R_aboveOf : Nat := 222
abbrev m_R_rule : Nat := 223
abbrev m_R_person : Nat := 224
abbrev m_R_saddle : Nat := 225
abbrev m_R_law : Nat := 226
abbrev m_R_keep : Nat := 227
abbrev m_R_isRefused : Nat := 228
abbrev m_R_areWeeks : Nat := 229
abbrev m_R_weeks : Nat := 230
abbrev m_R_freePlace : Nat := 231
abbrev m_R_sitsOn : Nat := 232
abbrev m_R_makeNow : Nat := 233
abbrev m_R_makes : Nat := 234
abbrev m_R_stitch : Nat := 235
abbrev m_R_off : Nat := 236
abbrev m_R_salve : Nat := 237
abbrev m_R_give : Nat := 238
abbrev m_R_rest : Nat := 239
abbrev m_R_draw : Nat := 240
abbrev m_R_drawWeek : Nat := 241
abbrev m_R_years : Nat := 242
abbrev m_R_status : Nat := 243
abbrev m_R_undo : Nat := 244
abbrev m_R_log : Nat := 245
abbrev m_R_limit : Nat := 246
abbrev m_R_pinch : Nat := 247
abbrev m_R_bestFit : Nat := 248
abbrev m_R_best : Nat := 249
abbrev m_R_putAside : Nat := 250
abbrev m_R_takeBack : Nat := 251
abbrev m_R_throwsIn : Nat := 252
abbrev m_R_throwing : Nat := 253
abbrev m_R_fitsOf : Nat := 254
abbrev m_R_tryFits : Nat := 255
abbrev m_R_tryTwo : Nat := 256
abbrev m_R_bears : Nat := 257
abbrev m_R_layAway : Nat := 258
abbrev m_R_ring : Nat := 259
abbrev m_R_chain : Nat := 260
abbrev m_R_trySeats : Nat := 261
abbrev m_R_seats : Nat := 262
abbrev m_R_seen : Nat := 263
abbrev m_R_layGalls : Nat := 264
abbrev m_R_isFit : Nat := 265
abbrev m_R_isTold : Nat := 266
abbrev m_R_fits : Nat := 267
abbrev m_R_ask : Nat := 268
abbrev m_R_waitOf : Nat := 269
abbrev m_R_waiting : Nat := 270
abbrev m_R_isRest : Nat := 271
abbrev m_R_rests : Nat := 272
abbrev m_R_oddsFrom : Nat := 273
abbrev m_R_odds : Nat := 274
abbrev m_R_shares : Nat := 275
abbrev m_R_valueOf : Nat := 276
abbrev m_R_topBy : Nat := 277
abbrev m_R_tightest : Nat := 278
abbrev m_R_freeOnes : Nat := 279
abbrev m_R_throwers : Nat := 280
abbrev m_R_inRings : Nat := 281
abbrev m_R_sides : Nat := 282
abbrev m_R_most : Nat := 283
abbrev m_R_image : Nat := 284
abbrev m_R_back : Nat := 285
abbrev m_R_count : Nat := 286
abbrev m_String_length : Nat := 287
abbrev m_String_indexOf_I : Nat := 288
abbrev m_String_indexOf_II : Nat := 289
abbrev m_String_coder : Nat := 290
abbrev m_String_isLatin1 : Nat := 291
abbrev m_StringLatin1_canEncode : Nat := 292
abbrev m_StringLatin1_indexOf : Nat := 293
abbrev m_StringLatin1_indexOfChar : Nat := 294
abbrev m_Math_floorMod : Nat := 295
abbrev m_Math_abs : Nat := 296
abbrev m_Math_max_II : Nat := 297
abbrev m_Math_max_JJ : Nat := 298
abbrev m_Math_min_II : Nat := 299
abbrev m_Math_min_JJ : Nat := 300
abbrev m_Integer_bitCount : Nat := 301
abbrev m_Law_person : Nat := 302
abbrev m_Law_law : Nat := 303
abbrev m_last : Nat := 303
/-- the cells' slots of the exception that person throws -/
def zk_xw : Nat := 6
/-- CountyReader.<init>(LSaddlerKnows$Tape;)V -/
def zc_1 : zk_C := [
  (0, 1, .aload 0), (1, 4, .invokespecial 0), (4, 5, .aload 0), (5, 8, .new 10), (8, 9, .dup), (9, 12, .invokespecial 1001090), (12, 15, .putfield 2), (15, 16, .aload 0),
  (16, 17, .iconst 3), (17, 19, .newarray .int), (19, 22, .putfield 22), (22, 23, .aload 0), (23, 24, .aload 1), (24, 27, .putfield 12), (27, 28, .return_)]
/-- CountyReader.firstFault()I -/
def zc_2 : zk_C := [
  (0, 1, .aload 0), (1, 4, .getfield 2), (4, 5, .iconst 0), (5, 8, .putfield 10020), (8, 9, .aload 0), (9, 12, .getfield 2), (12, 13, .iconst 0), (13, 16, .putfield 10030),
  (16, 17, .aload 0), (17, 18, .iconst 0), (18, 21, .putfield 33), (21, 22, .aload 0), (22, 23, .iconst 2), (23, 25, .iconst 20), (25, 28, .invokevirtual 3005), (28, 29, .aload 0),
  (29, 32, .getfield 12), (32, 33, .iconst 0), (33, 36, .putfield 9010), (36, 37, .iconst 0), (37, 38, .istore 1), (38, 39, .iload 1), (39, 42, .iconst 240), (42, 45, .if_icmp .gt 119),
  (45, 46, .aload 0), (46, 49, .invokevirtual 11003), (49, 52, .ifCond .ne 60), (52, 53, .aload 0), (53, 56, .getfield 12), (56, 59, .getfield 9010), (59, 60, .ireturn), (60, 61, .aload 0),
  (61, 64, .getfield 12), (64, 67, .invokevirtual 911084), (67, 68, .iconst (-1)), (68, 71, .if_icmp .ne 93), (71, 72, .aload 0), (72, 75, .getfield 2), (75, 78, .invokevirtual 1011093), (78, 81, .ifCond .eq 85),
  (81, 82, .iconst (-1)), (82, 85, .goto 92), (85, 86, .aload 0), (86, 89, .getfield 12), (89, 92, .getfield 9010), (92, 93, .ireturn), (93, 94, .aload 0), (94, 97, .getfield 12),
  (97, 99, .iconst 59), (99, 102, .invokevirtual 912086), (102, 105, .ifCond .ne 113), (105, 106, .aload 0), (106, 109, .getfield 12), (109, 112, .getfield 9010), (112, 113, .ireturn), (113, 116, .iinc 1 1),
  (116, 119, .goto 38), (119, 120, .aload 0), (120, 123, .getfield 12), (123, 126, .getfield 9010), (126, 127, .ireturn)]
/-- CountyReader.readsClause()Z -/
def zc_3 : zk_C := [
  (0, 1, .aload 0), (1, 4, .getfield 12), (4, 7, .invokevirtual 911084), (7, 40, .lookupswitch 110 #[(108, 85), (112, 60), (115, 40)]), (40, 41, .aload 0), (41, 44, .getfield 30), (44, 47, .ifCond .ne 58), (47, 48, .aload 0),
  (48, 51, .invokevirtual 11004), (51, 54, .ifCond .eq 58), (54, 55, .iconst 1), (55, 58, .goto 59), (58, 59, .iconst 0), (59, 60, .ret 1), (60, 61, .aload 0), (61, 64, .getfield 2),
  (64, 67, .getfield 10020), (67, 69, .iconst 6), (69, 72, .if_icmp .ge 83), (72, 73, .aload 0), (73, 76, .invokevirtual 11006), (76, 79, .ifCond .eq 83), (79, 80, .iconst 1), (80, 83, .goto 84),
  (83, 84, .iconst 0), (84, 85, .ret 1), (85, 86, .aload 0), (86, 89, .getfield 2), (89, 92, .getfield 10030), (92, 94, .iconst 8), (94, 97, .if_icmp .ge 108), (97, 98, .aload 0),
  (98, 101, .invokevirtual 11007), (101, 104, .ifCond .eq 108), (104, 105, .iconst 1), (105, 108, .goto 109), (108, 109, .iconst 0), (109, 110, .ret 1), (110, 111, .iconst 0), (111, 112, .ret 1)]
/-- CountyReader.readsRules()Z -/
def zc_4 : zk_C := [
  (0, 1, .aload 0), (1, 2, .iconst 2), (2, 4, .iconst 20), (4, 5, .iconst 0), (5, 8, .invokevirtual 4008), (8, 9, .aload 0), (9, 11, .ldc 4), (11, 14, .getstatic 1),
  (14, 17, .invokevirtual 13009), (17, 20, .ifCond .ne 22), (20, 21, .iconst 0), (21, 22, .ret 1), (22, 23, .aload 0), (23, 24, .aload 0), (24, 27, .getfield 22), (27, 28, .iconst 0),
  (28, 31, .invokestatic 1112156), (31, 32, .aload 0), (32, 35, .getfield 22), (35, 36, .iconst 1), (36, 39, .invokestatic 1112156), (39, 42, .invokevirtual 3005), (42, 43, .aload 0), (43, 44, .iconst 1),
  (44, 47, .putfield 33), (47, 48, .iconst 1), (48, 49, .ret 1)]
/-- CountyReader.keepRules(II)V -/
def zc_5 : zk_C := [
  (0, 1, .aload 0), (1, 4, .getfield 2), (4, 5, .iload 1), (5, 8, .putfield 10000), (8, 9, .aload 0), (9, 12, .getfield 2), (12, 13, .iload 2), (13, 16, .putfield 10010),
  (16, 17, .return_)]
/-- CountyReader.readsPerson()Z -/
def zc_6 : zk_C := [
  (0, 1, .aload 0), (1, 2, .iconst 4), (2, 3, .iconst 4), (3, 4, .iconst 3), (4, 7, .invokevirtual 4008), (7, 8, .aload 0), (8, 10, .ldc 5), (10, 13, .getstatic 2),
  (13, 16, .invokevirtual 13009), (16, 19, .ifCond .ne 21), (19, 20, .iconst 0), (20, 21, .ret 1), (21, 22, .aload 0), (22, 25, .getfield 2), (25, 28, .getfield 10042), (28, 29, .aload 0),
  (29, 32, .getfield 2), (32, 35, .getfield 10020), (35, 36, .aload 0), (36, 39, .getfield 22), (39, 40, .iconst 0), (40, 43, .invokestatic 1112156), (43, 46, .invokestatic 1103157), (46, 47, .aload 0),
  (47, 50, .getfield 2), (50, 53, .getfield 10052), (53, 54, .aload 0), (54, 57, .getfield 2), (57, 60, .getfield 10020), (60, 61, .aload 0), (61, 64, .getfield 22), (64, 65, .iconst 1),
  (65, 68, .invokestatic 1112156), (68, 71, .invokestatic 1103157), (71, 72, .aload 0), (72, 75, .getfield 2), (75, 78, .getfield 10062), (78, 79, .aload 0), (79, 82, .getfield 2), (82, 85, .getfield 10020),
  (85, 86, .aload 0), (86, 89, .getfield 22), (89, 90, .iconst 2), (90, 93, .invokestatic 1112156), (93, 96, .invokestatic 1103157), (96, 97, .aload 0), (97, 100, .getfield 2), (100, 101, .dup),
  (101, 104, .getfield 10020), (104, 105, .iconst 1), (105, 106, .iadd), (106, 109, .putfield 10020), (109, 110, .iconst 1), (110, 111, .ret 1)]
/-- CountyReader.readsSaddle()Z -/
def zc_7 : zk_C := [
  (0, 1, .aload 0), (1, 2, .iconst 0), (2, 3, .iconst 1), (3, 4, .iconst 5), (4, 7, .invokevirtual 4008), (7, 8, .aload 0), (8, 10, .ldc 6), (10, 13, .getstatic 3),
  (13, 16, .invokevirtual 13009), (16, 19, .ifCond .ne 21), (19, 20, .iconst 0), (20, 21, .ret 1), (21, 22, .aload 0), (22, 25, .getfield 2), (25, 28, .getfield 10072), (28, 29, .aload 0),
  (29, 32, .getfield 2), (32, 35, .getfield 10030), (35, 36, .aload 0), (36, 39, .getfield 22), (39, 40, .iconst 0), (40, 43, .invokestatic 1112156), (43, 46, .invokestatic 1103157), (46, 47, .aload 0),
  (47, 50, .getfield 2), (50, 53, .getfield 10082), (53, 54, .aload 0), (54, 57, .getfield 2), (57, 60, .getfield 10030), (60, 61, .aload 0), (61, 64, .getfield 22), (64, 65, .iconst 1),
  (65, 68, .invokestatic 1112156), (68, 71, .invokestatic 1103157), (71, 72, .aload 0), (72, 75, .getfield 2), (75, 78, .getfield 10092), (78, 79, .aload 0), (79, 82, .getfield 2), (82, 85, .getfield 10030),
  (85, 86, .aload 0), (86, 89, .getfield 22), (89, 90, .iconst 2), (90, 93, .invokestatic 1112156), (93, 96, .invokestatic 1103157), (96, 97, .aload 0), (97, 100, .getfield 2), (100, 101, .dup),
  (101, 104, .getfield 10030), (104, 105, .iconst 1), (105, 106, .iadd), (106, 109, .putfield 10030), (109, 110, .iconst 1), (110, 111, .ret 1)]
/-- CountyReader.begin(III)V -/
def zc_8 : zk_C := [
  (0, 1, .aload 0), (1, 4, .getfield 12), (4, 7, .invokevirtual 901085), (7, 8, .aload 0), (8, 11, .getfield 22), (11, 12, .iconst 0), (12, 13, .iload 1), (13, 16, .invokestatic 1103157),
  (16, 17, .aload 0), (17, 20, .getfield 22), (20, 21, .iconst 1), (21, 22, .iload 2), (22, 25, .invokestatic 1103157), (25, 26, .aload 0), (26, 29, .getfield 22), (29, 30, .iconst 2),
  (30, 31, .iload 3), (31, 34, .invokestatic 1103157), (34, 35, .return_)]
/-- CountyReader.readsItems(Ljava/lang/String;[I)Z -/
def zc_9 : zk_C := [
  (0, 1, .iconst 0), (1, 2, .istore 3), (2, 3, .iconst 0), (3, 5, .istore 4), (5, 7, .iload 4), (7, 8, .aload 1), (8, 11, .invokevirtual 1311287), (11, 14, .if_icmp .gt 115),
  (14, 15, .aload 0), (15, 18, .getfield 12), (18, 21, .invokevirtual 911084), (21, 23, .istore 5), (23, 25, .iload 5), (25, 26, .iconst (-1)), (26, 29, .if_icmp .ne 33), (29, 30, .iconst (-1)),
  (30, 33, .goto 40), (33, 34, .aload 1), (34, 36, .iload 5), (36, 37, .i2c), (37, 40, .invokevirtual 1312288), (40, 42, .istore 6), (42, 44, .iload 6), (44, 47, .ifCond .ge 49),
  (47, 48, .iconst 1), (48, 49, .ret 1), (49, 50, .iload 3), (50, 52, .iload 6), (52, 55, .invokestatic 1112159), (55, 58, .ifCond .eq 60), (58, 59, .iconst 0), (59, 60, .ret 1),
  (60, 61, .iload 3), (61, 62, .iconst 1), (62, 64, .iload 6), (64, 65, .ishl), (65, 66, .ior), (66, 67, .istore 3), (67, 68, .aload 0), (68, 71, .getfield 12),
  (71, 74, .invokevirtual 901085), (74, 75, .aload 0), (75, 78, .getfield 12), (78, 79, .iconst 2), (79, 80, .aload 2), (80, 82, .iload 6), (82, 85, .invokestatic 1112156), (85, 88, .invokevirtual 913087),
  (88, 90, .istore 7), (90, 92, .iload 7), (92, 93, .iconst (-1)), (93, 96, .if_icmp .ne 98), (96, 97, .iconst 0), (97, 98, .ret 1), (98, 99, .aload 0), (99, 102, .getfield 22),
  (102, 104, .iload 6), (104, 106, .iload 7), (106, 109, .invokestatic 1103157), (109, 112, .iinc 4 1), (112, 115, .goto 5), (115, 116, .iconst 0), (116, 117, .ret 1)]
/-- Law.<init>([II)V -/
def zc_10 : zk_C := [
  (0, 1, .aload 0), (1, 4, .invokespecial 0), (4, 5, .aload 0), (5, 7, .iconst 64), (7, 9, .newarray .int), (9, 12, .putfield 1012), (12, 13, .aload 0), (13, 14, .iconst 0),
  (14, 15, .iload 2), (15, 16, .aload 1), (16, 17, .arraylength), (17, 20, .invokestatic 1512299), (20, 23, .invokestatic 1512297), (23, 25, .newarray .int), (25, 28, .putfield 1002), (28, 29, .aload 1),
  (29, 30, .aload 0), (30, 33, .getfield 1002), (33, 36, .invokestatic 1102158), (36, 37, .return_)]
/-- Law.worth(IIIIII)I -/
def zc_11 : zk_C := [
  (0, 1, .aload 0), (1, 2, .iconst 0), (2, 5, .putfield 1020), (5, 6, .iconst 0), (6, 8, .istore 7), (8, 9, .iconst 0), (9, 11, .istore 8), (11, 13, .iload 8),
  (13, 14, .aload 0), (14, 17, .getfield 1002), (17, 18, .arraylength), (18, 21, .if_icmp .ge 274), (21, 23, .iload 7), (23, 26, .ifCond .lt 274), (26, 28, .iload 7), (28, 29, .aload 0),
  (29, 32, .getfield 1002), (32, 33, .arraylength), (33, 36, .if_icmp .ge 274), (36, 37, .aload 0), (37, 40, .getfield 1002), (40, 42, .iload 7), (42, 43, .iaload), (43, 45, .istore 9),
  (45, 48, .iinc 7 1), (48, 50, .iload 9), (50, 51, .ineg), (51, 132, .lookupswitch 235 #[(33, 211), (59, 230), (63, 183), (98, 140), (102, 148), (103, 165), (115, 132), (116, 156), (119, 174)]), (132, 133, .aload 0), (133, 134, .iload 1), (134, 137, .invokevirtual 102013), (137, 140, .goto 268),
  (140, 141, .aload 0), (141, 142, .iload 2), (142, 145, .invokevirtual 102013), (145, 148, .goto 268), (148, 149, .aload 0), (149, 150, .iload 3), (150, 153, .invokevirtual 102013), (153, 156, .goto 268),
  (156, 157, .aload 0), (157, 159, .iload 4), (159, 162, .invokevirtual 102013), (162, 165, .goto 268), (165, 166, .aload 0), (166, 168, .iload 5), (168, 171, .invokevirtual 102013), (171, 174, .goto 268),
  (174, 175, .aload 0), (175, 177, .iload 6), (177, 180, .invokevirtual 102013), (180, 183, .goto 268), (183, 184, .aload 0), (184, 187, .invokevirtual 111014), (187, 190, .ifCond .ne 202), (190, 191, .aload 0),
  (191, 194, .getfield 1002), (194, 196, .iload 7), (196, 199, .invokestatic 1112156), (199, 202, .goto 206), (202, 204, .iload 7), (204, 205, .iconst 1), (205, 206, .iadd), (206, 208, .istore 7),
  (208, 211, .goto 268), (211, 212, .aload 0), (212, 213, .aload 0), (213, 216, .invokevirtual 111014), (216, 219, .ifCond .ne 223), (219, 220, .iconst 1), (220, 223, .goto 224), (223, 224, .iconst 0),
  (224, 227, .invokevirtual 102013), (227, 230, .goto 268), (230, 231, .aload 0), (231, 234, .invokevirtual 111014), (234, 235, .ireturn), (235, 237, .iload 9), (237, 240, .ifCond .ge 262), (240, 241, .aload 0),
  (241, 244, .invokevirtual 111014), (244, 246, .istore 10), (246, 248, .iload 9), (248, 249, .ineg), (249, 250, .aload 0), (250, 253, .invokevirtual 111014), (253, 254, .i2l), (254, 256, .iload 10),
  (256, 257, .i2l), (257, 260, .invokestatic 113012), (260, 262, .istore 9), (262, 263, .aload 0), (263, 265, .iload 9), (265, 268, .invokevirtual 102013), (268, 271, .iinc 8 1), (271, 274, .goto 11),
  (274, 275, .iconst 0), (275, 276, .ireturn)]
/-- Law.joined(IJJ)I -/
def zc_12 : zk_C := [
  (0, 1, .iload 0), (1, 116, .lookupswitch 214 #[(38, 206), (39, 214), (40, 214), (41, 214), (42, 132), (43, 116), (44, 214), (45, 124), (46, 214), (47, 140), (48, 214), (49, 214), (50, 214), (51, 214), (52, 214), (53, 214), (54, 214), (55, 214), (56, 214), (57, 214), (58, 214), (59, 214), (60, 174), (61, 158), (62, 190)]), (116, 117, .lload 1), (117, 118, .lload 3), (118, 119, .ladd), (119, 121, .lstore 5), (121, 124, .goto 219), (124, 125, .lload 1),
  (125, 126, .lload 3), (126, 127, .lsub), (127, 129, .lstore 5), (129, 132, .goto 219), (132, 133, .lload 1), (133, 134, .lload 3), (134, 135, .lmul), (135, 137, .lstore 5),
  (137, 140, .goto 219), (140, 141, .lload 3), (141, 142, .sipush 0), (142, 143, .lcmp), (143, 146, .ifCond .ne 150), (146, 147, .sipush 0), (147, 150, .goto 153), (150, 151, .lload 1),
  (151, 152, .lload 3), (152, 153, .ldiv), (153, 155, .lstore 5), (155, 158, .goto 219), (158, 159, .lload 1), (159, 160, .lload 3), (160, 161, .lcmp), (161, 164, .ifCond .ne 168),
  (164, 165, .sipush 1), (165, 168, .goto 169), (168, 169, .sipush 0), (169, 171, .lstore 5), (171, 174, .goto 219), (174, 175, .lload 1), (175, 176, .lload 3), (176, 177, .lcmp),
  (177, 180, .ifCond .ge 184), (180, 181, .sipush 1), (181, 184, .goto 185), (184, 185, .sipush 0), (185, 187, .lstore 5), (187, 190, .goto 219), (190, 191, .lload 1), (191, 192, .lload 3),
  (192, 193, .lcmp), (193, 196, .ifCond .le 200), (196, 197, .sipush 1), (197, 200, .goto 201), (200, 201, .sipush 0), (201, 203, .lstore 5), (203, 206, .goto 219), (206, 207, .lload 1),
  (207, 208, .lload 3), (208, 209, .land), (209, 211, .lstore 5), (211, 214, .goto 219), (214, 215, .lload 1), (215, 216, .lload 3), (216, 217, .lor), (217, 219, .lstore 5),
  (219, 222, .sipush (-1000000)), (222, 225, .sipush 1000000), (225, 227, .lload 5), (227, 230, .invokestatic 1522300), (230, 233, .invokestatic 1522298), (233, 234, .l2i), (234, 235, .ireturn)]
/-- Law.push(I)V -/
def zc_13 : zk_C := [
  (0, 1, .aload 0), (1, 4, .getfield 1020), (4, 7, .ifCond .lt 39), (7, 8, .aload 0), (8, 11, .getfield 1020), (11, 12, .aload 0), (12, 15, .getfield 1012), (15, 16, .arraylength),
  (16, 19, .if_icmp .ge 39), (19, 20, .aload 0), (20, 23, .getfield 1012), (23, 24, .aload 0), (24, 27, .getfield 1020), (27, 28, .iload 1), (28, 29, .iastore), (29, 30, .aload 0),
  (30, 31, .dup), (31, 34, .getfield 1020), (34, 35, .iconst 1), (35, 36, .iadd), (36, 39, .putfield 1020), (39, 40, .return_)]
/-- Law.pop()I -/
def zc_14 : zk_C := [
  (0, 1, .aload 0), (1, 4, .getfield 1020), (4, 7, .ifCond .le 19), (7, 8, .aload 0), (8, 11, .getfield 1020), (11, 12, .aload 0), (12, 15, .getfield 1012), (15, 16, .arraylength),
  (16, 19, .if_icmp .le 21), (19, 20, .iconst 0), (20, 21, .ireturn), (21, 22, .aload 0), (22, 23, .dup), (23, 26, .getfield 1020), (26, 27, .iconst 1), (27, 28, .isub),
  (28, 31, .putfield 1020), (31, 32, .aload 0), (32, 35, .getfield 1012), (35, 36, .aload 0), (36, 39, .getfield 1020), (39, 40, .iaload), (40, 41, .ireturn)]
/-- LawReader.<init>(LSaddlerKnows$Tape;)V -/
def zc_15 : zk_C := [
  (0, 1, .aload 0), (1, 4, .invokespecial 0), (4, 5, .aload 0), (5, 8, .iconst 240), (8, 10, .newarray .int), (10, 13, .putfield 2002), (13, 14, .aload 0), (14, 15, .aload 1),
  (15, 18, .putfield 2022), (18, 19, .return_)]
/-- LawReader.firstFault()I -/
def zc_16 : zk_C := [
  (0, 1, .aload 0), (1, 2, .iconst 0), (2, 5, .putfield 2010), (5, 6, .aload 0), (6, 9, .getfield 2022), (9, 10, .iconst 0), (10, 13, .putfield 9010), (13, 14, .iconst 0),
  (14, 15, .istore 1), (15, 16, .iload 1), (16, 19, .iconst 240), (19, 22, .if_icmp .gt 76), (22, 23, .aload 0), (23, 26, .invokevirtual 211017), (26, 29, .ifCond .ne 37), (29, 30, .aload 0),
  (30, 33, .getfield 2022), (33, 36, .getfield 9010), (36, 37, .ireturn), (37, 38, .aload 0), (38, 41, .getfield 2022), (41, 44, .invokevirtual 911084), (44, 45, .iconst (-1)), (45, 48, .if_icmp .ne 50),
  (48, 49, .iconst (-1)), (49, 50, .ireturn), (50, 51, .aload 0), (51, 54, .getfield 2022), (54, 56, .iconst 59), (56, 59, .invokevirtual 912086), (59, 62, .ifCond .ne 70), (62, 63, .aload 0),
  (63, 66, .getfield 2022), (66, 69, .getfield 9010), (69, 70, .ireturn), (70, 73, .iinc 1 1), (73, 76, .goto 15), (76, 77, .aload 0), (77, 80, .getfield 2022), (80, 83, .getfield 9010),
  (83, 84, .ireturn)]
/-- LawReader.readsClause()Z -/
def zc_17 : zk_C := [
  (0, 1, .aload 0), (1, 4, .getfield 2022), (4, 6, .iconst 121), (6, 9, .invokevirtual 912086), (9, 12, .ifCond .eq 24), (12, 13, .aload 0), (13, 16, .getfield 2022), (16, 18, .iconst 58),
  (18, 21, .invokevirtual 912086), (21, 24, .ifCond .ne 26), (24, 25, .iconst 0), (25, 26, .ret 1), (26, 27, .aload 0), (27, 30, .getfield 2022), (30, 33, .invokevirtual 911084), (33, 34, .istore 1),
  (34, 35, .iload 1), (35, 37, .iconst 33), (37, 40, .if_icmp .eq 46), (40, 41, .iload 1), (41, 43, .iconst 40), (43, 46, .if_icmp .ne 68), (46, 47, .aload 0), (47, 48, .iconst 0),
  (48, 49, .iconst 0), (49, 52, .invokevirtual 213019), (52, 55, .ifCond .eq 66), (55, 56, .aload 0), (56, 59, .invokevirtual 211018), (59, 62, .ifCond .eq 66), (62, 63, .iconst 1), (63, 66, .goto 67),
  (66, 67, .iconst 0), (67, 68, .ret 1), (68, 69, .aload 0), (69, 70, .iconst 0), (70, 73, .invokevirtual 212023), (73, 76, .ifCond .ne 78), (76, 77, .iconst 0), (77, 78, .ret 1),
  (78, 79, .aload 0), (79, 82, .getfield 2022), (82, 85, .invokevirtual 911084), (85, 88, .invokestatic 211027), (88, 91, .ifCond .eq 113), (91, 92, .aload 0), (92, 93, .iconst 0), (93, 94, .iconst 1),
  (94, 97, .invokevirtual 213019), (97, 100, .ifCond .eq 111), (100, 101, .aload 0), (101, 104, .invokevirtual 211018), (104, 107, .ifCond .eq 111), (107, 108, .iconst 1), (108, 111, .goto 112), (111, 112, .iconst 0),
  (112, 113, .ret 1), (113, 114, .aload 0), (114, 116, .iconst (-59)), (116, 119, .invokevirtual 202026), (119, 120, .iconst 1), (120, 121, .ret 1)]
/-- LawReader.readsGuarded()Z -/
def zc_18 : zk_C := [
  (0, 1, .aload 0), (1, 4, .getfield 2022), (4, 6, .iconst 63), (6, 9, .invokevirtual 912086), (9, 12, .ifCond .ne 14), (12, 13, .iconst 0), (13, 14, .ret 1), (14, 15, .aload 0),
  (15, 17, .iconst (-63)), (17, 20, .invokevirtual 202026), (20, 21, .aload 0), (21, 24, .getfield 2010), (24, 25, .istore 1), (25, 26, .aload 0), (26, 27, .iconst 0), (27, 30, .invokevirtual 202026),
  (30, 31, .aload 0), (31, 32, .iconst 0), (32, 35, .invokevirtual 212023), (35, 38, .ifCond .ne 40), (38, 39, .iconst 0), (39, 40, .ret 1), (40, 41, .aload 0), (41, 43, .iconst (-59)),
  (43, 46, .invokevirtual 202026), (46, 47, .aload 0), (47, 50, .getfield 2002), (50, 51, .iload 1), (51, 52, .aload 0), (52, 55, .getfield 2010), (55, 58, .invokestatic 1103157), (58, 59, .iconst 1),
  (59, 60, .ret 1)]
/-- LawReader.readsCondition(IZ)Z -/
def zc_19 : zk_C := [
  (0, 1, .aload 0), (1, 2, .iload 1), (2, 3, .iload 2), (3, 6, .invokevirtual 213020), (6, 9, .ifCond .ne 11), (9, 10, .iconst 0), (10, 11, .ret 1), (11, 12, .iconst 0),
  (12, 13, .istore 3), (13, 14, .iload 3), (14, 17, .iconst 240), (17, 20, .if_icmp .gt 62), (20, 21, .aload 0), (21, 24, .getfield 2022), (24, 27, .invokevirtual 911084), (27, 29, .iconst 124),
  (29, 32, .if_icmp .ne 62), (32, 33, .aload 0), (33, 36, .getfield 2022), (36, 39, .invokevirtual 901085), (39, 40, .aload 0), (40, 41, .iload 1), (41, 42, .iconst 0), (42, 45, .invokevirtual 213020),
  (45, 48, .ifCond .ne 50), (48, 49, .iconst 0), (49, 50, .ret 1), (50, 51, .aload 0), (51, 53, .iconst (-124)), (53, 56, .invokevirtual 202026), (56, 59, .iinc 3 1), (59, 62, .goto 13),
  (62, 63, .iconst 1), (63, 64, .ret 1)]
/-- LawReader.readsTruth(IZ)Z -/
def zc_20 : zk_C := [
  (0, 1, .aload 0), (1, 2, .iload 1), (2, 3, .iload 2), (3, 6, .invokevirtual 213021), (6, 9, .ifCond .ne 11), (9, 10, .iconst 0), (10, 11, .ret 1), (11, 12, .iconst 0),
  (12, 13, .istore 3), (13, 14, .iload 3), (14, 17, .iconst 240), (17, 20, .if_icmp .gt 62), (20, 21, .aload 0), (21, 24, .getfield 2022), (24, 27, .invokevirtual 911084), (27, 29, .iconst 38),
  (29, 32, .if_icmp .ne 62), (32, 33, .aload 0), (33, 36, .getfield 2022), (36, 39, .invokevirtual 901085), (39, 40, .aload 0), (40, 41, .iload 1), (41, 42, .iconst 0), (42, 45, .invokevirtual 213021),
  (45, 48, .ifCond .ne 50), (48, 49, .iconst 0), (49, 50, .ret 1), (50, 51, .aload 0), (51, 53, .iconst (-38)), (53, 56, .invokevirtual 202026), (56, 59, .iinc 3 1), (59, 62, .goto 13),
  (62, 63, .iconst 1), (63, 64, .ret 1)]
/-- LawReader.readsUnit(IZ)Z -/
def zc_21 : zk_C := [
  (0, 1, .aload 0), (1, 4, .getfield 2022), (4, 7, .invokevirtual 911084), (7, 8, .istore 3), (8, 9, .iload 2), (9, 12, .ifCond .ne 47), (12, 13, .iload 3), (13, 15, .iconst 33),
  (15, 18, .if_icmp .eq 24), (18, 19, .iload 3), (19, 21, .iconst 40), (21, 24, .if_icmp .ne 47), (24, 25, .iload 1), (25, 27, .iconst 6), (27, 30, .if_icmp .ge 45), (30, 31, .aload 0),
  (31, 32, .iload 3), (32, 33, .iload 1), (33, 34, .iconst 1), (34, 35, .iadd), (35, 38, .invokevirtual 213022), (38, 41, .ifCond .eq 45), (41, 42, .iconst 1), (42, 45, .goto 46),
  (45, 46, .iconst 0), (46, 47, .ret 1), (47, 48, .iload 2), (48, 51, .ifCond .ne 61), (51, 52, .aload 0), (52, 53, .iload 1), (53, 56, .invokevirtual 212023), (56, 59, .ifCond .ne 61),
  (59, 60, .iconst 0), (60, 61, .ret 1), (61, 62, .aload 0), (62, 65, .getfield 2022), (65, 68, .invokevirtual 911084), (68, 70, .istore 4), (70, 72, .iload 4), (72, 75, .invokestatic 211027),
  (75, 78, .ifCond .ne 80), (78, 79, .iconst 0), (79, 80, .ret 1), (80, 81, .aload 0), (81, 84, .getfield 2022), (84, 87, .invokevirtual 901085), (87, 88, .aload 0), (88, 89, .iload 1),
  (89, 92, .invokevirtual 212023), (92, 95, .ifCond .ne 97), (95, 96, .iconst 0), (96, 97, .ret 1), (97, 98, .aload 0), (98, 100, .iload 4), (100, 101, .ineg), (101, 104, .invokevirtual 202026),
  (104, 105, .iconst 1), (105, 106, .ret 1)]
/-- LawReader.readsNested(II)Z -/
def zc_22 : zk_C := [
  (0, 1, .aload 0), (1, 4, .getfield 2022), (4, 7, .invokevirtual 901085), (7, 8, .iload 1), (8, 10, .iconst 40), (10, 13, .if_icmp .ne 40), (13, 14, .aload 0), (14, 15, .iload 2),
  (15, 16, .iconst 0), (16, 19, .invokevirtual 213019), (19, 22, .ifCond .eq 38), (22, 23, .aload 0), (23, 26, .getfield 2022), (26, 28, .iconst 41), (28, 31, .invokevirtual 912086), (31, 34, .ifCond .eq 38),
  (34, 35, .iconst 1), (35, 38, .goto 39), (38, 39, .iconst 0), (39, 40, .ret 1), (40, 41, .aload 0), (41, 42, .iload 2), (42, 43, .iconst 0), (43, 46, .invokevirtual 213021),
  (46, 49, .ifCond .ne 51), (49, 50, .iconst 0), (50, 51, .ret 1), (51, 52, .aload 0), (52, 54, .iconst (-33)), (54, 57, .invokevirtual 202026), (57, 58, .iconst 1), (58, 59, .ret 1)]
/-- LawReader.readsSum(I)Z -/
def zc_23 : zk_C := [
  (0, 1, .aload 0), (1, 2, .iload 1), (2, 5, .invokevirtual 212024), (5, 8, .ifCond .ne 10), (8, 9, .iconst 0), (9, 10, .ret 1), (10, 11, .aload 0), (11, 14, .getfield 2022),
  (14, 17, .invokevirtual 911084), (17, 18, .istore 2), (18, 19, .iconst 0), (19, 20, .istore 3), (20, 21, .iload 3), (21, 24, .iconst 240), (24, 27, .if_icmp .gt 76), (27, 28, .iload 2),
  (28, 30, .iconst 43), (30, 33, .if_icmp .eq 39), (33, 34, .iload 2), (34, 36, .iconst 45), (36, 39, .if_icmp .ne 76), (39, 40, .aload 0), (40, 43, .getfield 2022), (43, 46, .invokevirtual 901085),
  (46, 47, .aload 0), (47, 48, .iload 1), (48, 51, .invokevirtual 212024), (51, 54, .ifCond .ne 56), (54, 55, .iconst 0), (55, 56, .ret 1), (56, 57, .aload 0), (57, 58, .iload 2),
  (58, 59, .ineg), (59, 62, .invokevirtual 202026), (62, 63, .aload 0), (63, 66, .getfield 2022), (66, 69, .invokevirtual 911084), (69, 70, .istore 2), (70, 73, .iinc 3 1), (73, 76, .goto 20),
  (76, 77, .iconst 1), (77, 78, .ret 1)]
/-- LawReader.readsTerm(I)Z -/
def zc_24 : zk_C := [
  (0, 1, .aload 0), (1, 2, .iload 1), (2, 5, .invokevirtual 212025), (5, 8, .ifCond .ne 10), (8, 9, .iconst 0), (9, 10, .ret 1), (10, 11, .aload 0), (11, 14, .getfield 2022),
  (14, 17, .invokevirtual 911084), (17, 18, .istore 2), (18, 19, .iconst 0), (19, 20, .istore 3), (20, 21, .iload 3), (21, 24, .iconst 240), (24, 27, .if_icmp .gt 76), (27, 28, .iload 2),
  (28, 30, .iconst 42), (30, 33, .if_icmp .eq 39), (33, 34, .iload 2), (34, 36, .iconst 47), (36, 39, .if_icmp .ne 76), (39, 40, .aload 0), (40, 43, .getfield 2022), (43, 46, .invokevirtual 901085),
  (46, 47, .aload 0), (47, 48, .iload 1), (48, 51, .invokevirtual 212025), (51, 54, .ifCond .ne 56), (54, 55, .iconst 0), (55, 56, .ret 1), (56, 57, .aload 0), (57, 58, .iload 2),
  (58, 59, .ineg), (59, 62, .invokevirtual 202026), (62, 63, .aload 0), (63, 66, .getfield 2022), (66, 69, .invokevirtual 911084), (69, 70, .istore 2), (70, 73, .iinc 3 1), (73, 76, .goto 20),
  (76, 77, .iconst 1), (77, 78, .ret 1)]
/-- LawReader.readsAtom(I)Z -/
def zc_25 : zk_C := [
  (0, 1, .aload 0), (1, 4, .getfield 2022), (4, 7, .invokevirtual 911084), (7, 8, .istore 2), (8, 9, .iload 2), (9, 11, .iconst 91), (11, 14, .if_icmp .ne 57), (14, 15, .iload 1),
  (15, 17, .iconst 6), (17, 20, .if_icmp .lt 22), (20, 21, .iconst 0), (21, 22, .ret 1), (22, 23, .aload 0), (23, 26, .getfield 2022), (26, 29, .invokevirtual 901085), (29, 30, .aload 0),
  (30, 31, .iload 1), (31, 32, .iconst 1), (32, 33, .iadd), (33, 36, .invokevirtual 212023), (36, 39, .ifCond .eq 55), (39, 40, .aload 0), (40, 43, .getfield 2022), (43, 45, .iconst 93),
  (45, 48, .invokevirtual 912086), (48, 51, .ifCond .eq 55), (51, 52, .iconst 1), (52, 55, .goto 56), (55, 56, .iconst 0), (56, 57, .ret 1), (57, 58, .iload 2), (58, 59, .iconst (-1)),
  (59, 62, .if_icmp .eq 87), (62, 64, .ldc 7), (64, 65, .iload 2), (65, 66, .i2c), (66, 69, .invokevirtual 1312288), (69, 72, .ifCond .lt 87), (72, 73, .aload 0), (73, 76, .getfield 2022),
  (76, 79, .invokevirtual 901085), (79, 80, .aload 0), (80, 81, .iload 2), (81, 82, .ineg), (82, 85, .invokevirtual 202026), (85, 86, .iconst 1), (86, 87, .ret 1), (87, 88, .aload 0),
  (88, 91, .getfield 2022), (91, 92, .iconst 4), (92, 95, .iconst 9999), (95, 98, .invokevirtual 913087), (98, 99, .istore 3), (99, 100, .iload 3), (100, 101, .iconst (-1)), (101, 104, .if_icmp .ne 106),
  (104, 105, .iconst 0), (105, 106, .ret 1), (106, 107, .aload 0), (107, 108, .iload 3), (108, 111, .invokevirtual 202026), (111, 112, .iconst 1), (112, 113, .ret 1)]
/-- LawReader.emit(I)V -/
def zc_26 : zk_C := [
  (0, 1, .aload 0), (1, 4, .getfield 2010), (4, 5, .aload 0), (5, 8, .getfield 2002), (8, 9, .arraylength), (9, 12, .if_icmp .ge 34), (12, 13, .aload 0), (13, 16, .getfield 2002),
  (16, 17, .aload 0), (17, 20, .getfield 2010), (20, 21, .iload 1), (21, 24, .invokestatic 1103157), (24, 25, .aload 0), (25, 26, .dup), (26, 29, .getfield 2010), (29, 30, .iconst 1),
  (30, 31, .iadd), (31, 34, .putfield 2010), (34, 35, .return_)]
/-- LawReader.isComparison(I)Z -/
def zc_27 : zk_C := [
  (0, 1, .iload 0), (1, 3, .iconst 61), (3, 6, .if_icmp .eq 18), (6, 7, .iload 0), (7, 9, .iconst 60), (9, 12, .if_icmp .eq 18), (12, 13, .iload 0), (13, 15, .iconst 62),
  (15, 18, .if_icmp .ne 22), (18, 19, .iconst 1), (19, 22, .goto 23), (22, 23, .iconst 0), (23, 24, .ret 1)]
/-- Past.<init>()V -/
def zc_28 : zk_C := [
  (0, 1, .aload 0), (1, 4, .invokespecial 0), (4, 5, .aload 0), (5, 8, .iconst 300), (8, 10, .newarray .int), (10, 13, .putfield 3002), (13, 14, .aload 0), (14, 17, .iconst 300),
  (17, 19, .newarray .int), (19, 22, .putfield 3012), (22, 23, .aload 0), (23, 26, .new 7), (26, 27, .dup), (27, 30, .invokespecial 701058), (30, 33, .putfield 3022), (33, 34, .aload 0),
  (34, 36, .iconst 40), (36, 39, .anewarray 7), (39, 42, .putfield 3032), (42, 43, .iconst 0), (43, 44, .istore 1), (44, 45, .iload 1), (45, 46, .aload 0), (46, 49, .getfield 3032),
  (49, 50, .arraylength), (50, 53, .if_icmp .ge 72), (53, 54, .aload 0), (54, 57, .getfield 3032), (57, 58, .iload 1), (58, 61, .new 7), (61, 62, .dup), (62, 65, .invokespecial 701058),
  (65, 66, .aastore), (66, 69, .iinc 1 1), (69, 72, .goto 44), (72, 73, .return_)]
/-- Past.forget()V -/
def zc_29 : zk_C := [
  (0, 1, .aload 0), (1, 2, .iconst 0), (2, 5, .putfield 3060), (5, 6, .aload 0), (6, 7, .iconst 0), (7, 10, .putfield 3043), (10, 11, .return_)]
/-- Past.keep(LSaddlerKnows$Stand;)V -/
def zc_30 : zk_C := [
  (0, 1, .aload 0), (1, 2, .aload 0), (2, 5, .getfield 3050), (5, 8, .invokevirtual 332032), (8, 9, .astore 2), (9, 10, .aload 2), (10, 13, .ifnonnull 14), (13, 14, .return_),
  (14, 15, .aload 2), (15, 16, .aload 1), (16, 19, .invokevirtual 702060), (19, 20, .aload 0), (20, 21, .aload 0), (21, 24, .getfield 3050), (24, 25, .iconst 1), (25, 26, .iadd),
  (26, 28, .iconst 40), (28, 29, .irem), (29, 32, .putfield 3050), (32, 33, .aload 0), (33, 35, .iconst 40), (35, 36, .aload 0), (36, 39, .getfield 3060), (39, 40, .iconst 1),
  (40, 41, .iadd), (41, 44, .invokestatic 1512299), (44, 47, .putfield 3060), (47, 48, .return_)]
/-- Past.takeBack(LSaddlerKnows$Stand;)Z -/
def zc_31 : zk_C := [
  (0, 1, .aload 0), (1, 4, .getfield 3050), (4, 6, .iconst 40), (6, 7, .iadd), (7, 8, .iconst 1), (8, 9, .isub), (9, 11, .iconst 40), (11, 12, .irem),
  (12, 13, .istore 2), (13, 14, .aload 0), (14, 15, .iload 2), (15, 18, .invokevirtual 332032), (18, 19, .astore 3), (19, 20, .aload 0), (20, 23, .getfield 3060), (23, 26, .ifCond .le 30),
  (26, 27, .aload 3), (27, 30, .ifnonnull 32), (30, 31, .iconst 0), (31, 32, .ret 1), (32, 33, .aload 1), (33, 34, .aload 3), (34, 37, .invokevirtual 702060), (37, 38, .aload 0),
  (38, 39, .iload 2), (39, 42, .putfield 3050), (42, 43, .aload 0), (43, 44, .dup), (44, 47, .getfield 3060), (47, 48, .iconst 1), (48, 49, .isub), (49, 52, .putfield 3060),
  (52, 53, .iconst 1), (53, 54, .ret 1)]
/-- Past.standAt(I)LSaddlerKnows$Stand; -/
def zc_32 : zk_C := [
  (0, 1, .iload 1), (1, 4, .ifCond .lt 22), (4, 5, .iload 1), (5, 6, .aload 0), (6, 9, .getfield 3032), (9, 10, .arraylength), (10, 13, .if_icmp .ge 22), (13, 14, .aload 0),
  (14, 17, .getfield 3032), (17, 18, .iload 1), (18, 19, .aaload), (19, 22, .goto 23), (22, 23, .aconst_null), (23, 24, .areturn)]
/-- Past.takeImage(LSaddlerKnows$Stand;)V -/
def zc_33 : zk_C := [
  (0, 1, .aload 0), (1, 4, .getfield 3022), (4, 5, .aload 1), (5, 8, .invokevirtual 702060), (8, 9, .aload 0), (9, 12, .getfield 3002), (12, 13, .aload 0), (13, 16, .getfield 3012),
  (16, 19, .invokestatic 1102158), (19, 20, .aload 0), (20, 21, .iconst 1), (21, 24, .putfield 3043), (24, 25, .return_)]
/-- Past.goBack(LSaddlerKnows$Stand;)Z -/
def zc_34 : zk_C := [
  (0, 1, .aload 0), (1, 4, .getfield 3040), (4, 7, .ifCond .ne 9), (7, 8, .iconst 0), (8, 9, .ret 1), (9, 10, .aload 1), (10, 11, .aload 0), (11, 14, .getfield 3022),
  (14, 17, .invokevirtual 702060), (17, 18, .aload 0), (18, 21, .getfield 3012), (21, 22, .aload 0), (22, 25, .getfield 3002), (25, 28, .invokestatic 1102158), (28, 29, .aload 0), (29, 30, .iconst 0),
  (30, 33, .putfield 3060), (33, 34, .iconst 1), (34, 35, .ret 1)]
/-- Past.write(ILSaddlerKnows$Stand;)V -/
def zc_35 : zk_C := [
  (0, 1, .aload 2), (1, 4, .getfield 7050), (4, 5, .iconst 1), (5, 6, .isub), (6, 8, .iconst 100), (8, 11, .invokestatic 1512295), (11, 12, .iconst 3), (12, 13, .imul),
  (13, 14, .istore 3), (14, 15, .aload 0), (15, 18, .getfield 3002), (18, 19, .iload 3), (19, 20, .iload 1), (20, 23, .invokestatic 1103157), (23, 24, .aload 0), (24, 27, .getfield 3002),
  (27, 28, .iload 3), (28, 29, .iconst 1), (29, 30, .iadd), (30, 31, .aload 2), (31, 34, .invokevirtual 711073), (34, 37, .invokestatic 1103157), (37, 38, .aload 0), (38, 41, .getfield 3002),
  (41, 42, .iload 3), (42, 43, .iconst 2), (43, 44, .iadd), (44, 45, .aload 2), (45, 48, .invokevirtual 711069), (48, 51, .invokestatic 1103157), (51, 52, .return_)]
/-- Past.entry(II)I -/
def zc_36 : zk_C := [
  (0, 1, .iload 2), (1, 4, .ifCond .lt 9), (4, 5, .iload 2), (5, 6, .iconst 3), (6, 9, .if_icmp .lt 11), (9, 10, .iconst (-1)), (10, 11, .ireturn), (11, 12, .aload 0),
  (12, 15, .getfield 3002), (15, 16, .iload 1), (16, 18, .iconst 100), (18, 21, .invokestatic 1512295), (21, 22, .iconst 3), (22, 23, .imul), (23, 24, .iload 2), (24, 25, .iadd),
  (25, 28, .invokestatic 1112156), (28, 29, .ireturn)]
/-- Pinches.<init>(LSaddlerKnows$Told;)V -/
def zc_37 : zk_C := [
  (0, 1, .aload 0), (1, 4, .invokespecial 0), (4, 5, .aload 0), (5, 6, .iconst 4), (6, 9, .anewarray 1), (9, 12, .putfield 4012), (12, 13, .aload 0), (13, 14, .iconst (-1)),
  (14, 17, .putfield 4030), (17, 18, .aload 0), (18, 19, .aload 1), (19, 22, .putfield 4002), (22, 23, .return_)]
/-- Pinches.addLaw(LSaddlerKnows$Law;)V -/
def zc_38 : zk_C := [
  (0, 1, .aload 0), (1, 4, .getfield 4020), (4, 7, .ifCond .lt 39), (7, 8, .aload 0), (8, 11, .getfield 4020), (11, 12, .aload 0), (12, 15, .getfield 4012), (15, 16, .arraylength),
  (16, 19, .if_icmp .ge 39), (19, 20, .aload 0), (20, 23, .getfield 4012), (23, 24, .aload 0), (24, 27, .getfield 4020), (27, 28, .aload 1), (28, 29, .aastore), (29, 30, .aload 0),
  (30, 31, .dup), (31, 34, .getfield 4020), (34, 35, .iconst 1), (35, 36, .iadd), (36, 39, .putfield 4020), (39, 40, .return_)]
/-- Pinches.pinchAt(IIIII)I -/
def zc_39 : zk_C := [
  (0, 1, .aload 0), (1, 4, .getfield 4030), (4, 7, .ifCond .lt 31), (7, 8, .aload 0), (8, 11, .getfield 4030), (11, 12, .aload 0), (12, 15, .getfield 4012), (15, 16, .arraylength),
  (16, 19, .if_icmp .ge 31), (19, 20, .aload 0), (20, 23, .getfield 4012), (23, 24, .aload 0), (24, 27, .getfield 4030), (27, 28, .aaload), (28, 31, .goto 32), (31, 32, .aconst_null),
  (32, 34, .astore 6), (34, 35, .aload 0), (35, 38, .getfield 4002), (38, 41, .getfield 10052), (41, 42, .iload 2), (42, 45, .invokestatic 1112156), (45, 47, .istore 7), (47, 48, .aload 0),
  (48, 51, .getfield 4002), (51, 54, .getfield 10042), (54, 55, .iload 1), (55, 58, .invokestatic 1112156), (58, 60, .istore 8), (60, 62, .aload 6), (62, 65, .ifnonnull 80), (65, 66, .iload 3),
  (66, 68, .iload 7), (68, 69, .isub), (69, 72, .invokestatic 1511296), (72, 74, .iload 8), (74, 75, .iconst 3), (75, 76, .idiv), (76, 77, .iadd), (77, 80, .goto 108),
  (80, 82, .aload 6), (82, 84, .iload 8), (84, 86, .iload 7), (86, 87, .iload 3), (87, 88, .aload 0), (88, 91, .getfield 4002), (91, 94, .getfield 10062), (94, 95, .iload 2),
  (95, 98, .invokestatic 1112156), (98, 100, .iload 4), (100, 102, .iload 5), (102, 104, .iconst 100), (104, 105, .irem), (105, 108, .invokevirtual 117011), (108, 110, .istore 9), (110, 111, .iconst 0),
  (111, 113, .iconst 30), (113, 115, .iload 9), (115, 118, .invokestatic 1512299), (118, 121, .invokestatic 1512297), (121, 122, .ireturn)]
/-- Pinches.wereIt(LSaddlerKnows$Stand;III)I -/
def zc_40 : zk_C := [
  (0, 1, .aload 0), (1, 2, .iload 2), (2, 3, .iload 3), (3, 5, .iload 4), (5, 6, .aload 1), (6, 9, .getfield 7032), (9, 10, .iload 3), (10, 13, .invokestatic 1112156),
  (13, 14, .aload 1), (14, 17, .getfield 7050), (17, 20, .invokevirtual 416039), (20, 21, .ireturn)]
/-- Pinches.inPlace(LSaddlerKnows$Stand;I)I -/
def zc_41 : zk_C := [
  (0, 1, .aload 0), (1, 2, .aload 1), (2, 3, .aload 1), (3, 6, .getfield 7002), (6, 7, .iload 2), (7, 10, .invokestatic 1112156), (10, 11, .aload 1), (11, 14, .getfield 7012),
  (14, 15, .iload 2), (15, 18, .invokestatic 1112156), (18, 19, .aload 1), (19, 22, .getfield 7022), (22, 23, .iload 2), (23, 26, .invokestatic 1112156), (26, 29, .invokevirtual 415040), (29, 30, .ireturn)]
/-- Pinches.loadAt(LSaddlerKnows$Stand;III)I -/
def zc_42 : zk_C := [
  (0, 1, .iconst 0), (1, 3, .istore 5), (3, 4, .iconst 0), (4, 6, .istore 6), (6, 8, .iload 6), (8, 10, .iconst 8), (10, 13, .if_icmp .ge 60), (13, 14, .aload 1),
  (14, 16, .iload 6), (16, 17, .iload 2), (17, 20, .invokevirtual 713062), (20, 23, .ifCond .eq 54), (23, 25, .iload 5), (25, 26, .aload 0), (26, 27, .aload 1), (27, 30, .getfield 7002),
  (30, 32, .iload 6), (32, 35, .invokestatic 1112156), (35, 36, .iload 2), (36, 37, .aload 1), (37, 40, .getfield 7022), (40, 42, .iload 6), (42, 45, .invokestatic 1112156), (45, 46, .iload 3),
  (46, 48, .iload 4), (48, 51, .invokevirtual 416039), (51, 52, .iadd), (52, 54, .istore 5), (54, 57, .iinc 6 1), (57, 60, .goto 6), (60, 62, .iload 5), (62, 63, .ireturn)]
/-- Pinches.loadNow(LSaddlerKnows$Stand;I)I -/
def zc_43 : zk_C := [
  (0, 1, .aload 0), (1, 2, .aload 1), (2, 3, .iload 2), (3, 4, .aload 1), (4, 7, .getfield 7032), (7, 8, .iload 2), (8, 11, .invokestatic 1112156), (11, 12, .aload 1),
  (12, 15, .getfield 7050), (15, 18, .invokevirtual 415042), (18, 19, .ireturn)]
/-- Pinches.galledBy(LSaddlerKnows$Stand;III)I -/
def zc_44 : zk_C := [
  (0, 2, .iconst 99), (2, 3, .iload 3), (3, 4, .aload 0), (4, 5, .aload 1), (5, 6, .iload 2), (6, 7, .iload 3), (7, 9, .iload 4), (9, 12, .invokevirtual 415042),
  (12, 13, .iadd), (13, 16, .invokestatic 1512299), (16, 17, .ireturn)]
/-- Pinches.bestFit(LSaddlerKnows$Stand;II)I -/
def zc_45 : zk_C := [
  (0, 1, .iconst 0), (1, 3, .istore 4), (3, 4, .iconst 1), (4, 6, .istore 5), (6, 8, .iload 5), (8, 10, .iconst 10), (10, 13, .if_icmp .ge 44), (13, 14, .aload 0),
  (14, 15, .aload 1), (15, 16, .iload 2), (16, 17, .iload 3), (17, 19, .iload 5), (19, 22, .invokevirtual 415040), (22, 23, .aload 0), (23, 24, .aload 1), (24, 25, .iload 2),
  (25, 26, .iload 3), (26, 28, .iload 4), (28, 31, .invokevirtual 415040), (31, 34, .if_icmp .ge 38), (34, 36, .iload 5), (36, 38, .istore 4), (38, 41, .iinc 5 1), (41, 44, .goto 6),
  (44, 46, .iload 4), (46, 47, .ireturn)]
/-- Pinches.firstThrow(LSaddlerKnows$Stand;II)I -/
def zc_46 : zk_C := [
  (0, 1, .aload 1), (1, 2, .iload 2), (2, 5, .invokevirtual 712070), (5, 8, .ifCond .ne 10), (8, 9, .iconst (-1)), (9, 10, .ireturn), (10, 11, .aload 1), (11, 14, .getfield 7032),
  (14, 15, .iload 2), (15, 18, .invokestatic 1112156), (18, 20, .istore 4), (20, 21, .iconst 0), (21, 23, .istore 5), (23, 25, .iload 5), (25, 26, .iload 3), (26, 29, .if_icmp .ge 78),
  (29, 31, .iconst 99), (31, 33, .iload 4), (33, 34, .aload 0), (34, 35, .aload 1), (35, 36, .iload 2), (36, 38, .iload 4), (38, 39, .aload 1), (39, 42, .getfield 7050),
  (42, 44, .iload 5), (44, 45, .iadd), (45, 48, .invokevirtual 415042), (48, 49, .iadd), (49, 52, .invokestatic 1512299), (52, 54, .istore 4), (54, 56, .iload 4), (56, 57, .aload 0),
  (57, 60, .getfield 4002), (60, 61, .iload 2), (61, 64, .invokevirtual 1012092), (64, 67, .if_icmp .lt 72), (67, 69, .iload 5), (69, 70, .iconst 1), (70, 71, .iadd), (71, 72, .ireturn),
  (72, 75, .iinc 5 1), (75, 78, .goto 23), (78, 79, .iconst (-1)), (79, 80, .ireturn)]
/-- Pinches.pass(LSaddlerKnows$Stand;)I -/
def zc_47 : zk_C := [
  (0, 1, .iconst 0), (1, 2, .istore 2), (2, 3, .iconst 0), (3, 4, .istore 3), (4, 5, .iload 3), (5, 6, .aload 0), (6, 9, .getfield 4002), (9, 12, .getfield 10020),
  (12, 15, .if_icmp .ge 118), (15, 16, .aload 1), (16, 19, .getfield 7032), (19, 20, .iload 3), (20, 23, .invokestatic 1112156), (23, 25, .istore 4), (25, 26, .aload 1), (26, 27, .iload 3),
  (27, 30, .invokevirtual 712070), (30, 33, .ifCond .ne 58), (33, 34, .aload 1), (34, 37, .getfield 7032), (37, 38, .iload 3), (38, 39, .iconst 0), (39, 41, .iload 4), (41, 42, .aload 0),
  (42, 45, .getfield 4002), (45, 48, .getfield 10000), (48, 49, .isub), (49, 52, .invokestatic 1512297), (52, 55, .invokestatic 1103157), (55, 58, .goto 112), (58, 59, .aload 0), (59, 60, .aload 1),
  (60, 61, .iload 3), (61, 63, .iload 4), (63, 64, .aload 1), (64, 67, .getfield 7050), (67, 70, .invokevirtual 415044), (70, 72, .istore 4), (72, 74, .iload 4), (74, 75, .aload 0),
  (75, 78, .getfield 4002), (78, 79, .iload 3), (79, 82, .invokevirtual 1012092), (82, 85, .if_icmp .lt 102), (85, 86, .iload 2), (86, 87, .iconst 1), (87, 88, .iload 3), (88, 89, .ishl),
  (89, 90, .ior), (90, 91, .istore 2), (91, 92, .aload 1), (92, 93, .iload 3), (93, 96, .invokevirtual 702065), (96, 98, .iload 4), (98, 99, .iconst 2), (99, 100, .idiv),
  (100, 102, .istore 4), (102, 103, .aload 1), (103, 106, .getfield 7032), (106, 107, .iload 3), (107, 109, .iload 4), (109, 112, .invokestatic 1103157), (112, 115, .iinc 3 1), (115, 118, .goto 4),
  (118, 119, .aload 1), (119, 120, .dup), (120, 123, .getfield 7050), (123, 124, .iconst 1), (124, 125, .iadd), (125, 128, .putfield 7050), (128, 129, .iload 2), (129, 130, .ireturn)]
/-- Seating.<init>(LSaddlerKnows$Told;LSaddlerKnows$Pinches;)V -/
def zc_48 : zk_C := [
  (0, 1, .aload 0), (1, 4, .invokespecial 0), (4, 5, .aload 0), (5, 7, .iconst 36), (7, 9, .newarray .int), (9, 12, .putfield 5022), (12, 13, .aload 0), (13, 14, .aload 1),
  (14, 17, .putfield 5002), (17, 18, .aload 0), (18, 19, .aload 2), (19, 22, .putfield 5012), (22, 23, .return_)]
/-- Seating.search(LSaddlerKnows$Stand;)V -/
def zc_49 : zk_C := [
  (0, 1, .aload 0), (1, 2, .iconst (-1)), (2, 5, .putfield 5030), (5, 6, .aload 0), (6, 7, .iconst (-1)), (7, 10, .putfield 5040), (10, 11, .iconst 0), (11, 12, .istore 2),
  (12, 13, .iload 2), (13, 14, .aload 0), (14, 17, .getfield 5002), (17, 20, .getfield 10020), (20, 23, .if_icmp .ge 94), (23, 24, .iconst 0), (24, 25, .istore 3), (25, 26, .iload 3),
  (26, 27, .aload 0), (27, 30, .getfield 5002), (30, 33, .getfield 10020), (33, 36, .if_icmp .ge 88), (36, 37, .iload 2), (37, 38, .iload 3), (38, 41, .if_icmp .ne 45), (41, 42, .iconst 0),
  (42, 45, .goto 55), (45, 46, .aload 0), (46, 49, .getfield 5012), (49, 50, .aload 1), (50, 51, .iload 2), (51, 52, .iload 3), (52, 55, .invokevirtual 414045), (55, 57, .istore 4),
  (57, 58, .aload 0), (58, 61, .getfield 5022), (61, 62, .iload 2), (62, 64, .iconst 6), (64, 65, .imul), (65, 66, .iload 3), (66, 67, .iadd), (67, 68, .aload 0),
  (68, 71, .getfield 5012), (71, 72, .aload 1), (72, 73, .iload 2), (73, 74, .iload 3), (74, 76, .iload 4), (76, 79, .invokevirtual 415040), (79, 82, .invokestatic 1103157), (82, 85, .iinc 3 1),
  (85, 88, .goto 25), (88, 91, .iinc 2 1), (91, 94, .goto 12), (94, 95, .aload 0), (95, 96, .iconst 0), (96, 97, .iconst 0), (97, 98, .iconst 0), (98, 99, .iconst 0),
  (99, 102, .invokevirtual 505050), (102, 103, .return_)]
/-- Seating.seatFrom(IIII)V -/
def zc_50 : zk_C := [
  (0, 1, .aload 0), (1, 4, .getfield 5040), (4, 5, .iconst (-1)), (5, 8, .if_icmp .eq 18), (8, 10, .iload 4), (10, 11, .aload 0), (11, 14, .getfield 5040), (14, 17, .if_icmp .lt 18),
  (17, 18, .return_), (18, 19, .iload 1), (19, 20, .aload 0), (20, 23, .getfield 5002), (23, 26, .getfield 10020), (26, 29, .if_icmp .lt 41), (29, 30, .aload 0), (30, 31, .iload 3),
  (31, 34, .putfield 5030), (34, 35, .aload 0), (35, 37, .iload 4), (37, 40, .putfield 5040), (40, 41, .return_), (41, 42, .iconst 0), (42, 44, .istore 5), (44, 46, .iload 5),
  (46, 47, .aload 0), (47, 50, .getfield 5002), (50, 53, .getfield 10020), (53, 56, .if_icmp .ge 118), (56, 58, .iload 5), (58, 59, .iload 1), (59, 62, .if_icmp .eq 112), (62, 63, .iload 2),
  (63, 65, .iload 5), (65, 68, .invokestatic 1112159), (68, 71, .ifCond .ne 112), (71, 72, .aload 0), (72, 75, .getfield 5022), (75, 76, .iload 1), (76, 78, .iconst 6), (78, 79, .imul),
  (79, 81, .iload 5), (81, 82, .iadd), (82, 85, .invokestatic 1112156), (85, 87, .istore 6), (87, 88, .aload 0), (88, 89, .iload 1), (89, 90, .iconst 1), (90, 91, .iadd),
  (91, 92, .iload 2), (92, 93, .iconst 1), (93, 95, .iload 5), (95, 96, .ishl), (96, 97, .ior), (97, 98, .iload 3), (98, 100, .iconst 10), (100, 101, .imul),
  (101, 103, .iload 5), (103, 104, .iadd), (104, 106, .iload 4), (106, 108, .iload 6), (108, 109, .iadd), (109, 112, .invokevirtual 505050), (112, 115, .iinc 5 1), (115, 118, .goto 44),
  (118, 119, .return_)]
/-- Seeing.<init>(LSaddlerKnows$Told;LSaddlerKnows$Pinches;)V -/
def zc_51 : zk_C := [
  (0, 1, .aload 0), (1, 4, .invokespecial 0), (4, 5, .aload 0), (5, 8, .new 7), (8, 9, .dup), (9, 12, .invokespecial 701058), (12, 15, .putfield 6022), (15, 16, .aload 0),
  (16, 18, .iconst 10), (18, 20, .newarray .int), (20, 23, .putfield 6032), (23, 24, .aload 0), (24, 26, .iconst 10), (26, 28, .newarray .int), (28, 31, .putfield 6042), (31, 32, .aload 0),
  (32, 34, .iconst 10), (34, 36, .newarray .int), (36, 39, .putfield 6052), (39, 40, .aload 0), (40, 42, .iconst 10), (42, 44, .newarray .boolean), (44, 47, .putfield 6062), (47, 48, .aload 0),
  (48, 50, .iconst 10), (50, 52, .newarray .int), (52, 55, .putfield 6072), (55, 56, .aload 0), (56, 57, .aload 1), (57, 60, .putfield 6002), (60, 61, .aload 0), (61, 62, .aload 2),
  (62, 65, .putfield 6012), (65, 66, .return_)]
/-- Seeing.add(IIIZ)Z -/
def zc_52 : zk_C := [
  (0, 1, .aload 0), (1, 4, .getfield 6090), (4, 7, .ifCond .lt 19), (7, 8, .aload 0), (8, 11, .getfield 6090), (11, 12, .aload 0), (12, 15, .getfield 6062), (15, 16, .arraylength),
  (16, 19, .if_icmp .lt 21), (19, 20, .iconst 0), (20, 21, .ret 1), (21, 22, .aload 0), (22, 25, .getfield 6032), (25, 26, .aload 0), (26, 29, .getfield 6090), (29, 30, .iload 1),
  (30, 33, .invokestatic 1103157), (33, 34, .aload 0), (34, 37, .getfield 6042), (37, 38, .aload 0), (38, 41, .getfield 6090), (41, 42, .iload 2), (42, 45, .invokestatic 1103157), (45, 46, .aload 0),
  (46, 49, .getfield 6052), (49, 50, .aload 0), (50, 53, .getfield 6090), (53, 54, .iload 3), (54, 57, .invokestatic 1103157), (57, 58, .aload 0), (58, 61, .getfield 6062), (61, 62, .aload 0),
  (62, 65, .getfield 6090), (65, 67, .iload 4), (67, 68, .bastore), (68, 69, .aload 0), (69, 70, .dup), (70, 73, .getfield 6090), (73, 74, .iconst 1), (74, 75, .iadd),
  (75, 78, .putfield 6090), (78, 79, .iconst 1), (79, 80, .ret 1)]
/-- Seeing.tryFits(II)V -/
def zc_53 : zk_C := [
  (0, 1, .aload 0), (1, 2, .iconst 0), (2, 5, .putfield 6080), (5, 6, .iconst 0), (6, 7, .istore 3), (7, 8, .iload 3), (8, 10, .iconst 10), (10, 13, .if_icmp .ge 138),
  (13, 14, .aload 0), (14, 17, .getfield 6022), (17, 18, .aload 0), (18, 21, .getfield 6002), (21, 24, .invokevirtual 702059), (24, 25, .aload 0), (25, 28, .getfield 6022), (28, 31, .getfield 7022),
  (31, 32, .iload 1), (32, 33, .iload 3), (33, 36, .invokestatic 1103157), (36, 37, .iconst 1), (37, 39, .istore 4), (39, 40, .iconst 1), (40, 42, .istore 5), (42, 44, .iload 5),
  (44, 46, .iconst 9), (46, 49, .if_icmp .gt 115), (49, 51, .iload 4), (51, 54, .ifCond .eq 115), (54, 55, .aload 0), (55, 58, .getfield 6012), (58, 59, .aload 0), (59, 62, .getfield 6022),
  (62, 65, .invokevirtual 412047), (65, 66, .pop), (66, 67, .aload 0), (67, 69, .iload 5), (69, 72, .invokevirtual 612054), (72, 74, .istore 4), (74, 76, .iload 5), (76, 77, .iload 2),
  (77, 80, .if_icmp .ne 109), (80, 81, .aload 0), (81, 84, .getfield 6072), (84, 85, .iload 3), (85, 86, .aload 0), (86, 89, .getfield 6022), (89, 92, .getfield 7032), (92, 93, .aload 0),
  (93, 96, .getfield 6002), (96, 99, .getfield 10082), (99, 100, .iload 1), (100, 103, .invokestatic 1112156), (103, 106, .invokestatic 1112156), (106, 109, .invokestatic 1103157), (109, 112, .iinc 5 1), (112, 115, .goto 42),
  (115, 117, .iload 4), (117, 120, .ifCond .eq 132), (120, 121, .aload 0), (121, 122, .dup), (122, 125, .getfield 6080), (125, 126, .iconst 1), (126, 127, .iload 3), (127, 128, .ishl),
  (128, 129, .ior), (129, 132, .putfield 6080), (132, 135, .iinc 3 1), (135, 138, .goto 7), (138, 139, .return_)]
/-- Seeing.agreesBehind(I)Z -/
def zc_54 : zk_C := [
  (0, 1, .iconst 0), (1, 2, .istore 2), (2, 3, .iload 2), (3, 4, .aload 0), (4, 7, .getfield 6090), (7, 10, .if_icmp .ge 84), (10, 11, .iload 2), (11, 12, .aload 0),
  (12, 15, .getfield 6062), (15, 16, .arraylength), (16, 19, .if_icmp .ge 84), (19, 20, .aload 0), (20, 23, .getfield 6042), (23, 24, .iload 2), (24, 27, .invokestatic 1112156), (27, 28, .iload 1),
  (28, 31, .if_icmp .ne 78), (31, 32, .aload 0), (32, 35, .getfield 6022), (35, 38, .getfield 7032), (38, 39, .aload 0), (39, 42, .getfield 6032), (42, 43, .iload 2), (43, 46, .invokestatic 1112156),
  (46, 49, .invokestatic 1112156), (49, 50, .aload 0), (50, 53, .getfield 6052), (53, 54, .iload 2), (54, 57, .invokestatic 1112156), (57, 60, .if_icmp .lt 64), (60, 61, .iconst 1), (61, 64, .goto 65),
  (64, 65, .iconst 0), (65, 66, .istore 3), (66, 67, .iload 3), (67, 68, .aload 0), (68, 71, .getfield 6062), (71, 72, .iload 2), (72, 73, .baload), (73, 76, .if_icmp .eq 78),
  (76, 77, .iconst 0), (77, 78, .ret 1), (78, 81, .iinc 2 1), (81, 84, .goto 2), (84, 85, .iconst 1), (85, 86, .ret 1)]
/-- Seeing.fitting(I)I -/
def zc_55 : zk_C := [
  (0, 1, .iload 1), (1, 2, .iconst (-1)), (2, 5, .if_icmp .ne 13), (5, 6, .aload 0), (6, 9, .getfield 6080), (9, 12, .invokestatic 1611301), (12, 13, .ireturn), (13, 14, .iconst 0),
  (14, 15, .istore 2), (15, 16, .iconst 0), (16, 17, .istore 3), (17, 18, .iload 3), (18, 20, .iconst 10), (20, 23, .if_icmp .ge 50), (23, 24, .aload 0), (24, 27, .getfield 6080),
  (27, 28, .iload 3), (28, 31, .invokestatic 1112159), (31, 34, .ifCond .eq 44), (34, 35, .iload 2), (35, 36, .iload 1), (36, 39, .if_icmp .ne 41), (39, 40, .iload 3), (40, 41, .ireturn),
  (41, 44, .iinc 2 1), (44, 47, .iinc 3 1), (47, 50, .goto 17), (50, 51, .iconst (-1)), (51, 52, .ireturn)]
/-- Seeing.fairestMark()I -/
def zc_56 : zk_C := [
  (0, 1, .iconst (-1)), (1, 2, .istore 1), (2, 3, .iconst 0), (3, 4, .istore 2), (4, 5, .iconst 0), (5, 6, .istore 3), (6, 7, .iload 3), (7, 9, .iconst 99),
  (9, 12, .if_icmp .gt 48), (12, 13, .aload 0), (13, 16, .getfield 6080), (16, 19, .ifCond .eq 48), (19, 20, .aload 0), (20, 21, .iload 3), (21, 24, .invokevirtual 612057), (24, 26, .istore 4),
  (26, 27, .iload 1), (27, 28, .iconst (-1)), (28, 31, .if_icmp .eq 37), (31, 33, .iload 4), (33, 34, .iload 2), (34, 37, .if_icmp .ge 42), (37, 38, .iload 3), (38, 39, .istore 1),
  (39, 41, .iload 4), (41, 42, .istore 2), (42, 45, .iinc 3 1), (45, 48, .goto 6), (48, 49, .iload 1), (49, 50, .ireturn)]
/-- Seeing.apartAt(I)I -/
def zc_57 : zk_C := [
  (0, 1, .iconst 0), (1, 2, .istore 2), (2, 3, .iconst 0), (3, 4, .istore 3), (4, 5, .iload 3), (5, 7, .iconst 10), (7, 10, .if_icmp .ge 47), (10, 11, .aload 0),
  (11, 14, .getfield 6080), (14, 15, .iload 3), (15, 18, .invokestatic 1112159), (18, 21, .ifCond .eq 41), (21, 22, .iload 2), (22, 23, .aload 0), (23, 26, .getfield 6072), (26, 27, .iload 3),
  (27, 30, .invokestatic 1112156), (30, 31, .iload 1), (31, 34, .if_icmp .lt 38), (34, 35, .iconst 1), (35, 38, .goto 39), (38, 39, .iconst (-1)), (39, 40, .iadd), (40, 41, .istore 2),
  (41, 44, .iinc 3 1), (44, 47, .goto 4), (47, 48, .iload 2), (48, 51, .invokestatic 1511296), (51, 52, .ireturn)]
/-- Stand.<init>()V -/
def zc_58 : zk_C := [
  (0, 1, .aload 0), (1, 4, .invokespecial 0), (4, 5, .aload 0), (5, 7, .iconst 8), (7, 9, .newarray .int), (9, 12, .putfield 7002), (12, 13, .aload 0), (13, 15, .iconst 8),
  (15, 17, .newarray .int), (17, 20, .putfield 7012), (20, 21, .aload 0), (21, 23, .iconst 8), (23, 25, .newarray .int), (25, 28, .putfield 7022), (28, 29, .aload 0), (29, 31, .iconst 6),
  (31, 33, .newarray .int), (33, 36, .putfield 7032), (36, 37, .iconst 0), (37, 38, .istore 1), (38, 39, .iload 1), (39, 40, .aload 0), (40, 43, .getfield 7002), (43, 44, .arraylength),
  (44, 47, .if_icmp .ge 60), (47, 48, .aload 0), (48, 51, .getfield 7002), (51, 52, .iload 1), (52, 53, .iconst (-1)), (53, 54, .iastore), (54, 57, .iinc 1 1), (57, 60, .goto 38),
  (60, 61, .return_)]
/-- Stand.begin(LSaddlerKnows$Told;)V -/
def zc_59 : zk_C := [
  (0, 1, .iconst 0), (1, 2, .istore 2), (2, 3, .iload 2), (3, 5, .iconst 8), (5, 8, .if_icmp .ge 59), (8, 9, .iload 2), (9, 10, .aload 1), (10, 13, .getfield 10030),
  (13, 16, .if_icmp .ge 48), (16, 17, .aload 0), (17, 18, .iload 2), (18, 19, .aload 1), (19, 22, .getfield 10072), (22, 23, .iload 2), (23, 26, .invokestatic 1112156), (26, 27, .aload 1),
  (27, 30, .getfield 10082), (30, 31, .iload 2), (31, 34, .invokestatic 1112156), (34, 35, .aload 1), (35, 38, .getfield 10092), (38, 39, .iload 2), (39, 42, .invokestatic 1112156), (42, 45, .invokevirtual 705063),
  (45, 48, .goto 53), (48, 49, .aload 0), (49, 50, .iload 2), (50, 53, .invokevirtual 702064), (53, 56, .iinc 2 1), (56, 59, .goto 2), (59, 60, .iconst 0), (60, 61, .istore 2),
  (61, 62, .iload 2), (62, 64, .iconst 6), (64, 67, .if_icmp .ge 82), (67, 68, .aload 0), (68, 71, .getfield 7032), (71, 72, .iload 2), (72, 73, .iconst 0), (73, 76, .invokestatic 1103157),
  (76, 79, .iinc 2 1), (79, 82, .goto 61), (82, 83, .aload 0), (83, 84, .aload 1), (84, 87, .getfield 10010), (87, 90, .putfield 7040), (90, 91, .aload 0), (91, 92, .iconst 0),
  (92, 95, .putfield 7050), (95, 96, .return_)]
/-- Stand.copy(LSaddlerKnows$Stand;)V -/
def zc_60 : zk_C := [
  (0, 1, .aload 1), (1, 4, .getfield 7002), (4, 5, .aload 0), (5, 8, .getfield 7002), (8, 11, .invokestatic 1102158), (11, 12, .aload 1), (12, 15, .getfield 7012), (15, 16, .aload 0),
  (16, 19, .getfield 7012), (19, 22, .invokestatic 1102158), (22, 23, .aload 1), (23, 26, .getfield 7022), (26, 27, .aload 0), (27, 30, .getfield 7022), (30, 33, .invokestatic 1102158), (33, 34, .aload 1),
  (34, 37, .getfield 7032), (37, 38, .aload 0), (38, 41, .getfield 7032), (41, 44, .invokestatic 1102158), (44, 45, .aload 0), (45, 46, .aload 1), (46, 49, .getfield 7040), (49, 52, .putfield 7040),
  (52, 53, .aload 0), (53, 54, .aload 1), (54, 57, .getfield 7050), (57, 60, .putfield 7050), (60, 61, .return_)]
/-- Stand.isSaddle(I)Z -/
def zc_61 : zk_C := [
  (0, 1, .iload 1), (1, 4, .ifCond .lt 26), (4, 5, .iload 1), (5, 7, .iconst 8), (7, 10, .if_icmp .ge 26), (10, 11, .aload 0), (11, 14, .getfield 7002), (14, 15, .iload 1),
  (15, 18, .invokestatic 1112156), (18, 19, .iconst (-1)), (19, 22, .if_icmp .eq 26), (22, 23, .iconst 1), (23, 26, .goto 27), (26, 27, .iconst 0), (27, 28, .ret 1)]
/-- Stand.isOn(II)Z -/
def zc_62 : zk_C := [
  (0, 1, .aload 0), (1, 2, .iload 1), (2, 5, .invokevirtual 712061), (5, 8, .ifCond .eq 24), (8, 9, .aload 0), (9, 12, .getfield 7012), (12, 13, .iload 1), (13, 16, .invokestatic 1112156),
  (16, 17, .iload 2), (17, 20, .if_icmp .ne 24), (20, 21, .iconst 1), (21, 24, .goto 25), (24, 25, .iconst 0), (25, 26, .ret 1)]
/-- Stand.girth(IIII)V -/
def zc_63 : zk_C := [
  (0, 1, .aload 0), (1, 4, .getfield 7002), (4, 5, .iload 1), (5, 6, .iload 2), (6, 9, .invokestatic 1103157), (9, 10, .aload 0), (10, 13, .getfield 7012), (13, 14, .iload 1),
  (14, 15, .iload 3), (15, 18, .invokestatic 1103157), (18, 19, .aload 0), (19, 22, .getfield 7022), (22, 23, .iload 1), (23, 25, .iload 4), (25, 28, .invokestatic 1103157), (28, 29, .return_)]
/-- Stand.ungirth(I)V -/
def zc_64 : zk_C := [
  (0, 1, .aload 0), (1, 2, .iload 1), (2, 3, .iconst (-1)), (3, 4, .iconst (-1)), (4, 5, .iconst 0), (5, 8, .invokevirtual 705063), (8, 9, .return_)]
/-- Stand.ungirthAll(I)V -/
def zc_65 : zk_C := [
  (0, 1, .iconst 0), (1, 2, .istore 2), (2, 3, .iload 2), (3, 5, .iconst 8), (5, 8, .if_icmp .ge 28), (8, 9, .aload 0), (9, 10, .iload 2), (10, 11, .iload 1),
  (11, 14, .invokevirtual 713062), (14, 17, .ifCond .eq 22), (17, 18, .aload 0), (18, 19, .iload 2), (19, 22, .invokevirtual 702064), (22, 25, .iinc 2 1), (25, 28, .goto 2), (28, 29, .return_)]
/-- Stand.placeOf(II)I -/
def zc_66 : zk_C := [
  (0, 1, .iconst 0), (1, 2, .istore 3), (2, 3, .iload 3), (3, 5, .iconst 8), (5, 8, .if_icmp .ge 37), (8, 9, .aload 0), (9, 10, .iload 3), (10, 11, .iload 2),
  (11, 14, .invokevirtual 713062), (14, 17, .ifCond .eq 31), (17, 18, .aload 0), (18, 21, .getfield 7002), (21, 22, .iload 3), (22, 25, .invokestatic 1112156), (25, 26, .iload 1), (26, 29, .if_icmp .ne 31),
  (29, 30, .iload 3), (30, 31, .ireturn), (31, 34, .iinc 3 1), (34, 37, .goto 2), (37, 38, .iconst (-1)), (38, 39, .ireturn)]
/-- Stand.freePlace()I -/
def zc_67 : zk_C := [
  (0, 1, .iconst 0), (1, 2, .istore 1), (2, 3, .iload 1), (3, 5, .iconst 8), (5, 8, .if_icmp .ge 24), (8, 9, .aload 0), (9, 10, .iload 1), (10, 13, .invokevirtual 712061),
  (13, 16, .ifCond .ne 18), (16, 17, .iload 1), (17, 18, .ireturn), (18, 21, .iinc 1 1), (21, 24, .goto 2), (24, 25, .iconst (-1)), (25, 26, .ireturn)]
/-- Stand.saddlePlaces()I -/
def zc_68 : zk_C := [
  (0, 1, .iconst 0), (1, 2, .istore 1), (2, 3, .iconst 0), (3, 4, .istore 2), (4, 5, .iload 2), (5, 7, .iconst 8), (7, 10, .if_icmp .ge 30), (10, 11, .aload 0),
  (11, 12, .iload 2), (12, 15, .invokevirtual 712061), (15, 18, .ifCond .eq 24), (18, 19, .iload 1), (19, 20, .iconst 1), (20, 21, .iload 2), (21, 22, .ishl), (22, 23, .ior),
  (23, 24, .istore 1), (24, 27, .iinc 2 1), (27, 30, .goto 4), (30, 31, .iload 1), (31, 32, .ireturn)]
/-- Stand.saddleCount()I -/
def zc_69 : zk_C := [
  (0, 1, .aload 0), (1, 4, .invokevirtual 711068), (4, 7, .invokestatic 1611301), (7, 8, .ireturn)]
/-- Stand.bearsAny(I)Z -/
def zc_70 : zk_C := [
  (0, 1, .iconst 0), (1, 2, .istore 2), (2, 3, .iload 2), (3, 5, .iconst 8), (5, 8, .if_icmp .ge 25), (8, 9, .aload 0), (9, 10, .iload 2), (10, 11, .iload 1),
  (11, 14, .invokevirtual 713062), (14, 17, .ifCond .eq 19), (17, 18, .iconst 1), (18, 19, .ret 1), (19, 22, .iinc 2 1), (22, 25, .goto 2), (25, 26, .iconst 0), (26, 27, .ret 1)]
/-- Stand.satBy(I)I -/
def zc_71 : zk_C := [
  (0, 1, .iconst 0), (1, 2, .istore 2), (2, 3, .iconst 0), (3, 4, .istore 3), (4, 5, .iload 3), (5, 7, .iconst 8), (7, 10, .if_icmp .ge 39), (10, 11, .aload 0),
  (11, 12, .iload 3), (12, 15, .invokevirtual 712061), (15, 18, .ifCond .eq 33), (18, 19, .aload 0), (19, 22, .getfield 7002), (22, 23, .iload 3), (23, 26, .invokestatic 1112156), (26, 27, .iload 1),
  (27, 30, .if_icmp .ne 33), (30, 33, .iinc 2 1), (33, 36, .iinc 3 1), (36, 39, .goto 4), (39, 40, .iload 2), (40, 41, .ireturn)]
/-- Stand.sittingPeople()I -/
def zc_72 : zk_C := [
  (0, 1, .iconst 0), (1, 2, .istore 1), (2, 3, .iconst 0), (3, 4, .istore 2), (4, 5, .iload 2), (5, 7, .iconst 8), (7, 10, .if_icmp .ge 37), (10, 11, .aload 0),
  (11, 12, .iload 2), (12, 15, .invokevirtual 712061), (15, 18, .ifCond .eq 31), (18, 19, .iload 1), (19, 20, .iconst 1), (20, 21, .aload 0), (21, 24, .getfield 7002), (24, 25, .iload 2),
  (25, 28, .invokestatic 1112156), (28, 29, .ishl), (29, 30, .ior), (30, 31, .istore 1), (31, 34, .iinc 2 1), (34, 37, .goto 4), (37, 38, .iload 1), (38, 39, .ireturn)]
/-- Stand.allGall()I -/
def zc_73 : zk_C := [
  (0, 1, .iconst 0), (1, 2, .istore 1), (2, 3, .iconst 0), (3, 4, .istore 2), (4, 5, .iload 2), (5, 7, .iconst 6), (7, 10, .if_icmp .ge 27), (10, 11, .iload 1),
  (11, 12, .aload 0), (12, 15, .getfield 7032), (15, 16, .iload 2), (16, 19, .invokestatic 1112156), (19, 20, .iadd), (20, 21, .istore 1), (21, 24, .iinc 2 1), (24, 27, .goto 4),
  (27, 28, .iload 1), (28, 29, .ireturn)]
/-- Stand.riddenBy(I)I -/
def zc_74 : zk_C := [
  (0, 1, .iconst 0), (1, 2, .istore 2), (2, 3, .iconst 0), (3, 4, .istore 3), (4, 5, .iload 3), (5, 7, .iconst 8), (7, 10, .if_icmp .ge 52), (10, 11, .aload 0),
  (11, 12, .iload 3), (12, 15, .invokevirtual 712061), (15, 18, .ifCond .eq 46), (18, 19, .iload 1), (19, 20, .aload 0), (20, 23, .getfield 7002), (23, 24, .iload 3), (24, 27, .invokestatic 1112156),
  (27, 30, .invokestatic 1112159), (30, 33, .ifCond .eq 46), (33, 34, .iload 2), (34, 35, .iconst 1), (35, 36, .aload 0), (36, 39, .getfield 7012), (39, 40, .iload 3), (40, 43, .invokestatic 1112156),
  (43, 44, .ishl), (44, 45, .ior), (45, 46, .istore 2), (46, 49, .iinc 3 1), (49, 52, .goto 4), (52, 53, .iload 2), (53, 54, .ireturn)]
/-- Stand.above(I)I -/
def zc_75 : zk_C := [
  (0, 1, .iconst 1), (1, 2, .iload 1), (2, 3, .ishl), (3, 4, .istore 2), (4, 5, .iconst 0), (5, 6, .istore 3), (6, 7, .iconst 0), (7, 9, .istore 4),
  (9, 11, .iload 4), (11, 13, .iconst 6), (13, 16, .if_icmp .ge 32), (16, 17, .aload 0), (17, 18, .iload 2), (18, 21, .invokevirtual 712074), (21, 22, .istore 2), (22, 23, .iload 3),
  (23, 24, .iload 2), (24, 25, .ior), (25, 26, .istore 3), (26, 29, .iinc 4 1), (29, 32, .goto 9), (32, 33, .iload 3), (33, 34, .ireturn)]
/-- Stand.ridesBetween(II)I -/
def zc_76 : zk_C := [
  (0, 1, .iconst 1), (1, 2, .iload 1), (2, 3, .ishl), (3, 4, .istore 3), (4, 5, .iconst 1), (5, 7, .istore 4), (7, 9, .iload 4), (9, 11, .iconst 6),
  (11, 14, .if_icmp .gt 37), (14, 15, .aload 0), (15, 16, .iload 3), (16, 19, .invokevirtual 712074), (19, 20, .istore 3), (20, 21, .iload 3), (21, 22, .iload 2), (22, 25, .invokestatic 1112159),
  (25, 28, .ifCond .eq 31), (28, 30, .iload 4), (30, 31, .ireturn), (31, 34, .iinc 4 1), (34, 37, .goto 7), (37, 38, .iconst (-1)), (38, 39, .ireturn)]
/-- Stitching.<init>(LSaddlerKnows$Pinches;)V -/
def zc_77 : zk_C := [
  (0, 1, .aload 0), (1, 4, .invokespecial 0), (4, 5, .aload 0), (5, 8, .new 7), (8, 9, .dup), (9, 12, .invokespecial 701058), (12, 15, .putfield 8012), (15, 16, .aload 0),
  (16, 17, .aload 1), (17, 20, .putfield 8002), (20, 21, .return_)]
/-- Stitching.search(LSaddlerKnows$Stand;II)V -/
def zc_78 : zk_C := [
  (0, 1, .aload 0), (1, 4, .getfield 8012), (4, 5, .aload 1), (5, 8, .invokevirtual 702060), (8, 9, .aload 0), (9, 10, .iload 2), (10, 13, .putfield 8020), (13, 14, .aload 0),
  (14, 15, .iload 3), (15, 18, .putfield 8030), (18, 19, .aload 0), (19, 20, .aload 0), (20, 23, .getfield 8012), (23, 24, .iload 2), (24, 27, .invokevirtual 712070), (27, 30, .ifCond .eq 34),
  (30, 31, .iconst (-1)), (31, 34, .goto 35), (34, 35, .iconst 0), (35, 38, .putfield 8040), (38, 39, .aload 0), (39, 40, .iconst (-1)), (40, 43, .putfield 8050), (43, 44, .iconst 0),
  (44, 46, .istore 4), (46, 48, .iload 4), (48, 50, .iconst 18), (50, 53, .if_icmp .gt 89), (53, 54, .aload 0), (54, 57, .getfield 8040), (57, 58, .iconst (-1)), (58, 61, .if_icmp .ne 89),
  (61, 62, .aload 0), (62, 63, .iconst 0), (63, 65, .iload 4), (65, 66, .iconst 2), (66, 69, .invokevirtual 804079), (69, 70, .aload 0), (70, 73, .getfield 8050), (73, 74, .iconst (-1)),
  (74, 77, .if_icmp .eq 83), (77, 78, .aload 0), (78, 80, .iload 4), (80, 83, .putfield 8040), (83, 86, .iinc 4 1), (86, 89, .goto 46), (89, 90, .return_)]
/-- Stitching.searchFrom(III)V -/
def zc_79 : zk_C := [
  (0, 1, .iload 2), (1, 4, .ifCond .ne 69), (4, 5, .aload 0), (5, 8, .invokevirtual 811080), (8, 10, .istore 4), (10, 11, .aload 0), (11, 14, .getfield 8050), (14, 15, .iconst (-1)),
  (15, 18, .if_icmp .eq 27), (18, 20, .iload 4), (20, 21, .aload 0), (21, 24, .getfield 8050), (24, 27, .if_icmp .ge 31), (27, 28, .iconst 1), (28, 31, .goto 32), (31, 32, .iconst 0),
  (32, 34, .istore 5), (34, 36, .iload 5), (36, 39, .ifCond .eq 68), (39, 40, .aload 0), (40, 43, .getfield 8002), (43, 44, .aload 0), (44, 47, .getfield 8012), (47, 48, .aload 0),
  (48, 51, .getfield 8020), (51, 52, .aload 0), (52, 55, .getfield 8030), (55, 58, .invokevirtual 414046), (58, 59, .iconst (-1)), (59, 62, .if_icmp .ne 68), (62, 63, .aload 0), (63, 65, .iload 4),
  (65, 68, .putfield 8050), (68, 69, .return_), (69, 70, .iload 1), (70, 72, .istore 4), (72, 74, .iload 4), (74, 76, .iconst 8), (76, 79, .if_icmp .ge 199), (79, 80, .iload 3),
  (80, 83, .ifCond .le 199), (83, 84, .aload 0), (84, 87, .getfield 8012), (87, 90, .getfield 7022), (90, 92, .iload 4), (92, 95, .invokestatic 1112156), (95, 97, .istore 5), (97, 98, .iconst 0),
  (98, 100, .istore 6), (100, 102, .iload 6), (102, 104, .iconst 10), (104, 107, .if_icmp .ge 193), (107, 108, .aload 0), (108, 111, .getfield 8012), (111, 113, .iload 4), (113, 114, .aload 0),
  (114, 117, .getfield 8020), (117, 120, .invokevirtual 713062), (120, 123, .ifCond .eq 193), (123, 125, .iload 6), (125, 127, .iload 5), (127, 128, .isub), (128, 131, .invokestatic 1511296), (131, 133, .istore 7),
  (133, 135, .iload 7), (135, 138, .ifCond .le 187), (138, 140, .iload 7), (140, 141, .iload 2), (141, 144, .if_icmp .gt 187), (144, 145, .aload 0), (145, 148, .getfield 8012), (148, 151, .getfield 7022),
  (151, 153, .iload 4), (153, 155, .iload 6), (155, 158, .invokestatic 1103157), (158, 159, .aload 0), (159, 161, .iload 4), (161, 162, .iconst 1), (162, 163, .iadd), (163, 164, .iload 2),
  (164, 166, .iload 7), (166, 167, .isub), (167, 168, .iload 3), (168, 169, .iconst 1), (169, 170, .isub), (170, 173, .invokevirtual 804079), (173, 174, .aload 0), (174, 177, .getfield 8012),
  (177, 180, .getfield 7022), (180, 182, .iload 4), (182, 184, .iload 5), (184, 187, .invokestatic 1103157), (187, 190, .iinc 6 1), (190, 193, .goto 100), (193, 196, .iinc 4 1), (196, 199, .goto 72),
  (199, 200, .return_)]
/-- Stitching.fitsTold()I -/
def zc_80 : zk_C := [
  (0, 1, .iconst 0), (1, 2, .istore 1), (2, 3, .iconst 0), (3, 4, .istore 2), (4, 5, .iload 2), (5, 7, .iconst 8), (7, 10, .if_icmp .ge 48), (10, 11, .aload 0),
  (11, 14, .getfield 8012), (14, 15, .iload 2), (15, 16, .aload 0), (16, 19, .getfield 8020), (19, 22, .invokevirtual 713062), (22, 25, .ifCond .eq 42), (25, 26, .iload 1), (26, 28, .iconst 10),
  (28, 29, .imul), (29, 30, .aload 0), (30, 33, .getfield 8012), (33, 36, .getfield 7022), (36, 37, .iload 2), (37, 40, .invokestatic 1112156), (40, 41, .iadd), (41, 42, .istore 1),
  (42, 45, .iinc 2 1), (45, 48, .goto 4), (48, 49, .iload 1), (49, 50, .ireturn)]
/-- Tape.<init>()V -/
def zc_81 : zk_C := [
  (0, 1, .aload 0), (1, 4, .invokespecial 0), (4, 5, .aload 0), (5, 8, .iconst 240), (8, 10, .newarray .int), (10, 13, .putfield 9022), (13, 14, .return_)]
/-- Tape.bytesOf(I)I -/
def zc_82 : zk_C := [
  (0, 1, .iconst 0), (1, 2, .istore 1), (2, 3, .iconst 0), (3, 4, .istore 2), (4, 5, .iload 2), (5, 7, .iconst 32), (7, 10, .if_icmp .ge 29), (10, 11, .iload 0),
  (11, 12, .iload 2), (12, 13, .iushr), (13, 16, .iconst 255), (16, 17, .iand), (17, 20, .ifCond .eq 23), (20, 23, .iinc 1 1), (23, 26, .iinc 2 8), (26, 29, .goto 4),
  (29, 30, .iload 1), (30, 31, .ireturn)]
/-- Tape.append(I)V -/
def zc_83 : zk_C := [
  (0, 2, .iconst 24), (2, 3, .istore 2), (3, 4, .iload 2), (4, 7, .ifCond .lt 59), (7, 8, .iload 1), (8, 9, .iload 2), (9, 10, .iushr), (10, 13, .iconst 255),
  (13, 14, .iand), (14, 15, .istore 3), (15, 16, .iload 3), (16, 19, .ifCond .eq 53), (19, 20, .aload 0), (20, 23, .getfield 9000), (23, 24, .aload 0), (24, 27, .getfield 9022),
  (27, 28, .arraylength), (28, 31, .if_icmp .ge 53), (31, 32, .aload 0), (32, 35, .getfield 9022), (35, 36, .aload 0), (36, 39, .getfield 9000), (39, 40, .iload 3), (40, 43, .invokestatic 1103157),
  (43, 44, .aload 0), (44, 45, .dup), (45, 48, .getfield 9000), (48, 49, .iconst 1), (49, 50, .iadd), (50, 53, .putfield 9000), (53, 56, .iinc 2 (-8)), (56, 59, .goto 3),
  (59, 60, .return_)]
/-- Tape.sign()I -/
def zc_84 : zk_C := [
  (0, 1, .aload 0), (1, 4, .getfield 9010), (4, 7, .ifCond .lt 57), (7, 8, .aload 0), (8, 11, .getfield 9010), (11, 12, .aload 0), (12, 15, .getfield 9000), (15, 18, .if_icmp .ge 57),
  (18, 19, .aload 0), (19, 22, .getfield 9010), (22, 23, .aload 0), (23, 26, .getfield 9022), (26, 27, .arraylength), (27, 30, .if_icmp .ge 57), (30, 31, .aload 0), (31, 34, .getfield 9022),
  (34, 35, .aload 0), (35, 38, .getfield 9010), (38, 39, .iaload), (39, 41, .iconst 32), (41, 44, .if_icmp .ne 57), (44, 45, .aload 0), (45, 46, .dup), (46, 49, .getfield 9010),
  (49, 50, .iconst 1), (50, 51, .iadd), (51, 54, .putfield 9010), (54, 57, .goto 0), (57, 58, .aload 0), (58, 61, .getfield 9010), (61, 64, .ifCond .lt 99), (64, 65, .aload 0),
  (65, 68, .getfield 9010), (68, 69, .aload 0), (69, 72, .getfield 9000), (72, 75, .if_icmp .ge 99), (75, 76, .aload 0), (76, 79, .getfield 9010), (79, 80, .aload 0), (80, 83, .getfield 9022),
  (83, 84, .arraylength), (84, 87, .if_icmp .ge 99), (87, 88, .aload 0), (88, 91, .getfield 9022), (91, 92, .aload 0), (92, 95, .getfield 9010), (95, 96, .iaload), (96, 99, .goto 100),
  (99, 100, .iconst (-1)), (100, 101, .ireturn)]
/-- Tape.step()V -/
def zc_85 : zk_C := [
  (0, 1, .aload 0), (1, 2, .dup), (2, 5, .getfield 9010), (5, 6, .iconst 1), (6, 7, .iadd), (7, 10, .putfield 9010), (10, 11, .return_)]
/-- Tape.takes(C)Z -/
def zc_86 : zk_C := [
  (0, 1, .aload 0), (1, 4, .invokevirtual 911084), (4, 5, .iload 1), (5, 8, .if_icmp .eq 10), (8, 9, .iconst 0), (9, 10, .ret 1), (10, 11, .aload 0), (11, 12, .dup),
  (12, 15, .getfield 9010), (15, 16, .iconst 1), (16, 17, .iadd), (17, 20, .putfield 9010), (20, 21, .iconst 1), (21, 22, .ret 1)]
/-- Tape.number(II)I -/
def zc_87 : zk_C := [
  (0, 1, .aload 0), (1, 4, .invokevirtual 911084), (4, 7, .invokestatic 911089), (7, 10, .ifCond .ne 12), (10, 11, .iconst (-1)), (11, 12, .ireturn), (12, 13, .iconst 0), (13, 14, .istore 3),
  (14, 15, .iconst 0), (15, 17, .istore 4), (17, 19, .iload 4), (19, 20, .iload 1), (20, 23, .if_icmp .ge 62), (23, 24, .aload 0), (24, 27, .invokevirtual 911088), (27, 30, .invokestatic 911089),
  (30, 33, .ifCond .eq 62), (33, 34, .iload 3), (34, 36, .iconst 10), (36, 37, .imul), (37, 38, .aload 0), (38, 41, .invokevirtual 911088), (41, 42, .iadd), (42, 44, .iconst 48),
  (44, 45, .isub), (45, 46, .istore 3), (46, 47, .aload 0), (47, 48, .dup), (48, 51, .getfield 9010), (51, 52, .iconst 1), (52, 53, .iadd), (53, 56, .putfield 9010),
  (56, 59, .iinc 4 1), (59, 62, .goto 17), (62, 63, .aload 0), (63, 66, .invokevirtual 911088), (66, 69, .invokestatic 911089), (69, 72, .ifCond .eq 74), (72, 73, .iconst (-1)), (73, 74, .ireturn),
  (74, 75, .iload 3), (75, 76, .iload 2), (76, 79, .if_icmp .le 91), (79, 80, .aload 0), (80, 81, .dup), (81, 84, .getfield 9010), (84, 85, .iconst 1), (85, 86, .isub),
  (86, 89, .putfield 9010), (89, 90, .iconst (-1)), (90, 91, .ireturn), (91, 92, .iload 3), (92, 93, .ireturn)]
/-- Tape.byteHere()I -/
def zc_88 : zk_C := [
  (0, 1, .aload 0), (1, 4, .getfield 9010), (4, 7, .ifCond .lt 42), (7, 8, .aload 0), (8, 11, .getfield 9010), (11, 12, .aload 0), (12, 15, .getfield 9000), (15, 18, .if_icmp .ge 42),
  (18, 19, .aload 0), (19, 22, .getfield 9010), (22, 23, .aload 0), (23, 26, .getfield 9022), (26, 27, .arraylength), (27, 30, .if_icmp .ge 42), (30, 31, .aload 0), (31, 34, .getfield 9022),
  (34, 35, .aload 0), (35, 38, .getfield 9010), (38, 39, .iaload), (39, 42, .goto 43), (42, 43, .iconst (-1)), (43, 44, .ireturn)]
/-- Tape.isDigit(I)Z -/
def zc_89 : zk_C := [
  (0, 1, .iload 0), (1, 3, .iconst 48), (3, 6, .if_icmp .lt 16), (6, 7, .iload 0), (7, 9, .iconst 57), (9, 12, .if_icmp .gt 16), (12, 13, .iconst 1), (13, 16, .goto 17),
  (16, 17, .iconst 0), (17, 18, .ret 1)]
/-- Told.<init>()V -/
def zc_90 : zk_C := [
  (0, 1, .aload 0), (1, 4, .invokespecial 0), (4, 5, .aload 0), (5, 7, .iconst 6), (7, 9, .newarray .int), (9, 12, .putfield 10042), (12, 13, .aload 0), (13, 15, .iconst 6),
  (15, 17, .newarray .int), (17, 20, .putfield 10052), (20, 21, .aload 0), (21, 23, .iconst 6), (23, 25, .newarray .int), (25, 28, .putfield 10062), (28, 29, .aload 0), (29, 31, .iconst 8),
  (31, 33, .newarray .int), (33, 36, .putfield 10072), (36, 37, .aload 0), (37, 39, .iconst 8), (39, 41, .newarray .int), (41, 44, .putfield 10082), (44, 45, .aload 0), (45, 47, .iconst 8),
  (47, 49, .newarray .int), (49, 52, .putfield 10092), (52, 53, .return_)]
/-- Told.copy(LSaddlerKnows$Told;)V -/
def zc_91 : zk_C := [
  (0, 1, .aload 0), (1, 2, .aload 1), (2, 5, .getfield 10000), (5, 8, .putfield 10000), (8, 9, .aload 0), (9, 10, .aload 1), (10, 13, .getfield 10010), (13, 16, .putfield 10010),
  (16, 17, .aload 0), (17, 18, .aload 1), (18, 21, .getfield 10020), (21, 24, .putfield 10020), (24, 25, .aload 0), (25, 26, .aload 1), (26, 29, .getfield 10030), (29, 32, .putfield 10030),
  (32, 33, .aload 1), (33, 36, .getfield 10042), (36, 37, .aload 0), (37, 40, .getfield 10042), (40, 43, .invokestatic 1102158), (43, 44, .aload 1), (44, 47, .getfield 10052), (47, 48, .aload 0),
  (48, 51, .getfield 10052), (51, 54, .invokestatic 1102158), (54, 55, .aload 1), (55, 58, .getfield 10062), (58, 59, .aload 0), (59, 62, .getfield 10062), (62, 65, .invokestatic 1102158), (65, 66, .aload 1),
  (66, 69, .getfield 10072), (69, 70, .aload 0), (70, 73, .getfield 10072), (73, 76, .invokestatic 1102158), (76, 77, .aload 1), (77, 80, .getfield 10082), (80, 81, .aload 0), (81, 84, .getfield 10082),
  (84, 87, .invokestatic 1102158), (87, 88, .aload 1), (88, 91, .getfield 10092), (91, 92, .aload 0), (92, 95, .getfield 10092), (95, 98, .invokestatic 1102158), (98, 99, .return_)]
/-- Told.limitOf(I)I -/
def zc_92 : zk_C := [
  (0, 2, .iconst 30), (2, 3, .iconst 2), (3, 4, .aload 0), (4, 7, .getfield 10062), (7, 8, .iload 1), (8, 11, .invokestatic 1112156), (11, 12, .imul), (12, 13, .isub),
  (13, 14, .ireturn)]
/-- Told.isWhole()Z -/
def zc_93 : zk_C := [
  (0, 1, .aload 0), (1, 4, .getfield 10020), (4, 5, .iconst 2), (5, 8, .if_icmp .ge 10), (8, 9, .iconst 0), (9, 10, .ret 1), (10, 11, .iconst 0), (11, 12, .istore 1),
  (12, 13, .iload 1), (13, 14, .aload 0), (14, 17, .getfield 10030), (17, 20, .if_icmp .ge 87), (20, 21, .aload 0), (21, 24, .getfield 10072), (24, 25, .iload 1), (25, 28, .invokestatic 1112156),
  (28, 29, .aload 0), (29, 32, .getfield 10020), (32, 35, .if_icmp .ge 69), (35, 36, .aload 0), (36, 39, .getfield 10082), (39, 40, .iload 1), (40, 43, .invokestatic 1112156), (43, 44, .aload 0),
  (44, 47, .getfield 10020), (47, 50, .if_icmp .ge 69), (50, 51, .aload 0), (51, 54, .getfield 10072), (54, 55, .iload 1), (55, 58, .invokestatic 1112156), (58, 59, .aload 0), (59, 62, .getfield 10082),
  (62, 63, .iload 1), (63, 66, .invokestatic 1112156), (66, 69, .if_icmp .ne 71), (69, 70, .iconst 0), (70, 71, .ret 1), (71, 72, .aload 0), (72, 73, .iload 1), (73, 76, .invokevirtual 1012094),
  (76, 79, .ifCond .eq 81), (79, 80, .iconst 0), (80, 81, .ret 1), (81, 84, .iinc 1 1), (84, 87, .goto 12), (87, 88, .iconst 1), (88, 89, .ret 1)]
/-- Told.isToldAhead(I)Z -/
def zc_94 : zk_C := [
  (0, 1, .iconst 0), (1, 2, .istore 2), (2, 3, .iload 2), (3, 4, .iload 1), (4, 7, .if_icmp .ge 53), (7, 8, .aload 0), (8, 11, .getfield 10072), (11, 12, .iload 2),
  (12, 15, .invokestatic 1112156), (15, 16, .aload 0), (16, 19, .getfield 10072), (19, 20, .iload 1), (20, 23, .invokestatic 1112156), (23, 26, .if_icmp .ne 47), (26, 27, .aload 0), (27, 30, .getfield 10082),
  (30, 31, .iload 2), (31, 34, .invokestatic 1112156), (34, 35, .aload 0), (35, 38, .getfield 10082), (38, 39, .iload 1), (39, 42, .invokestatic 1112156), (42, 45, .if_icmp .ne 47), (45, 46, .iconst 1),
  (46, 47, .ret 1), (47, 50, .iinc 2 1), (50, 53, .goto 2), (53, 54, .iconst 0), (54, 55, .ret 1)]
/-- Told.waitsFor(IIII)I -/
def zc_95 : zk_C := [
  (0, 1, .iload 3), (1, 3, .iload 4), (3, 6, .if_icmp .le 18), (6, 7, .aload 0), (7, 10, .getfield 10042), (10, 11, .iload 2), (11, 14, .invokestatic 1112156), (14, 16, .iload 4),
  (16, 17, .isub), (17, 18, .ireturn), (18, 19, .iload 3), (19, 21, .iload 4), (21, 24, .if_icmp .ge 30), (24, 25, .iconst 0), (25, 26, .iload 3), (26, 27, .isub),
  (27, 30, .goto 42), (30, 31, .aload 0), (31, 34, .getfield 10062), (34, 35, .iload 1), (35, 38, .invokestatic 1112156), (38, 39, .iconst 2), (39, 40, .idiv), (40, 41, .iload 3),
  (41, 42, .isub), (42, 43, .ireturn)]
/-- Told.waitsBest(IIII)Z -/
def zc_96 : zk_C := [
  (0, 1, .aload 0), (1, 2, .iload 1), (2, 3, .iload 2), (3, 4, .iload 3), (4, 6, .iload 4), (6, 9, .invokevirtual 1015095), (9, 11, .istore 5), (11, 12, .iconst 0),
  (12, 14, .istore 6), (14, 16, .iload 6), (16, 18, .iconst 9), (18, 21, .if_icmp .gt 44), (21, 22, .aload 0), (22, 23, .iload 1), (23, 24, .iload 2), (24, 26, .iload 6),
  (26, 28, .iload 4), (28, 31, .invokevirtual 1015095), (31, 33, .iload 5), (33, 36, .if_icmp .le 38), (36, 37, .iconst 0), (37, 38, .ret 1), (38, 41, .iinc 6 1), (41, 44, .goto 14),
  (44, 45, .iconst 1), (45, 46, .ret 1)]
/-- SaddlerKnows.<init>()V -/
def zc_97 : zk_C := [
  (0, 1, .aload 0), (1, 4, .invokespecial 0), (4, 5, .aload 0), (5, 8, .new 9), (8, 9, .dup), (9, 12, .invokespecial 901081), (12, 15, .putfield 11002), (15, 16, .aload 0),
  (16, 19, .new 0), (19, 20, .dup), (20, 21, .aload 0), (21, 24, .getfield 11002), (24, 27, .invokespecial 2001), (27, 30, .putfield 11012), (30, 31, .aload 0), (31, 34, .new 2),
  (34, 35, .dup), (35, 36, .aload 0), (36, 39, .getfield 11002), (39, 42, .invokespecial 202015), (42, 45, .putfield 11022), (45, 46, .aload 0), (46, 49, .new 10), (49, 50, .dup),
  (50, 53, .invokespecial 1001090), (53, 56, .putfield 11032), (56, 57, .aload 0), (57, 60, .new 4), (60, 61, .dup), (61, 62, .aload 0), (62, 65, .getfield 11032), (65, 68, .invokespecial 402037),
  (68, 71, .putfield 11042), (71, 72, .aload 0), (72, 75, .new 7), (75, 76, .dup), (76, 79, .invokespecial 701058), (79, 82, .putfield 11052), (82, 83, .aload 0), (83, 86, .new 3),
  (86, 87, .dup), (87, 90, .invokespecial 301028), (90, 93, .putfield 11062), (93, 94, .aload 0), (94, 97, .new 6), (97, 98, .dup), (98, 99, .aload 0), (99, 102, .getfield 11032),
  (102, 103, .aload 0), (103, 106, .getfield 11042), (106, 109, .invokespecial 603051), (109, 112, .putfield 11072), (112, 113, .aload 0), (113, 116, .new 8), (116, 117, .dup), (117, 118, .aload 0),
  (118, 121, .getfield 11042), (121, 124, .invokespecial 802077), (124, 127, .putfield 11082), (127, 128, .aload 0), (128, 131, .new 5), (131, 132, .dup), (132, 133, .aload 0), (133, 136, .getfield 11032),
  (136, 137, .aload 0), (137, 140, .getfield 11042), (140, 143, .invokespecial 503048), (143, 146, .putfield 11092), (146, 147, .aload 0), (147, 148, .iconst 5), (148, 150, .newarray .int), (150, 153, .putfield 11102),
  (153, 154, .aload 0), (154, 155, .iconst 2), (155, 158, .putfield 11110), (158, 159, .return_)]
/-- SaddlerKnows.feed(IIIII)I -/
def zc_98 : zk_C := [
  (0, 1, .iload 1), (1, 4, .invokestatic 911082), (4, 5, .iload 2), (5, 8, .invokestatic 911082), (8, 9, .iadd), (9, 10, .iload 3), (10, 13, .invokestatic 911082), (13, 14, .iadd),
  (14, 16, .iload 4), (16, 19, .invokestatic 911082), (19, 20, .iadd), (20, 22, .iload 5), (22, 25, .invokestatic 911082), (25, 26, .iadd), (26, 28, .istore 6), (28, 29, .aload 0),
  (29, 32, .getfield 11002), (32, 35, .getfield 9000), (35, 37, .iload 6), (37, 38, .iadd), (38, 41, .iconst 240), (41, 44, .if_icmp .le 46), (44, 45, .iconst (-1)), (45, 46, .ireturn),
  (46, 47, .aload 0), (47, 50, .getfield 11002), (50, 51, .iload 1), (51, 54, .invokevirtual 902083), (54, 55, .aload 0), (55, 58, .getfield 11002), (58, 59, .iload 2), (59, 62, .invokevirtual 902083),
  (62, 63, .aload 0), (63, 66, .getfield 11002), (66, 67, .iload 3), (67, 70, .invokevirtual 902083), (70, 71, .aload 0), (71, 74, .getfield 11002), (74, 76, .iload 4), (76, 79, .invokevirtual 902083),
  (79, 80, .aload 0), (80, 83, .getfield 11002), (83, 85, .iload 5), (85, 88, .invokevirtual 902083), (88, 89, .aload 0), (89, 92, .getfield 11002), (92, 95, .getfield 9000), (95, 96, .ireturn)]
/-- SaddlerKnows.end(I)Z -/
def zc_99 : zk_C := [
  (0, 1, .iload 1), (1, 4, .ifCond .lt 15), (4, 5, .iload 1), (5, 6, .aload 0), (6, 9, .getfield 11002), (9, 12, .getfield 9000), (12, 15, .if_icmp .le 17), (15, 16, .iconst 0),
  (16, 17, .ret 1), (17, 18, .aload 0), (18, 21, .getfield 11002), (21, 22, .iload 1), (22, 25, .putfield 9000), (25, 26, .iconst 1), (26, 27, .ret 1)]
/-- SaddlerKnows.fault(I)I -/
def zc_100 : zk_C := [
  (0, 1, .iload 1), (1, 4, .ifCond .ne 12), (4, 5, .aload 0), (5, 8, .getfield 11012), (8, 11, .invokevirtual 11002), (11, 12, .ireturn), (12, 13, .iload 1), (13, 14, .iconst 1),
  (14, 17, .if_icmp .ne 27), (17, 18, .aload 0), (18, 21, .getfield 11022), (21, 24, .invokevirtual 211016), (24, 27, .goto 29), (27, 29, .iconst (-2)), (29, 30, .ireturn)]
/-- SaddlerKnows.text(I)I -/
def zc_101 : zk_C := [
  (0, 1, .iload 1), (1, 4, .ifCond .ne 9), (4, 5, .aload 0), (5, 8, .invokevirtual 1111102), (8, 9, .ireturn), (9, 10, .iload 1), (10, 11, .iconst 1), (11, 14, .if_icmp .ne 21),
  (14, 15, .aload 0), (15, 18, .invokevirtual 1111103), (18, 21, .goto 22), (21, 22, .iconst (-1)), (22, 23, .ireturn)]
/-- SaddlerKnows.takeCounty()I -/
def zc_102 : zk_C := [
  (0, 1, .aload 0), (1, 4, .getfield 11012), (4, 7, .invokevirtual 11002), (7, 8, .iconst (-1)), (8, 11, .if_icmp .eq 13), (11, 12, .iconst (-1)), (12, 13, .ireturn), (13, 14, .aload 0),
  (14, 17, .getfield 11032), (17, 18, .aload 0), (18, 21, .getfield 11012), (21, 24, .getfield 2), (24, 27, .invokevirtual 1002091), (27, 28, .aload 0), (28, 31, .getfield 11052), (31, 32, .aload 0),
  (32, 35, .getfield 11032), (35, 38, .invokevirtual 702059), (38, 39, .aload 0), (39, 42, .getfield 11062), (42, 45, .invokevirtual 301029), (45, 46, .aload 0), (46, 49, .getfield 11072), (49, 50, .iconst 0),
  (50, 53, .putfield 6090), (53, 54, .aload 0), (54, 57, .getfield 11002), (57, 58, .iconst 0), (58, 61, .putfield 9000), (61, 62, .aload 0), (62, 65, .getfield 11032), (65, 68, .getfield 10020),
  (68, 69, .ireturn)]
/-- SaddlerKnows.takeLaw()I -/
def zc_103 : zk_C := [
  (0, 1, .aload 0), (1, 4, .getfield 11042), (4, 7, .getfield 4020), (7, 8, .iconst 4), (8, 11, .if_icmp .ge 22), (11, 12, .aload 0), (12, 15, .getfield 11022), (15, 18, .invokevirtual 211016),
  (18, 19, .iconst (-1)), (19, 22, .if_icmp .eq 24), (22, 23, .iconst (-1)), (23, 24, .ireturn), (24, 25, .aload 0), (25, 28, .getfield 11042), (28, 31, .new 1), (31, 32, .dup),
  (32, 33, .aload 0), (33, 36, .getfield 11022), (36, 39, .getfield 2002), (39, 40, .aload 0), (40, 43, .getfield 11022), (43, 46, .getfield 2010), (46, 49, .invokespecial 103010), (49, 52, .invokevirtual 402038),
  (52, 53, .aload 0), (53, 56, .getfield 11002), (56, 57, .iconst 0), (57, 60, .putfield 9000), (60, 61, .aload 0), (61, 64, .getfield 11042), (64, 67, .getfield 4020), (67, 68, .iconst 1),
  (68, 69, .isub), (69, 70, .ireturn)]
/-- SaddlerKnows.rule(I)I -/
def zc_104 : zk_C := [
  (0, 1, .aload 0), (1, 4, .invokevirtual 1111143), (4, 7, .ifCond .ne 9), (7, 8, .iconst (-1)), (8, 9, .ireturn), (9, 10, .iload 1), (10, 13, .ifCond .ne 21), (13, 14, .aload 0),
  (14, 17, .getfield 11032), (17, 20, .getfield 10000), (20, 21, .ireturn), (21, 22, .iload 1), (22, 23, .iconst 1), (23, 26, .if_icmp .ne 36), (26, 27, .aload 0), (27, 30, .getfield 11052),
  (30, 33, .getfield 7040), (33, 36, .goto 37), (36, 37, .iconst (-1)), (37, 38, .ireturn)]
/-- SaddlerKnows.person(II)I -/
def zc_105 : zk_C := [
  (0, 1, .aload 0), (1, 2, .iload 1), (2, 5, .invokevirtual 1112144), (5, 8, .ifCond .ne 16), (8, 11, .athrow), (11, 12, .dup), (16, 17, .iload 2), (17, 56, .lookupswitch 126 #[(0, 56), (1, 68), (2, 80), (3, 92), (4, 104), (5, 117)]),
  (56, 57, .aload 0), (57, 60, .getfield 11032), (60, 63, .getfield 10042), (63, 64, .iload 1), (64, 67, .invokestatic 1112156), (67, 68, .ireturn), (68, 69, .aload 0), (69, 72, .getfield 11032),
  (72, 75, .getfield 10052), (75, 76, .iload 1), (76, 79, .invokestatic 1112156), (79, 80, .ireturn), (80, 81, .aload 0), (81, 84, .getfield 11032), (84, 87, .getfield 10062), (87, 88, .iload 1),
  (88, 91, .invokestatic 1112156), (91, 92, .ireturn), (92, 93, .aload 0), (93, 96, .getfield 11052), (96, 99, .getfield 7032), (99, 100, .iload 1), (100, 103, .invokestatic 1112156), (103, 104, .ireturn),
  (104, 105, .aload 0), (105, 108, .getfield 11042), (108, 109, .aload 0), (109, 112, .getfield 11052), (112, 113, .iload 1), (113, 116, .invokevirtual 413043), (116, 117, .ireturn), (117, 118, .aload 0),
  (118, 121, .getfield 11052), (121, 122, .iload 1), (122, 125, .invokevirtual 712075), (125, 126, .ireturn), (126, 129, .athrow), (129, 130, .dup)]
/-- SaddlerKnows.saddle(II)I -/
def zc_106 : zk_C := [
  (0, 1, .aload 0), (1, 4, .getfield 11052), (4, 5, .iload 1), (5, 8, .invokevirtual 712061), (8, 11, .ifCond .ne 13), (11, 12, .iconst (-1)), (12, 13, .ireturn), (13, 14, .iload 2),
  (14, 44, .lookupswitch 93 #[(0, 44), (1, 56), (2, 68), (3, 80)]), (44, 45, .aload 0), (45, 48, .getfield 11052), (48, 51, .getfield 7002), (51, 52, .iload 1), (52, 55, .invokestatic 1112156), (55, 56, .ireturn), (56, 57, .aload 0),
  (57, 60, .getfield 11052), (60, 63, .getfield 7012), (63, 64, .iload 1), (64, 67, .invokestatic 1112156), (67, 68, .ireturn), (68, 69, .aload 0), (69, 72, .getfield 11052), (72, 75, .getfield 7022),
  (75, 76, .iload 1), (76, 79, .invokestatic 1112156), (79, 80, .ireturn), (80, 81, .aload 0), (81, 84, .getfield 11042), (84, 85, .aload 0), (85, 88, .getfield 11052), (88, 89, .iload 1),
  (89, 92, .invokevirtual 413041), (92, 93, .ireturn), (93, 94, .iconst (-1)), (94, 95, .ireturn)]
/-- SaddlerKnows.law(I)Z -/
def zc_107 : zk_C := [
  (0, 1, .iload 1), (1, 2, .iconst (-1)), (2, 5, .if_icmp .eq 22), (5, 6, .iload 1), (6, 9, .ifCond .lt 20), (9, 10, .iload 1), (10, 11, .aload 0), (11, 14, .getfield 11042),
  (14, 17, .getfield 4020), (17, 20, .if_icmp .lt 22), (20, 21, .iconst 0), (21, 22, .ret 1), (22, 23, .aload 0), (23, 26, .getfield 11042), (26, 27, .iload 1), (27, 30, .putfield 4030),
  (30, 31, .iconst 1), (31, 32, .ret 1)]
/-- SaddlerKnows.limit(I)I -/
def zc_108 : zk_C := [
  (0, 1, .aload 0), (1, 2, .iload 1), (2, 5, .invokevirtual 1112144), (5, 8, .ifCond .eq 19), (8, 9, .aload 0), (9, 12, .getfield 11032), (12, 13, .iload 1), (13, 16, .invokevirtual 1012092),
  (16, 19, .goto 20), (19, 20, .iconst (-1)), (20, 21, .ireturn)]
/-- SaddlerKnows.log(II)I -/
def zc_109 : zk_C := [
  (0, 1, .iload 1), (1, 4, .ifCond .lt 12), (4, 5, .iload 1), (5, 6, .aload 0), (6, 9, .invokevirtual 1111142), (9, 12, .if_icmp .lt 14), (12, 13, .iconst (-1)), (13, 14, .ireturn),
  (14, 15, .aload 0), (15, 18, .getfield 11062), (18, 19, .aload 0), (19, 22, .getfield 11052), (22, 25, .getfield 7050), (25, 26, .iconst 1), (26, 27, .isub), (27, 28, .iload 1),
  (28, 29, .isub), (29, 30, .iload 2), (30, 33, .invokevirtual 313036), (33, 34, .ireturn)]
/-- SaddlerKnows.count(I)I -/
def zc_110 : zk_C := [
  (0, 1, .iload 1), (1, 60, .lookupswitch 142 #[(0, 60), (1, 68), (2, 76), (3, 84), (4, 92), (5, 100), (6, 108), (7, 116), (8, 121), (9, 129), (10, 134)]), (60, 61, .aload 0), (61, 64, .getfield 11032), (64, 67, .getfield 10020), (67, 68, .ireturn), (68, 69, .aload 0), (69, 72, .getfield 11032),
  (72, 75, .getfield 10030), (75, 76, .ireturn), (76, 77, .aload 0), (77, 80, .getfield 11042), (80, 83, .getfield 4020), (83, 84, .ireturn), (84, 85, .aload 0), (85, 88, .getfield 11002),
  (88, 91, .getfield 9000), (91, 92, .ireturn), (92, 93, .aload 0), (93, 96, .getfield 11042), (96, 99, .getfield 4030), (99, 100, .ireturn), (100, 101, .aload 0), (101, 104, .getfield 11052),
  (104, 107, .getfield 7050), (107, 108, .ireturn), (108, 109, .aload 0), (109, 112, .getfield 11052), (112, 115, .invokevirtual 711069), (115, 116, .ireturn), (116, 117, .aload 0), (117, 120, .getfield 11110),
  (120, 121, .ireturn), (121, 122, .aload 0), (122, 125, .getfield 11072), (125, 128, .getfield 6090), (128, 129, .ireturn), (129, 130, .aload 0), (130, 133, .invokevirtual 1111142), (133, 134, .ireturn),
  (134, 135, .aload 0), (135, 138, .getfield 11062), (138, 141, .getfield 3060), (141, 142, .ireturn), (142, 144, .iconst (-1000000)), (144, 145, .ireturn)]
/-- SaddlerKnows.weeks(I)I -/
def zc_111 : zk_C := [
  (0, 1, .aload 0), (1, 4, .invokevirtual 1111143), (4, 7, .ifCond .ne 13), (7, 8, .aload 0), (8, 9, .iconst 0), (9, 12, .invokevirtual 1112138), (12, 13, .ireturn), (13, 14, .iload 1),
  (14, 15, .iconst 1), (15, 18, .if_icmp .lt 24), (18, 19, .iload 1), (19, 21, .iconst 60), (21, 24, .if_icmp .le 30), (24, 25, .aload 0), (25, 26, .iconst 1), (26, 29, .invokevirtual 1112138),
  (29, 30, .ireturn), (30, 31, .aload 0), (31, 34, .getfield 11052), (34, 37, .getfield 7050), (37, 38, .iload 1), (38, 39, .iadd), (39, 42, .iconst 999), (42, 45, .if_icmp .le 51),
  (45, 46, .aload 0), (46, 47, .iconst 4), (47, 50, .invokevirtual 1112138), (50, 51, .ireturn), (51, 52, .iconst 0), (52, 53, .istore 2), (53, 54, .iload 2), (54, 55, .iload 1),
  (55, 58, .if_icmp .ge 79), (58, 59, .aload 0), (59, 62, .getfield 11062), (62, 63, .aload 0), (63, 66, .getfield 11052), (66, 69, .invokevirtual 302030), (69, 70, .aload 0), (70, 73, .invokevirtual 1101139),
  (73, 76, .iinc 2 1), (76, 79, .goto 53), (79, 80, .aload 0), (80, 83, .getfield 11052), (83, 86, .getfield 7050), (86, 87, .ireturn)]
/-- SaddlerKnows.makes(III)I -/
def zc_112 : zk_C := [
  (0, 1, .aload 0), (1, 2, .iload 1), (2, 5, .invokevirtual 1112144), (5, 8, .ifCond .eq 16), (8, 9, .aload 0), (9, 10, .iload 2), (10, 13, .invokevirtual 1112144), (13, 16, .ifCond .ne 22),
  (16, 17, .aload 0), (17, 18, .iconst 0), (18, 21, .invokevirtual 1112138), (21, 22, .ireturn), (22, 23, .iload 1), (23, 24, .iload 2), (24, 27, .if_icmp .eq 34), (27, 28, .iload 3),
  (28, 31, .invokestatic 1111147), (31, 34, .ifCond .ne 40), (34, 35, .aload 0), (35, 36, .iconst 1), (36, 39, .invokevirtual 1112138), (39, 40, .ireturn), (40, 41, .aload 0), (41, 44, .getfield 11052),
  (44, 45, .iload 1), (45, 46, .iload 2), (46, 49, .invokevirtual 713066), (49, 50, .iconst (-1)), (50, 53, .if_icmp .eq 59), (53, 54, .aload 0), (54, 55, .iconst 2), (55, 58, .invokevirtual 1112138),
  (58, 59, .ireturn), (59, 60, .aload 0), (60, 63, .getfield 11052), (63, 66, .invokevirtual 711067), (66, 68, .istore 4), (68, 69, .aload 0), (69, 72, .getfield 11052), (72, 75, .getfield 7040),
  (75, 76, .iconst 3), (76, 79, .if_icmp .lt 85), (79, 81, .iload 4), (81, 82, .iconst (-1)), (82, 85, .if_icmp .ne 91), (85, 86, .aload 0), (86, 87, .iconst 3), (87, 90, .invokevirtual 1112138),
  (90, 91, .ireturn), (91, 92, .aload 0), (92, 95, .getfield 11062), (95, 96, .aload 0), (96, 99, .getfield 11052), (99, 102, .invokevirtual 302030), (102, 103, .aload 0), (103, 106, .getfield 11052),
  (106, 107, .dup), (107, 110, .getfield 7040), (110, 111, .iconst 3), (111, 112, .isub), (112, 115, .putfield 7040), (115, 116, .aload 0), (116, 119, .getfield 11052), (119, 121, .iload 4),
  (121, 122, .iload 1), (122, 123, .iload 2), (123, 124, .iload 3), (124, 127, .invokevirtual 705063), (127, 129, .iload 4), (129, 130, .ireturn)]
/-- SaddlerKnows.stitch(II)I -/
def zc_113 : zk_C := [
  (0, 1, .aload 0), (1, 4, .getfield 11052), (4, 5, .iload 1), (5, 8, .invokevirtual 712061), (8, 11, .ifCond .ne 17), (11, 12, .aload 0), (12, 13, .iconst 0), (13, 16, .invokevirtual 1112138),
  (16, 17, .ireturn), (17, 18, .iload 2), (18, 21, .invokestatic 1111147), (21, 24, .ifCond .ne 30), (24, 25, .aload 0), (25, 26, .iconst 1), (26, 29, .invokevirtual 1112138), (29, 30, .ireturn),
  (30, 31, .aload 0), (31, 34, .getfield 11052), (34, 37, .getfield 7022), (37, 38, .iload 1), (38, 41, .invokestatic 1112156), (41, 42, .istore 3), (42, 43, .iload 3), (43, 44, .iload 2),
  (44, 47, .if_icmp .ne 53), (47, 48, .aload 0), (48, 49, .iconst 2), (49, 52, .invokevirtual 1112138), (52, 53, .ireturn), (53, 54, .iload 3), (54, 55, .iload 2), (55, 56, .isub),
  (56, 59, .invokestatic 1511296), (59, 61, .istore 4), (61, 62, .aload 0), (62, 65, .getfield 11052), (65, 68, .getfield 7040), (68, 70, .iload 4), (70, 73, .if_icmp .ge 79), (73, 74, .aload 0),
  (74, 75, .iconst 3), (75, 78, .invokevirtual 1112138), (78, 79, .ireturn), (79, 80, .aload 0), (80, 83, .getfield 11062), (83, 84, .aload 0), (84, 87, .getfield 11052), (87, 90, .invokevirtual 302030),
  (90, 91, .aload 0), (91, 94, .getfield 11052), (94, 95, .dup), (95, 98, .getfield 7040), (98, 100, .iload 4), (100, 101, .isub), (101, 104, .putfield 7040), (104, 105, .aload 0),
  (105, 108, .getfield 11052), (108, 111, .getfield 7022), (111, 112, .iload 1), (112, 113, .iload 2), (113, 116, .invokestatic 1103157), (116, 117, .iload 3), (117, 118, .ireturn)]
/-- SaddlerKnows.off(I)I -/
def zc_114 : zk_C := [
  (0, 1, .aload 0), (1, 4, .getfield 11052), (4, 5, .iload 1), (5, 8, .invokevirtual 712061), (8, 11, .ifCond .ne 17), (11, 12, .aload 0), (12, 13, .iconst 0), (13, 16, .invokevirtual 1112138),
  (16, 17, .ireturn), (17, 18, .aload 0), (18, 21, .getfield 11062), (21, 22, .aload 0), (22, 25, .getfield 11052), (25, 28, .invokevirtual 302030), (28, 29, .aload 0), (29, 32, .getfield 11052),
  (32, 33, .iload 1), (33, 36, .invokevirtual 702064), (36, 37, .aload 0), (37, 40, .getfield 11052), (40, 43, .invokevirtual 711069), (43, 44, .ireturn)]
/-- SaddlerKnows.salve(I)I -/
def zc_115 : zk_C := [
  (0, 1, .aload 0), (1, 2, .iload 1), (2, 5, .invokevirtual 1112144), (5, 8, .ifCond .ne 14), (8, 9, .aload 0), (9, 10, .iconst 0), (10, 13, .invokevirtual 1112138), (13, 14, .ireturn),
  (14, 15, .aload 0), (15, 18, .getfield 11052), (18, 21, .getfield 7032), (21, 22, .iload 1), (22, 25, .invokestatic 1112156), (25, 26, .istore 2), (26, 27, .iload 2), (27, 30, .ifCond .ne 36),
  (30, 31, .aload 0), (31, 32, .iconst 2), (32, 35, .invokevirtual 1112138), (35, 36, .ireturn), (36, 37, .aload 0), (37, 40, .getfield 11052), (40, 43, .getfield 7040), (43, 44, .iconst 2),
  (44, 47, .if_icmp .ge 53), (47, 48, .aload 0), (48, 49, .iconst 3), (49, 52, .invokevirtual 1112138), (52, 53, .ireturn), (53, 54, .aload 0), (54, 57, .getfield 11062), (57, 58, .aload 0),
  (58, 61, .getfield 11052), (61, 64, .invokevirtual 302030), (64, 65, .aload 0), (65, 68, .getfield 11052), (68, 69, .dup), (69, 72, .getfield 7040), (72, 73, .iconst 2), (73, 74, .isub),
  (74, 77, .putfield 7040), (77, 78, .iconst 0), (78, 79, .iload 2), (79, 80, .iconst 5), (80, 81, .isub), (81, 84, .invokestatic 1512297), (84, 85, .istore 3), (85, 86, .aload 0),
  (86, 89, .getfield 11052), (89, 92, .getfield 7032), (92, 93, .iload 1), (93, 94, .iload 3), (94, 97, .invokestatic 1103157), (97, 98, .iload 3), (98, 99, .ireturn)]
/-- SaddlerKnows.give(I)I -/
def zc_116 : zk_C := [
  (0, 1, .aload 0), (1, 4, .invokevirtual 1111143), (4, 7, .ifCond .ne 13), (7, 8, .aload 0), (8, 9, .iconst 0), (9, 12, .invokevirtual 1112138), (12, 13, .ireturn), (13, 14, .iload 1),
  (14, 15, .iconst 1), (15, 18, .if_icmp .lt 39), (18, 19, .iload 1), (19, 21, .iconst 50), (21, 24, .if_icmp .gt 39), (24, 25, .aload 0), (25, 28, .getfield 11052), (28, 31, .getfield 7040),
  (31, 32, .iload 1), (32, 33, .iadd), (33, 36, .iconst 999), (36, 39, .if_icmp .le 45), (39, 40, .aload 0), (40, 41, .iconst 1), (41, 44, .invokevirtual 1112138), (44, 45, .ireturn),
  (45, 46, .aload 0), (46, 49, .getfield 11062), (49, 50, .aload 0), (50, 53, .getfield 11052), (53, 56, .invokevirtual 302030), (56, 57, .aload 0), (57, 60, .getfield 11052), (60, 61, .dup),
  (61, 64, .getfield 7040), (64, 65, .iload 1), (65, 66, .iadd), (66, 69, .putfield 7040), (69, 70, .aload 0), (70, 73, .getfield 11052), (73, 76, .getfield 7040), (76, 77, .ireturn)]
/-- SaddlerKnows.status(I)I -/
def zc_117 : zk_C := [
  (0, 1, .iload 1), (1, 4, .ifCond .lt 22), (4, 5, .iload 1), (5, 6, .aload 0), (6, 9, .getfield 11102), (9, 10, .arraylength), (10, 13, .if_icmp .ge 22), (13, 14, .aload 0),
  (14, 17, .getfield 11102), (17, 18, .iload 1), (18, 19, .iaload), (19, 22, .goto 23), (22, 23, .iconst (-1)), (23, 24, .ireturn)]
/-- SaddlerKnows.undo()I -/
def zc_118 : zk_C := [
  (0, 1, .aload 0), (1, 4, .getfield 11062), (4, 5, .aload 0), (5, 8, .getfield 11052), (8, 11, .invokevirtual 312031), (11, 14, .ifCond .eq 24), (14, 15, .aload 0), (15, 18, .getfield 11062),
  (18, 21, .getfield 3060), (21, 24, .goto 25), (24, 25, .iconst (-1)), (25, 26, .ireturn)]
/-- SaddlerKnows.rest(I)Z -/
def zc_119 : zk_C := [
  (0, 1, .iload 1), (1, 4, .ifCond .lt 18), (4, 5, .iload 1), (5, 7, .iconst 9), (7, 10, .if_icmp .gt 18), (10, 11, .iload 1), (11, 12, .aload 0), (12, 15, .getfield 11110),
  (15, 18, .if_icmp .ne 20), (18, 19, .iconst 0), (19, 20, .ret 1), (20, 21, .aload 0), (21, 22, .iload 1), (22, 25, .putfield 11110), (25, 26, .iconst 1), (26, 27, .ret 1)]
/-- SaddlerKnows.years(IJ)I -/
def zc_120 : zk_C := [
  (0, 1, .aload 0), (1, 4, .invokevirtual 1111143), (4, 7, .ifCond .eq 33), (7, 8, .iload 1), (8, 9, .iconst 1), (9, 12, .if_icmp .lt 33), (12, 13, .iload 1), (13, 15, .iconst 60),
  (15, 18, .if_icmp .gt 33), (18, 19, .aload 0), (19, 22, .getfield 11052), (22, 25, .getfield 7050), (25, 26, .iload 1), (26, 27, .iadd), (27, 30, .iconst 999), (30, 33, .if_icmp .le 35),
  (33, 34, .iconst (-1)), (34, 35, .ireturn), (35, 36, .aload 0), (36, 37, .lload 2), (37, 40, .putfield 11121), (40, 41, .iconst 0), (41, 43, .istore 4), (43, 45, .iload 4),
  (45, 46, .iload 1), (46, 49, .if_icmp .ge 74), (49, 50, .aload 0), (50, 53, .getfield 11062), (53, 54, .aload 0), (54, 57, .getfield 11052), (57, 60, .invokevirtual 302030), (60, 61, .aload 0),
  (61, 64, .invokevirtual 1101140), (64, 65, .aload 0), (65, 68, .invokevirtual 1101139), (68, 71, .iinc 4 1), (71, 74, .goto 43), (74, 75, .aload 0), (75, 78, .getfield 11052), (78, 81, .getfield 7050),
  (81, 82, .ireturn)]
/-- SaddlerKnows.image()I -/
def zc_121 : zk_C := [
  (0, 1, .aload 0), (1, 4, .invokevirtual 1111143), (4, 7, .ifCond .ne 9), (7, 8, .iconst (-1)), (8, 9, .ireturn), (9, 10, .aload 0), (10, 13, .getfield 11062), (13, 14, .aload 0),
  (14, 17, .getfield 11052), (17, 20, .invokevirtual 302033), (20, 21, .aload 0), (21, 24, .getfield 11052), (24, 27, .getfield 7050), (27, 28, .ireturn)]
/-- SaddlerKnows.back()I -/
def zc_122 : zk_C := [
  (0, 1, .aload 0), (1, 4, .getfield 11062), (4, 5, .aload 0), (5, 8, .getfield 11052), (8, 11, .invokevirtual 312034), (11, 14, .ifCond .eq 24), (14, 15, .aload 0), (15, 18, .getfield 11052),
  (18, 21, .getfield 7050), (21, 24, .goto 25), (24, 25, .iconst (-1)), (25, 26, .ireturn)]
/-- SaddlerKnows.pinch(III)I -/
def zc_123 : zk_C := [
  (0, 1, .aload 0), (1, 2, .iload 1), (2, 3, .iload 2), (3, 6, .invokevirtual 1113145), (6, 9, .ifCond .eq 16), (9, 10, .iload 3), (10, 13, .invokestatic 1111147), (13, 16, .ifCond .ne 18),
  (16, 17, .iconst (-1)), (17, 18, .ireturn), (18, 19, .aload 0), (19, 22, .getfield 11042), (22, 23, .aload 0), (23, 26, .getfield 11052), (26, 27, .iload 1), (27, 28, .iload 2),
  (28, 29, .iload 3), (29, 32, .invokevirtual 415040), (32, 33, .ireturn)]
/-- SaddlerKnows.best(II)I -/
def zc_124 : zk_C := [
  (0, 1, .aload 0), (1, 4, .getfield 11052), (4, 5, .iload 1), (5, 8, .invokevirtual 712061), (8, 11, .ifCond .ne 13), (11, 12, .iconst (-1)), (12, 13, .ireturn), (13, 14, .aload 0),
  (14, 17, .getfield 11052), (17, 20, .getfield 7002), (20, 21, .iload 1), (21, 24, .invokestatic 1112156), (24, 25, .istore 3), (25, 26, .aload 0), (26, 29, .getfield 11052), (29, 32, .getfield 7012),
  (32, 33, .iload 1), (33, 36, .invokestatic 1112156), (36, 38, .istore 4), (38, 39, .aload 0), (39, 42, .getfield 11042), (42, 43, .aload 0), (43, 46, .getfield 11052), (46, 47, .iload 3),
  (47, 49, .iload 4), (49, 52, .invokevirtual 414045), (52, 54, .istore 5), (54, 55, .iload 2), (55, 58, .ifCond .ne 61), (58, 60, .iload 5), (60, 61, .ireturn), (61, 62, .iload 2),
  (62, 63, .iconst 1), (63, 66, .if_icmp .ne 85), (66, 67, .aload 0), (67, 70, .getfield 11042), (70, 71, .aload 0), (71, 74, .getfield 11052), (74, 75, .iload 3), (75, 77, .iload 4),
  (77, 79, .iload 5), (79, 82, .invokevirtual 415040), (82, 85, .goto 86), (85, 86, .iconst (-1)), (86, 87, .ireturn)]
/-- SaddlerKnows.throwing(I)I -/
def zc_125 : zk_C := [
  (0, 1, .aload 0), (1, 2, .iload 1), (2, 5, .invokevirtual 1112144), (5, 8, .ifCond .eq 25), (8, 9, .aload 0), (9, 12, .getfield 11042), (12, 13, .aload 0), (13, 16, .getfield 11052),
  (16, 17, .iload 1), (17, 19, .iconst 99), (19, 22, .invokevirtual 414046), (22, 25, .goto 26), (25, 26, .iconst (-1)), (26, 27, .ireturn)]
/-- SaddlerKnows.bears(III)I -/
def zc_126 : zk_C := [
  (0, 1, .aload 0), (1, 2, .iload 1), (2, 5, .invokevirtual 1112144), (5, 8, .ifCond .eq 19), (8, 9, .iload 2), (9, 10, .iconst 1), (10, 13, .if_icmp .lt 19), (13, 14, .iload 2),
  (14, 16, .iconst 30), (16, 19, .if_icmp .le 21), (19, 20, .iconst (-1)), (20, 21, .ireturn), (21, 22, .iload 3), (22, 25, .ifCond .eq 32), (25, 26, .iload 3), (26, 27, .iconst 1),
  (27, 30, .if_icmp .eq 32), (30, 31, .iconst (-1)), (31, 32, .ireturn), (32, 33, .aload 0), (33, 36, .getfield 11082), (36, 37, .aload 0), (37, 40, .getfield 11052), (40, 41, .iload 1),
  (41, 42, .iload 2), (42, 45, .invokevirtual 804078), (45, 46, .iload 3), (46, 49, .ifCond .ne 59), (49, 50, .aload 0), (50, 53, .getfield 11082), (53, 56, .getfield 8040), (56, 59, .goto 66),
  (59, 60, .aload 0), (60, 63, .getfield 11082), (63, 66, .getfield 8050), (66, 67, .ireturn)]
/-- SaddlerKnows.ring()I -/
def zc_127 : zk_C := [
  (0, 1, .iconst (-1)), (1, 2, .istore 1), (2, 3, .iconst 0), (3, 4, .istore 2), (4, 5, .iload 2), (5, 6, .aload 0), (6, 9, .getfield 11032), (9, 12, .getfield 10020),
  (12, 15, .if_icmp .ge 48), (15, 16, .aload 0), (16, 19, .getfield 11052), (19, 20, .iload 2), (20, 21, .iload 2), (21, 24, .invokevirtual 713076), (24, 25, .istore 3), (25, 26, .iload 3),
  (26, 27, .iconst (-1)), (27, 30, .if_icmp .eq 42), (30, 31, .iload 1), (31, 32, .iconst (-1)), (32, 35, .if_icmp .eq 40), (35, 36, .iload 3), (36, 37, .iload 1), (37, 40, .if_icmp .ge 42),
  (40, 41, .iload 3), (41, 42, .istore 1), (42, 45, .iinc 2 1), (45, 48, .goto 4), (48, 49, .iload 1), (49, 50, .ireturn)]
/-- SaddlerKnows.chain(II)I -/
def zc_128 : zk_C := [
  (0, 1, .aload 0), (1, 2, .iload 1), (2, 5, .invokevirtual 1112144), (5, 8, .ifCond .eq 16), (8, 9, .aload 0), (9, 10, .iload 2), (10, 13, .invokevirtual 1112144), (13, 16, .ifCond .ne 18),
  (16, 17, .iconst (-1)), (17, 18, .ireturn), (18, 19, .iload 1), (19, 20, .iload 2), (20, 23, .if_icmp .ne 27), (23, 24, .iconst 0), (24, 27, .goto 36), (27, 28, .aload 0),
  (28, 31, .getfield 11052), (31, 32, .iload 1), (32, 33, .iload 2), (33, 36, .invokevirtual 713076), (36, 37, .ireturn)]
/-- SaddlerKnows.seats(I)I -/
def zc_129 : zk_C := [
  (0, 1, .aload 0), (1, 4, .invokevirtual 1111143), (4, 7, .ifCond .eq 16), (7, 8, .iload 1), (8, 11, .ifCond .eq 18), (11, 12, .iload 1), (12, 13, .iconst 1), (13, 16, .if_icmp .eq 18),
  (16, 17, .iconst (-1)), (17, 18, .ireturn), (18, 19, .aload 0), (19, 22, .getfield 11092), (22, 23, .aload 0), (23, 26, .getfield 11052), (26, 29, .invokevirtual 502049), (29, 30, .iload 1),
  (30, 33, .ifCond .ne 43), (33, 34, .aload 0), (34, 37, .getfield 11092), (37, 40, .getfield 5030), (40, 43, .goto 50), (43, 44, .aload 0), (44, 47, .getfield 11092), (47, 50, .getfield 5040),
  (50, 51, .ireturn)]
/-- SaddlerKnows.seen(IIIZ)I -/
def zc_130 : zk_C := [
  (0, 1, .aload 0), (1, 2, .iload 1), (2, 5, .invokevirtual 1112144), (5, 8, .ifCond .eq 29), (8, 9, .iload 2), (9, 10, .iconst 1), (10, 13, .if_icmp .lt 29), (13, 14, .iload 2),
  (14, 16, .iconst 9), (16, 19, .if_icmp .gt 29), (19, 20, .iload 3), (20, 23, .ifCond .lt 29), (23, 24, .iload 3), (24, 26, .iconst 99), (26, 29, .if_icmp .le 31), (29, 30, .iconst (-1)),
  (30, 31, .ireturn), (31, 32, .aload 0), (32, 35, .getfield 11072), (35, 36, .iload 1), (36, 37, .iload 2), (37, 38, .iload 3), (38, 40, .iload 4), (40, 43, .invokevirtual 615052),
  (43, 46, .ifCond .eq 56), (46, 47, .aload 0), (47, 50, .getfield 11072), (50, 53, .getfield 6090), (53, 56, .goto 57), (56, 57, .iconst (-1)), (57, 58, .ireturn)]
/-- SaddlerKnows.fits(II)I -/
def zc_131 : zk_C := [
  (0, 1, .aload 0), (1, 2, .iload 1), (2, 5, .invokevirtual 1112146), (5, 8, .ifCond .ne 10), (8, 9, .iconst (-1)), (9, 10, .ireturn), (10, 11, .aload 0), (11, 14, .getfield 11072),
  (14, 15, .iload 1), (15, 16, .iconst 0), (16, 19, .invokevirtual 603053), (19, 20, .aload 0), (20, 23, .getfield 11072), (23, 24, .iload 2), (24, 27, .invokevirtual 612055), (27, 28, .ireturn)]
/-- SaddlerKnows.ask(II)I -/
def zc_132 : zk_C := [
  (0, 1, .aload 0), (1, 2, .iload 1), (2, 5, .invokevirtual 1112146), (5, 8, .ifCond .eq 19), (8, 9, .iload 2), (9, 10, .iconst 1), (10, 13, .if_icmp .lt 19), (13, 14, .iload 2),
  (14, 16, .iconst 9), (16, 19, .if_icmp .le 21), (19, 20, .iconst (-1)), (20, 21, .ireturn), (21, 22, .aload 0), (22, 25, .getfield 11072), (25, 26, .iload 1), (26, 27, .iload 2),
  (27, 30, .invokevirtual 603053), (30, 31, .aload 0), (31, 34, .getfield 11072), (34, 37, .invokevirtual 611056), (37, 38, .ireturn)]
/-- SaddlerKnows.waiting(IIIII)I -/
def zc_133 : zk_C := [
  (0, 1, .aload 0), (1, 2, .iload 1), (2, 3, .iload 2), (3, 6, .invokevirtual 1113145), (6, 9, .ifCond .eq 20), (9, 11, .iload 5), (11, 14, .ifCond .eq 23), (14, 16, .iload 5),
  (16, 17, .iconst 1), (17, 20, .if_icmp .eq 23), (20, 22, .iconst (-1000000)), (22, 23, .ireturn), (23, 24, .iload 3), (24, 27, .ifCond .lt 45), (27, 28, .iload 3), (28, 30, .iconst 9),
  (30, 33, .if_icmp .gt 45), (33, 35, .iload 4), (35, 38, .ifCond .lt 45), (38, 40, .iload 4), (40, 42, .iconst 9), (42, 45, .if_icmp .le 48), (45, 47, .iconst (-1000000)), (47, 48, .ireturn),
  (48, 50, .iload 5), (50, 53, .ifCond .ne 68), (53, 54, .aload 0), (54, 57, .getfield 11032), (57, 58, .iload 1), (58, 59, .iload 2), (59, 60, .iload 3), (60, 62, .iload 4),
  (62, 65, .invokevirtual 1015095), (65, 68, .goto 80), (68, 69, .aload 0), (69, 72, .getfield 11032), (72, 73, .iload 2), (73, 74, .iload 1), (74, 76, .iload 4), (76, 77, .iload 3),
  (77, 80, .invokevirtual 1015095), (80, 81, .ireturn)]
/-- SaddlerKnows.rests(III)I -/
def zc_134 : zk_C := [
  (0, 1, .aload 0), (1, 2, .iload 1), (2, 3, .iload 2), (3, 6, .invokevirtual 1113145), (6, 9, .ifCond .eq 14), (9, 10, .iload 3), (10, 11, .iconst (-1)), (11, 14, .if_icmp .ge 16),
  (14, 15, .iconst (-1)), (15, 16, .ireturn), (16, 17, .iconst 0), (17, 19, .istore 4), (19, 20, .iconst 0), (20, 22, .istore 5), (22, 24, .iload 5), (24, 26, .iconst 9),
  (26, 29, .if_icmp .gt 101), (29, 30, .iconst 0), (30, 32, .istore 6), (32, 34, .iload 6), (34, 36, .iconst 9), (36, 39, .if_icmp .gt 95), (39, 40, .aload 0), (40, 43, .getfield 11032),
  (43, 44, .iload 1), (44, 45, .iload 2), (45, 47, .iload 5), (47, 49, .iload 6), (49, 52, .invokevirtual 1015096), (52, 55, .ifCond .eq 89), (55, 56, .aload 0), (56, 59, .getfield 11032),
  (59, 60, .iload 2), (60, 61, .iload 1), (61, 63, .iload 6), (63, 65, .iload 5), (65, 68, .invokevirtual 1015096), (68, 71, .ifCond .eq 89), (71, 73, .iload 4), (73, 74, .iload 3),
  (74, 77, .if_icmp .ne 86), (77, 79, .iconst 10), (79, 81, .iload 5), (81, 82, .imul), (82, 84, .iload 6), (84, 85, .iadd), (85, 86, .ireturn), (86, 89, .iinc 4 1),
  (89, 92, .iinc 6 1), (92, 95, .goto 32), (95, 98, .iinc 5 1), (98, 101, .goto 22), (101, 102, .iload 3), (102, 103, .iconst (-1)), (103, 106, .if_icmp .ne 111), (106, 108, .iload 4),
  (108, 111, .goto 112), (111, 112, .iconst (-1)), (112, 113, .ireturn)]
/-- SaddlerKnows.odds(III)I -/
def zc_135 : zk_C := [
  (0, 1, .aload 0), (1, 2, .iload 1), (2, 5, .invokevirtual 1112144), (5, 8, .ifCond .eq 28), (8, 9, .iload 2), (9, 12, .ifCond .lt 28), (12, 13, .iload 2), (13, 15, .iconst 6),
  (15, 18, .if_icmp .gt 28), (18, 19, .iload 3), (19, 22, .ifCond .lt 28), (22, 23, .iload 3), (23, 25, .iconst 100), (25, 28, .if_icmp .le 30), (28, 29, .iconst (-1)), (29, 30, .ireturn),
  (30, 31, .aload 0), (31, 34, .getfield 11052), (34, 35, .iload 1), (35, 38, .invokevirtual 712070), (38, 41, .ifCond .ne 43), (41, 42, .iconst 0), (42, 43, .ireturn), (43, 44, .aload 0),
  (44, 45, .iload 1), (45, 46, .iload 2), (46, 47, .iload 3), (47, 48, .aload 0), (48, 51, .getfield 11052), (51, 54, .getfield 7032), (54, 55, .iload 1), (55, 58, .invokestatic 1112156),
  (58, 59, .aload 0), (59, 62, .getfield 11052), (62, 65, .getfield 7050), (65, 68, .iconst 1000000000), (68, 71, .invokevirtual 1117148), (71, 72, .ireturn)]
/-- SaddlerKnows.shares(II)I -/
def zc_136 : zk_C := [
  (0, 1, .aload 0), (1, 2, .iload 1), (2, 5, .invokevirtual 1112144), (5, 8, .ifCond .eq 19), (8, 9, .iload 2), (9, 12, .ifCond .lt 19), (12, 13, .iload 2), (13, 16, .iconst 999),
  (16, 19, .if_icmp .le 21), (19, 20, .iconst (-1)), (20, 21, .ireturn), (21, 22, .aload 0), (22, 25, .getfield 11052), (25, 28, .invokevirtual 711073), (28, 29, .istore 3), (29, 30, .iload 3),
  (30, 33, .ifCond .le 51), (33, 34, .iload 2), (34, 35, .aload 0), (35, 38, .getfield 11052), (38, 41, .getfield 7032), (41, 42, .iload 1), (42, 45, .invokestatic 1112156), (45, 46, .imul),
  (46, 47, .iload 3), (47, 48, .idiv), (48, 51, .goto 52), (51, 52, .iconst 0), (52, 53, .ireturn)]
/-- SaddlerKnows.most(I)I -/
def zc_137 : zk_C := [
  (0, 1, .aload 0), (1, 4, .invokevirtual 1111143), (4, 7, .ifCond .ne 9), (7, 8, .iconst (-1)), (8, 9, .ireturn), (9, 10, .iload 1), (10, 13, .ifCond .lt 24), (13, 14, .iload 1),
  (14, 15, .iconst 5), (15, 18, .if_icmp .gt 24), (18, 19, .aload 0), (19, 20, .iload 1), (20, 23, .invokevirtual 1112149), (23, 24, .ireturn), (24, 25, .iload 1), (25, 72, .lookupswitch 126 #[(6, 72), (7, 77), (8, 82), (9, 95), (10, 100), (11, 108), (12, 116), (13, 121)]),
  (72, 73, .aload 0), (73, 76, .invokevirtual 1111151), (76, 77, .ireturn), (77, 78, .aload 0), (78, 81, .invokevirtual 1111152), (81, 82, .ireturn), (82, 83, .aload 0), (83, 86, .invokevirtual 1111152),
  (86, 87, .aload 0), (87, 90, .getfield 11052), (90, 93, .invokevirtual 711072), (93, 94, .iand), (94, 95, .ireturn), (95, 96, .aload 0), (96, 99, .invokevirtual 1111153), (99, 100, .ireturn),
  (100, 101, .aload 0), (101, 104, .getfield 11052), (104, 107, .invokevirtual 711068), (107, 108, .ireturn), (108, 109, .aload 0), (109, 112, .getfield 11052), (112, 115, .invokevirtual 711073), (115, 116, .ireturn),
  (116, 117, .aload 0), (117, 120, .invokevirtual 1111154), (120, 121, .ireturn), (121, 122, .aload 0), (122, 125, .invokevirtual 1111155), (125, 126, .ireturn), (126, 127, .iconst (-1)), (127, 128, .ireturn)]
/-- SaddlerKnows.refused(I)I -/
def zc_138 : zk_C := [
  (0, 1, .aload 0), (1, 4, .getfield 11102), (4, 5, .iload 1), (5, 6, .aload 0), (6, 9, .getfield 11102), (9, 10, .iload 1), (10, 13, .invokestatic 1112156), (13, 14, .iconst 1),
  (14, 15, .iadd), (15, 18, .invokestatic 1103157), (18, 19, .iconst (-1)), (19, 20, .ireturn)]
/-- SaddlerKnows.passWeek()V -/
def zc_139 : zk_C := [
  (0, 1, .aload 0), (1, 4, .getfield 11042), (4, 5, .aload 0), (5, 8, .getfield 11052), (8, 11, .invokevirtual 412047), (11, 12, .istore 1), (12, 13, .aload 0), (13, 16, .getfield 11062),
  (16, 17, .iload 1), (17, 18, .aload 0), (18, 21, .getfield 11052), (21, 24, .invokevirtual 303035), (24, 25, .aload 0), (25, 28, .getfield 11052), (28, 31, .iconst 999), (31, 32, .aload 0),
  (32, 35, .getfield 11052), (35, 38, .getfield 7040), (38, 39, .aload 0), (39, 42, .getfield 11052), (42, 45, .invokevirtual 711069), (45, 46, .iadd), (46, 49, .invokestatic 1512299), (49, 52, .putfield 7040),
  (52, 53, .return_)]
/-- SaddlerKnows.drawAhead()V -/
def zc_140 : zk_C := [
  (0, 1, .aload 0), (1, 2, .aload 0), (2, 5, .getfield 11032), (5, 8, .getfield 10020), (8, 11, .invokevirtual 1112141), (11, 12, .istore 1), (12, 13, .aload 0), (13, 14, .aload 0),
  (14, 17, .getfield 11032), (17, 20, .getfield 10020), (20, 23, .invokevirtual 1112141), (23, 24, .istore 2), (24, 25, .aload 0), (25, 27, .iconst 10), (27, 30, .invokevirtual 1112141), (30, 31, .istore 3),
  (31, 32, .aload 0), (32, 35, .getfield 11052), (35, 38, .invokevirtual 711067), (38, 40, .istore 4), (40, 41, .iload 1), (41, 42, .iload 2), (42, 45, .if_icmp .eq 76), (45, 47, .iload 4),
  (47, 48, .iconst (-1)), (48, 51, .if_icmp .eq 76), (51, 52, .aload 0), (52, 55, .getfield 11052), (55, 56, .iload 1), (56, 57, .iload 2), (57, 60, .invokevirtual 713066), (60, 61, .iconst (-1)),
  (61, 64, .if_icmp .ne 76), (64, 65, .aload 0), (65, 68, .getfield 11052), (68, 70, .iload 4), (70, 71, .iload 1), (71, 72, .iload 2), (72, 73, .iload 3), (73, 76, .invokevirtual 705063),
  (76, 77, .aload 0), (77, 79, .iconst 10), (79, 82, .invokevirtual 1112141), (82, 83, .aload 0), (83, 86, .getfield 11110), (86, 89, .if_icmp .ge 102), (89, 90, .aload 0), (90, 93, .getfield 11052),
  (93, 94, .aload 0), (94, 96, .iconst 8), (96, 99, .invokevirtual 1112141), (99, 102, .invokevirtual 702064), (102, 103, .return_)]
/-- SaddlerKnows.draw(I)I -/
def zc_141 : zk_C := [
  (0, 1, .aload 0), (1, 2, .aload 0), (2, 5, .getfield 11121), (5, 8, .sipush 6364136223846793005), (8, 9, .lmul), (9, 12, .sipush 1442695040888963407), (12, 13, .ladd), (13, 16, .putfield 11121),
  (16, 17, .iload 1), (17, 20, .ifCond .le 34), (20, 21, .aload 0), (21, 24, .getfield 11121), (24, 26, .iconst 33), (26, 27, .lushr), (27, 28, .iload 1), (28, 29, .i2l),
  (29, 30, .lrem), (30, 31, .l2i), (31, 34, .goto 35), (34, 35, .iconst 0), (35, 36, .ireturn)]
/-- SaddlerKnows.loggedWeeks()I -/
def zc_142 : zk_C := [
  (0, 2, .iconst 60), (2, 3, .aload 0), (3, 6, .getfield 11052), (6, 9, .getfield 7050), (9, 12, .invokestatic 1512299), (12, 13, .ireturn)]
/-- SaddlerKnows.hasCounty()Z -/
def zc_143 : zk_C := [
  (0, 1, .aload 0), (1, 4, .getfield 11032), (4, 7, .getfield 10020), (7, 10, .ifCond .le 14), (10, 11, .iconst 1), (11, 14, .goto 15), (14, 15, .iconst 0), (15, 16, .ret 1)]
/-- SaddlerKnows.isPerson(I)Z -/
def zc_144 : zk_C := [
  (0, 1, .iload 1), (1, 4, .ifCond .lt 19), (4, 5, .iload 1), (5, 6, .aload 0), (6, 9, .getfield 11032), (9, 12, .getfield 10020), (12, 15, .if_icmp .ge 19), (15, 16, .iconst 1),
  (16, 19, .goto 20), (19, 20, .iconst 0), (20, 21, .ret 1)]
/-- SaddlerKnows.arePair(II)Z -/
def zc_145 : zk_C := [
  (0, 1, .aload 0), (1, 2, .iload 1), (2, 5, .invokevirtual 1112144), (5, 8, .ifCond .eq 25), (8, 9, .aload 0), (9, 10, .iload 2), (10, 13, .invokevirtual 1112144), (13, 16, .ifCond .eq 25),
  (16, 17, .iload 1), (17, 18, .iload 2), (18, 21, .if_icmp .eq 25), (21, 22, .iconst 1), (22, 25, .goto 26), (25, 26, .iconst 0), (26, 27, .ret 1)]
/-- SaddlerKnows.isToldSaddle(I)Z -/
def zc_146 : zk_C := [
  (0, 1, .iload 1), (1, 4, .ifCond .lt 19), (4, 5, .iload 1), (5, 6, .aload 0), (6, 9, .getfield 11032), (9, 12, .getfield 10030), (12, 15, .if_icmp .ge 19), (15, 16, .iconst 1),
  (16, 19, .goto 20), (19, 20, .iconst 0), (20, 21, .ret 1)]
/-- SaddlerKnows.isFit(I)Z -/
def zc_147 : zk_C := [
  (0, 1, .iload 0), (1, 4, .ifCond .lt 14), (4, 5, .iload 0), (5, 7, .iconst 10), (7, 10, .if_icmp .ge 14), (10, 11, .iconst 1), (11, 14, .goto 15), (14, 15, .iconst 0),
  (15, 16, .ret 1)]
/-- SaddlerKnows.partsThrown(IIIIII)I -/
def zc_148 : zk_C := [
  (0, 1, .iload 2), (1, 4, .ifCond .gt 6), (4, 5, .iconst 0), (5, 6, .ireturn), (6, 8, .iload 6), (8, 9, .i2l), (9, 10, .iload 3), (10, 11, .i2l),
  (11, 12, .lmul), (12, 15, .sipush 100), (15, 16, .ldiv), (16, 17, .l2i), (17, 19, .istore 7), (19, 20, .iconst 0), (20, 22, .iload 4), (22, 23, .aload 0),
  (23, 26, .getfield 11032), (26, 29, .getfield 10000), (29, 30, .isub), (30, 33, .invokestatic 1512297), (33, 35, .istore 8), (35, 36, .aload 0), (36, 37, .iload 1), (37, 38, .iload 2),
  (38, 39, .iconst 1), (39, 40, .isub), (40, 41, .iload 3), (41, 43, .iload 8), (43, 45, .iload 5), (45, 46, .iconst 1), (46, 47, .iadd), (47, 49, .iload 7),
  (49, 52, .invokevirtual 1117148), (52, 54, .istore 9), (54, 55, .aload 0), (55, 58, .getfield 11042), (58, 59, .aload 0), (59, 62, .getfield 11052), (62, 63, .iload 1), (63, 65, .iload 4),
  (65, 67, .iload 5), (67, 70, .invokevirtual 415044), (70, 72, .istore 10), (72, 74, .iload 10), (74, 75, .aload 0), (75, 78, .getfield 11032), (78, 79, .iload 1), (79, 82, .invokevirtual 1012092),
  (82, 85, .if_icmp .lt 94), (85, 87, .iload 9), (87, 89, .iload 6), (89, 90, .iadd), (90, 92, .iload 7), (92, 93, .isub), (93, 94, .ireturn), (94, 96, .iload 9),
  (96, 97, .aload 0), (97, 98, .iload 1), (98, 99, .iload 2), (99, 100, .iconst 1), (100, 101, .isub), (101, 102, .iload 3), (102, 104, .iload 10), (104, 106, .iload 5),
  (106, 107, .iconst 1), (107, 108, .iadd), (108, 110, .iload 6), (110, 112, .iload 7), (112, 113, .isub), (113, 116, .invokevirtual 1117148), (116, 117, .iadd), (117, 118, .ireturn)]
/-- SaddlerKnows.foremost(I)I -/
def zc_149 : zk_C := [
  (0, 1, .iconst 0), (1, 2, .istore 2), (2, 3, .aload 0), (3, 4, .iload 1), (4, 5, .iconst 0), (5, 8, .invokevirtual 1113150), (8, 9, .istore 3), (9, 10, .iconst 1),
  (10, 12, .istore 4), (12, 14, .iload 4), (14, 15, .aload 0), (15, 18, .getfield 11032), (18, 21, .getfield 10020), (21, 24, .if_icmp .ge 51), (24, 25, .aload 0), (25, 26, .iload 1),
  (26, 28, .iload 4), (28, 31, .invokevirtual 1113150), (31, 33, .istore 5), (33, 35, .iload 5), (35, 36, .iload 3), (36, 39, .if_icmp .le 45), (39, 41, .iload 4), (41, 42, .istore 2),
  (42, 44, .iload 5), (44, 45, .istore 3), (45, 48, .iinc 4 1), (48, 51, .goto 12), (51, 52, .iload 2), (52, 53, .ireturn)]
/-- SaddlerKnows.measure(II)I -/
def zc_150 : zk_C := [
  (0, 1, .iload 1), (1, 36, .lookupswitch 94 #[(0, 36), (1, 48), (2, 61), (3, 70), (4, 82)]), (36, 37, .aload 0), (37, 40, .getfield 11052), (40, 43, .getfield 7032), (43, 44, .iload 2), (44, 47, .invokestatic 1112156), (47, 48, .ireturn),
  (48, 49, .aload 0), (49, 52, .getfield 11042), (52, 53, .aload 0), (53, 56, .getfield 11052), (56, 57, .iload 2), (57, 60, .invokevirtual 413043), (60, 61, .ireturn), (61, 62, .aload 0),
  (62, 65, .getfield 11052), (65, 66, .iload 2), (66, 69, .invokevirtual 712071), (69, 70, .ireturn), (70, 71, .aload 0), (71, 74, .getfield 11032), (74, 77, .getfield 10042), (77, 78, .iload 2),
  (78, 81, .invokestatic 1112156), (81, 82, .ireturn), (82, 83, .aload 0), (83, 86, .getfield 11032), (86, 89, .getfield 10052), (89, 90, .iload 2), (90, 93, .invokestatic 1112156), (93, 94, .ireturn),
  (94, 95, .aload 0), (95, 98, .getfield 11032), (98, 101, .getfield 10062), (101, 102, .iload 2), (102, 105, .invokestatic 1112156), (105, 106, .ireturn)]
/-- SaddlerKnows.tightest()I -/
def zc_151 : zk_C := [
  (0, 1, .iconst (-1)), (1, 2, .istore 1), (2, 3, .iconst (-1)), (3, 4, .istore 2), (4, 5, .iconst 0), (5, 6, .istore 3), (6, 7, .iload 3), (7, 9, .iconst 8),
  (9, 12, .if_icmp .ge 60), (12, 13, .aload 0), (13, 16, .getfield 11052), (16, 17, .iload 3), (17, 20, .invokevirtual 712061), (20, 23, .ifCond .eq 54), (23, 24, .aload 0), (24, 27, .getfield 11042),
  (27, 28, .aload 0), (28, 31, .getfield 11052), (31, 32, .iload 3), (32, 35, .invokevirtual 413041), (35, 36, .iload 2), (36, 39, .if_icmp .le 54), (39, 40, .iload 3), (40, 41, .istore 1),
  (41, 42, .aload 0), (42, 45, .getfield 11042), (45, 46, .aload 0), (46, 49, .getfield 11052), (49, 50, .iload 3), (50, 53, .invokevirtual 413041), (53, 54, .istore 2), (54, 57, .iinc 3 1),
  (57, 60, .goto 6), (60, 61, .iload 1), (61, 62, .ireturn)]
/-- SaddlerKnows.freePeople()I -/
def zc_152 : zk_C := [
  (0, 1, .iconst 0), (1, 2, .istore 1), (2, 3, .iconst 0), (3, 4, .istore 2), (4, 5, .iload 2), (5, 6, .aload 0), (6, 9, .getfield 11032), (9, 12, .getfield 10020),
  (12, 15, .if_icmp .ge 38), (15, 16, .aload 0), (16, 19, .getfield 11052), (19, 20, .iload 2), (20, 23, .invokevirtual 712070), (23, 26, .ifCond .ne 32), (26, 27, .iload 1), (27, 28, .iconst 1),
  (28, 29, .iload 2), (29, 30, .ishl), (30, 31, .ior), (31, 32, .istore 1), (32, 35, .iinc 2 1), (35, 38, .goto 4), (38, 39, .iload 1), (39, 40, .ireturn)]
/-- SaddlerKnows.throwingNext()I -/
def zc_153 : zk_C := [
  (0, 1, .iconst 0), (1, 2, .istore 1), (2, 3, .iconst 0), (3, 4, .istore 2), (4, 5, .iload 2), (5, 6, .aload 0), (6, 9, .getfield 11032), (9, 12, .getfield 10020),
  (12, 15, .if_icmp .ge 44), (15, 16, .aload 0), (16, 19, .getfield 11042), (19, 20, .aload 0), (20, 23, .getfield 11052), (23, 24, .iload 2), (24, 25, .iconst 1), (25, 28, .invokevirtual 414046),
  (28, 29, .iconst (-1)), (29, 32, .if_icmp .eq 38), (32, 33, .iload 1), (33, 34, .iconst 1), (34, 35, .iload 2), (35, 36, .ishl), (36, 37, .ior), (37, 38, .istore 1),
  (38, 41, .iinc 2 1), (41, 44, .goto 4), (44, 45, .iload 1), (45, 46, .ireturn)]
/-- SaddlerKnows.peopleInRings()I -/
def zc_154 : zk_C := [
  (0, 1, .iconst 0), (1, 2, .istore 1), (2, 3, .iconst 0), (3, 4, .istore 2), (4, 5, .iload 2), (5, 6, .aload 0), (6, 9, .getfield 11032), (9, 12, .getfield 10020),
  (12, 15, .if_icmp .ge 36), (15, 16, .iload 1), (16, 17, .aload 0), (17, 20, .getfield 11052), (20, 21, .iload 2), (21, 24, .invokevirtual 712075), (24, 25, .iconst 1), (25, 26, .iload 2),
  (26, 27, .ishl), (27, 28, .iand), (28, 29, .ior), (29, 30, .istore 1), (30, 33, .iinc 2 1), (33, 36, .goto 4), (36, 37, .iload 1), (37, 38, .ireturn)]
/-- SaddlerKnows.sidePairs()I -/
def zc_155 : zk_C := [
  (0, 1, .iconst 0), (1, 2, .istore 1), (2, 3, .iconst 0), (3, 4, .istore 2), (4, 5, .iload 2), (5, 6, .aload 0), (6, 9, .getfield 11032), (9, 12, .getfield 10020),
  (12, 15, .if_icmp .ge 71), (15, 16, .iload 2), (16, 17, .iconst 1), (17, 18, .iadd), (18, 19, .istore 3), (19, 20, .iload 3), (20, 21, .aload 0), (21, 24, .getfield 11032),
  (24, 27, .getfield 10020), (27, 30, .if_icmp .ge 65), (30, 31, .aload 0), (31, 34, .getfield 11052), (34, 35, .iload 2), (35, 36, .iload 3), (36, 39, .invokevirtual 713066), (39, 40, .iconst (-1)),
  (40, 43, .if_icmp .eq 59), (43, 44, .aload 0), (44, 47, .getfield 11052), (47, 48, .iload 3), (48, 49, .iload 2), (49, 52, .invokevirtual 713066), (52, 53, .iconst (-1)), (53, 56, .if_icmp .eq 59),
  (56, 59, .iinc 1 1), (59, 62, .iinc 3 1), (62, 65, .goto 19), (65, 68, .iinc 2 1), (68, 71, .goto 4), (71, 72, .iload 1), (72, 73, .ireturn)]
/-- SaddlerKnows.at([II)I -/
def zc_156 : zk_C := [
  (0, 1, .iload 1), (1, 4, .ifCond .lt 16), (4, 5, .iload 1), (5, 6, .aload 0), (6, 7, .arraylength), (7, 10, .if_icmp .ge 16), (10, 11, .aload 0), (11, 12, .iload 1),
  (12, 13, .iaload), (13, 16, .goto 17), (16, 17, .iconst 0), (17, 18, .ireturn)]
/-- SaddlerKnows.put([III)V -/
def zc_157 : zk_C := [
  (0, 1, .iload 1), (1, 4, .ifCond .lt 14), (4, 5, .iload 1), (5, 6, .aload 0), (6, 7, .arraylength), (7, 10, .if_icmp .ge 14), (10, 11, .aload 0), (11, 12, .iload 1),
  (12, 13, .iload 2), (13, 14, .iastore), (14, 15, .return_)]
/-- SaddlerKnows.copyRow([I[I)V -/
def zc_158 : zk_C := [
  (0, 1, .iconst 0), (1, 2, .istore 2), (2, 3, .iload 2), (3, 4, .aload 1), (4, 5, .arraylength), (5, 8, .if_icmp .ge 26), (8, 9, .iload 2), (9, 10, .aload 0),
  (10, 11, .arraylength), (11, 14, .if_icmp .ge 26), (14, 15, .aload 1), (15, 16, .iload 2), (16, 17, .aload 0), (17, 18, .iload 2), (18, 19, .iaload), (19, 20, .iastore),
  (20, 23, .iinc 2 1), (23, 26, .goto 2), (26, 27, .return_)]
/-- SaddlerKnows.hasBit(II)Z -/
def zc_159 : zk_C := [
  (0, 1, .iload 1), (1, 4, .ifCond .lt 17), (4, 5, .iload 0), (5, 6, .iload 1), (6, 7, .ishr), (7, 8, .iconst 1), (8, 9, .iand), (9, 10, .iconst 1),
  (10, 13, .if_icmp .ne 17), (13, 14, .iconst 1), (14, 17, .goto 18), (17, 18, .iconst 0), (18, 19, .ret 1)]
/-- SaddlerKnowsModel.in(III)Z -/
def zc_160 : zk_C := [
  (0, 1, .iload 0), (1, 2, .iload 1), (2, 5, .if_icmp .lt 14), (5, 6, .iload 0), (6, 7, .iload 2), (7, 10, .if_icmp .gt 14), (10, 11, .iconst 1), (11, 14, .goto 15),
  (14, 15, .iconst 0), (15, 16, .ret 1)]
/-- SaddlerKnowsModel.has(II)Z -/
def zc_161 : zk_C := [
  (0, 1, .iload 0), (1, 2, .iload 1), (2, 3, .ishr), (3, 4, .iconst 1), (4, 5, .iand), (5, 6, .iconst 1), (6, 9, .if_icmp .ne 13), (9, 10, .iconst 1),
  (10, 13, .goto 14), (13, 14, .iconst 0), (14, 15, .ret 1)]
/-- SaddlerKnowsModel.<init>()V -/
def zc_162 : zk_C := [
  (0, 1, .aload 0), (1, 4, .invokespecial 0), (4, 5, .aload 0), (5, 8, .iconst 240), (8, 10, .newarray .int), (10, 13, .putfield 12012), (13, 14, .aload 0), (14, 17, .iconst 2600),
  (17, 19, .newarray .int), (19, 22, .putfield 12062), (22, 23, .aload 0), (23, 26, .iconst 2600), (26, 28, .newarray .int), (28, 31, .putfield 12072), (31, 32, .aload 0), (32, 33, .iconst 5),
  (33, 35, .newarray .int), (35, 38, .putfield 12082), (38, 39, .aload 0), (39, 40, .iconst 5), (40, 42, .newarray .int), (42, 45, .putfield 12092), (45, 46, .aload 0), (46, 49, .iconst 700),
  (49, 51, .newarray .int), (51, 54, .putfield 12102), (54, 55, .aload 0), (55, 58, .iconst 700), (58, 60, .newarray .int), (60, 63, .putfield 12112), (63, 64, .aload 0), (64, 67, .iconst 700),
  (67, 69, .newarray .int), (69, 72, .putfield 12122), (72, 73, .aload 0), (73, 75, .iconst 6), (75, 77, .newarray .int), (77, 80, .putfield 12152), (80, 81, .aload 0), (81, 83, .iconst 80),
  (83, 85, .newarray .int), (85, 88, .putfield 12162), (88, 89, .aload 0), (89, 90, .iconst 2), (90, 92, .newarray .int), (92, 95, .putfield 12172), (95, 96, .aload 0), (96, 98, .iconst 18),
  (98, 100, .newarray .int), (100, 103, .putfield 12182), (103, 104, .aload 0), (104, 106, .iconst 24), (106, 108, .newarray .int), (108, 111, .putfield 12192), (111, 112, .aload 0), (112, 113, .iconst 2),
  (113, 115, .newarray .int), (115, 118, .putfield 12222), (118, 119, .aload 0), (119, 121, .iconst 18), (121, 123, .newarray .int), (123, 126, .putfield 12232), (126, 127, .aload 0), (127, 129, .iconst 24),
  (129, 131, .newarray .int), (131, 134, .putfield 12242), (134, 135, .aload 0), (135, 138, .iconst 221), (138, 140, .newarray .int), (140, 143, .putfield 12272), (143, 144, .aload 0), (144, 145, .iconst 5),
  (145, 147, .newarray .int), (147, 150, .putfield 12282), (150, 151, .aload 0), (151, 152, .iconst (-1)), (152, 155, .putfield 12290), (155, 156, .aload 0), (156, 157, .iconst 2), (157, 160, .putfield 12300),
  (160, 161, .aload 0), (161, 163, .iconst 6), (163, 165, .newarray .int), (165, 168, .putfield 12312), (168, 169, .aload 0), (169, 172, .iconst 8840), (172, 174, .newarray .int), (174, 177, .putfield 12332),
  (177, 178, .aload 0), (178, 181, .iconst 320), (181, 183, .newarray .int), (183, 186, .putfield 12362), (186, 187, .aload 0), (187, 189, .iconst 6), (189, 191, .newarray .int), (191, 194, .putfield 12392),
  (194, 195, .aload 0), (195, 197, .iconst 10), (197, 199, .newarray .int), (199, 202, .putfield 12422), (202, 203, .aload 0), (203, 205, .iconst 10), (205, 207, .newarray .int), (207, 210, .putfield 12432),
  (210, 211, .aload 0), (211, 213, .iconst 10), (213, 215, .newarray .int), (215, 218, .putfield 12442), (218, 219, .aload 0), (219, 221, .iconst 10), (221, 223, .newarray .boolean), (223, 226, .putfield 12452),
  (226, 227, .aload 0), (227, 229, .iconst 60), (229, 231, .newarray .int), (231, 234, .putfield 12472), (234, 235, .aload 0), (235, 237, .iconst 10), (237, 239, .newarray .int), (239, 242, .putfield 12482),
  (242, 243, .aload 0), (243, 246, .iconst 221), (246, 248, .newarray .int), (248, 251, .putfield 12492), (251, 252, .return_)]
/-- SaddlerKnowsModel.thrown()I -/
def zc_163 : zk_C := [
  (0, 1, .aload 0), (1, 4, .getfield 12000), (4, 5, .ireturn)]
/-- SaddlerKnowsModel.byteOf(IIIIII)I -/
def zc_164 : zk_C := [
  (0, 2, .iload 5), (2, 3, .iconst 4), (3, 6, .if_icmp .ge 10), (6, 7, .iload 0), (7, 10, .goto 45), (10, 12, .iload 5), (12, 14, .iconst 8), (14, 17, .if_icmp .ge 21),
  (17, 18, .iload 1), (18, 21, .goto 45), (21, 23, .iload 5), (23, 25, .iconst 12), (25, 28, .if_icmp .ge 32), (28, 29, .iload 2), (29, 32, .goto 45), (32, 34, .iload 5),
  (34, 36, .iconst 16), (36, 39, .if_icmp .ge 43), (39, 40, .iload 3), (40, 43, .goto 45), (43, 45, .iload 4), (45, 47, .istore 6), (47, 49, .iload 6), (49, 51, .iconst 24),
  (51, 53, .iconst 8), (53, 55, .iload 5), (55, 56, .iconst 4), (56, 57, .irem), (57, 58, .imul), (58, 59, .isub), (59, 60, .ishr), (60, 63, .iconst 255),
  (63, 64, .iand), (64, 65, .ireturn)]
/-- SaddlerKnowsModel.feed(IIIII)I -/
def zc_165 : zk_C := [
  (0, 1, .iconst 0), (1, 3, .istore 6), (3, 4, .iconst 0), (4, 6, .istore 7), (6, 8, .iload 7), (8, 10, .iconst 20), (10, 13, .if_icmp .ge 44), (13, 15, .iload 6),
  (15, 16, .iload 1), (16, 17, .iload 2), (17, 18, .iload 3), (18, 20, .iload 4), (20, 22, .iload 5), (22, 24, .iload 7), (24, 27, .invokestatic 1216164), (27, 30, .ifCond .eq 34),
  (30, 31, .iconst 1), (31, 34, .goto 35), (34, 35, .iconst 0), (35, 36, .iadd), (36, 38, .istore 6), (38, 41, .iinc 7 1), (41, 44, .goto 6), (44, 45, .aload 0),
  (45, 48, .getfield 12020), (48, 50, .iload 6), (50, 51, .iadd), (51, 54, .iconst 240), (54, 57, .if_icmp .le 59), (57, 58, .iconst (-1)), (58, 59, .ireturn), (59, 60, .iconst 0),
  (60, 62, .istore 7), (62, 64, .iload 7), (64, 66, .iconst 20), (66, 69, .if_icmp .ge 115), (69, 70, .iload 1), (70, 71, .iload 2), (71, 72, .iload 3), (72, 74, .iload 4),
  (74, 76, .iload 5), (76, 78, .iload 7), (78, 81, .invokestatic 1216164), (81, 83, .istore 8), (83, 85, .iload 8), (85, 88, .ifCond .eq 109), (88, 89, .aload 0), (89, 92, .getfield 12012),
  (92, 93, .aload 0), (93, 96, .getfield 12020), (96, 98, .iload 8), (98, 99, .iastore), (99, 100, .aload 0), (100, 101, .dup), (101, 104, .getfield 12020), (104, 105, .iconst 1),
  (105, 106, .iadd), (106, 109, .putfield 12020), (109, 112, .iinc 7 1), (112, 115, .goto 62), (115, 116, .aload 0), (116, 119, .getfield 12020), (119, 120, .ireturn)]
/-- SaddlerKnowsModel.end(I)Z -/
def zc_166 : zk_C := [
  (0, 1, .iload 1), (1, 4, .ifCond .lt 12), (4, 5, .iload 1), (5, 6, .aload 0), (6, 9, .getfield 12020), (9, 12, .if_icmp .le 14), (12, 13, .iconst 0), (13, 14, .ret 1),
  (14, 15, .aload 0), (15, 16, .iload 1), (16, 19, .putfield 12020), (19, 20, .iconst 1), (20, 21, .ret 1)]
/-- SaddlerKnowsModel.here()I -/
def zc_167 : zk_C := [
  (0, 1, .aload 0), (1, 4, .getfield 12030), (4, 5, .aload 0), (5, 8, .getfield 12020), (8, 11, .if_icmp .ge 23), (11, 12, .aload 0), (12, 15, .getfield 12012), (15, 16, .aload 0),
  (16, 19, .getfield 12030), (19, 20, .iaload), (20, 23, .goto 24), (23, 24, .iconst (-1)), (24, 25, .ireturn)]
/-- SaddlerKnowsModel.look()I -/
def zc_168 : zk_C := [
  (0, 1, .aload 0), (1, 4, .invokevirtual 1211167), (4, 6, .iconst 32), (6, 9, .if_icmp .ne 22), (9, 10, .aload 0), (10, 11, .dup), (11, 14, .getfield 12030), (14, 15, .iconst 1),
  (15, 16, .iadd), (16, 19, .putfield 12030), (19, 22, .goto 0), (22, 23, .aload 0), (23, 26, .invokevirtual 1211167), (26, 27, .ireturn)]
/-- SaddlerKnowsModel.bad()V -/
def zc_169 : zk_C := [
  (0, 1, .aload 0), (1, 2, .aload 0), (2, 5, .getfield 12040), (5, 6, .iconst (-1)), (6, 9, .if_icmp .ne 16), (9, 10, .aload 0), (10, 13, .getfield 12030), (13, 16, .goto 20),
  (16, 17, .aload 0), (17, 20, .getfield 12040), (20, 23, .putfield 12040), (23, 24, .return_)]
/-- SaddlerKnowsModel.isDigit(I)Z -/
def zc_170 : zk_C := [
  (0, 1, .iload 0), (1, 3, .iconst 48), (3, 6, .if_icmp .lt 16), (6, 7, .iload 0), (7, 9, .iconst 57), (9, 12, .if_icmp .gt 16), (12, 13, .iconst 1), (13, 16, .goto 17),
  (16, 17, .iconst 0), (17, 18, .ret 1)]
/-- SaddlerKnowsModel.put(II)V -/
def zc_171 : zk_C := [
  (0, 1, .aload 0), (1, 4, .getfield 12062), (4, 7, .iconst 520), (7, 8, .aload 0), (8, 11, .getfield 12140), (11, 12, .imul), (12, 13, .aload 0), (13, 16, .getfield 12082),
  (16, 17, .aload 0), (17, 20, .getfield 12140), (20, 21, .iaload), (21, 22, .iadd), (22, 23, .iload 1), (23, 24, .iastore), (24, 25, .aload 0), (25, 28, .getfield 12072),
  (28, 31, .iconst 520), (31, 32, .aload 0), (32, 35, .getfield 12140), (35, 36, .imul), (36, 37, .aload 0), (37, 40, .getfield 12082), (40, 41, .aload 0), (41, 44, .getfield 12140),
  (44, 45, .iaload), (45, 46, .iadd), (46, 47, .iload 2), (47, 48, .iastore), (48, 49, .aload 0), (49, 52, .getfield 12082), (52, 53, .aload 0), (53, 56, .getfield 12140),
  (56, 57, .dup2), (57, 58, .iaload), (58, 59, .iconst 1), (59, 60, .iadd), (60, 61, .iastore), (61, 62, .return_)]
/-- SaddlerKnowsModel.letterOf(I)I -/
def zc_172 : zk_C := [
  (0, 1, .iload 0), (1, 3, .iconst 115), (3, 6, .if_icmp .ne 10), (6, 7, .iconst 0), (7, 10, .goto 61), (10, 11, .iload 0), (11, 13, .iconst 98), (13, 16, .if_icmp .ne 20),
  (16, 17, .iconst 1), (17, 20, .goto 61), (20, 21, .iload 0), (21, 23, .iconst 102), (23, 26, .if_icmp .ne 30), (26, 27, .iconst 2), (27, 30, .goto 61), (30, 31, .iload 0),
  (31, 33, .iconst 116), (33, 36, .if_icmp .ne 40), (36, 37, .iconst 3), (37, 40, .goto 61), (40, 41, .iload 0), (41, 43, .iconst 103), (43, 46, .if_icmp .ne 50), (46, 47, .iconst 4),
  (47, 50, .goto 61), (50, 51, .iload 0), (51, 53, .iconst 119), (53, 56, .if_icmp .ne 60), (56, 57, .iconst 5), (57, 60, .goto 61), (60, 61, .iconst (-1)), (61, 62, .ireturn)]
/-- SaddlerKnowsModel.opens()V -/
def zc_173 : zk_C := [
  (0, 1, .aload 0), (1, 4, .getfield 12050), (4, 6, .iconst 6), (6, 9, .if_icmp .ne 13), (9, 10, .aload 0), (10, 13, .invokevirtual 1201169), (13, 14, .aload 0), (14, 15, .dup),
  (15, 18, .getfield 12050), (18, 19, .iconst 1), (19, 20, .iadd), (20, 23, .putfield 12050), (23, 24, .aload 0), (24, 25, .dup), (25, 28, .getfield 12030), (28, 29, .iconst 1),
  (29, 30, .iadd), (30, 33, .putfield 12030), (33, 34, .return_)]
/-- SaddlerKnowsModel.closes(I)V -/
def zc_174 : zk_C := [
  (0, 1, .aload 0), (1, 4, .getfield 12040), (4, 5, .iconst (-1)), (5, 8, .if_icmp .ne 20), (8, 9, .aload 0), (9, 12, .invokevirtual 1211168), (12, 13, .iload 1), (13, 16, .if_icmp .eq 20),
  (16, 17, .aload 0), (17, 20, .invokevirtual 1201169), (20, 21, .aload 0), (21, 22, .dup), (22, 25, .getfield 12030), (25, 26, .iconst 1), (26, 27, .iadd), (27, 30, .putfield 12030),
  (30, 31, .aload 0), (31, 32, .dup), (32, 35, .getfield 12050), (35, 36, .iconst 1), (36, 37, .isub), (37, 40, .putfield 12050), (40, 41, .return_)]
/-- SaddlerKnowsModel.plainNumber()I -/
def zc_175 : zk_C := [
  (0, 1, .iconst 0), (1, 2, .istore 1), (2, 3, .iconst 0), (3, 4, .istore 2), (4, 5, .iload 2), (5, 6, .iconst 4), (6, 9, .if_icmp .ge 48), (9, 10, .aload 0),
  (10, 13, .invokevirtual 1211167), (13, 16, .invokestatic 1211170), (16, 19, .ifCond .eq 48), (19, 21, .iconst 10), (21, 22, .iload 1), (22, 23, .imul), (23, 24, .aload 0), (24, 27, .invokevirtual 1211167),
  (27, 28, .iadd), (28, 30, .iconst 48), (30, 31, .isub), (31, 32, .istore 1), (32, 33, .aload 0), (33, 34, .dup), (34, 37, .getfield 12030), (37, 38, .iconst 1),
  (38, 39, .iadd), (39, 42, .putfield 12030), (42, 45, .iinc 2 1), (45, 48, .goto 4), (48, 49, .aload 0), (49, 52, .invokevirtual 1211167), (52, 55, .invokestatic 1211170), (55, 58, .ifCond .eq 62),
  (58, 59, .aload 0), (59, 62, .invokevirtual 1201169), (62, 63, .iload 1), (63, 64, .ireturn)]
/-- SaddlerKnowsModel.atom()V -/
def zc_176 : zk_C := [
  (0, 1, .aload 0), (1, 4, .invokevirtual 1211168), (4, 5, .istore 1), (5, 6, .iload 1), (6, 9, .invokestatic 1211170), (9, 12, .ifCond .eq 24), (12, 13, .aload 0), (13, 14, .iconst 0),
  (14, 15, .aload 0), (15, 18, .invokevirtual 1211175), (18, 21, .invokevirtual 1203171), (21, 24, .goto 89), (24, 25, .iload 1), (25, 28, .invokestatic 1211172), (28, 29, .iconst (-1)), (29, 32, .if_icmp .eq 54),
  (32, 33, .aload 0), (33, 34, .dup), (34, 37, .getfield 12030), (37, 38, .iconst 1), (38, 39, .iadd), (39, 42, .putfield 12030), (42, 43, .aload 0), (43, 44, .iconst 1),
  (44, 45, .iload 1), (45, 48, .invokestatic 1211172), (48, 51, .invokevirtual 1203171), (51, 54, .goto 89), (54, 55, .iload 1), (55, 57, .iconst 91), (57, 60, .if_icmp .ne 85), (60, 61, .aload 0),
  (61, 64, .invokevirtual 1201173), (64, 65, .aload 0), (65, 68, .getfield 12040), (68, 69, .iconst (-1)), (69, 72, .if_icmp .ne 89), (72, 73, .aload 0), (73, 76, .invokevirtual 1201178), (76, 77, .aload 0),
  (77, 79, .iconst 93), (79, 82, .invokevirtual 1202174), (82, 85, .goto 89), (85, 86, .aload 0), (86, 89, .invokevirtual 1201169), (89, 90, .return_)]
/-- SaddlerKnowsModel.term()V -/
def zc_177 : zk_C := [
  (0, 1, .aload 0), (1, 4, .invokevirtual 1201176), (4, 5, .aload 0), (5, 8, .getfield 12040), (8, 9, .iconst (-1)), (9, 12, .if_icmp .ne 19), (12, 13, .aload 0), (13, 16, .invokevirtual 1211168),
  (16, 19, .goto 20), (19, 20, .iconst (-1)), (20, 21, .istore 1), (21, 22, .iload 1), (22, 24, .iconst 42), (24, 27, .if_icmp .eq 33), (27, 28, .iload 1), (28, 30, .iconst 47),
  (30, 33, .if_icmp .ne 83), (33, 34, .aload 0), (34, 35, .dup), (35, 38, .getfield 12030), (38, 39, .iconst 1), (39, 40, .iadd), (40, 43, .putfield 12030), (43, 44, .aload 0),
  (44, 47, .invokevirtual 1201176), (47, 48, .aload 0), (48, 49, .iload 1), (49, 51, .iconst 42), (51, 54, .if_icmp .ne 58), (54, 55, .iconst 4), (55, 58, .goto 59), (58, 59, .iconst 5),
  (59, 60, .iconst 0), (60, 63, .invokevirtual 1203171), (63, 64, .aload 0), (64, 67, .getfield 12040), (67, 68, .iconst (-1)), (68, 71, .if_icmp .ne 78), (71, 72, .aload 0), (72, 75, .invokevirtual 1211168),
  (75, 78, .goto 79), (78, 79, .iconst (-1)), (79, 80, .istore 1), (80, 83, .goto 21), (83, 84, .return_)]
/-- SaddlerKnowsModel.sum()V -/
def zc_178 : zk_C := [
  (0, 1, .aload 0), (1, 4, .invokevirtual 1201177), (4, 5, .aload 0), (5, 8, .getfield 12040), (8, 9, .iconst (-1)), (9, 12, .if_icmp .ne 19), (12, 13, .aload 0), (13, 16, .invokevirtual 1211168),
  (16, 19, .goto 20), (19, 20, .iconst (-1)), (20, 21, .istore 1), (21, 22, .iload 1), (22, 24, .iconst 43), (24, 27, .if_icmp .eq 33), (27, 28, .iload 1), (28, 30, .iconst 45),
  (30, 33, .if_icmp .ne 83), (33, 34, .aload 0), (34, 35, .dup), (35, 38, .getfield 12030), (38, 39, .iconst 1), (39, 40, .iadd), (40, 43, .putfield 12030), (43, 44, .aload 0),
  (44, 47, .invokevirtual 1201177), (47, 48, .aload 0), (48, 49, .iload 1), (49, 51, .iconst 43), (51, 54, .if_icmp .ne 58), (54, 55, .iconst 2), (55, 58, .goto 59), (58, 59, .iconst 3),
  (59, 60, .iconst 0), (60, 63, .invokevirtual 1203171), (63, 64, .aload 0), (64, 67, .getfield 12040), (67, 68, .iconst (-1)), (68, 71, .if_icmp .ne 78), (71, 72, .aload 0), (72, 75, .invokevirtual 1211168),
  (75, 78, .goto 79), (78, 79, .iconst (-1)), (79, 80, .istore 1), (80, 83, .goto 21), (83, 84, .return_)]
/-- SaddlerKnowsModel.isSign(I)Z -/
def zc_179 : zk_C := [
  (0, 1, .iload 0), (1, 3, .iconst 61), (3, 6, .if_icmp .eq 18), (6, 7, .iload 0), (7, 9, .iconst 60), (9, 12, .if_icmp .eq 18), (12, 13, .iload 0), (13, 15, .iconst 62),
  (15, 18, .if_icmp .ne 22), (18, 19, .iconst 1), (19, 22, .goto 23), (22, 23, .iconst 0), (23, 24, .ret 1)]
/-- SaddlerKnowsModel.compare()V -/
def zc_180 : zk_C := [
  (0, 1, .aload 0), (1, 4, .getfield 12040), (4, 5, .iconst (-1)), (5, 8, .if_icmp .ne 15), (8, 9, .aload 0), (9, 12, .invokevirtual 1211168), (12, 15, .goto 16), (15, 16, .iconst (-1)),
  (16, 17, .istore 1), (17, 18, .iload 1), (18, 21, .invokestatic 1211179), (21, 24, .ifCond .ne 29), (24, 25, .aload 0), (25, 28, .invokevirtual 1201169), (28, 29, .return_), (29, 30, .aload 0),
  (30, 31, .dup), (31, 34, .getfield 12030), (34, 35, .iconst 1), (35, 36, .iadd), (36, 39, .putfield 12030), (39, 40, .aload 0), (40, 43, .invokevirtual 1201178), (43, 44, .aload 0),
  (44, 45, .iload 1), (45, 47, .iconst 61), (47, 50, .if_icmp .ne 55), (50, 52, .iconst 6), (52, 55, .goto 68), (55, 56, .iload 1), (56, 58, .iconst 60), (58, 61, .if_icmp .ne 66),
  (61, 63, .iconst 7), (63, 66, .goto 68), (66, 68, .iconst 8), (68, 69, .iconst 0), (69, 72, .invokevirtual 1203171), (72, 73, .return_)]
/-- SaddlerKnowsModel.unit()V -/
def zc_181 : zk_C := [
  (0, 1, .aload 0), (1, 4, .invokevirtual 1211168), (4, 5, .istore 1), (5, 6, .iload 1), (6, 8, .iconst 33), (8, 11, .if_icmp .ne 47), (11, 12, .aload 0), (12, 15, .invokevirtual 1201173),
  (15, 16, .aload 0), (16, 19, .getfield 12040), (19, 20, .iconst (-1)), (20, 23, .if_icmp .ne 94), (23, 24, .aload 0), (24, 27, .invokevirtual 1201181), (27, 28, .aload 0), (28, 30, .iconst 9),
  (30, 31, .iconst 0), (31, 34, .invokevirtual 1203171), (34, 35, .aload 0), (35, 36, .dup), (36, 39, .getfield 12050), (39, 40, .iconst 1), (40, 41, .isub), (41, 44, .putfield 12050),
  (44, 47, .goto 94), (47, 48, .iload 1), (48, 50, .iconst 40), (50, 53, .if_icmp .ne 78), (53, 54, .aload 0), (54, 57, .invokevirtual 1201173), (57, 58, .aload 0), (58, 61, .getfield 12040),
  (61, 62, .iconst (-1)), (62, 65, .if_icmp .ne 94), (65, 66, .aload 0), (66, 69, .invokevirtual 1201184), (69, 70, .aload 0), (70, 72, .iconst 41), (72, 75, .invokevirtual 1202174), (75, 78, .goto 94),
  (78, 79, .aload 0), (79, 82, .invokevirtual 1201178), (82, 83, .aload 0), (83, 86, .getfield 12040), (86, 87, .iconst (-1)), (87, 90, .if_icmp .ne 94), (90, 91, .aload 0), (91, 94, .invokevirtual 1201180),
  (94, 95, .return_)]
/-- SaddlerKnowsModel.goOnAnd()V -/
def zc_182 : zk_C := [
  (0, 1, .aload 0), (1, 4, .getfield 12040), (4, 5, .iconst (-1)), (5, 8, .if_icmp .ne 41), (8, 9, .aload 0), (9, 12, .invokevirtual 1211168), (12, 14, .iconst 38), (14, 17, .if_icmp .ne 41),
  (17, 18, .aload 0), (18, 19, .dup), (19, 22, .getfield 12030), (22, 23, .iconst 1), (23, 24, .iadd), (24, 27, .putfield 12030), (27, 28, .aload 0), (28, 31, .invokevirtual 1201181),
  (31, 32, .aload 0), (32, 34, .iconst 10), (34, 35, .iconst 0), (35, 38, .invokevirtual 1203171), (38, 41, .goto 0), (41, 42, .return_)]
/-- SaddlerKnowsModel.goOnOr()V -/
def zc_183 : zk_C := [
  (0, 1, .aload 0), (1, 4, .getfield 12040), (4, 5, .iconst (-1)), (5, 8, .if_icmp .ne 45), (8, 9, .aload 0), (9, 12, .invokevirtual 1211168), (12, 14, .iconst 124), (14, 17, .if_icmp .ne 45),
  (17, 18, .aload 0), (18, 19, .dup), (19, 22, .getfield 12030), (22, 23, .iconst 1), (23, 24, .iadd), (24, 27, .putfield 12030), (27, 28, .aload 0), (28, 31, .invokevirtual 1201181),
  (31, 32, .aload 0), (32, 35, .invokevirtual 1201182), (35, 36, .aload 0), (36, 38, .iconst 11), (38, 39, .iconst 0), (39, 42, .invokevirtual 1203171), (42, 45, .goto 0), (45, 46, .return_)]
/-- SaddlerKnowsModel.condition()V -/
def zc_184 : zk_C := [
  (0, 1, .aload 0), (1, 4, .invokevirtual 1201181), (4, 5, .aload 0), (5, 8, .invokevirtual 1201182), (8, 9, .aload 0), (9, 12, .invokevirtual 1201183), (12, 13, .return_)]
/-- SaddlerKnowsModel.clause()V -/
def zc_185 : zk_C := [
  (0, 3, .iconst 140), (3, 4, .aload 0), (4, 7, .getfield 12140), (7, 8, .imul), (8, 9, .aload 0), (9, 12, .getfield 12092), (12, 13, .aload 0), (13, 16, .getfield 12140),
  (16, 17, .iaload), (17, 18, .iadd), (18, 19, .istore 1), (19, 20, .aload 0), (20, 23, .getfield 12040), (23, 24, .iconst (-1)), (24, 27, .if_icmp .ne 40), (27, 28, .aload 0),
  (28, 31, .invokevirtual 1211168), (31, 33, .iconst 121), (33, 36, .if_icmp .eq 40), (36, 37, .aload 0), (37, 40, .invokevirtual 1201169), (40, 41, .aload 0), (41, 42, .dup), (42, 45, .getfield 12030),
  (45, 46, .iconst 1), (46, 47, .iadd), (47, 50, .putfield 12030), (50, 51, .aload 0), (51, 54, .getfield 12040), (54, 55, .iconst (-1)), (55, 58, .if_icmp .ne 71), (58, 59, .aload 0),
  (59, 62, .invokevirtual 1211168), (62, 64, .iconst 58), (64, 67, .if_icmp .eq 71), (67, 68, .aload 0), (68, 71, .invokevirtual 1201169), (71, 72, .aload 0), (72, 73, .dup), (73, 76, .getfield 12030),
  (76, 77, .iconst 1), (77, 78, .iadd), (78, 81, .putfield 12030), (81, 82, .aload 0), (82, 85, .getfield 12040), (85, 86, .iconst (-1)), (86, 89, .if_icmp .eq 90), (89, 90, .return_),
  (90, 91, .aload 0), (91, 94, .getfield 12102), (94, 95, .iload 1), (95, 96, .aload 0), (96, 99, .getfield 12082), (99, 100, .aload 0), (100, 103, .getfield 12140), (103, 104, .iaload),
  (104, 105, .iastore), (105, 106, .aload 0), (106, 109, .invokevirtual 1211168), (109, 111, .iconst 33), (111, 114, .if_icmp .eq 123), (114, 115, .aload 0), (115, 118, .invokevirtual 1211168), (118, 120, .iconst 40),
  (120, 123, .if_icmp .ne 127), (123, 124, .iconst 1), (124, 127, .goto 128), (127, 128, .iconst 0), (128, 129, .istore 2), (129, 130, .iload 2), (130, 133, .ifCond .eq 140), (133, 134, .aload 0),
  (134, 137, .invokevirtual 1201184), (137, 140, .goto 184), (140, 141, .aload 0), (141, 144, .invokevirtual 1201178), (144, 145, .aload 0), (145, 148, .getfield 12040), (148, 149, .iconst (-1)), (149, 152, .if_icmp .ne 166),
  (152, 153, .aload 0), (153, 156, .invokevirtual 1211168), (156, 159, .invokestatic 1211179), (159, 162, .ifCond .eq 166), (162, 163, .iconst 1), (163, 166, .goto 167), (166, 167, .iconst 0), (167, 168, .istore 2),
  (168, 169, .iload 2), (169, 172, .ifCond .eq 184), (172, 173, .aload 0), (173, 176, .invokevirtual 1201180), (176, 177, .aload 0), (177, 180, .invokevirtual 1201182), (180, 181, .aload 0), (181, 184, .invokevirtual 1201183),
  (184, 185, .aload 0), (185, 188, .getfield 12112), (188, 189, .iload 1), (189, 190, .aload 0), (190, 193, .getfield 12102), (193, 194, .iload 1), (194, 195, .iaload), (195, 196, .iastore),
  (196, 197, .iload 2), (197, 200, .ifCond .eq 251), (200, 201, .aload 0), (201, 204, .getfield 12040), (204, 205, .iconst (-1)), (205, 208, .if_icmp .ne 251), (208, 209, .aload 0), (209, 212, .invokevirtual 1211168),
  (212, 214, .iconst 63), (214, 217, .if_icmp .eq 222), (217, 218, .aload 0), (218, 221, .invokevirtual 1201169), (221, 222, .return_), (222, 223, .aload 0), (223, 224, .dup), (224, 227, .getfield 12030),
  (227, 228, .iconst 1), (228, 229, .iadd), (229, 232, .putfield 12030), (232, 233, .aload 0), (233, 236, .getfield 12112), (236, 237, .iload 1), (237, 238, .aload 0), (238, 241, .getfield 12082),
  (241, 242, .aload 0), (242, 245, .getfield 12140), (245, 246, .iaload), (246, 247, .iastore), (247, 248, .aload 0), (248, 251, .invokevirtual 1201178), (251, 252, .aload 0), (252, 255, .getfield 12122),
  (255, 256, .iload 1), (256, 257, .aload 0), (257, 260, .getfield 12082), (260, 261, .aload 0), (261, 264, .getfield 12140), (264, 265, .iaload), (265, 266, .iastore), (266, 267, .aload 0),
  (267, 270, .getfield 12092), (270, 271, .aload 0), (271, 274, .getfield 12140), (274, 275, .dup2), (275, 276, .iaload), (276, 277, .iconst 1), (277, 278, .iadd), (278, 279, .iastore),
  (279, 280, .return_)]
/-- SaddlerKnowsModel.open(I)V -/
def zc_186 : zk_C := [
  (0, 1, .aload 0), (1, 2, .iload 1), (2, 5, .putfield 12140), (5, 6, .aload 0), (6, 7, .iconst 0), (7, 10, .putfield 12030), (10, 11, .aload 0), (11, 12, .iconst (-1)),
  (12, 15, .putfield 12040), (15, 16, .aload 0), (16, 17, .iconst 0), (17, 20, .putfield 12050), (20, 21, .aload 0), (21, 24, .getfield 12082), (24, 25, .iload 1), (25, 26, .iconst 0),
  (26, 27, .iastore), (27, 28, .aload 0), (28, 31, .getfield 12092), (31, 32, .iload 1), (32, 33, .iconst 0), (33, 34, .iastore), (34, 35, .return_)]
/-- SaddlerKnowsModel.atEnd()I -/
def zc_187 : zk_C := [
  (0, 1, .aload 0), (1, 4, .getfield 12040), (4, 5, .iconst (-1)), (5, 8, .if_icmp .ne 20), (8, 9, .aload 0), (9, 12, .invokevirtual 1211168), (12, 13, .iconst (-1)), (13, 16, .if_icmp .eq 20),
  (16, 17, .aload 0), (17, 20, .invokevirtual 1201169), (20, 21, .aload 0), (21, 24, .getfield 12040), (24, 25, .ireturn)]
/-- SaddlerKnowsModel.readLaw(I)I -/
def zc_188 : zk_C := [
  (0, 1, .aload 0), (1, 2, .iload 1), (2, 5, .invokevirtual 1202186), (5, 6, .aload 0), (6, 9, .invokevirtual 1201185), (9, 10, .aload 0), (10, 13, .getfield 12040), (13, 14, .iconst (-1)),
  (14, 17, .if_icmp .ne 43), (17, 18, .aload 0), (18, 21, .invokevirtual 1211168), (21, 23, .iconst 59), (23, 26, .if_icmp .ne 43), (26, 27, .aload 0), (27, 28, .dup), (28, 31, .getfield 12030),
  (31, 32, .iconst 1), (32, 33, .iadd), (33, 36, .putfield 12030), (36, 37, .aload 0), (37, 40, .invokevirtual 1201185), (40, 43, .goto 9), (43, 44, .aload 0), (44, 47, .invokevirtual 1211187),
  (47, 48, .ireturn)]
/-- SaddlerKnowsModel.bounded(J)I -/
def zc_189 : zk_C := [
  (0, 3, .sipush (-1000000)), (3, 6, .sipush 1000000), (6, 7, .lload 0), (7, 10, .invokestatic 1522300), (10, 13, .invokestatic 1522298), (13, 14, .l2i), (14, 15, .ireturn)]
/-- SaddlerKnowsModel.worked(IJJ)I -/
def zc_190 : zk_C := [
  (0, 1, .iload 0), (1, 52, .lookupswitch 144 #[(2, 52), (3, 59), (4, 66), (5, 73), (6, 90), (7, 102), (8, 114), (9, 144), (10, 126)]), (52, 53, .lload 1), (53, 54, .lload 3), (54, 55, .ladd), (55, 58, .invokestatic 1211189), (58, 59, .ireturn), (59, 60, .lload 1),
  (60, 61, .lload 3), (61, 62, .lsub), (62, 65, .invokestatic 1211189), (65, 66, .ireturn), (66, 67, .lload 1), (67, 68, .lload 3), (68, 69, .lmul), (69, 72, .invokestatic 1211189),
  (72, 73, .ireturn), (73, 74, .lload 3), (74, 75, .sipush 0), (75, 76, .lcmp), (76, 79, .ifCond .ne 83), (79, 80, .iconst 0), (80, 83, .goto 89), (83, 84, .lload 1),
  (84, 85, .lload 3), (85, 86, .ldiv), (86, 89, .invokestatic 1211189), (89, 90, .ireturn), (90, 91, .lload 1), (91, 92, .lload 3), (92, 93, .lcmp), (93, 96, .ifCond .ne 100),
  (96, 97, .iconst 1), (97, 100, .goto 101), (100, 101, .iconst 0), (101, 102, .ireturn), (102, 103, .lload 1), (103, 104, .lload 3), (104, 105, .lcmp), (105, 108, .ifCond .ge 112),
  (108, 109, .iconst 1), (109, 112, .goto 113), (112, 113, .iconst 0), (113, 114, .ireturn), (114, 115, .lload 1), (115, 116, .lload 3), (116, 117, .lcmp), (117, 120, .ifCond .le 124),
  (120, 121, .iconst 1), (121, 124, .goto 125), (124, 125, .iconst 0), (125, 126, .ireturn), (126, 127, .lload 1), (127, 128, .sipush 0), (128, 129, .lcmp), (129, 132, .ifCond .eq 142),
  (132, 133, .lload 3), (133, 134, .sipush 0), (134, 135, .lcmp), (135, 138, .ifCond .eq 142), (138, 139, .iconst 1), (139, 142, .goto 143), (142, 143, .iconst 0), (143, 144, .ireturn),
  (144, 145, .lload 1), (145, 146, .sipush 0), (146, 147, .lcmp), (147, 150, .ifCond .ne 156), (150, 151, .lload 3), (151, 152, .sipush 0), (152, 153, .lcmp), (153, 156, .ifCond .eq 160),
  (156, 157, .iconst 1), (157, 160, .goto 161), (160, 161, .iconst 0), (161, 162, .ireturn)]
/-- SaddlerKnowsModel.workOut(III)I -/
def zc_191 : zk_C := [
  (0, 1, .iconst 0), (1, 3, .istore 4), (3, 6, .iconst 520), (6, 7, .iload 1), (7, 8, .imul), (8, 9, .iload 2), (9, 10, .iadd), (10, 12, .istore 5),
  (12, 14, .iload 5), (14, 17, .iconst 520), (17, 18, .iload 1), (18, 19, .imul), (19, 20, .iload 3), (20, 21, .iadd), (21, 24, .if_icmp .ge 171), (24, 25, .aload 0),
  (25, 28, .getfield 12062), (28, 30, .iload 5), (30, 31, .iaload), (31, 34, .ifCond .eq 45), (34, 35, .aload 0), (35, 38, .getfield 12062), (38, 40, .iload 5), (40, 41, .iaload),
  (41, 42, .iconst 1), (42, 45, .if_icmp .ne 90), (45, 46, .aload 0), (46, 49, .getfield 12162), (49, 51, .iload 4), (51, 52, .aload 0), (52, 55, .getfield 12062), (55, 57, .iload 5),
  (57, 58, .iaload), (58, 61, .ifCond .ne 71), (61, 62, .aload 0), (62, 65, .getfield 12072), (65, 67, .iload 5), (67, 68, .iaload), (68, 71, .goto 83), (71, 72, .aload 0),
  (72, 75, .getfield 12152), (75, 76, .aload 0), (76, 79, .getfield 12072), (79, 81, .iload 5), (81, 82, .iaload), (82, 83, .iaload), (83, 84, .iastore), (84, 87, .iinc 4 1),
  (87, 90, .goto 165), (90, 91, .aload 0), (91, 94, .getfield 12062), (94, 96, .iload 5), (96, 97, .iaload), (97, 99, .iconst 9), (99, 102, .if_icmp .ne 125), (102, 103, .aload 0),
  (103, 106, .getfield 12162), (106, 108, .iload 4), (108, 109, .iconst 1), (109, 110, .isub), (110, 111, .iconst 1), (111, 112, .aload 0), (112, 115, .getfield 12162), (115, 117, .iload 4),
  (117, 118, .iconst 1), (118, 119, .isub), (119, 120, .iaload), (120, 121, .isub), (121, 122, .iastore), (122, 125, .goto 165), (125, 128, .iinc 4 (-1)), (128, 129, .aload 0),
  (129, 132, .getfield 12162), (132, 134, .iload 4), (134, 135, .iconst 1), (135, 136, .isub), (136, 137, .aload 0), (137, 140, .getfield 12062), (140, 142, .iload 5), (142, 143, .iaload),
  (143, 144, .aload 0), (144, 147, .getfield 12162), (147, 149, .iload 4), (149, 150, .iconst 1), (150, 151, .isub), (151, 152, .iaload), (152, 153, .i2l), (153, 154, .aload 0),
  (154, 157, .getfield 12162), (157, 159, .iload 4), (159, 160, .iaload), (160, 161, .i2l), (161, 164, .invokestatic 1213190), (164, 165, .iastore), (165, 168, .iinc 5 1), (168, 171, .goto 12),
  (171, 172, .aload 0), (172, 175, .getfield 12162), (175, 176, .iconst 0), (176, 177, .iaload), (177, 178, .ireturn)]
/-- SaddlerKnowsModel.worthOf(I)I -/
def zc_192 : zk_C := [
  (0, 3, .iconst 140), (3, 4, .iload 1), (4, 5, .imul), (5, 6, .istore 2), (6, 7, .iload 2), (7, 10, .iconst 140), (10, 11, .iload 1), (11, 12, .imul),
  (12, 13, .aload 0), (13, 16, .getfield 12092), (16, 17, .iload 1), (17, 18, .iaload), (18, 19, .iadd), (19, 22, .if_icmp .ge 81), (22, 23, .aload 0), (23, 26, .getfield 12102),
  (26, 27, .iload 2), (27, 28, .iaload), (28, 29, .aload 0), (29, 32, .getfield 12112), (32, 33, .iload 2), (33, 34, .iaload), (34, 37, .if_icmp .eq 57), (37, 38, .aload 0),
  (38, 39, .iload 1), (39, 40, .aload 0), (40, 43, .getfield 12102), (43, 44, .iload 2), (44, 45, .iaload), (45, 46, .aload 0), (46, 49, .getfield 12112), (49, 50, .iload 2),
  (50, 51, .iaload), (51, 54, .invokevirtual 1214191), (54, 57, .ifCond .eq 75), (57, 58, .aload 0), (58, 59, .iload 1), (59, 60, .aload 0), (60, 63, .getfield 12112), (63, 64, .iload 2),
  (64, 65, .iaload), (65, 66, .aload 0), (66, 69, .getfield 12122), (69, 70, .iload 2), (70, 71, .iaload), (71, 74, .invokevirtual 1214191), (74, 75, .ireturn), (75, 78, .iinc 2 1),
  (78, 81, .goto 6), (81, 82, .iconst 0), (82, 83, .ireturn)]
/-- SaddlerKnowsModel.number(I)I -/
def zc_193 : zk_C := [
  (0, 1, .aload 0), (1, 4, .invokevirtual 1211168), (4, 7, .invokestatic 1211170), (7, 10, .ifCond .ne 16), (10, 11, .aload 0), (11, 14, .invokevirtual 1201169), (14, 15, .iconst 0), (15, 16, .ireturn),
  (16, 17, .aload 0), (17, 20, .invokevirtual 1211167), (20, 22, .iconst 48), (22, 23, .isub), (23, 24, .istore 2), (24, 25, .aload 0), (25, 26, .dup), (26, 29, .getfield 12030),
  (29, 30, .iconst 1), (30, 31, .iadd), (31, 34, .putfield 12030), (34, 35, .aload 0), (35, 38, .invokevirtual 1211167), (38, 41, .invokestatic 1211170), (41, 44, .ifCond .eq 67), (44, 46, .iconst 10),
  (46, 47, .iload 2), (47, 48, .imul), (48, 49, .aload 0), (49, 52, .invokevirtual 1211167), (52, 53, .iadd), (53, 55, .iconst 48), (55, 56, .isub), (56, 57, .istore 2),
  (57, 58, .aload 0), (58, 59, .dup), (59, 62, .getfield 12030), (62, 63, .iconst 1), (63, 64, .iadd), (64, 67, .putfield 12030), (67, 68, .aload 0), (68, 71, .invokevirtual 1211167),
  (71, 74, .invokestatic 1211170), (74, 77, .ifCond .eq 84), (77, 78, .aload 0), (78, 81, .invokevirtual 1201169), (81, 84, .goto 103), (84, 85, .iload 2), (85, 86, .iload 1), (86, 89, .if_icmp .le 103),
  (89, 90, .aload 0), (90, 91, .dup), (91, 94, .getfield 12030), (94, 95, .iconst 1), (95, 96, .isub), (96, 99, .putfield 12030), (99, 100, .aload 0), (100, 103, .invokevirtual 1201169),
  (103, 104, .iload 2), (104, 105, .ireturn)]
/-- SaddlerKnowsModel.itemOf(II)I -/
def zc_194 : zk_C := [
  (0, 1, .iload 0), (1, 28, .lookupswitch 82 #[(112, 50), (115, 28)]), (28, 29, .iload 1), (29, 31, .iconst 104), (31, 34, .if_icmp .ne 38), (34, 35, .iconst 0), (35, 38, .goto 49), (38, 39, .iload 1),
  (39, 41, .iconst 107), (41, 44, .if_icmp .ne 48), (44, 45, .iconst 1), (45, 48, .goto 49), (48, 49, .iconst (-1)), (49, 50, .ireturn), (50, 51, .iload 1), (51, 53, .iconst 115),
  (53, 56, .if_icmp .ne 60), (56, 57, .iconst 0), (57, 60, .goto 81), (60, 61, .iload 1), (61, 63, .iconst 98), (63, 66, .if_icmp .ne 70), (66, 67, .iconst 1), (67, 70, .goto 81),
  (70, 71, .iload 1), (71, 73, .iconst 116), (73, 76, .if_icmp .ne 80), (76, 77, .iconst 2), (77, 80, .goto 81), (80, 81, .iconst (-1)), (81, 82, .ireturn), (82, 83, .iload 1),
  (83, 85, .iconst 114), (85, 88, .if_icmp .ne 92), (88, 89, .iconst 0), (89, 92, .goto 113), (92, 93, .iload 1), (93, 95, .iconst 117), (95, 98, .if_icmp .ne 102), (98, 99, .iconst 1),
  (99, 102, .goto 113), (102, 103, .iload 1), (103, 105, .iconst 102), (105, 108, .if_icmp .ne 112), (108, 109, .iconst 2), (109, 112, .goto 113), (112, 113, .iconst (-1)), (113, 114, .ireturn)]
/-- SaddlerKnowsModel.highest(II)I -/
def zc_195 : zk_C := [
  (0, 1, .iload 0), (1, 3, .iconst 115), (3, 6, .if_icmp .ne 16), (6, 7, .iload 1), (7, 8, .iconst 1), (8, 11, .if_icmp .ne 16), (11, 13, .iconst 99), (13, 16, .goto 33),
  (16, 17, .iload 0), (17, 19, .iconst 108), (19, 22, .if_icmp .ne 31), (22, 23, .iload 1), (23, 24, .iconst 2), (24, 27, .if_icmp .eq 31), (27, 28, .iconst 5), (28, 31, .goto 33),
  (31, 33, .iconst 9), (33, 34, .ireturn)]
/-- SaddlerKnowsModel.usual(II)I -/
def zc_196 : zk_C := [
  (0, 1, .iload 0), (1, 28, .lookupswitch 50 #[(112, 39), (115, 28)]), (28, 29, .iload 1), (29, 32, .ifCond .ne 36), (32, 33, .iconst 2), (33, 36, .goto 38), (36, 38, .iconst 20), (38, 39, .ireturn),
  (39, 40, .iload 1), (40, 41, .iconst 2), (41, 44, .if_icmp .ne 48), (44, 45, .iconst 3), (45, 48, .goto 49), (48, 49, .iconst 4), (49, 50, .ireturn), (50, 51, .iload 1),
  (51, 54, .ifCond .ne 58), (54, 55, .iconst 0), (55, 58, .goto 68), (58, 59, .iload 1), (59, 60, .iconst 1), (60, 63, .if_icmp .ne 67), (63, 64, .iconst 1), (64, 67, .goto 68),
  (67, 68, .iconst 5), (68, 69, .ireturn)]
/-- SaddlerKnowsModel.items(I[III)V -/
def zc_197 : zk_C := [
  (0, 1, .iconst 0), (1, 3, .istore 5), (3, 5, .iload 5), (5, 7, .iload 4), (7, 10, .if_icmp .ge 28), (10, 11, .aload 2), (11, 12, .iload 3), (12, 14, .iload 5),
  (14, 15, .iadd), (15, 16, .iload 1), (16, 18, .iload 5), (18, 21, .invokestatic 1212196), (21, 22, .iastore), (22, 25, .iinc 5 1), (25, 28, .goto 3), (28, 29, .iconst 0),
  (29, 31, .istore 5), (31, 32, .iload 1), (32, 33, .aload 0), (33, 36, .invokevirtual 1211168), (36, 39, .invokestatic 1212194), (39, 41, .istore 6), (41, 42, .aload 0), (42, 45, .getfield 12040),
  (45, 46, .iconst (-1)), (46, 49, .if_icmp .ne 125), (49, 51, .iload 6), (51, 52, .iconst (-1)), (52, 55, .if_icmp .eq 125), (55, 57, .iload 5), (57, 59, .iload 6), (59, 62, .invokestatic 1212161),
  (62, 65, .ifCond .ne 125), (65, 67, .iload 5), (67, 68, .iconst 1), (68, 70, .iload 6), (70, 71, .ishl), (71, 72, .ior), (72, 74, .istore 5), (74, 75, .aload 0),
  (75, 76, .dup), (76, 79, .getfield 12030), (79, 80, .iconst 1), (80, 81, .iadd), (81, 84, .putfield 12030), (84, 85, .aload 2), (85, 86, .iload 3), (86, 88, .iload 6),
  (88, 89, .iadd), (89, 90, .aload 0), (90, 91, .iload 1), (91, 93, .iload 6), (93, 96, .invokestatic 1212195), (96, 99, .invokevirtual 1212193), (99, 100, .iastore), (100, 101, .aload 0),
  (101, 104, .getfield 12040), (104, 105, .iconst (-1)), (105, 108, .if_icmp .ne 119), (108, 109, .iload 1), (109, 110, .aload 0), (110, 113, .invokevirtual 1211168), (113, 116, .invokestatic 1212194), (116, 119, .goto 120),
  (119, 120, .iconst (-1)), (120, 122, .istore 6), (122, 125, .goto 41), (125, 126, .return_)]
/-- SaddlerKnowsModel.isWhole()Z -/
def zc_198 : zk_C := [
  (0, 1, .aload 0), (1, 4, .getfield 12200), (4, 5, .iconst 1), (5, 8, .if_icmp .le 12), (8, 9, .iconst 1), (9, 12, .goto 13), (12, 13, .iconst 0), (13, 14, .istore 1),
  (14, 15, .iconst 0), (15, 16, .istore 2), (16, 17, .iload 2), (17, 18, .aload 0), (18, 21, .getfield 12210), (21, 24, .if_icmp .ge 142), (24, 25, .aload 0), (25, 28, .getfield 12192),
  (28, 29, .iconst 3), (29, 30, .iload 2), (30, 31, .imul), (31, 32, .iconst 0), (32, 33, .iadd), (33, 34, .iaload), (34, 35, .istore 3), (35, 36, .aload 0),
  (36, 39, .getfield 12192), (39, 40, .iconst 3), (40, 41, .iload 2), (41, 42, .imul), (42, 43, .iconst 1), (43, 44, .iadd), (44, 45, .iaload), (45, 47, .istore 4),
  (47, 48, .iload 1), (48, 51, .ifCond .eq 78), (51, 52, .iload 3), (52, 53, .aload 0), (53, 56, .getfield 12200), (56, 59, .if_icmp .ge 78), (59, 61, .iload 4), (61, 62, .aload 0),
  (62, 65, .getfield 12200), (65, 68, .if_icmp .ge 78), (68, 69, .iload 3), (69, 71, .iload 4), (71, 74, .if_icmp .eq 78), (74, 75, .iconst 1), (75, 78, .goto 79), (78, 79, .iconst 0),
  (79, 80, .istore 1), (80, 81, .iconst 0), (81, 83, .istore 5), (83, 85, .iload 5), (85, 86, .iload 2), (86, 89, .if_icmp .ge 136), (89, 90, .iload 1), (90, 93, .ifCond .eq 128),
  (93, 94, .aload 0), (94, 97, .getfield 12192), (97, 98, .iconst 3), (98, 100, .iload 5), (100, 101, .imul), (101, 102, .iconst 0), (102, 103, .iadd), (103, 104, .iaload),
  (104, 105, .iload 3), (105, 108, .if_icmp .ne 124), (108, 109, .aload 0), (109, 112, .getfield 12192), (112, 113, .iconst 3), (113, 115, .iload 5), (115, 116, .imul), (116, 117, .iconst 1),
  (117, 118, .iadd), (118, 119, .iaload), (119, 121, .iload 4), (121, 124, .if_icmp .eq 128), (124, 125, .iconst 1), (125, 128, .goto 129), (128, 129, .iconst 0), (129, 130, .istore 1),
  (130, 133, .iinc 5 1), (133, 136, .goto 83), (136, 139, .iinc 2 1), (139, 142, .goto 16), (142, 143, .iload 1), (143, 144, .ret 1)]
/-- SaddlerKnowsModel.readCounty()I -/
def zc_199 : zk_C := [
  (0, 1, .aload 0), (1, 2, .iconst 0), (2, 5, .putfield 12030), (5, 6, .aload 0), (6, 7, .iconst (-1)), (7, 10, .putfield 12040), (10, 11, .aload 0), (11, 12, .iconst 0),
  (12, 15, .putfield 12200), (15, 16, .aload 0), (16, 17, .iconst 0), (17, 20, .putfield 12210), (20, 21, .iconst 0), (21, 22, .istore 1), (22, 23, .iconst 0), (23, 24, .istore 2),
  (24, 25, .iload 2), (25, 26, .iconst 2), (26, 29, .if_icmp .ge 47), (29, 30, .aload 0), (30, 33, .getfield 12172), (33, 34, .iload 2), (34, 36, .iconst 115), (36, 37, .iload 2),
  (37, 40, .invokestatic 1212196), (40, 41, .iastore), (41, 44, .iinc 2 1), (44, 47, .goto 24), (47, 48, .iconst 1), (48, 49, .istore 2), (49, 50, .iload 2), (50, 53, .ifCond .eq 258),
  (53, 54, .aload 0), (54, 57, .getfield 12040), (57, 58, .iconst (-1)), (58, 61, .if_icmp .ne 258), (61, 62, .aload 0), (62, 65, .invokevirtual 1211168), (65, 66, .istore 3), (66, 67, .iload 3),
  (67, 69, .iconst 115), (69, 72, .if_icmp .ne 102), (72, 73, .iload 1), (73, 76, .ifCond .ne 102), (76, 77, .iconst 1), (77, 78, .istore 1), (78, 79, .aload 0), (79, 80, .dup),
  (80, 83, .getfield 12030), (83, 84, .iconst 1), (84, 85, .iadd), (85, 88, .putfield 12030), (88, 89, .aload 0), (89, 90, .iload 3), (90, 91, .aload 0), (91, 94, .getfield 12172),
  (94, 95, .iconst 0), (95, 96, .iconst 2), (96, 99, .invokevirtual 1205197), (99, 102, .goto 214), (102, 103, .iload 3), (103, 105, .iconst 112), (105, 108, .if_icmp .ne 156), (108, 109, .aload 0),
  (109, 112, .getfield 12200), (112, 114, .iconst 6), (114, 117, .if_icmp .ge 156), (117, 118, .aload 0), (118, 119, .dup), (119, 122, .getfield 12030), (122, 123, .iconst 1), (123, 124, .iadd),
  (124, 127, .putfield 12030), (127, 128, .aload 0), (128, 129, .iload 3), (129, 130, .aload 0), (130, 133, .getfield 12182), (133, 134, .iconst 3), (134, 135, .aload 0), (135, 138, .getfield 12200),
  (138, 139, .imul), (139, 140, .iconst 3), (140, 143, .invokevirtual 1205197), (143, 144, .aload 0), (144, 145, .dup), (145, 148, .getfield 12200), (148, 149, .iconst 1), (149, 150, .iadd),
  (150, 153, .putfield 12200), (153, 156, .goto 214), (156, 157, .iload 3), (157, 159, .iconst 108), (159, 162, .if_icmp .ne 210), (162, 163, .aload 0), (163, 166, .getfield 12210), (166, 168, .iconst 8),
  (168, 171, .if_icmp .ge 210), (171, 172, .aload 0), (172, 173, .dup), (173, 176, .getfield 12030), (176, 177, .iconst 1), (177, 178, .iadd), (178, 181, .putfield 12030), (181, 182, .aload 0),
  (182, 183, .iload 3), (183, 184, .aload 0), (184, 187, .getfield 12192), (187, 188, .iconst 3), (188, 189, .aload 0), (189, 192, .getfield 12210), (192, 193, .imul), (193, 194, .iconst 3),
  (194, 197, .invokevirtual 1205197), (197, 198, .aload 0), (198, 199, .dup), (199, 202, .getfield 12210), (202, 203, .iconst 1), (203, 204, .iadd), (204, 207, .putfield 12210), (207, 210, .goto 214),
  (210, 211, .aload 0), (211, 214, .invokevirtual 1201169), (214, 215, .aload 0), (215, 218, .getfield 12040), (218, 219, .iconst (-1)), (219, 222, .if_icmp .ne 235), (222, 223, .aload 0), (223, 226, .invokevirtual 1211168),
  (226, 228, .iconst 59), (228, 231, .if_icmp .ne 235), (231, 232, .iconst 1), (232, 235, .goto 236), (235, 236, .iconst 0), (236, 237, .istore 2), (237, 238, .aload 0), (238, 239, .dup),
  (239, 242, .getfield 12030), (242, 243, .iload 2), (243, 246, .ifCond .eq 250), (246, 247, .iconst 1), (247, 250, .goto 251), (250, 251, .iconst 0), (251, 252, .iadd), (252, 255, .putfield 12030),
  (255, 258, .goto 49), (258, 259, .aload 0), (259, 262, .getfield 12040), (262, 263, .iconst (-1)), (263, 266, .if_icmp .ne 285), (266, 267, .aload 0), (267, 270, .invokevirtual 1211168), (270, 271, .iconst (-1)),
  (271, 274, .if_icmp .ne 281), (274, 275, .aload 0), (275, 278, .invokevirtual 1211198), (278, 281, .ifCond .ne 285), (281, 282, .aload 0), (282, 285, .invokevirtual 1201169), (285, 286, .aload 0), (286, 289, .getfield 12040),
  (289, 290, .ireturn)]
/-- SaddlerKnowsModel.fault(I)I -/
def zc_200 : zk_C := [
  (0, 1, .iload 1), (1, 4, .ifCond .ne 11), (4, 5, .aload 0), (5, 8, .invokevirtual 1211199), (8, 11, .goto 26), (11, 12, .iload 1), (12, 13, .iconst 1), (13, 16, .if_icmp .ne 24),
  (16, 17, .aload 0), (17, 18, .iconst 4), (18, 21, .invokevirtual 1212188), (21, 24, .goto 26), (24, 26, .iconst (-2)), (26, 27, .ireturn)]
/-- SaddlerKnowsModel.layTold()V -/
def zc_201 : zk_C := [
  (0, 1, .iconst 0), (1, 2, .istore 1), (2, 3, .iload 1), (3, 5, .iconst 40), (5, 8, .if_icmp .ge 21), (8, 9, .aload 0), (9, 12, .getfield 12272), (12, 13, .iload 1),
  (13, 14, .iconst 0), (14, 15, .iastore), (15, 18, .iinc 1 1), (18, 21, .goto 2), (21, 22, .iconst 0), (22, 23, .istore 1), (23, 24, .iload 1), (24, 25, .aload 0),
  (25, 28, .getfield 12260), (28, 31, .if_icmp .ge 81), (31, 32, .iconst 0), (32, 33, .istore 2), (33, 34, .iload 2), (34, 35, .iconst 3), (35, 38, .if_icmp .ge 64), (38, 39, .aload 0),
  (39, 42, .getfield 12272), (42, 43, .iconst 4), (43, 44, .iload 1), (44, 45, .imul), (45, 46, .iload 2), (46, 47, .iadd), (47, 48, .aload 0), (48, 51, .getfield 12242),
  (51, 52, .iconst 3), (52, 53, .iload 1), (53, 54, .imul), (54, 55, .iload 2), (55, 56, .iadd), (56, 57, .iaload), (57, 58, .iastore), (58, 61, .iinc 2 1),
  (61, 64, .goto 33), (64, 65, .aload 0), (65, 68, .getfield 12272), (68, 69, .iconst 4), (69, 70, .iload 1), (70, 71, .imul), (71, 72, .iconst 3), (72, 73, .iadd),
  (73, 74, .iconst 1), (74, 75, .iastore), (75, 78, .iinc 1 1), (78, 81, .goto 23), (81, 82, .aload 0), (82, 85, .getfield 12272), (85, 87, .iconst 38), (87, 88, .aload 0),
  (88, 91, .getfield 12222), (91, 92, .iconst 1), (92, 93, .iaload), (93, 94, .iastore), (94, 95, .return_)]
/-- SaddlerKnowsModel.takeCounty()I -/
def zc_202 : zk_C := [
  (0, 1, .aload 0), (1, 2, .aload 0), (2, 5, .getfield 12200), (5, 8, .putfield 12250), (8, 9, .aload 0), (9, 10, .aload 0), (10, 13, .getfield 12210), (13, 16, .putfield 12260),
  (16, 17, .iconst 0), (17, 18, .istore 1), (18, 19, .iload 1), (19, 20, .iconst 2), (20, 23, .if_icmp .ge 41), (23, 24, .aload 0), (24, 27, .getfield 12222), (27, 28, .iload 1),
  (28, 29, .aload 0), (29, 32, .getfield 12172), (32, 33, .iload 1), (33, 34, .iaload), (34, 35, .iastore), (35, 38, .iinc 1 1), (38, 41, .goto 18), (41, 42, .iconst 0),
  (42, 43, .istore 1), (43, 44, .iload 1), (44, 46, .iconst 18), (46, 49, .if_icmp .ge 67), (49, 50, .aload 0), (50, 53, .getfield 12232), (53, 54, .iload 1), (54, 55, .aload 0),
  (55, 58, .getfield 12182), (58, 59, .iload 1), (59, 60, .iaload), (60, 61, .iastore), (61, 64, .iinc 1 1), (64, 67, .goto 43), (67, 68, .iconst 0), (68, 69, .istore 1),
  (69, 70, .iload 1), (70, 72, .iconst 24), (72, 75, .if_icmp .ge 93), (75, 76, .aload 0), (76, 79, .getfield 12242), (79, 80, .iload 1), (80, 81, .aload 0), (81, 84, .getfield 12192),
  (84, 85, .iload 1), (85, 86, .iaload), (86, 87, .iastore), (87, 90, .iinc 1 1), (90, 93, .goto 69), (93, 94, .iconst 0), (94, 95, .istore 1), (95, 96, .iload 1),
  (96, 99, .iconst 221), (99, 102, .if_icmp .ge 115), (102, 103, .aload 0), (103, 106, .getfield 12272), (106, 107, .iload 1), (107, 108, .iconst 0), (108, 109, .iastore), (109, 112, .iinc 1 1),
  (112, 115, .goto 95), (115, 116, .aload 0), (116, 119, .invokevirtual 1201201), (119, 120, .aload 0), (120, 121, .iconst 0), (121, 124, .putfield 12460), (124, 125, .aload 0), (125, 126, .iconst 0),
  (126, 129, .putfield 12340), (129, 130, .aload 0), (130, 131, .iconst 0), (131, 134, .putfield 12503), (134, 135, .aload 0), (135, 138, .getfield 12250), (138, 139, .ireturn)]
/-- SaddlerKnowsModel.text(I)I -/
def zc_203 : zk_C := [
  (0, 1, .iload 1), (1, 4, .ifCond .ne 22), (4, 5, .aload 0), (5, 8, .invokevirtual 1211199), (8, 9, .iconst (-1)), (9, 12, .if_icmp .ne 22), (12, 13, .aload 0), (13, 14, .iconst 0),
  (14, 17, .putfield 12020), (17, 18, .aload 0), (18, 21, .invokevirtual 1211202), (21, 22, .ireturn), (22, 23, .iload 1), (23, 24, .iconst 1), (24, 27, .if_icmp .ne 69), (27, 28, .aload 0),
  (28, 31, .getfield 12130), (31, 32, .iconst 4), (32, 35, .if_icmp .ge 69), (35, 36, .aload 0), (36, 37, .aload 0), (37, 40, .getfield 12130), (40, 43, .invokevirtual 1212188), (43, 44, .iconst (-1)),
  (44, 47, .if_icmp .ne 69), (47, 48, .aload 0), (48, 49, .iconst 0), (49, 52, .putfield 12020), (52, 53, .aload 0), (53, 54, .dup), (54, 57, .getfield 12130), (57, 58, .iconst 1),
  (58, 59, .iadd), (59, 62, .putfield 12130), (62, 63, .aload 0), (63, 66, .getfield 12130), (66, 67, .iconst 1), (67, 68, .isub), (68, 69, .ireturn), (69, 70, .iconst (-1)),
  (70, 71, .ireturn)]
/-- SaddlerKnowsModel.isPerson(I)Z -/
def zc_204 : zk_C := [
  (0, 1, .iload 1), (1, 2, .iconst 0), (2, 3, .aload 0), (3, 6, .getfield 12250), (6, 7, .iconst 1), (7, 8, .isub), (8, 11, .invokestatic 1213160), (11, 12, .ret 1)]
/-- SaddlerKnowsModel.areTwo(II)Z -/
def zc_205 : zk_C := [
  (0, 1, .aload 0), (1, 2, .iload 1), (2, 5, .invokevirtual 1212204), (5, 8, .ifCond .eq 25), (8, 9, .aload 0), (9, 10, .iload 2), (10, 13, .invokevirtual 1212204), (13, 16, .ifCond .eq 25),
  (16, 17, .iload 1), (17, 18, .iload 2), (18, 21, .if_icmp .eq 25), (21, 22, .iconst 1), (22, 25, .goto 26), (25, 26, .iconst 0), (26, 27, .ret 1)]
/-- SaddlerKnowsModel.ofPerson(II)I -/
def zc_206 : zk_C := [
  (0, 1, .aload 0), (1, 4, .getfield 12232), (4, 5, .iconst 3), (5, 6, .iload 1), (6, 7, .imul), (7, 8, .iload 2), (8, 9, .iadd), (9, 10, .iaload),
  (10, 11, .ireturn)]
/-- SaddlerKnowsModel.of(II)I -/
def zc_207 : zk_C := [
  (0, 1, .aload 0), (1, 4, .getfield 12272), (4, 5, .iconst 4), (5, 6, .iload 1), (6, 7, .imul), (7, 8, .iload 2), (8, 9, .iadd), (9, 10, .iaload),
  (10, 11, .ireturn)]
/-- SaddlerKnowsModel.isThere(I)Z -/
def zc_208 : zk_C := [
  (0, 1, .aload 0), (1, 4, .getfield 12250), (4, 7, .ifCond .le 31), (7, 8, .iload 1), (8, 9, .iconst 0), (9, 11, .iconst 7), (11, 14, .invokestatic 1213160), (14, 17, .ifCond .eq 31),
  (17, 18, .aload 0), (18, 19, .iload 1), (19, 20, .iconst 3), (20, 23, .invokevirtual 1213207), (23, 24, .iconst 1), (24, 27, .if_icmp .ne 31), (27, 28, .iconst 1), (28, 31, .goto 32),
  (31, 32, .iconst 0), (32, 33, .ret 1)]
/-- SaddlerKnowsModel.isOn(II)Z -/
def zc_209 : zk_C := [
  (0, 1, .aload 0), (1, 2, .iload 1), (2, 5, .invokevirtual 1212208), (5, 8, .ifCond .eq 22), (8, 9, .aload 0), (9, 10, .iload 1), (10, 11, .iconst 1), (11, 14, .invokevirtual 1213207),
  (14, 15, .iload 2), (15, 18, .if_icmp .ne 22), (18, 19, .iconst 1), (19, 22, .goto 23), (22, 23, .iconst 0), (23, 24, .ret 1)]
/-- SaddlerKnowsModel.limitOf(I)I -/
def zc_210 : zk_C := [
  (0, 2, .iconst 30), (2, 3, .iconst 2), (3, 4, .aload 0), (4, 5, .iload 1), (5, 6, .iconst 2), (6, 9, .invokevirtual 1213206), (9, 10, .imul), (10, 11, .isub),
  (11, 12, .ireturn)]
/-- SaddlerKnowsModel.pinchBy(III)I -/
def zc_211 : zk_C := [
  (0, 1, .iload 3), (1, 2, .aload 0), (2, 3, .iload 2), (3, 4, .iconst 1), (4, 7, .invokevirtual 1213206), (7, 8, .isub), (8, 11, .invokestatic 1511296), (11, 12, .aload 0),
  (12, 13, .iload 1), (13, 14, .iconst 0), (14, 17, .invokevirtual 1213206), (17, 18, .iconst 3), (18, 19, .idiv), (19, 20, .iadd), (20, 22, .istore 4), (22, 23, .aload 0),
  (23, 26, .getfield 12290), (26, 27, .iconst (-1)), (27, 30, .if_icmp .eq 114), (30, 31, .aload 0), (31, 34, .getfield 12152), (34, 35, .iconst 0), (35, 36, .aload 0), (36, 37, .iload 1),
  (37, 38, .iconst 0), (38, 41, .invokevirtual 1213206), (41, 42, .iastore), (42, 43, .aload 0), (43, 46, .getfield 12152), (46, 47, .iconst 1), (47, 48, .aload 0), (48, 49, .iload 2),
  (49, 50, .iconst 1), (50, 53, .invokevirtual 1213206), (53, 54, .iastore), (54, 55, .aload 0), (55, 58, .getfield 12152), (58, 59, .iconst 2), (59, 60, .iload 3), (60, 61, .iastore),
  (61, 62, .aload 0), (62, 65, .getfield 12152), (65, 66, .iconst 3), (66, 67, .aload 0), (67, 68, .iload 2), (68, 69, .iconst 2), (69, 72, .invokevirtual 1213206), (72, 73, .iastore),
  (73, 74, .aload 0), (74, 77, .getfield 12152), (77, 78, .iconst 4), (78, 79, .aload 0), (79, 82, .getfield 12272), (82, 84, .iconst 32), (84, 85, .iload 2), (85, 86, .iadd),
  (86, 87, .iaload), (87, 88, .iastore), (88, 89, .aload 0), (89, 92, .getfield 12152), (92, 93, .iconst 5), (93, 94, .aload 0), (94, 97, .getfield 12272), (97, 99, .iconst 39),
  (99, 100, .iaload), (100, 102, .iconst 100), (102, 103, .irem), (103, 104, .iastore), (104, 105, .aload 0), (105, 106, .aload 0), (106, 109, .getfield 12290), (109, 112, .invokevirtual 1212192),
  (112, 114, .istore 4), (114, 115, .iconst 0), (115, 117, .iconst 30), (117, 119, .iload 4), (119, 122, .invokestatic 1512299), (122, 125, .invokestatic 1512297), (125, 126, .ireturn)]
/-- SaddlerKnowsModel.pinchOf(I)I -/
def zc_212 : zk_C := [
  (0, 1, .aload 0), (1, 2, .aload 0), (2, 3, .iload 1), (3, 4, .iconst 0), (4, 7, .invokevirtual 1213207), (7, 8, .aload 0), (8, 9, .iload 1), (9, 10, .iconst 1),
  (10, 13, .invokevirtual 1213207), (13, 14, .aload 0), (14, 15, .iload 1), (15, 16, .iconst 2), (16, 19, .invokevirtual 1213207), (19, 22, .invokevirtual 1214211), (22, 23, .ireturn)]
/-- SaddlerKnowsModel.loadOf(I)I -/
def zc_213 : zk_C := [
  (0, 1, .iconst 0), (1, 2, .istore 2), (2, 3, .iconst 0), (3, 4, .istore 3), (4, 5, .iload 3), (5, 7, .iconst 8), (7, 10, .if_icmp .ge 37), (10, 11, .iload 2),
  (11, 12, .aload 0), (12, 13, .iload 3), (13, 14, .iload 1), (14, 17, .invokevirtual 1213209), (17, 20, .ifCond .eq 28), (20, 21, .aload 0), (21, 22, .iload 3), (22, 25, .invokevirtual 1212212),
  (25, 28, .goto 29), (28, 29, .iconst 0), (29, 30, .iadd), (30, 31, .istore 2), (31, 34, .iinc 3 1), (34, 37, .goto 4), (37, 38, .iload 2), (38, 39, .ireturn)]
/-- SaddlerKnowsModel.bornBy(I)I -/
def zc_214 : zk_C := [
  (0, 1, .iconst 0), (1, 2, .istore 2), (2, 3, .iconst 0), (3, 4, .istore 3), (4, 5, .iload 3), (5, 7, .iconst 8), (7, 10, .if_icmp .ge 35), (10, 11, .iload 2),
  (11, 12, .aload 0), (12, 13, .iload 3), (13, 14, .iload 1), (14, 17, .invokevirtual 1213209), (17, 20, .ifCond .eq 26), (20, 21, .iconst 1), (21, 22, .iload 3), (22, 23, .ishl),
  (23, 26, .goto 27), (26, 27, .iconst 0), (27, 28, .ior), (28, 29, .istore 2), (29, 32, .iinc 3 1), (32, 35, .goto 4), (35, 36, .iload 2), (36, 37, .ireturn)]
/-- SaddlerKnowsModel.satBy(I)I -/
def zc_215 : zk_C := [
  (0, 1, .iconst 0), (1, 2, .istore 2), (2, 3, .iconst 0), (3, 4, .istore 3), (4, 5, .iload 3), (5, 7, .iconst 8), (7, 10, .if_icmp .ge 42), (10, 11, .iload 2),
  (11, 12, .aload 0), (12, 13, .iload 3), (13, 16, .invokevirtual 1212208), (16, 19, .ifCond .eq 33), (19, 20, .aload 0), (20, 21, .iload 3), (21, 22, .iconst 0), (22, 25, .invokevirtual 1213207),
  (25, 26, .iload 1), (26, 29, .if_icmp .ne 33), (29, 30, .iconst 1), (30, 33, .goto 34), (33, 34, .iconst 0), (34, 35, .iadd), (35, 36, .istore 2), (36, 39, .iinc 3 1),
  (39, 42, .goto 4), (42, 43, .iload 2), (43, 44, .ireturn)]
/-- SaddlerKnowsModel.saddleOnes()I -/
def zc_216 : zk_C := [
  (0, 1, .iconst 0), (1, 2, .istore 1), (2, 3, .iconst 0), (3, 4, .istore 2), (4, 5, .iload 2), (5, 7, .iconst 8), (7, 10, .if_icmp .ge 34), (10, 11, .iload 1),
  (11, 12, .aload 0), (12, 13, .iload 2), (13, 16, .invokevirtual 1212208), (16, 19, .ifCond .eq 25), (19, 20, .iconst 1), (20, 21, .iload 2), (21, 22, .ishl), (22, 25, .goto 26),
  (25, 26, .iconst 0), (26, 27, .ior), (27, 28, .istore 1), (28, 31, .iinc 2 1), (31, 34, .goto 4), (34, 35, .iload 1), (35, 36, .ireturn)]
/-- SaddlerKnowsModel.allGall()I -/
def zc_217 : zk_C := [
  (0, 1, .iconst 0), (1, 2, .istore 1), (2, 3, .iconst 0), (3, 4, .istore 2), (4, 5, .iload 2), (5, 6, .aload 0), (6, 9, .getfield 12250), (9, 12, .if_icmp .ge 30),
  (12, 13, .iload 1), (13, 14, .aload 0), (14, 17, .getfield 12272), (17, 19, .iconst 32), (19, 20, .iload 2), (20, 21, .iadd), (21, 22, .iaload), (22, 23, .iadd),
  (23, 24, .istore 1), (24, 27, .iinc 2 1), (27, 30, .goto 4), (30, 31, .iload 1), (31, 32, .ireturn)]
/-- SaddlerKnowsModel.throwAll(I)V -/
def zc_218 : zk_C := [
  (0, 1, .aload 0), (1, 2, .dup), (2, 5, .getfield 12320), (5, 6, .iconst 1), (6, 7, .iload 1), (7, 8, .ishl), (8, 9, .ior), (9, 12, .putfield 12320),
  (12, 13, .aload 0), (13, 16, .getfield 12272), (16, 18, .iconst 32), (18, 19, .iload 1), (19, 20, .iadd), (20, 21, .dup2), (21, 22, .iaload), (22, 23, .iconst 2),
  (23, 24, .idiv), (24, 25, .iastore), (25, 26, .iconst 0), (26, 27, .istore 2), (27, 28, .iload 2), (28, 30, .iconst 8), (30, 33, .if_icmp .ge 68), (33, 34, .aload 0),
  (34, 37, .getfield 12272), (37, 38, .iconst 4), (38, 39, .iload 2), (39, 40, .imul), (40, 41, .iconst 3), (41, 42, .iadd), (42, 43, .aload 0), (43, 44, .iload 2),
  (44, 45, .iload 1), (45, 48, .invokevirtual 1213209), (48, 51, .ifCond .eq 55), (51, 52, .iconst 0), (52, 55, .goto 61), (55, 56, .aload 0), (56, 57, .iload 2), (57, 58, .iconst 3),
  (58, 61, .invokevirtual 1213207), (61, 62, .iastore), (62, 65, .iinc 2 1), (65, 68, .goto 27), (68, 69, .return_)]
/-- SaddlerKnowsModel.heal(I)V -/
def zc_219 : zk_C := [
  (0, 1, .aload 0), (1, 4, .getfield 12272), (4, 6, .iconst 32), (6, 7, .iload 1), (7, 8, .iadd), (8, 9, .iconst 0), (9, 10, .aload 0), (10, 13, .getfield 12272),
  (13, 15, .iconst 32), (15, 16, .iload 1), (16, 17, .iadd), (17, 18, .iaload), (18, 19, .aload 0), (19, 22, .getfield 12222), (22, 23, .iconst 0), (23, 24, .iaload),
  (24, 25, .isub), (25, 28, .invokestatic 1512297), (28, 29, .iastore), (29, 30, .return_)]
/-- SaddlerKnowsModel.live(I)V -/
def zc_220 : zk_C := [
  (0, 1, .iconst 0), (1, 2, .istore 2), (2, 3, .iload 2), (3, 4, .aload 0), (4, 7, .getfield 12250), (7, 10, .if_icmp .ge 27), (10, 11, .aload 0), (11, 14, .getfield 12312),
  (14, 15, .iload 2), (15, 16, .aload 0), (16, 17, .iload 2), (17, 20, .invokevirtual 1212213), (20, 21, .iastore), (21, 24, .iinc 2 1), (24, 27, .goto 2), (27, 28, .aload 0),
  (28, 29, .iconst 0), (29, 32, .putfield 12320), (32, 33, .iconst 0), (33, 34, .istore 2), (34, 35, .iload 2), (35, 36, .aload 0), (36, 39, .getfield 12250), (39, 42, .if_icmp .ge 121),
  (42, 43, .iload 2), (43, 44, .iload 1), (44, 47, .if_icmp .eq 55), (47, 48, .aload 0), (48, 49, .iload 2), (49, 52, .invokevirtual 1212214), (52, 55, .ifCond .ne 63), (55, 56, .aload 0),
  (56, 57, .iload 2), (57, 60, .invokevirtual 1202219), (60, 63, .goto 115), (63, 64, .aload 0), (64, 67, .getfield 12272), (67, 69, .iconst 32), (69, 70, .iload 2), (70, 71, .iadd),
  (71, 73, .iconst 99), (73, 74, .aload 0), (74, 77, .getfield 12272), (77, 79, .iconst 32), (79, 80, .iload 2), (80, 81, .iadd), (81, 82, .iaload), (82, 83, .aload 0),
  (83, 86, .getfield 12312), (86, 87, .iload 2), (87, 88, .iaload), (88, 89, .iadd), (89, 92, .invokestatic 1512299), (92, 93, .iastore), (93, 94, .aload 0), (94, 97, .getfield 12272),
  (97, 99, .iconst 32), (99, 100, .iload 2), (100, 101, .iadd), (101, 102, .iaload), (102, 103, .aload 0), (103, 104, .iload 2), (104, 107, .invokevirtual 1212210), (107, 110, .if_icmp .lt 115),
  (110, 111, .aload 0), (111, 112, .iload 2), (112, 115, .invokevirtual 1202218), (115, 118, .iinc 2 1), (118, 121, .goto 34), (121, 122, .aload 0), (122, 125, .getfield 12272), (125, 127, .iconst 38),
  (127, 130, .iconst 999), (130, 131, .aload 0), (131, 134, .getfield 12272), (134, 136, .iconst 38), (136, 137, .iaload), (137, 138, .aload 0), (138, 141, .invokevirtual 1211216), (141, 144, .invokestatic 1611301),
  (144, 145, .iadd), (145, 148, .invokestatic 1512299), (148, 149, .iastore), (149, 150, .aload 0), (150, 153, .getfield 12272), (153, 155, .iconst 39), (155, 156, .dup2), (156, 157, .iaload),
  (157, 158, .iconst 1), (158, 159, .iadd), (159, 160, .iastore), (160, 161, .return_)]
/-- SaddlerKnowsModel.passWeek()V -/
def zc_221 : zk_C := [
  (0, 1, .aload 0), (1, 2, .iconst (-1)), (2, 5, .invokevirtual 1202220), (5, 6, .aload 0), (6, 9, .getfield 12272), (9, 11, .iconst 40), (11, 12, .iaload), (12, 14, .iconst 60),
  (14, 17, .if_icmp .ne 63), (17, 18, .iconst 3), (18, 19, .istore 1), (19, 20, .iload 1), (20, 23, .iconst 180), (23, 26, .if_icmp .ge 52), (26, 27, .aload 0), (27, 30, .getfield 12272),
  (30, 32, .iconst 41), (32, 33, .iload 1), (33, 34, .iadd), (34, 35, .iconst 3), (35, 36, .isub), (36, 37, .aload 0), (37, 40, .getfield 12272), (40, 42, .iconst 41),
  (42, 43, .iload 1), (43, 44, .iadd), (44, 45, .iaload), (45, 46, .iastore), (46, 49, .iinc 1 1), (49, 52, .goto 19), (52, 53, .aload 0), (53, 56, .getfield 12272),
  (56, 58, .iconst 40), (58, 59, .dup2), (59, 60, .iaload), (60, 61, .iconst 1), (61, 62, .isub), (62, 63, .iastore), (63, 65, .iconst 41), (65, 66, .iconst 3),
  (66, 67, .aload 0), (67, 70, .getfield 12272), (70, 72, .iconst 40), (72, 73, .iaload), (73, 74, .imul), (74, 75, .iadd), (75, 76, .istore 1), (76, 77, .aload 0),
  (77, 80, .getfield 12272), (80, 81, .iload 1), (81, 82, .aload 0), (82, 85, .getfield 12320), (85, 86, .iastore), (86, 87, .aload 0), (87, 90, .getfield 12272), (90, 91, .iload 1),
  (91, 92, .iconst 1), (92, 93, .iadd), (93, 94, .aload 0), (94, 97, .invokevirtual 1211217), (97, 98, .iastore), (98, 99, .aload 0), (99, 102, .getfield 12272), (102, 103, .iload 1),
  (103, 104, .iconst 2), (104, 105, .iadd), (105, 106, .aload 0), (106, 109, .invokevirtual 1211216), (109, 112, .invokestatic 1611301), (112, 113, .iastore), (113, 114, .aload 0), (114, 117, .getfield 12272),
  (117, 119, .iconst 40), (119, 120, .dup2), (120, 121, .iaload), (121, 122, .iconst 1), (122, 123, .iadd), (123, 124, .iastore), (124, 125, .return_)]
/-- SaddlerKnowsModel.aboveOf(I)I -/
def zc_222 : zk_C := [
  (0, 1, .iconst 0), (1, 2, .istore 2), (2, 3, .iconst 1), (3, 4, .istore 3), (4, 5, .iload 3), (5, 8, .ifCond .eq 91), (8, 9, .iconst 0), (9, 10, .istore 3),
  (10, 11, .iconst 0), (11, 13, .istore 4), (13, 15, .iload 4), (15, 17, .iconst 8), (17, 20, .if_icmp .ge 88), (20, 21, .aload 0), (21, 23, .iload 4), (23, 26, .invokevirtual 1212208),
  (26, 29, .ifCond .eq 82), (29, 30, .aload 0), (30, 32, .iload 4), (32, 33, .iconst 0), (33, 36, .invokevirtual 1213207), (36, 37, .iload 1), (37, 40, .if_icmp .eq 54), (40, 41, .iload 2),
  (41, 42, .aload 0), (42, 44, .iload 4), (44, 45, .iconst 0), (45, 48, .invokevirtual 1213207), (48, 51, .invokestatic 1212161), (51, 54, .ifCond .eq 82), (54, 55, .iload 2), (55, 56, .aload 0),
  (56, 58, .iload 4), (58, 59, .iconst 1), (59, 62, .invokevirtual 1213207), (62, 65, .invokestatic 1212161), (65, 68, .ifCond .ne 82), (68, 69, .iload 2), (69, 70, .iconst 1), (70, 71, .aload 0),
  (71, 73, .iload 4), (73, 74, .iconst 1), (74, 77, .invokevirtual 1213207), (77, 78, .ishl), (78, 79, .ior), (79, 80, .istore 2), (80, 81, .iconst 1), (81, 82, .istore 3),
  (82, 85, .iinc 4 1), (85, 88, .goto 13), (88, 91, .goto 4), (91, 92, .iload 2), (92, 93, .ireturn)]
/-- SaddlerKnowsModel.rule(I)I -/
def zc_223 : zk_C := [
  (0, 1, .aload 0), (1, 4, .getfield 12250), (4, 7, .ifCond .eq 16), (7, 8, .iload 1), (8, 9, .iconst 0), (9, 10, .iconst 1), (10, 13, .invokestatic 1213160), (13, 16, .ifCond .ne 20),
  (16, 17, .iconst (-1)), (17, 20, .goto 40), (20, 21, .iload 1), (21, 24, .ifCond .ne 33), (24, 25, .aload 0), (25, 28, .getfield 12222), (28, 29, .iconst 0), (29, 30, .iaload),
  (30, 33, .goto 40), (33, 34, .aload 0), (34, 37, .getfield 12272), (37, 39, .iconst 38), (39, 40, .iaload), (40, 41, .ireturn)]
/-- SaddlerKnowsModel.person(II)I -/
def zc_224 : zk_C := [
  (0, 1, .aload 0), (1, 2, .aload 0), (2, 3, .iload 1), (3, 6, .invokevirtual 1212204), (6, 9, .ifCond .eq 22), (9, 10, .iload 2), (10, 11, .iconst 0), (11, 12, .iconst 5),
  (12, 15, .invokestatic 1213160), (15, 18, .ifCond .eq 22), (18, 19, .iconst 0), (19, 22, .goto 23), (22, 23, .iconst 1), (23, 26, .putfield 12000), (26, 27, .aload 0), (27, 30, .getfield 12000),
  (30, 31, .iconst 1), (31, 34, .if_icmp .ne 36), (34, 35, .iconst 0), (35, 36, .ireturn), (36, 37, .iload 2), (37, 64, .lookupswitch 86 #[(3, 64), (4, 74), (5, 80)]), (64, 65, .aload 0), (65, 68, .getfield 12272),
  (68, 70, .iconst 32), (70, 71, .iload 1), (71, 72, .iadd), (72, 73, .iaload), (73, 74, .ireturn), (74, 75, .aload 0), (75, 76, .iload 1), (76, 79, .invokevirtual 1212213),
  (79, 80, .ireturn), (80, 81, .aload 0), (81, 82, .iload 1), (82, 85, .invokevirtual 1212222), (85, 86, .ireturn), (86, 87, .aload 0), (87, 88, .iload 1), (88, 89, .iload 2),
  (89, 92, .invokevirtual 1213206), (92, 93, .ireturn)]
/-- SaddlerKnowsModel.saddle(II)I -/
def zc_225 : zk_C := [
  (0, 1, .aload 0), (1, 2, .iload 1), (2, 5, .invokevirtual 1212208), (5, 8, .ifCond .eq 17), (8, 9, .iload 2), (9, 10, .iconst 0), (10, 11, .iconst 3), (11, 14, .invokestatic 1213160),
  (14, 17, .ifCond .ne 21), (17, 18, .iconst (-1)), (18, 21, .goto 40), (21, 22, .iload 2), (22, 23, .iconst 3), (23, 26, .if_icmp .ne 34), (26, 27, .aload 0), (27, 28, .iload 1),
  (28, 31, .invokevirtual 1212212), (31, 34, .goto 40), (34, 35, .aload 0), (35, 36, .iload 1), (36, 37, .iload 2), (37, 40, .invokevirtual 1213207), (40, 41, .ireturn)]
/-- SaddlerKnowsModel.law(I)Z -/
def zc_226 : zk_C := [
  (0, 1, .iload 1), (1, 2, .iconst (-1)), (2, 3, .aload 0), (3, 6, .getfield 12130), (6, 7, .iconst 1), (7, 8, .isub), (8, 11, .invokestatic 1213160), (11, 14, .ifCond .ne 16),
  (14, 15, .iconst 0), (15, 16, .ret 1), (16, 17, .aload 0), (17, 18, .iload 1), (18, 21, .putfield 12290), (21, 22, .iconst 1), (22, 23, .ret 1)]
/-- SaddlerKnowsModel.keep()V -/
def zc_227 : zk_C := [
  (0, 1, .aload 0), (1, 4, .getfield 12340), (4, 6, .iconst 40), (6, 9, .if_icmp .ne 52), (9, 12, .iconst 221), (12, 13, .istore 1), (13, 14, .iload 1), (14, 17, .iconst 8840),
  (17, 20, .if_icmp .ge 42), (20, 21, .aload 0), (21, 24, .getfield 12332), (24, 25, .iload 1), (25, 28, .iconst 221), (28, 29, .isub), (29, 30, .aload 0), (30, 33, .getfield 12332),
  (33, 34, .iload 1), (34, 35, .iaload), (35, 36, .iastore), (36, 39, .iinc 1 1), (39, 42, .goto 13), (42, 43, .aload 0), (43, 44, .dup), (44, 47, .getfield 12340),
  (47, 48, .iconst 1), (48, 49, .isub), (49, 52, .putfield 12340), (52, 53, .iconst 0), (53, 54, .istore 1), (54, 55, .iload 1), (55, 58, .iconst 221), (58, 61, .if_icmp .ge 88),
  (61, 62, .aload 0), (62, 65, .getfield 12332), (65, 68, .iconst 221), (68, 69, .aload 0), (69, 72, .getfield 12340), (72, 73, .imul), (73, 74, .iload 1), (74, 75, .iadd),
  (75, 76, .aload 0), (76, 79, .getfield 12272), (79, 80, .iload 1), (80, 81, .iaload), (81, 82, .iastore), (82, 85, .iinc 1 1), (85, 88, .goto 54), (88, 89, .aload 0),
  (89, 90, .dup), (90, 93, .getfield 12340), (93, 94, .iconst 1), (94, 95, .iadd), (95, 98, .putfield 12340), (98, 99, .return_)]
/-- SaddlerKnowsModel.isRefused(I)Z -/
def zc_228 : zk_C := [
  (0, 1, .iload 1), (1, 2, .iconst (-1)), (2, 5, .if_icmp .eq 15), (5, 6, .aload 0), (6, 9, .getfield 12282), (9, 10, .iload 1), (10, 11, .dup2), (11, 12, .iaload),
  (12, 13, .iconst 1), (13, 14, .iadd), (14, 15, .iastore), (15, 16, .iload 1), (16, 17, .iconst (-1)), (17, 20, .if_icmp .eq 24), (20, 21, .iconst 1), (21, 24, .goto 25),
  (24, 25, .iconst 0), (25, 26, .ret 1)]
/-- SaddlerKnowsModel.areWeeks(I)Z -/
def zc_229 : zk_C := [
  (0, 1, .iload 1), (1, 2, .iconst 1), (2, 4, .iconst 60), (4, 7, .invokestatic 1213160), (7, 10, .ifCond .eq 29), (10, 11, .aload 0), (11, 14, .getfield 12272), (14, 16, .iconst 39),
  (16, 17, .iaload), (17, 18, .iload 1), (18, 19, .iadd), (19, 22, .iconst 999), (22, 25, .if_icmp .gt 29), (25, 26, .iconst 1), (26, 29, .goto 30), (29, 30, .iconst 0),
  (30, 31, .ret 1)]
/-- SaddlerKnowsModel.weeks(I)I -/
def zc_230 : zk_C := [
  (0, 1, .aload 0), (1, 2, .aload 0), (2, 5, .getfield 12250), (5, 8, .ifCond .ne 12), (8, 9, .iconst 0), (9, 12, .goto 39), (12, 13, .iload 1), (13, 14, .iconst 1),
  (14, 16, .iconst 60), (16, 19, .invokestatic 1213160), (19, 22, .ifCond .ne 26), (22, 23, .iconst 1), (23, 26, .goto 39), (26, 27, .aload 0), (27, 28, .iload 1), (28, 31, .invokevirtual 1212229),
  (31, 34, .ifCond .ne 38), (34, 35, .iconst 4), (35, 38, .goto 39), (38, 39, .iconst (-1)), (39, 42, .invokevirtual 1212228), (42, 45, .ifCond .eq 47), (45, 46, .iconst (-1)), (46, 47, .ireturn),
  (47, 48, .iconst 0), (48, 49, .istore 2), (49, 50, .iload 2), (50, 51, .iload 1), (51, 54, .if_icmp .ge 68), (54, 55, .aload 0), (55, 58, .invokevirtual 1201227), (58, 59, .aload 0),
  (59, 62, .invokevirtual 1201221), (62, 65, .iinc 2 1), (65, 68, .goto 49), (68, 69, .aload 0), (69, 72, .getfield 12272), (72, 74, .iconst 39), (74, 75, .iaload), (75, 76, .ireturn)]
/-- SaddlerKnowsModel.freePlace()I -/
def zc_231 : zk_C := [
  (0, 1, .iconst 0), (1, 2, .istore 1), (2, 3, .iload 1), (3, 5, .iconst 8), (5, 8, .if_icmp .ge 25), (8, 9, .aload 0), (9, 10, .iload 1), (10, 11, .iconst 3),
  (11, 14, .invokevirtual 1213207), (14, 17, .ifCond .ne 19), (17, 18, .iload 1), (18, 19, .ireturn), (19, 22, .iinc 1 1), (22, 25, .goto 2), (25, 26, .iconst (-1)), (26, 27, .ireturn)]
/-- SaddlerKnowsModel.sitsOn(II)Z -/
def zc_232 : zk_C := [
  (0, 1, .iconst 0), (1, 2, .istore 3), (2, 3, .iload 3), (3, 5, .iconst 8), (5, 8, .if_icmp .ge 35), (8, 9, .aload 0), (9, 10, .iload 3), (10, 11, .iload 2),
  (11, 14, .invokevirtual 1213209), (14, 17, .ifCond .eq 29), (17, 18, .aload 0), (18, 19, .iload 3), (19, 20, .iconst 0), (20, 23, .invokevirtual 1213207), (23, 24, .iload 1), (24, 27, .if_icmp .ne 29),
  (27, 28, .iconst 1), (28, 29, .ret 1), (29, 32, .iinc 3 1), (32, 35, .goto 2), (35, 36, .iconst 0), (36, 37, .ret 1)]
/-- SaddlerKnowsModel.makeNow(III)I -/
def zc_233 : zk_C := [
  (0, 1, .aload 0), (1, 4, .invokevirtual 1211231), (4, 6, .istore 4), (6, 7, .aload 0), (7, 10, .getfield 12272), (10, 11, .iconst 4), (11, 13, .iload 4), (13, 14, .imul),
  (14, 15, .iconst 0), (15, 16, .iadd), (16, 17, .iload 1), (17, 18, .iastore), (18, 19, .aload 0), (19, 22, .getfield 12272), (22, 23, .iconst 4), (23, 25, .iload 4),
  (25, 26, .imul), (26, 27, .iconst 1), (27, 28, .iadd), (28, 29, .iload 2), (29, 30, .iastore), (30, 31, .aload 0), (31, 34, .getfield 12272), (34, 35, .iconst 4),
  (35, 37, .iload 4), (37, 38, .imul), (38, 39, .iconst 2), (39, 40, .iadd), (40, 41, .iload 3), (41, 42, .iastore), (42, 43, .aload 0), (43, 46, .getfield 12272),
  (46, 47, .iconst 4), (47, 49, .iload 4), (49, 50, .imul), (50, 51, .iconst 3), (51, 52, .iadd), (52, 53, .iconst 1), (53, 54, .iastore), (54, 56, .iload 4),
  (56, 57, .ireturn)]
/-- SaddlerKnowsModel.makes(III)I -/
def zc_234 : zk_C := [
  (0, 1, .aload 0), (1, 2, .aload 0), (2, 3, .iload 1), (3, 6, .invokevirtual 1212204), (6, 9, .ifCond .eq 17), (9, 10, .aload 0), (10, 11, .iload 2), (11, 14, .invokevirtual 1212204),
  (14, 17, .ifCond .ne 21), (17, 18, .iconst 0), (18, 21, .goto 77), (21, 22, .iload 1), (22, 23, .iload 2), (23, 26, .if_icmp .eq 36), (26, 27, .iload 3), (27, 28, .iconst 0),
  (28, 30, .iconst 9), (30, 33, .invokestatic 1213160), (33, 36, .ifCond .ne 40), (36, 37, .iconst 1), (37, 40, .goto 77), (40, 41, .aload 0), (41, 42, .iload 1), (42, 43, .iload 2),
  (43, 46, .invokevirtual 1213232), (46, 49, .ifCond .eq 53), (49, 50, .iconst 2), (50, 53, .goto 77), (53, 54, .aload 0), (54, 57, .getfield 12272), (57, 59, .iconst 38), (59, 60, .iaload),
  (60, 61, .iconst 3), (61, 64, .if_icmp .lt 72), (64, 65, .aload 0), (65, 68, .invokevirtual 1211231), (68, 69, .iconst (-1)), (69, 72, .if_icmp .ne 76), (72, 73, .iconst 3), (73, 76, .goto 77),
  (76, 77, .iconst (-1)), (77, 80, .invokevirtual 1212228), (80, 83, .ifCond .eq 85), (83, 84, .iconst (-1)), (84, 85, .ireturn), (85, 86, .aload 0), (86, 89, .invokevirtual 1201227), (89, 90, .aload 0),
  (90, 93, .getfield 12272), (93, 95, .iconst 38), (95, 96, .dup2), (96, 97, .iaload), (97, 98, .iconst 3), (98, 99, .isub), (99, 100, .iastore), (100, 101, .aload 0),
  (101, 102, .iload 1), (102, 103, .iload 2), (103, 104, .iload 3), (104, 107, .invokevirtual 1214233), (107, 108, .ireturn)]
/-- SaddlerKnowsModel.stitch(II)I -/
def zc_235 : zk_C := [
  (0, 1, .aload 0), (1, 2, .aload 0), (2, 3, .iload 1), (3, 6, .invokevirtual 1212208), (6, 9, .ifCond .ne 13), (9, 10, .iconst 0), (10, 13, .goto 67), (13, 14, .iload 2),
  (14, 15, .iconst 0), (15, 17, .iconst 9), (17, 20, .invokestatic 1213160), (20, 23, .ifCond .ne 27), (23, 24, .iconst 1), (24, 27, .goto 67), (27, 28, .aload 0), (28, 29, .iload 1),
  (29, 30, .iconst 2), (30, 33, .invokevirtual 1213207), (33, 34, .iload 2), (34, 37, .if_icmp .ne 41), (37, 38, .iconst 2), (38, 41, .goto 67), (41, 42, .aload 0), (42, 45, .getfield 12272),
  (45, 47, .iconst 38), (47, 48, .iaload), (48, 49, .aload 0), (49, 50, .iload 1), (50, 51, .iconst 2), (51, 54, .invokevirtual 1213207), (54, 55, .iload 2), (55, 56, .isub),
  (56, 59, .invokestatic 1511296), (59, 62, .if_icmp .ge 66), (62, 63, .iconst 3), (63, 66, .goto 67), (66, 67, .iconst (-1)), (67, 70, .invokevirtual 1212228), (70, 73, .ifCond .eq 75), (73, 74, .iconst (-1)),
  (74, 75, .ireturn), (75, 76, .aload 0), (76, 79, .invokevirtual 1201227), (79, 80, .aload 0), (80, 81, .iload 1), (81, 82, .iconst 2), (82, 85, .invokevirtual 1213207), (85, 86, .istore 3),
  (86, 87, .aload 0), (87, 90, .getfield 12272), (90, 92, .iconst 38), (92, 93, .dup2), (93, 94, .iaload), (94, 95, .iload 3), (95, 96, .iload 2), (96, 97, .isub),
  (97, 100, .invokestatic 1511296), (100, 101, .isub), (101, 102, .iastore), (102, 103, .aload 0), (103, 106, .getfield 12272), (106, 107, .iconst 4), (107, 108, .iload 1), (108, 109, .imul),
  (109, 110, .iconst 2), (110, 111, .iadd), (111, 112, .iload 2), (112, 113, .iastore), (113, 114, .iload 3), (114, 115, .ireturn)]
/-- SaddlerKnowsModel.off(I)I -/
def zc_236 : zk_C := [
  (0, 1, .aload 0), (1, 2, .aload 0), (2, 3, .iload 1), (3, 6, .invokevirtual 1212208), (6, 9, .ifCond .ne 13), (9, 10, .iconst 0), (10, 13, .goto 14), (13, 14, .iconst (-1)),
  (14, 17, .invokevirtual 1212228), (17, 20, .ifCond .eq 22), (20, 21, .iconst (-1)), (21, 22, .ireturn), (22, 23, .aload 0), (23, 26, .invokevirtual 1201227), (26, 27, .aload 0), (27, 30, .getfield 12272),
  (30, 31, .iconst 4), (31, 32, .iload 1), (32, 33, .imul), (33, 34, .iconst 3), (34, 35, .iadd), (35, 36, .iconst 0), (36, 37, .iastore), (37, 38, .aload 0),
  (38, 41, .invokevirtual 1211216), (41, 44, .invokestatic 1611301), (44, 45, .ireturn)]
/-- SaddlerKnowsModel.salve(I)I -/
def zc_237 : zk_C := [
  (0, 1, .aload 0), (1, 2, .aload 0), (2, 3, .iload 1), (3, 6, .invokevirtual 1212204), (6, 9, .ifCond .ne 13), (9, 10, .iconst 0), (10, 13, .goto 45), (13, 14, .aload 0),
  (14, 17, .getfield 12272), (17, 19, .iconst 32), (19, 20, .iload 1), (20, 21, .iadd), (21, 22, .iaload), (22, 25, .ifCond .ne 29), (25, 26, .iconst 2), (26, 29, .goto 45),
  (29, 30, .aload 0), (30, 33, .getfield 12272), (33, 35, .iconst 38), (35, 36, .iaload), (36, 37, .iconst 2), (37, 40, .if_icmp .ge 44), (40, 41, .iconst 3), (41, 44, .goto 45),
  (44, 45, .iconst (-1)), (45, 48, .invokevirtual 1212228), (48, 51, .ifCond .eq 53), (51, 52, .iconst (-1)), (52, 53, .ireturn), (53, 54, .aload 0), (54, 57, .invokevirtual 1201227), (57, 58, .aload 0),
  (58, 61, .getfield 12272), (61, 63, .iconst 38), (63, 64, .dup2), (64, 65, .iaload), (65, 66, .iconst 2), (66, 67, .isub), (67, 68, .iastore), (68, 69, .aload 0),
  (69, 72, .getfield 12272), (72, 74, .iconst 32), (74, 75, .iload 1), (75, 76, .iadd), (76, 77, .iconst 0), (77, 78, .aload 0), (78, 81, .getfield 12272), (81, 83, .iconst 32),
  (83, 84, .iload 1), (84, 85, .iadd), (85, 86, .iaload), (86, 87, .iconst 5), (87, 88, .isub), (88, 91, .invokestatic 1512297), (91, 92, .iastore), (92, 93, .aload 0),
  (93, 96, .getfield 12272), (96, 98, .iconst 32), (98, 99, .iload 1), (99, 100, .iadd), (100, 101, .iaload), (101, 102, .ireturn)]
/-- SaddlerKnowsModel.give(I)I -/
def zc_238 : zk_C := [
  (0, 1, .aload 0), (1, 2, .aload 0), (2, 5, .getfield 12250), (5, 8, .ifCond .ne 12), (8, 9, .iconst 0), (9, 12, .goto 42), (12, 13, .iload 1), (13, 14, .iconst 1),
  (14, 16, .iconst 50), (16, 19, .invokestatic 1213160), (19, 22, .ifCond .eq 37), (22, 23, .aload 0), (23, 26, .getfield 12272), (26, 28, .iconst 38), (28, 29, .iaload), (29, 30, .iload 1),
  (30, 31, .iadd), (31, 34, .iconst 999), (34, 37, .if_icmp .le 41), (37, 38, .iconst 1), (38, 41, .goto 42), (41, 42, .iconst (-1)), (42, 45, .invokevirtual 1212228), (45, 48, .ifCond .eq 50),
  (48, 49, .iconst (-1)), (49, 50, .ireturn), (50, 51, .aload 0), (51, 54, .invokevirtual 1201227), (54, 55, .aload 0), (55, 58, .getfield 12272), (58, 60, .iconst 38), (60, 61, .dup2),
  (61, 62, .iaload), (62, 63, .iload 1), (63, 64, .iadd), (64, 65, .iastore), (65, 66, .aload 0), (66, 69, .getfield 12272), (69, 71, .iconst 38), (71, 72, .iaload),
  (72, 73, .ireturn)]
/-- SaddlerKnowsModel.rest(I)Z -/
def zc_239 : zk_C := [
  (0, 1, .iload 1), (1, 2, .iconst 0), (2, 4, .iconst 9), (4, 7, .invokestatic 1213160), (7, 10, .ifCond .eq 18), (10, 11, .iload 1), (11, 12, .aload 0), (12, 15, .getfield 12300),
  (15, 18, .if_icmp .ne 20), (18, 19, .iconst 0), (19, 20, .ret 1), (20, 21, .aload 0), (21, 22, .iload 1), (22, 25, .putfield 12300), (25, 26, .iconst 1), (26, 27, .ret 1)]
/-- SaddlerKnowsModel.draw(I)I -/
def zc_240 : zk_C := [
  (0, 1, .aload 0), (1, 2, .aload 0), (2, 5, .getfield 12351), (5, 8, .sipush 6364136223846793005), (8, 9, .lmul), (9, 12, .sipush 1442695040888963407), (12, 13, .ladd), (13, 16, .putfield 12351),
  (16, 17, .aload 0), (17, 20, .getfield 12351), (20, 22, .iconst 33), (22, 23, .lushr), (23, 24, .iload 1), (24, 25, .i2l), (25, 26, .lrem), (26, 27, .l2i),
  (27, 28, .ireturn)]
/-- SaddlerKnowsModel.drawWeek()V -/
def zc_241 : zk_C := [
  (0, 1, .aload 0), (1, 2, .aload 0), (2, 5, .getfield 12250), (5, 8, .invokevirtual 1212240), (8, 9, .istore 1), (9, 10, .aload 0), (10, 11, .aload 0), (11, 14, .getfield 12250),
  (14, 17, .invokevirtual 1212240), (17, 18, .istore 2), (18, 19, .aload 0), (19, 21, .iconst 10), (21, 24, .invokevirtual 1212240), (24, 25, .istore 3), (25, 26, .iload 1), (26, 27, .iload 2),
  (27, 30, .if_icmp .eq 55), (30, 31, .aload 0), (31, 32, .iload 1), (32, 33, .iload 2), (33, 36, .invokevirtual 1213232), (36, 39, .ifCond .ne 55), (39, 40, .aload 0), (40, 43, .invokevirtual 1211231),
  (43, 44, .iconst (-1)), (44, 47, .if_icmp .eq 55), (47, 48, .aload 0), (48, 49, .iload 1), (49, 50, .iload 2), (50, 51, .iload 3), (51, 54, .invokevirtual 1214233), (54, 55, .pop),
  (55, 56, .aload 0), (56, 58, .iconst 10), (58, 61, .invokevirtual 1212240), (61, 62, .aload 0), (62, 65, .getfield 12300), (65, 68, .if_icmp .ge 84), (68, 69, .aload 0), (69, 72, .getfield 12272),
  (72, 73, .iconst 4), (73, 74, .aload 0), (74, 76, .iconst 8), (76, 79, .invokevirtual 1212240), (79, 80, .imul), (80, 81, .iconst 3), (81, 82, .iadd), (82, 83, .iconst 0),
  (83, 84, .iastore), (84, 85, .return_)]
/-- SaddlerKnowsModel.years(IJ)I -/
def zc_242 : zk_C := [
  (0, 1, .aload 0), (1, 4, .getfield 12250), (4, 7, .ifCond .eq 15), (7, 8, .aload 0), (8, 9, .iload 1), (9, 12, .invokevirtual 1212229), (12, 15, .ifCond .ne 17), (15, 16, .iconst (-1)),
  (16, 17, .ireturn), (17, 18, .aload 0), (18, 19, .lload 2), (19, 22, .putfield 12351), (22, 23, .iconst 0), (23, 25, .istore 4), (25, 27, .iload 4), (27, 28, .iload 1),
  (28, 31, .if_icmp .ge 49), (31, 32, .aload 0), (32, 35, .invokevirtual 1201227), (35, 36, .aload 0), (36, 39, .invokevirtual 1201241), (39, 40, .aload 0), (40, 43, .invokevirtual 1201221), (43, 46, .iinc 4 1),
  (46, 49, .goto 25), (49, 50, .aload 0), (50, 53, .getfield 12272), (53, 55, .iconst 39), (55, 56, .iaload), (56, 57, .ireturn)]
/-- SaddlerKnowsModel.status(I)I -/
def zc_243 : zk_C := [
  (0, 1, .iload 1), (1, 2, .iconst 0), (2, 3, .iconst 4), (3, 6, .invokestatic 1213160), (6, 9, .ifCond .eq 18), (9, 10, .aload 0), (10, 13, .getfield 12282), (13, 14, .iload 1),
  (14, 15, .iaload), (15, 18, .goto 19), (18, 19, .iconst (-1)), (19, 20, .ireturn)]
/-- SaddlerKnowsModel.undo()I -/
def zc_244 : zk_C := [
  (0, 1, .aload 0), (1, 4, .getfield 12340), (4, 7, .ifCond .ne 9), (7, 8, .iconst (-1)), (8, 9, .ireturn), (9, 10, .aload 0), (10, 11, .dup), (11, 14, .getfield 12340),
  (14, 15, .iconst 1), (15, 16, .isub), (16, 19, .putfield 12340), (19, 20, .iconst 0), (20, 21, .istore 1), (21, 22, .iload 1), (22, 25, .iconst 221), (25, 28, .if_icmp .ge 55),
  (28, 29, .aload 0), (29, 32, .getfield 12272), (32, 33, .iload 1), (33, 34, .aload 0), (34, 37, .getfield 12332), (37, 40, .iconst 221), (40, 41, .aload 0), (41, 44, .getfield 12340),
  (44, 45, .imul), (45, 46, .iload 1), (46, 47, .iadd), (47, 48, .iaload), (48, 49, .iastore), (49, 52, .iinc 1 1), (52, 55, .goto 21), (55, 56, .aload 0),
  (56, 59, .getfield 12340), (59, 60, .ireturn)]
/-- SaddlerKnowsModel.log(II)I -/
def zc_245 : zk_C := [
  (0, 1, .iload 1), (1, 2, .iconst 0), (2, 3, .aload 0), (3, 6, .getfield 12272), (6, 8, .iconst 40), (8, 9, .iaload), (9, 10, .iconst 1), (10, 11, .isub),
  (11, 14, .invokestatic 1213160), (14, 17, .ifCond .eq 52), (17, 18, .iload 2), (18, 19, .iconst 0), (19, 20, .iconst 2), (20, 23, .invokestatic 1213160), (23, 26, .ifCond .eq 52), (26, 27, .aload 0),
  (27, 30, .getfield 12272), (30, 32, .iconst 41), (32, 33, .iconst 3), (33, 34, .aload 0), (34, 37, .getfield 12272), (37, 39, .iconst 40), (39, 40, .iaload), (40, 41, .iconst 1),
  (41, 42, .isub), (42, 43, .iload 1), (43, 44, .isub), (44, 45, .imul), (45, 46, .iadd), (46, 47, .iload 2), (47, 48, .iadd), (48, 49, .iaload),
  (49, 52, .goto 53), (52, 53, .iconst (-1)), (53, 54, .ireturn)]
/-- SaddlerKnowsModel.limit(I)I -/
def zc_246 : zk_C := [
  (0, 1, .aload 0), (1, 2, .iload 1), (2, 5, .invokevirtual 1212204), (5, 8, .ifCond .eq 16), (8, 9, .aload 0), (9, 10, .iload 1), (10, 13, .invokevirtual 1212210), (13, 16, .goto 17),
  (16, 17, .iconst (-1)), (17, 18, .ireturn)]
/-- SaddlerKnowsModel.pinch(III)I -/
def zc_247 : zk_C := [
  (0, 1, .aload 0), (1, 2, .iload 1), (2, 3, .iload 2), (3, 6, .invokevirtual 1213205), (6, 9, .ifCond .eq 29), (9, 10, .iload 3), (10, 11, .iconst 0), (11, 13, .iconst 9),
  (13, 16, .invokestatic 1213160), (16, 19, .ifCond .eq 29), (19, 20, .aload 0), (20, 21, .iload 1), (21, 22, .iload 2), (22, 23, .iload 3), (23, 26, .invokevirtual 1214211), (26, 29, .goto 30),
  (29, 30, .iconst (-1)), (30, 31, .ireturn)]
/-- SaddlerKnowsModel.bestFit(II)I -/
def zc_248 : zk_C := [
  (0, 1, .iconst 0), (1, 2, .istore 3), (2, 3, .iconst 1), (3, 5, .istore 4), (5, 7, .iload 4), (7, 9, .iconst 9), (9, 12, .if_icmp .gt 43), (12, 13, .aload 0),
  (13, 14, .iload 1), (14, 15, .iload 2), (15, 17, .iload 4), (17, 20, .invokevirtual 1214211), (20, 21, .aload 0), (21, 22, .iload 1), (22, 23, .iload 2), (23, 24, .iload 3),
  (24, 27, .invokevirtual 1214211), (27, 30, .if_icmp .ge 35), (30, 32, .iload 4), (32, 35, .goto 36), (35, 36, .iload 3), (36, 37, .istore 3), (37, 40, .iinc 4 1), (40, 43, .goto 5),
  (43, 44, .iload 3), (44, 45, .ireturn)]
/-- SaddlerKnowsModel.best(II)I -/
def zc_249 : zk_C := [
  (0, 1, .aload 0), (1, 2, .iload 1), (2, 5, .invokevirtual 1212208), (5, 8, .ifCond .eq 17), (8, 9, .iload 2), (9, 10, .iconst 0), (10, 11, .iconst 1), (11, 14, .invokestatic 1213160),
  (14, 17, .ifCond .ne 19), (17, 18, .iconst (-1)), (18, 19, .ireturn), (19, 20, .aload 0), (20, 21, .aload 0), (21, 22, .iload 1), (22, 23, .iconst 0), (23, 26, .invokevirtual 1213207),
  (26, 27, .aload 0), (27, 28, .iload 1), (28, 29, .iconst 1), (29, 32, .invokevirtual 1213207), (32, 35, .invokevirtual 1213248), (35, 36, .istore 3), (36, 37, .iload 2), (37, 40, .ifCond .ne 44),
  (40, 41, .iload 3), (41, 44, .goto 61), (44, 45, .aload 0), (45, 46, .aload 0), (46, 47, .iload 1), (47, 48, .iconst 0), (48, 51, .invokevirtual 1213207), (51, 52, .aload 0),
  (52, 53, .iload 1), (53, 54, .iconst 1), (54, 57, .invokevirtual 1213207), (57, 58, .iload 3), (58, 61, .invokevirtual 1214211), (61, 62, .ireturn)]
/-- SaddlerKnowsModel.putAside(I)V -/
def zc_250 : zk_C := [
  (0, 1, .iconst 0), (1, 2, .istore 2), (2, 3, .iload 2), (3, 5, .iconst 40), (5, 8, .if_icmp .ge 31), (8, 9, .aload 0), (9, 12, .getfield 12362), (12, 14, .iconst 40),
  (14, 15, .iload 1), (15, 16, .imul), (16, 17, .iload 2), (17, 18, .iadd), (18, 19, .aload 0), (19, 22, .getfield 12272), (22, 23, .iload 2), (23, 24, .iaload),
  (24, 25, .iastore), (25, 28, .iinc 2 1), (28, 31, .goto 2), (31, 32, .return_)]
/-- SaddlerKnowsModel.takeBack(I)V -/
def zc_251 : zk_C := [
  (0, 1, .iconst 0), (1, 2, .istore 2), (2, 3, .iload 2), (3, 5, .iconst 40), (5, 8, .if_icmp .ge 31), (8, 9, .aload 0), (9, 12, .getfield 12272), (12, 13, .iload 2),
  (13, 14, .aload 0), (14, 17, .getfield 12362), (17, 19, .iconst 40), (19, 20, .iload 1), (20, 21, .imul), (21, 22, .iload 2), (22, 23, .iadd), (23, 24, .iaload),
  (24, 25, .iastore), (25, 28, .iinc 2 1), (28, 31, .goto 2), (31, 32, .return_)]
/-- SaddlerKnowsModel.throwsIn(II)I -/
def zc_252 : zk_C := [
  (0, 1, .aload 0), (1, 3, .iconst 7), (3, 6, .invokevirtual 1202250), (6, 7, .iconst (-1)), (7, 8, .istore 3), (8, 9, .iconst 1), (9, 11, .istore 4), (11, 13, .iload 4),
  (13, 14, .iload 2), (14, 17, .if_icmp .gt 51), (17, 18, .iload 3), (18, 19, .iconst (-1)), (19, 22, .if_icmp .ne 51), (22, 23, .aload 0), (23, 24, .iconst (-1)), (24, 27, .invokevirtual 1202220),
  (27, 28, .aload 0), (28, 31, .getfield 12320), (31, 32, .iload 1), (32, 35, .invokestatic 1212161), (35, 38, .ifCond .eq 43), (38, 40, .iload 4), (40, 43, .goto 44), (43, 44, .iconst (-1)),
  (44, 45, .istore 3), (45, 48, .iinc 4 1), (48, 51, .goto 11), (51, 52, .aload 0), (52, 54, .iconst 7), (54, 57, .invokevirtual 1202251), (57, 58, .iload 3), (58, 59, .ireturn)]
/-- SaddlerKnowsModel.throwing(I)I -/
def zc_253 : zk_C := [
  (0, 1, .aload 0), (1, 2, .iload 1), (2, 5, .invokevirtual 1212204), (5, 8, .ifCond .eq 18), (8, 9, .aload 0), (9, 10, .iload 1), (10, 12, .iconst 99), (12, 15, .invokevirtual 1213252),
  (15, 18, .goto 19), (18, 19, .iconst (-1)), (19, 20, .ireturn)]
/-- SaddlerKnowsModel.fitsOf(I)I -/
def zc_254 : zk_C := [
  (0, 1, .iconst 0), (1, 2, .istore 2), (2, 3, .iconst 0), (3, 4, .istore 3), (4, 5, .iload 3), (5, 7, .iconst 8), (7, 10, .if_icmp .ge 41), (10, 11, .aload 0),
  (11, 12, .iload 3), (12, 13, .iload 1), (13, 16, .invokevirtual 1213209), (16, 19, .ifCond .eq 33), (19, 21, .iconst 10), (21, 22, .iload 2), (22, 23, .imul), (23, 24, .aload 0),
  (24, 25, .iload 3), (25, 26, .iconst 2), (26, 29, .invokevirtual 1213207), (29, 30, .iadd), (30, 33, .goto 34), (33, 34, .iload 2), (34, 35, .istore 2), (35, 38, .iinc 3 1),
  (38, 41, .goto 4), (41, 42, .iload 2), (42, 43, .ireturn)]
/-- SaddlerKnowsModel.tryFits(III)V -/
def zc_255 : zk_C := [
  (0, 1, .aload 0), (1, 4, .getfield 12370), (4, 5, .iconst (-1)), (5, 8, .if_icmp .eq 17), (8, 9, .iload 3), (9, 10, .aload 0), (10, 13, .getfield 12370), (13, 16, .if_icmp .le 17),
  (16, 17, .return_), (17, 18, .aload 0), (18, 19, .iload 1), (19, 22, .invokevirtual 1212254), (22, 24, .istore 4), (24, 25, .aload 0), (25, 28, .getfield 12370), (28, 29, .iconst (-1)),
  (29, 32, .if_icmp .eq 49), (32, 33, .iload 3), (33, 34, .aload 0), (34, 37, .getfield 12370), (37, 40, .if_icmp .lt 49), (40, 42, .iload 4), (42, 43, .aload 0), (43, 46, .getfield 12380),
  (46, 49, .if_icmp .ge 70), (49, 50, .aload 0), (50, 51, .iload 1), (51, 52, .iload 2), (52, 55, .invokevirtual 1213252), (55, 56, .iconst (-1)), (56, 59, .if_icmp .ne 70), (59, 60, .aload 0),
  (60, 61, .iload 3), (61, 64, .putfield 12370), (64, 65, .aload 0), (65, 67, .iload 4), (67, 70, .putfield 12380), (70, 71, .return_)]
/-- SaddlerKnowsModel.tryTwo(IIII)V -/
def zc_256 : zk_C := [
  (0, 1, .aload 0), (1, 2, .iload 3), (2, 3, .iconst 2), (3, 6, .invokevirtual 1213207), (6, 8, .istore 5), (8, 9, .aload 0), (9, 11, .iload 4), (11, 12, .iconst 2),
  (12, 15, .invokevirtual 1213207), (15, 17, .istore 6), (17, 18, .iconst 0), (18, 20, .istore 7), (20, 22, .iload 7), (22, 24, .iconst 100), (24, 27, .if_icmp .ge 143), (27, 29, .iload 7),
  (29, 31, .iconst 10), (31, 32, .idiv), (32, 34, .istore 8), (34, 36, .iload 7), (36, 38, .iconst 10), (38, 39, .irem), (39, 41, .istore 9), (41, 42, .iload 3),
  (42, 44, .iload 4), (44, 47, .if_icmp .ne 54), (47, 49, .iload 8), (49, 51, .iload 9), (51, 54, .if_icmp .ne 137), (54, 55, .aload 0), (55, 58, .getfield 12272), (58, 59, .iconst 4),
  (59, 60, .iload 3), (60, 61, .imul), (61, 62, .iconst 2), (62, 63, .iadd), (63, 65, .iload 8), (65, 66, .iastore), (66, 67, .aload 0), (67, 70, .getfield 12272),
  (70, 71, .iconst 4), (71, 73, .iload 4), (73, 74, .imul), (74, 75, .iconst 2), (75, 76, .iadd), (76, 78, .iload 9), (78, 79, .iastore), (79, 80, .aload 0),
  (80, 81, .iload 1), (81, 82, .iload 2), (82, 84, .iload 8), (84, 86, .iload 5), (86, 87, .isub), (87, 90, .invokestatic 1511296), (90, 91, .iload 3), (91, 93, .iload 4),
  (93, 96, .if_icmp .ne 100), (96, 97, .iconst 0), (97, 100, .goto 108), (100, 102, .iload 9), (102, 104, .iload 6), (104, 105, .isub), (105, 108, .invokestatic 1511296), (108, 109, .iadd),
  (109, 112, .invokevirtual 1204255), (112, 113, .aload 0), (113, 116, .getfield 12272), (116, 117, .iconst 4), (117, 118, .iload 3), (118, 119, .imul), (119, 120, .iconst 2), (120, 121, .iadd),
  (121, 123, .iload 5), (123, 124, .iastore), (124, 125, .aload 0), (125, 128, .getfield 12272), (128, 129, .iconst 4), (129, 131, .iload 4), (131, 132, .imul), (132, 133, .iconst 2),
  (133, 134, .iadd), (134, 136, .iload 6), (136, 137, .iastore), (137, 140, .iinc 7 1), (140, 143, .goto 20), (143, 144, .return_)]
/-- SaddlerKnowsModel.bears(III)I -/
def zc_257 : zk_C := [
  (0, 1, .aload 0), (1, 2, .iload 1), (2, 5, .invokevirtual 1212204), (5, 8, .ifCond .eq 27), (8, 9, .iload 2), (9, 10, .iconst 1), (10, 12, .iconst 30), (12, 15, .invokestatic 1213160),
  (15, 18, .ifCond .eq 27), (18, 19, .iload 3), (19, 20, .iconst 0), (20, 21, .iconst 1), (21, 24, .invokestatic 1213160), (24, 27, .ifCond .ne 29), (27, 28, .iconst (-1)), (28, 29, .ireturn),
  (29, 30, .aload 0), (30, 31, .iload 1), (31, 34, .invokevirtual 1212214), (34, 36, .istore 4), (36, 38, .iload 4), (38, 41, .ifCond .ne 51), (41, 42, .iload 3), (42, 45, .ifCond .ne 49),
  (45, 46, .iconst 0), (46, 49, .goto 50), (49, 50, .iconst (-1)), (50, 51, .ireturn), (51, 52, .aload 0), (52, 53, .iconst (-1)), (53, 56, .putfield 12370), (56, 57, .aload 0),
  (57, 58, .iconst (-1)), (58, 61, .putfield 12380), (61, 62, .iconst 0), (62, 64, .istore 5), (64, 66, .iload 5), (66, 68, .iconst 64), (68, 71, .if_icmp .ge 132), (71, 73, .iload 4),
  (73, 75, .iload 5), (75, 77, .iconst 8), (77, 78, .idiv), (78, 81, .invokestatic 1212161), (81, 84, .ifCond .eq 126), (84, 86, .iload 4), (86, 88, .iload 5), (88, 90, .iconst 8),
  (90, 91, .irem), (91, 94, .invokestatic 1212161), (94, 97, .ifCond .eq 126), (97, 99, .iload 5), (99, 101, .iconst 8), (101, 102, .idiv), (102, 104, .iload 5), (104, 106, .iconst 8),
  (106, 107, .irem), (107, 110, .if_icmp .gt 126), (110, 111, .aload 0), (111, 112, .iload 1), (112, 113, .iload 2), (113, 115, .iload 5), (115, 117, .iconst 8), (117, 118, .idiv),
  (118, 120, .iload 5), (120, 122, .iconst 8), (122, 123, .irem), (123, 126, .invokevirtual 1205256), (126, 129, .iinc 5 1), (129, 132, .goto 64), (132, 133, .iload 3), (133, 136, .ifCond .ne 143),
  (136, 137, .aload 0), (137, 140, .getfield 12370), (140, 143, .goto 147), (143, 144, .aload 0), (144, 147, .getfield 12380), (147, 148, .ireturn)]
/-- SaddlerKnowsModel.layAway(I)V -/
def zc_258 : zk_C := [
  (0, 1, .iconst 0), (1, 2, .istore 2), (2, 3, .iload 2), (3, 5, .iconst 6), (5, 8, .if_icmp .ge 23), (8, 9, .aload 0), (9, 12, .getfield 12392), (12, 13, .iload 2),
  (13, 16, .iconst 1000), (16, 17, .iastore), (17, 20, .iinc 2 1), (20, 23, .goto 2), (23, 24, .iconst 0), (24, 25, .istore 2), (25, 26, .iload 2), (26, 28, .iconst 6),
  (28, 31, .if_icmp .gt 115), (31, 32, .iconst 0), (32, 33, .istore 3), (33, 34, .iload 3), (34, 36, .iconst 8), (36, 39, .if_icmp .ge 109), (39, 40, .aload 0), (40, 41, .iload 3),
  (41, 44, .invokevirtual 1212208), (44, 47, .ifCond .eq 103), (47, 48, .aload 0), (48, 49, .iload 3), (49, 50, .iconst 0), (50, 53, .invokevirtual 1213207), (53, 54, .iload 1), (54, 57, .if_icmp .ne 61),
  (57, 58, .iconst 0), (58, 61, .goto 72), (61, 62, .aload 0), (62, 65, .getfield 12392), (65, 66, .aload 0), (66, 67, .iload 3), (67, 68, .iconst 0), (68, 71, .invokevirtual 1213207),
  (71, 72, .iaload), (72, 74, .istore 4), (74, 75, .aload 0), (75, 78, .getfield 12392), (78, 79, .aload 0), (79, 80, .iload 3), (80, 81, .iconst 1), (81, 84, .invokevirtual 1213207),
  (84, 85, .aload 0), (85, 88, .getfield 12392), (88, 89, .aload 0), (89, 90, .iload 3), (90, 91, .iconst 1), (91, 94, .invokevirtual 1213207), (94, 95, .iaload), (95, 97, .iload 4),
  (97, 98, .iconst 1), (98, 99, .iadd), (99, 102, .invokestatic 1512299), (102, 103, .iastore), (103, 106, .iinc 3 1), (106, 109, .goto 33), (109, 112, .iinc 2 1), (112, 115, .goto 25),
  (115, 116, .return_)]
/-- SaddlerKnowsModel.ring()I -/
def zc_259 : zk_C := [
  (0, 3, .iconst 1000), (3, 4, .istore 1), (4, 5, .iconst 0), (5, 6, .istore 2), (6, 7, .iload 2), (7, 8, .aload 0), (8, 11, .getfield 12250), (11, 14, .if_icmp .ge 36),
  (14, 15, .aload 0), (15, 16, .iload 2), (16, 19, .invokevirtual 1202258), (19, 20, .iload 1), (20, 21, .aload 0), (21, 24, .getfield 12392), (24, 25, .iload 2), (25, 26, .iaload),
  (26, 29, .invokestatic 1512299), (29, 30, .istore 1), (30, 33, .iinc 2 1), (33, 36, .goto 6), (36, 37, .iload 1), (37, 40, .iconst 1000), (40, 43, .if_icmp .lt 47), (43, 44, .iconst (-1)),
  (44, 47, .goto 48), (47, 48, .iload 1), (48, 49, .ireturn)]
/-- SaddlerKnowsModel.chain(II)I -/
def zc_260 : zk_C := [
  (0, 1, .aload 0), (1, 2, .iload 1), (2, 5, .invokevirtual 1212204), (5, 8, .ifCond .eq 16), (8, 9, .aload 0), (9, 10, .iload 2), (10, 13, .invokevirtual 1212204), (13, 16, .ifCond .ne 18),
  (16, 17, .iconst (-1)), (17, 18, .ireturn), (18, 19, .aload 0), (19, 20, .iload 1), (20, 23, .invokevirtual 1202258), (23, 24, .iload 1), (24, 25, .iload 2), (25, 28, .if_icmp .ne 32),
  (28, 29, .iconst 0), (29, 32, .goto 54), (32, 33, .aload 0), (33, 36, .getfield 12392), (36, 37, .iload 2), (37, 38, .iaload), (38, 41, .iconst 1000), (41, 44, .if_icmp .lt 48),
  (44, 45, .iconst (-1)), (45, 48, .goto 54), (48, 49, .aload 0), (49, 52, .getfield 12392), (52, 53, .iload 2), (53, 54, .iaload), (54, 55, .ireturn)]
/-- SaddlerKnowsModel.trySeats(IIII)V -/
def zc_261 : zk_C := [
  (0, 1, .iload 1), (1, 2, .aload 0), (2, 5, .getfield 12250), (5, 8, .if_icmp .ne 37), (8, 9, .aload 0), (9, 12, .getfield 12400), (12, 13, .iconst (-1)), (13, 16, .if_icmp .eq 25),
  (16, 18, .iload 4), (18, 19, .aload 0), (19, 22, .getfield 12410), (22, 25, .if_icmp .ge 36), (25, 26, .aload 0), (26, 27, .iload 3), (27, 30, .putfield 12400), (30, 31, .aload 0),
  (31, 33, .iload 4), (33, 36, .putfield 12410), (36, 37, .return_), (37, 38, .iconst 0), (38, 40, .istore 5), (40, 42, .iload 5), (42, 43, .aload 0), (43, 46, .getfield 12250),
  (46, 49, .if_icmp .ge 107), (49, 51, .iload 5), (51, 52, .iload 1), (52, 55, .if_icmp .eq 101), (55, 56, .iload 2), (56, 58, .iload 5), (58, 61, .invokestatic 1212161), (61, 64, .ifCond .ne 101),
  (64, 65, .aload 0), (65, 66, .iload 1), (66, 67, .iconst 1), (67, 68, .iadd), (68, 69, .iload 2), (69, 70, .iconst 1), (70, 72, .iload 5), (72, 73, .ishl),
  (73, 74, .ior), (74, 76, .iconst 10), (76, 77, .iload 3), (77, 78, .imul), (78, 80, .iload 5), (80, 81, .iadd), (81, 83, .iload 4), (83, 84, .aload 0),
  (84, 85, .iload 1), (85, 87, .iload 5), (87, 88, .aload 0), (88, 89, .iload 1), (89, 91, .iload 5), (91, 94, .invokevirtual 1213248), (94, 97, .invokevirtual 1214211), (97, 98, .iadd),
  (98, 101, .invokevirtual 1205261), (101, 104, .iinc 5 1), (104, 107, .goto 40), (107, 108, .return_)]
/-- SaddlerKnowsModel.seats(I)I -/
def zc_262 : zk_C := [
  (0, 1, .aload 0), (1, 4, .getfield 12250), (4, 7, .ifCond .eq 16), (7, 8, .iload 1), (8, 9, .iconst 0), (9, 10, .iconst 1), (10, 13, .invokestatic 1213160), (13, 16, .ifCond .ne 18),
  (16, 17, .iconst (-1)), (17, 18, .ireturn), (18, 19, .aload 0), (19, 20, .iconst (-1)), (20, 23, .putfield 12400), (23, 24, .aload 0), (24, 25, .iconst 0), (25, 26, .iconst 0),
  (26, 27, .iconst 0), (27, 28, .iconst 0), (28, 31, .invokevirtual 1205261), (31, 32, .iload 1), (32, 35, .ifCond .ne 42), (35, 36, .aload 0), (36, 39, .getfield 12400), (39, 42, .goto 46),
  (42, 43, .aload 0), (43, 46, .getfield 12410), (46, 47, .ireturn)]
/-- SaddlerKnowsModel.seen(IIIZ)I -/
def zc_263 : zk_C := [
  (0, 1, .aload 0), (1, 2, .iload 1), (2, 5, .invokevirtual 1212204), (5, 8, .ifCond .eq 37), (8, 9, .iload 2), (9, 10, .iconst 1), (10, 12, .iconst 9), (12, 15, .invokestatic 1213160),
  (15, 18, .ifCond .eq 37), (18, 19, .iload 3), (19, 20, .iconst 0), (20, 22, .iconst 99), (22, 25, .invokestatic 1213160), (25, 28, .ifCond .eq 37), (28, 29, .aload 0), (29, 32, .getfield 12460),
  (32, 34, .iconst 10), (34, 37, .if_icmp .ne 39), (37, 38, .iconst (-1)), (38, 39, .ireturn), (39, 40, .aload 0), (40, 43, .getfield 12422), (43, 44, .aload 0), (44, 47, .getfield 12460),
  (47, 48, .iload 1), (48, 49, .iastore), (49, 50, .aload 0), (50, 53, .getfield 12432), (53, 54, .aload 0), (54, 57, .getfield 12460), (57, 58, .iload 2), (58, 59, .iastore),
  (59, 60, .aload 0), (60, 63, .getfield 12442), (63, 64, .aload 0), (64, 67, .getfield 12460), (67, 68, .iload 3), (68, 69, .iastore), (69, 70, .aload 0), (70, 73, .getfield 12452),
  (73, 74, .aload 0), (74, 77, .getfield 12460), (77, 79, .iload 4), (79, 80, .bastore), (80, 81, .aload 0), (81, 82, .dup), (82, 85, .getfield 12460), (85, 86, .iconst 1),
  (86, 87, .iadd), (87, 90, .putfield 12460), (90, 91, .aload 0), (91, 94, .getfield 12460), (94, 95, .ireturn)]
/-- SaddlerKnowsModel.layGalls(II)V -/
def zc_264 : zk_C := [
  (0, 1, .aload 0), (1, 2, .iconst 0), (2, 5, .invokevirtual 1202250), (5, 6, .aload 0), (6, 9, .invokevirtual 1201201), (9, 10, .aload 0), (10, 13, .getfield 12272), (13, 14, .iconst 4),
  (14, 15, .iload 1), (15, 16, .imul), (16, 17, .iconst 2), (17, 18, .iadd), (18, 19, .iload 2), (19, 20, .iastore), (20, 21, .iconst 0), (21, 22, .istore 3),
  (22, 23, .iload 3), (23, 25, .iconst 9), (25, 28, .if_icmp .gt 77), (28, 29, .iconst 0), (29, 31, .istore 4), (31, 33, .iload 4), (33, 35, .iconst 6), (35, 38, .if_icmp .ge 66),
  (38, 39, .aload 0), (39, 42, .getfield 12472), (42, 44, .iconst 6), (44, 45, .iload 3), (45, 46, .imul), (46, 48, .iload 4), (48, 49, .iadd), (49, 50, .aload 0),
  (50, 53, .getfield 12272), (53, 55, .iconst 32), (55, 57, .iload 4), (57, 58, .iadd), (58, 59, .iaload), (59, 60, .iastore), (60, 63, .iinc 4 1), (63, 66, .goto 31),
  (66, 67, .aload 0), (67, 68, .iconst (-1)), (68, 71, .invokevirtual 1202220), (71, 74, .iinc 3 1), (74, 77, .goto 22), (77, 78, .aload 0), (78, 79, .iconst 0), (79, 82, .invokevirtual 1202251),
  (82, 83, .return_)]
/-- SaddlerKnowsModel.isFit(II)Z -/
def zc_265 : zk_C := [
  (0, 1, .aload 0), (1, 2, .iload 1), (2, 3, .iload 2), (3, 6, .invokevirtual 1203264), (6, 7, .iconst 0), (7, 8, .istore 3), (8, 9, .iload 3), (9, 10, .aload 0),
  (10, 13, .getfield 12460), (13, 16, .if_icmp .ge 68), (16, 17, .aload 0), (17, 20, .getfield 12472), (20, 22, .iconst 6), (22, 23, .aload 0), (23, 26, .getfield 12432), (26, 27, .iload 3),
  (27, 28, .iaload), (28, 29, .imul), (29, 30, .aload 0), (30, 33, .getfield 12422), (33, 34, .iload 3), (34, 35, .iaload), (35, 36, .iadd), (36, 37, .iaload),
  (37, 38, .aload 0), (38, 41, .getfield 12442), (41, 42, .iload 3), (42, 43, .iaload), (43, 46, .if_icmp .lt 50), (46, 47, .iconst 1), (47, 50, .goto 51), (50, 51, .iconst 0),
  (51, 52, .aload 0), (52, 55, .getfield 12452), (55, 56, .iload 3), (56, 57, .baload), (57, 60, .if_icmp .eq 62), (60, 61, .iconst 0), (61, 62, .ret 1), (62, 65, .iinc 3 1),
  (65, 68, .goto 8), (68, 69, .iconst 1), (69, 70, .ret 1)]
/-- SaddlerKnowsModel.isTold(I)Z -/
def zc_266 : zk_C := [
  (0, 1, .aload 0), (1, 4, .getfield 12250), (4, 7, .ifCond .le 25), (7, 8, .iload 1), (8, 9, .iconst 0), (9, 10, .aload 0), (10, 13, .getfield 12260), (13, 14, .iconst 1),
  (14, 15, .isub), (15, 18, .invokestatic 1213160), (18, 21, .ifCond .eq 25), (21, 22, .iconst 1), (22, 25, .goto 26), (25, 26, .iconst 0), (26, 27, .ret 1)]
/-- SaddlerKnowsModel.fits(II)I -/
def zc_267 : zk_C := [
  (0, 1, .aload 0), (1, 2, .iload 1), (2, 5, .invokevirtual 1212266), (5, 8, .ifCond .eq 13), (8, 9, .iload 2), (9, 10, .iconst (-1)), (10, 13, .if_icmp .ge 15), (13, 14, .iconst (-1)),
  (14, 15, .ireturn), (15, 16, .iconst 0), (16, 17, .istore 3), (17, 18, .iconst 0), (18, 20, .istore 4), (20, 22, .iload 4), (22, 24, .iconst 9), (24, 27, .if_icmp .gt 54),
  (27, 28, .aload 0), (28, 29, .iload 1), (29, 31, .iload 4), (31, 34, .invokevirtual 1213265), (34, 37, .ifCond .eq 48), (37, 38, .iload 3), (38, 39, .iload 2), (39, 42, .if_icmp .ne 45),
  (42, 44, .iload 4), (44, 45, .ireturn), (45, 48, .iinc 3 1), (48, 51, .iinc 4 1), (51, 54, .goto 20), (54, 55, .iload 2), (55, 56, .iconst (-1)), (56, 59, .if_icmp .ne 63),
  (59, 60, .iload 3), (60, 63, .goto 64), (63, 64, .iconst (-1)), (64, 65, .ireturn)]
/-- SaddlerKnowsModel.ask(II)I -/
def zc_268 : zk_C := [
  (0, 1, .aload 0), (1, 2, .iload 1), (2, 5, .invokevirtual 1212266), (5, 8, .ifCond .eq 18), (8, 9, .iload 2), (9, 10, .iconst 1), (10, 12, .iconst 9), (12, 15, .invokestatic 1213160),
  (15, 18, .ifCond .ne 20), (18, 19, .iconst (-1)), (19, 20, .ireturn), (20, 21, .iconst 0), (21, 22, .istore 3), (22, 23, .iconst (-1)), (23, 25, .istore 4), (25, 26, .iconst 0),
  (26, 28, .istore 5), (28, 29, .iconst 0), (29, 31, .istore 6), (31, 33, .iload 6), (33, 35, .iconst 9), (35, 38, .if_icmp .gt 104), (38, 39, .aload 0), (39, 42, .getfield 12482),
  (42, 44, .iload 6), (44, 45, .aload 0), (45, 46, .iload 1), (46, 48, .iload 6), (48, 51, .invokevirtual 1213265), (51, 54, .ifCond .eq 77), (54, 55, .aload 0), (55, 58, .getfield 12472),
  (58, 60, .iconst 6), (60, 61, .iload 2), (61, 62, .imul), (62, 63, .aload 0), (63, 66, .getfield 12242), (66, 67, .iconst 3), (67, 68, .iload 1), (68, 69, .imul),
  (69, 70, .iconst 1), (70, 71, .iadd), (71, 72, .iaload), (72, 73, .iadd), (73, 74, .iaload), (74, 77, .goto 78), (77, 78, .iconst (-1)), (78, 79, .iastore),
  (79, 80, .iload 3), (80, 81, .aload 0), (81, 84, .getfield 12482), (84, 86, .iload 6), (86, 87, .iaload), (87, 88, .iconst (-1)), (88, 91, .if_icmp .ne 95), (91, 92, .iconst 0),
  (92, 95, .goto 96), (95, 96, .iconst 1), (96, 97, .iadd), (97, 98, .istore 3), (98, 101, .iinc 6 1), (101, 104, .goto 31), (104, 105, .iconst 0), (105, 107, .istore 6),
  (107, 109, .iload 6), (109, 111, .iconst 99), (111, 114, .if_icmp .gt 207), (114, 115, .iload 3), (115, 118, .ifCond .le 207), (118, 119, .iconst 0), (119, 121, .istore 7), (121, 122, .iconst 0),
  (122, 124, .istore 8), (124, 126, .iload 8), (126, 128, .iconst 9), (128, 131, .if_icmp .gt 174), (131, 133, .iload 7), (133, 134, .aload 0), (134, 137, .getfield 12482), (137, 139, .iload 8),
  (139, 140, .iaload), (140, 141, .iconst (-1)), (141, 144, .if_icmp .ne 148), (144, 145, .iconst 0), (145, 148, .goto 165), (148, 149, .aload 0), (149, 152, .getfield 12482), (152, 154, .iload 8),
  (154, 155, .iaload), (155, 157, .iload 6), (157, 160, .if_icmp .lt 164), (160, 161, .iconst 1), (161, 164, .goto 165), (164, 165, .iconst (-1)), (165, 166, .iadd), (166, 168, .istore 7),
  (168, 171, .iinc 8 1), (171, 174, .goto 124), (174, 176, .iload 4), (176, 177, .iconst (-1)), (177, 180, .if_icmp .eq 190), (180, 182, .iload 7), (182, 185, .invokestatic 1511296), (185, 187, .iload 5),
  (187, 190, .if_icmp .ge 201), (190, 192, .iload 6), (192, 194, .istore 4), (194, 196, .iload 7), (196, 199, .invokestatic 1511296), (199, 201, .istore 5), (201, 204, .iinc 6 1), (204, 207, .goto 107),
  (207, 209, .iload 4), (209, 210, .ireturn)]
/-- SaddlerKnowsModel.waitOf(IIII)I -/
def zc_269 : zk_C := [
  (0, 1, .iload 3), (1, 3, .iload 4), (3, 6, .if_icmp .le 18), (6, 7, .aload 0), (7, 8, .iload 2), (8, 9, .iconst 0), (9, 12, .invokevirtual 1213206), (12, 14, .iload 4),
  (14, 15, .isub), (15, 18, .goto 39), (18, 19, .iload 3), (19, 21, .iload 4), (21, 24, .if_icmp .ge 29), (24, 25, .iload 3), (25, 26, .ineg), (26, 29, .goto 39),
  (29, 30, .aload 0), (30, 31, .iload 1), (31, 32, .iconst 2), (32, 35, .invokevirtual 1213206), (35, 36, .iconst 2), (36, 37, .idiv), (37, 38, .iload 3), (38, 39, .isub),
  (39, 40, .ireturn)]
/-- SaddlerKnowsModel.waiting(IIIII)I -/
def zc_270 : zk_C := [
  (0, 1, .aload 0), (1, 2, .iload 1), (2, 3, .iload 2), (3, 6, .invokevirtual 1213205), (6, 9, .ifCond .eq 40), (9, 10, .iload 3), (10, 11, .iconst 0), (11, 13, .iconst 9),
  (13, 16, .invokestatic 1213160), (16, 19, .ifCond .eq 40), (19, 21, .iload 4), (21, 22, .iconst 0), (22, 24, .iconst 9), (24, 27, .invokestatic 1213160), (27, 30, .ifCond .eq 40), (30, 32, .iload 5),
  (32, 33, .iconst 0), (33, 34, .iconst 1), (34, 37, .invokestatic 1213160), (37, 40, .ifCond .ne 44), (40, 43, .iconst (-1000000)), (43, 44, .ireturn), (44, 46, .iload 5), (46, 49, .ifCond .ne 61),
  (49, 50, .aload 0), (50, 51, .iload 1), (51, 52, .iload 2), (52, 53, .iload 3), (53, 55, .iload 4), (55, 58, .invokevirtual 1215269), (58, 61, .goto 70), (61, 62, .aload 0),
  (62, 63, .iload 2), (63, 64, .iload 1), (64, 66, .iload 4), (66, 67, .iload 3), (67, 70, .invokevirtual 1215269), (70, 71, .ireturn)]
/-- SaddlerKnowsModel.isRest(IIII)Z -/
def zc_271 : zk_C := [
  (0, 1, .iconst 0), (1, 3, .istore 5), (3, 5, .iload 5), (5, 7, .iconst 9), (7, 10, .if_icmp .gt 61), (10, 11, .aload 0), (11, 12, .iload 1), (12, 13, .iload 2),
  (13, 15, .iload 5), (15, 17, .iload 4), (17, 20, .invokevirtual 1215269), (20, 21, .aload 0), (21, 22, .iload 1), (22, 23, .iload 2), (23, 24, .iload 3), (24, 26, .iload 4),
  (26, 29, .invokevirtual 1215269), (29, 32, .if_icmp .gt 53), (32, 33, .aload 0), (33, 34, .iload 2), (34, 35, .iload 1), (35, 37, .iload 5), (37, 38, .iload 3), (38, 41, .invokevirtual 1215269),
  (41, 42, .aload 0), (42, 43, .iload 2), (43, 44, .iload 1), (44, 46, .iload 4), (46, 47, .iload 3), (47, 50, .invokevirtual 1215269), (50, 53, .if_icmp .le 55), (53, 54, .iconst 0),
  (54, 55, .ret 1), (55, 58, .iinc 5 1), (58, 61, .goto 3), (61, 62, .iconst 1), (62, 63, .ret 1)]
/-- SaddlerKnowsModel.rests(III)I -/
def zc_272 : zk_C := [
  (0, 1, .aload 0), (1, 2, .iload 1), (2, 3, .iload 2), (3, 6, .invokevirtual 1213205), (6, 9, .ifCond .eq 14), (9, 10, .iload 3), (10, 11, .iconst (-1)), (11, 14, .if_icmp .ge 16),
  (14, 15, .iconst (-1)), (15, 16, .ireturn), (16, 17, .iconst 0), (17, 19, .istore 4), (19, 20, .iconst 0), (20, 22, .istore 5), (22, 24, .iload 5), (24, 26, .iconst 100),
  (26, 29, .if_icmp .ge 66), (29, 30, .aload 0), (30, 31, .iload 1), (31, 32, .iload 2), (32, 34, .iload 5), (34, 36, .iconst 10), (36, 37, .idiv), (37, 39, .iload 5),
  (39, 41, .iconst 10), (41, 42, .irem), (42, 45, .invokevirtual 1215271), (45, 48, .ifCond .eq 60), (48, 50, .iload 4), (50, 51, .iload 3), (51, 54, .if_icmp .ne 57), (54, 56, .iload 5),
  (56, 57, .ireturn), (57, 60, .iinc 4 1), (60, 63, .iinc 5 1), (63, 66, .goto 22), (66, 67, .iload 3), (67, 68, .iconst (-1)), (68, 71, .if_icmp .ne 76), (71, 73, .iload 4),
  (73, 76, .goto 77), (76, 77, .iconst (-1)), (77, 78, .ireturn)]
/-- SaddlerKnowsModel.oddsFrom(IIIII)I -/
def zc_273 : zk_C := [
  (0, 1, .iload 3), (1, 4, .ifCond .ne 6), (4, 5, .iconst 0), (5, 6, .ireturn), (6, 8, .iload 5), (8, 9, .i2l), (9, 11, .iload 4), (11, 12, .i2l),
  (12, 13, .lmul), (13, 16, .sipush 100), (16, 17, .ldiv), (17, 18, .l2i), (18, 20, .istore 6), (20, 21, .iconst 0), (21, 23, .istore 7), (23, 24, .aload 0),
  (24, 25, .iload 1), (25, 28, .invokevirtual 1202250), (28, 29, .aload 0), (29, 30, .iload 2), (30, 33, .invokevirtual 1202220), (33, 35, .iload 7), (35, 36, .aload 0), (36, 37, .iload 1),
  (37, 38, .iconst 1), (38, 39, .iadd), (39, 40, .iload 2), (40, 41, .iload 3), (41, 42, .iconst 1), (42, 43, .isub), (43, 45, .iload 4), (45, 47, .iload 6),
  (47, 50, .invokevirtual 1216273), (50, 51, .iadd), (51, 53, .istore 7), (53, 54, .aload 0), (54, 55, .iload 1), (55, 58, .invokevirtual 1202251), (58, 59, .aload 0), (59, 60, .iconst (-1)),
  (60, 63, .invokevirtual 1202220), (63, 65, .iload 7), (65, 66, .aload 0), (66, 69, .getfield 12320), (69, 70, .iload 2), (70, 73, .invokestatic 1212161), (73, 76, .ifCond .eq 84), (76, 78, .iload 5),
  (78, 80, .iload 6), (80, 81, .isub), (81, 84, .goto 102), (84, 85, .aload 0), (85, 86, .iload 1), (86, 87, .iconst 1), (87, 88, .iadd), (88, 89, .iload 2),
  (89, 90, .iload 3), (90, 91, .iconst 1), (91, 92, .isub), (92, 94, .iload 4), (94, 96, .iload 5), (96, 98, .iload 6), (98, 99, .isub), (99, 102, .invokevirtual 1216273),
  (102, 103, .iadd), (103, 105, .istore 7), (105, 106, .aload 0), (106, 107, .iload 1), (107, 110, .invokevirtual 1202251), (110, 112, .iload 7), (112, 113, .ireturn)]
/-- SaddlerKnowsModel.odds(III)I -/
def zc_274 : zk_C := [
  (0, 1, .aload 0), (1, 2, .iload 1), (2, 5, .invokevirtual 1212204), (5, 8, .ifCond .eq 28), (8, 9, .iload 2), (9, 10, .iconst 0), (10, 12, .iconst 6), (12, 15, .invokestatic 1213160),
  (15, 18, .ifCond .eq 28), (18, 19, .iload 3), (19, 20, .iconst 0), (20, 22, .iconst 100), (22, 25, .invokestatic 1213160), (25, 28, .ifCond .ne 30), (28, 29, .iconst (-1)), (29, 30, .ireturn),
  (30, 31, .aload 0), (31, 32, .iconst 0), (32, 33, .iload 1), (33, 34, .iload 2), (34, 35, .iload 3), (35, 38, .iconst 1000000000), (38, 41, .invokevirtual 1216273), (41, 42, .ireturn)]
/-- SaddlerKnowsModel.shares(II)I -/
def zc_275 : zk_C := [
  (0, 1, .aload 0), (1, 2, .iload 1), (2, 5, .invokevirtual 1212204), (5, 8, .ifCond .eq 19), (8, 9, .iload 2), (9, 10, .iconst 0), (10, 13, .iconst 999), (13, 16, .invokestatic 1213160),
  (16, 19, .ifCond .ne 21), (19, 20, .iconst (-1)), (20, 21, .ireturn), (21, 22, .aload 0), (22, 25, .invokevirtual 1211217), (25, 28, .ifCond .ne 32), (28, 29, .iconst 0), (29, 32, .goto 48),
  (32, 33, .iload 2), (33, 34, .aload 0), (34, 37, .getfield 12272), (37, 39, .iconst 32), (39, 40, .iload 1), (40, 41, .iadd), (41, 42, .iaload), (42, 43, .imul),
  (43, 44, .aload 0), (44, 47, .invokevirtual 1211217), (47, 48, .idiv), (48, 49, .ireturn)]
/-- SaddlerKnowsModel.valueOf(II)I -/
def zc_276 : zk_C := [
  (0, 1, .iload 2), (1, 28, .lookupswitch 50 #[(0, 28), (1, 38), (2, 44)]), (28, 29, .aload 0), (29, 32, .getfield 12272), (32, 34, .iconst 32), (34, 35, .iload 1), (35, 36, .iadd), (36, 37, .iaload),
  (37, 38, .ireturn), (38, 39, .aload 0), (39, 40, .iload 1), (40, 43, .invokevirtual 1212213), (43, 44, .ireturn), (44, 45, .aload 0), (45, 46, .iload 1), (46, 49, .invokevirtual 1212215),
  (49, 50, .ireturn), (50, 51, .aload 0), (51, 52, .iload 1), (52, 53, .iload 2), (53, 54, .iconst 3), (54, 55, .isub), (55, 58, .invokevirtual 1213206), (58, 59, .ireturn)]
/-- SaddlerKnowsModel.topBy(I)I -/
def zc_277 : zk_C := [
  (0, 1, .iconst 0), (1, 2, .istore 2), (2, 3, .iconst 1), (3, 4, .istore 3), (4, 5, .iload 3), (5, 6, .aload 0), (6, 9, .getfield 12250), (9, 12, .if_icmp .ge 39),
  (12, 13, .aload 0), (13, 14, .iload 3), (14, 15, .iload 1), (15, 18, .invokevirtual 1213276), (18, 19, .aload 0), (19, 20, .iload 2), (20, 21, .iload 1), (21, 24, .invokevirtual 1213276),
  (24, 27, .if_icmp .le 31), (27, 28, .iload 3), (28, 31, .goto 32), (31, 32, .iload 2), (32, 33, .istore 2), (33, 36, .iinc 3 1), (36, 39, .goto 4), (39, 40, .iload 2),
  (40, 41, .ireturn)]
/-- SaddlerKnowsModel.tightest()I -/
def zc_278 : zk_C := [
  (0, 1, .iconst (-1)), (1, 2, .istore 1), (2, 3, .iconst 0), (3, 4, .istore 2), (4, 5, .iload 2), (5, 7, .iconst 8), (7, 10, .if_icmp .ge 48), (10, 11, .aload 0),
  (11, 12, .iload 2), (12, 15, .invokevirtual 1212208), (15, 18, .ifCond .eq 40), (18, 19, .iload 1), (19, 20, .iconst (-1)), (20, 23, .if_icmp .eq 36), (23, 24, .aload 0), (24, 25, .iload 2),
  (25, 28, .invokevirtual 1212212), (28, 29, .aload 0), (29, 30, .iload 1), (30, 33, .invokevirtual 1212212), (33, 36, .if_icmp .le 40), (36, 37, .iload 2), (37, 40, .goto 41), (40, 41, .iload 1),
  (41, 42, .istore 1), (42, 45, .iinc 2 1), (45, 48, .goto 4), (48, 49, .iload 1), (49, 50, .ireturn)]
/-- SaddlerKnowsModel.freeOnes(Z)I -/
def zc_279 : zk_C := [
  (0, 1, .iconst 0), (1, 2, .istore 2), (2, 3, .iconst 0), (3, 4, .istore 3), (4, 5, .iload 3), (5, 6, .aload 0), (6, 9, .getfield 12250), (9, 12, .if_icmp .ge 48),
  (12, 13, .iload 2), (13, 14, .aload 0), (14, 15, .iload 3), (15, 18, .invokevirtual 1212214), (18, 21, .ifCond .ne 39), (21, 22, .iload 1), (22, 25, .ifCond .eq 33), (25, 26, .aload 0),
  (26, 27, .iload 3), (27, 30, .invokevirtual 1212215), (30, 33, .ifCond .le 39), (33, 34, .iconst 1), (34, 35, .iload 3), (35, 36, .ishl), (36, 39, .goto 40), (39, 40, .iconst 0),
  (40, 41, .ior), (41, 42, .istore 2), (42, 45, .iinc 3 1), (45, 48, .goto 4), (48, 49, .iload 2), (49, 50, .ireturn)]
/-- SaddlerKnowsModel.throwers()I -/
def zc_280 : zk_C := [
  (0, 1, .aload 0), (1, 2, .iconst 0), (2, 5, .invokevirtual 1202250), (5, 6, .aload 0), (6, 7, .iconst (-1)), (7, 10, .invokevirtual 1202220), (10, 11, .aload 0), (11, 14, .getfield 12320),
  (14, 15, .istore 1), (15, 16, .aload 0), (16, 17, .iconst 0), (17, 20, .invokevirtual 1202251), (20, 21, .iload 1), (21, 22, .ireturn)]
/-- SaddlerKnowsModel.inRings()I -/
def zc_281 : zk_C := [
  (0, 1, .iconst 0), (1, 2, .istore 1), (2, 3, .iconst 0), (3, 4, .istore 2), (4, 5, .iload 2), (5, 6, .aload 0), (6, 9, .getfield 12250), (9, 12, .if_icmp .ge 40),
  (12, 13, .iload 1), (13, 14, .aload 0), (14, 15, .iload 2), (15, 18, .invokevirtual 1212222), (18, 19, .iload 2), (19, 22, .invokestatic 1212161), (22, 25, .ifCond .eq 31), (25, 26, .iconst 1),
  (26, 27, .iload 2), (27, 28, .ishl), (28, 31, .goto 32), (31, 32, .iconst 0), (32, 33, .ior), (33, 34, .istore 1), (34, 37, .iinc 2 1), (37, 40, .goto 4),
  (40, 41, .iload 1), (41, 42, .ireturn)]
/-- SaddlerKnowsModel.sides()I -/
def zc_282 : zk_C := [
  (0, 1, .iconst 0), (1, 2, .istore 1), (2, 3, .iconst 0), (3, 4, .istore 2), (4, 5, .iload 2), (5, 6, .aload 0), (6, 9, .getfield 12250), (9, 12, .if_icmp .ge 57),
  (12, 13, .iconst 0), (13, 14, .istore 3), (14, 15, .iload 3), (15, 16, .iload 2), (16, 19, .if_icmp .ge 51), (19, 20, .iload 1), (20, 21, .aload 0), (21, 22, .iload 2),
  (22, 23, .iload 3), (23, 26, .invokevirtual 1213232), (26, 29, .ifCond .eq 42), (29, 30, .aload 0), (30, 31, .iload 3), (31, 32, .iload 2), (32, 35, .invokevirtual 1213232), (35, 38, .ifCond .eq 42),
  (38, 39, .iconst 1), (39, 42, .goto 43), (42, 43, .iconst 0), (43, 44, .iadd), (44, 45, .istore 1), (45, 48, .iinc 3 1), (48, 51, .goto 14), (51, 54, .iinc 2 1),
  (54, 57, .goto 4), (57, 58, .iload 1), (58, 59, .ireturn)]
/-- SaddlerKnowsModel.most(I)I -/
def zc_283 : zk_C := [
  (0, 1, .aload 0), (1, 4, .getfield 12250), (4, 7, .ifCond .eq 17), (7, 8, .iload 1), (8, 9, .iconst 0), (9, 11, .iconst 13), (11, 14, .invokestatic 1213160), (14, 17, .ifCond .ne 19),
  (17, 18, .iconst (-1)), (18, 19, .ireturn), (19, 20, .iload 1), (20, 68, .lookupswitch 110 #[(6, 68), (7, 73), (8, 79), (9, 85), (10, 90), (11, 95), (12, 100), (13, 105)]), (68, 69, .aload 0), (69, 72, .invokevirtual 1211278), (72, 73, .ireturn), (73, 74, .aload 0),
  (74, 75, .iconst 0), (75, 78, .invokevirtual 1212279), (78, 79, .ireturn), (79, 80, .aload 0), (80, 81, .iconst 1), (81, 84, .invokevirtual 1212279), (84, 85, .ireturn), (85, 86, .aload 0),
  (86, 89, .invokevirtual 1211280), (89, 90, .ireturn), (90, 91, .aload 0), (91, 94, .invokevirtual 1211216), (94, 95, .ireturn), (95, 96, .aload 0), (96, 99, .invokevirtual 1211217), (99, 100, .ireturn),
  (100, 101, .aload 0), (101, 104, .invokevirtual 1211281), (104, 105, .ireturn), (105, 106, .aload 0), (106, 109, .invokevirtual 1211282), (109, 110, .ireturn), (110, 111, .aload 0), (111, 112, .iload 1),
  (112, 115, .invokevirtual 1212277), (115, 116, .ireturn)]
/-- SaddlerKnowsModel.image()I -/
def zc_284 : zk_C := [
  (0, 1, .aload 0), (1, 4, .getfield 12250), (4, 7, .ifCond .ne 9), (7, 8, .iconst (-1)), (8, 9, .ireturn), (9, 10, .iconst 0), (10, 11, .istore 1), (11, 12, .iload 1),
  (12, 15, .iconst 221), (15, 18, .if_icmp .ge 36), (18, 19, .aload 0), (19, 22, .getfield 12492), (22, 23, .iload 1), (23, 24, .aload 0), (24, 27, .getfield 12272), (27, 28, .iload 1),
  (28, 29, .iaload), (29, 30, .iastore), (30, 33, .iinc 1 1), (33, 36, .goto 11), (36, 37, .aload 0), (37, 38, .iconst 1), (38, 41, .putfield 12503), (41, 42, .aload 0),
  (42, 45, .getfield 12272), (45, 47, .iconst 39), (47, 48, .iaload), (48, 49, .ireturn)]
/-- SaddlerKnowsModel.back()I -/
def zc_285 : zk_C := [
  (0, 1, .aload 0), (1, 4, .getfield 12500), (4, 7, .ifCond .ne 9), (7, 8, .iconst (-1)), (8, 9, .ireturn), (9, 10, .iconst 0), (10, 11, .istore 1), (11, 12, .iload 1),
  (12, 15, .iconst 221), (15, 18, .if_icmp .ge 36), (18, 19, .aload 0), (19, 22, .getfield 12272), (22, 23, .iload 1), (23, 24, .aload 0), (24, 27, .getfield 12492), (27, 28, .iload 1),
  (28, 29, .iaload), (29, 30, .iastore), (30, 33, .iinc 1 1), (33, 36, .goto 11), (36, 37, .aload 0), (37, 38, .iconst 0), (38, 41, .putfield 12340), (41, 42, .aload 0),
  (42, 45, .getfield 12272), (45, 47, .iconst 39), (47, 48, .iaload), (48, 49, .ireturn)]
/-- SaddlerKnowsModel.count(I)I -/
def zc_286 : zk_C := [
  (0, 1, .iload 1), (1, 60, .lookupswitch 124 #[(0, 60), (1, 65), (2, 70), (3, 75), (4, 80), (5, 85), (6, 93), (7, 101), (8, 106), (9, 111), (10, 119)]), (60, 61, .aload 0), (61, 64, .getfield 12250), (64, 65, .ireturn), (65, 66, .aload 0), (66, 69, .getfield 12260), (69, 70, .ireturn),
  (70, 71, .aload 0), (71, 74, .getfield 12130), (74, 75, .ireturn), (75, 76, .aload 0), (76, 79, .getfield 12020), (79, 80, .ireturn), (80, 81, .aload 0), (81, 84, .getfield 12290),
  (84, 85, .ireturn), (85, 86, .aload 0), (86, 89, .getfield 12272), (89, 91, .iconst 39), (91, 92, .iaload), (92, 93, .ireturn), (93, 94, .aload 0), (94, 97, .invokevirtual 1211216),
  (97, 100, .invokestatic 1611301), (100, 101, .ireturn), (101, 102, .aload 0), (102, 105, .getfield 12300), (105, 106, .ireturn), (106, 107, .aload 0), (107, 110, .getfield 12460), (110, 111, .ireturn),
  (111, 112, .aload 0), (112, 115, .getfield 12272), (115, 117, .iconst 40), (117, 118, .iaload), (118, 119, .ireturn), (119, 120, .aload 0), (120, 123, .getfield 12340), (123, 124, .ireturn),
  (124, 127, .iconst (-1000000)), (127, 128, .ireturn)]
/-- String.length()I -/
def zc_287 : zk_C := [
  (0, 1, .aload 0), (1, 4, .getfield 13002), (4, 5, .arraylength), (5, 6, .aload 0), (6, 9, .invokevirtual 1311290), (9, 10, .ishr), (10, 11, .ireturn)]
/-- String.indexOf(I)I -/
def zc_288 : zk_C := [
  (0, 1, .aload 0), (1, 2, .iload 1), (2, 3, .iconst 0), (3, 6, .invokevirtual 1313289), (6, 7, .ireturn)]
/-- String.indexOf(II)I -/
def zc_289 : zk_C := [
  (0, 1, .aload 0), (1, 4, .invokevirtual 1311291), (4, 7, .ifCond .eq 23), (7, 8, .aload 0), (8, 11, .getfield 13002), (11, 12, .iload 1), (12, 13, .iload 2), (13, 14, .aload 0),
  (14, 17, .invokevirtual 1311287), (17, 20, .invokestatic 1414293), (20, 23, .goto 36), (23, 24, .aload 0), (24, 27, .getfield 13002), (27, 28, .iload 1), (28, 29, .iload 2), (29, 30, .aload 0),
  (30, 33, .invokevirtual 1311287), (36, 37, .ireturn)]
/-- String.coder()B -/
def zc_290 : zk_C := [
  (0, 3, .getstatic 0), (3, 6, .ifCond .eq 13), (6, 7, .aload 0), (7, 10, .getfield 13010), (10, 13, .goto 14), (13, 14, .iconst 1), (14, 15, .ret 2)]
/-- String.isLatin1()Z -/
def zc_291 : zk_C := [
  (0, 3, .getstatic 0), (3, 6, .ifCond .eq 17), (6, 7, .aload 0), (7, 10, .getfield 13010), (10, 13, .ifCond .ne 17), (13, 14, .iconst 1), (14, 17, .goto 18), (17, 18, .iconst 0),
  (18, 19, .ret 1)]
/-- StringLatin1.canEncode(I)Z -/
def zc_292 : zk_C := [
  (0, 1, .iload 0), (1, 4, .ifCond .lt 15), (4, 5, .iload 0), (5, 8, .iconst 255), (8, 11, .if_icmp .gt 15), (11, 12, .iconst 1), (12, 15, .goto 16), (15, 16, .iconst 0),
  (16, 17, .ret 1)]
/-- StringLatin1.indexOf([BIII)I -/
def zc_293 : zk_C := [
  (0, 1, .iload 1), (1, 4, .invokestatic 1411292), (4, 7, .ifCond .ne 9), (7, 8, .iconst (-1)), (8, 9, .ireturn), (9, 10, .iload 2), (10, 11, .iconst 0), (11, 14, .invokestatic 1512297),
  (14, 15, .istore 2), (15, 16, .iload 3), (16, 17, .aload 0), (17, 18, .arraylength), (18, 21, .invokestatic 1512299), (21, 22, .istore 3), (22, 23, .iload 2), (23, 24, .iload 3),
  (24, 27, .if_icmp .lt 29), (27, 28, .iconst (-1)), (28, 29, .ireturn), (29, 30, .aload 0), (30, 31, .iload 1), (31, 32, .iload 2), (32, 33, .iload 3), (33, 36, .invokestatic 1414294),
  (36, 37, .ireturn)]
/-- StringLatin1.indexOfChar([BIII)I -/
def zc_294 : zk_C := [
  (0, 1, .iload 1), (1, 2, .i2b), (2, 4, .istore 4), (4, 5, .iload 2), (5, 7, .istore 5), (7, 9, .iload 5), (9, 10, .iload 3), (10, 13, .if_icmp .ge 31),
  (13, 14, .aload 0), (14, 16, .iload 5), (16, 17, .baload), (17, 19, .iload 4), (19, 22, .if_icmp .ne 25), (22, 24, .iload 5), (24, 25, .ireturn), (25, 28, .iinc 5 1),
  (28, 31, .goto 7), (31, 32, .iconst (-1)), (32, 33, .ireturn)]
/-- Math.floorMod(II)I -/
def zc_295 : zk_C := [
  (0, 1, .iload 0), (1, 2, .iload 1), (2, 3, .irem), (3, 4, .istore 2), (4, 5, .iload 0), (5, 6, .iload 1), (6, 7, .ixor), (7, 10, .ifCond .ge 18),
  (10, 11, .iload 2), (11, 14, .ifCond .eq 18), (14, 15, .iload 2), (15, 16, .iload 1), (16, 17, .iadd), (17, 18, .ireturn), (18, 19, .iload 2), (19, 20, .ireturn)]
/-- Math.abs(I)I -/
def zc_296 : zk_C := [
  (0, 1, .iload 0), (1, 4, .ifCond .ge 9), (4, 5, .iload 0), (5, 6, .ineg), (6, 9, .goto 10), (9, 10, .iload 0), (10, 11, .ireturn)]
/-- Math.max(II)I -/
def zc_297 : zk_C := [
  (0, 1, .iload 0), (1, 2, .iload 1), (2, 5, .if_icmp .lt 9), (5, 6, .iload 0), (6, 9, .goto 10), (9, 10, .iload 1), (10, 11, .ireturn)]
/-- Math.max(JJ)J -/
def zc_298 : zk_C := [
  (0, 1, .lload 0), (1, 2, .lload 2), (2, 3, .lcmp), (3, 6, .ifCond .lt 10), (6, 7, .lload 0), (7, 10, .goto 11), (10, 11, .lload 2), (11, 12, .lreturn)]
/-- Math.min(II)I -/
def zc_299 : zk_C := [
  (0, 1, .iload 0), (1, 2, .iload 1), (2, 5, .if_icmp .gt 9), (5, 6, .iload 0), (6, 9, .goto 10), (9, 10, .iload 1), (10, 11, .ireturn)]
/-- Math.min(JJ)J -/
def zc_300 : zk_C := [
  (0, 1, .lload 0), (1, 2, .lload 2), (2, 3, .lcmp), (3, 6, .ifCond .gt 10), (6, 7, .lload 0), (7, 10, .goto 11), (10, 11, .lload 2), (11, 12, .lreturn)]
/-- Integer.bitCount(I)I -/
def zc_301 : zk_C := [
  (0, 1, .iload 0), (1, 2, .iload 0), (2, 3, .iconst 1), (3, 4, .iushr), (4, 7, .iconst 1431655765), (7, 8, .iand), (8, 9, .isub), (9, 10, .istore 0),
  (10, 11, .iload 0), (11, 14, .iconst 858993459), (14, 15, .iand), (15, 16, .iload 0), (16, 17, .iconst 2), (17, 18, .iushr), (18, 21, .iconst 858993459), (21, 22, .iand),
  (22, 23, .iadd), (23, 24, .istore 0), (24, 25, .iload 0), (25, 26, .iload 0), (26, 27, .iconst 4), (27, 28, .iushr), (28, 29, .iadd), (29, 32, .iconst 252645135),
  (32, 33, .iand), (33, 34, .istore 0), (34, 35, .iload 0), (35, 36, .iload 0), (36, 38, .iconst 8), (38, 39, .iushr), (39, 40, .iadd), (40, 41, .istore 0),
  (41, 42, .iload 0), (42, 43, .iload 0), (43, 45, .iconst 16), (45, 46, .iushr), (46, 47, .iadd), (47, 48, .istore 0), (48, 49, .iload 0), (49, 51, .iconst 63),
  (51, 52, .iand), (52, 53, .ireturn)]
/-- SaddlerKnowsLaw.person(LSaddlerKnows;II[J)I -/
def zc_302 : zk_C := [
  (0, 1, .aload 3), (1, 2, .iconst 0), (2, 3, .aload 0), (3, 4, .iload 1), (4, 5, .iload 2), (5, 8, .invokevirtual 1113105), (8, 9, .i2l), (9, 10, .lastore),
  (10, 13, .goto 17), (13, 15, .astore 4), (15, 16, .iconst 1), (16, 17, .ireturn), (17, 18, .iconst 0), (18, 19, .ireturn)]
/-- SaddlerKnowsLaw.law([I)Z -/
def zc_303 : zk_C := [
  (0, 3, .new 11), (3, 4, .dup), (4, 7, .invokespecial 1101097), (7, 8, .astore 1), (8, 11, .new 12), (11, 12, .dup), (12, 15, .invokespecial 1201162), (15, 16, .astore 2),
  (16, 17, .iconst 1), (17, 19, .newarray .long), (19, 20, .astore 3), (20, 21, .iconst 0), (21, 23, .istore 4), (23, 25, .iload 4), (25, 26, .aload 0), (26, 27, .arraylength),
  (27, 29, .iconst 6), (29, 30, .isub), (30, 33, .if_icmp .gt 1567), (33, 34, .aload 0), (34, 36, .iload 4), (36, 37, .iaload), (37, 39, .iconst 63), (39, 40, .iand),
  (40, 208, .lookupswitch 1561 #[(0, 208), (1, 281), (2, 306), (3, 331), (4, 356), (5, 381), (6, 449), (7, 486), (8, 511), (9, 536), (10, 585), (11, 622), (12, 647), (13, 672), (14, 697), (15, 722), (16, 791), (17, 816), (18, 829), (19, 866), (20, 891), (21, 940), (22, 977), (23, 1002), (24, 1051), (25, 1064), (26, 1101), (27, 1126), (28, 1203), (29, 1240), (30, 1277), (31, 1350), (32, 1399), (33, 1448), (34, 1485), (35, 1510), (36, 1523), (37, 1536)]), (208, 209, .aload 1), (209, 210, .aload 0), (210, 212, .iload 4), (212, 213, .iconst 1), (213, 214, .iadd), (214, 215, .iaload), (215, 216, .aload 0),
  (216, 218, .iload 4), (218, 219, .iconst 2), (219, 220, .iadd), (220, 221, .iaload), (221, 222, .aload 0), (222, 224, .iload 4), (224, 225, .iconst 3), (225, 226, .iadd),
  (226, 227, .iaload), (227, 228, .aload 0), (228, 230, .iload 4), (230, 231, .iconst 4), (231, 232, .iadd), (232, 233, .iaload), (233, 234, .aload 0), (234, 236, .iload 4),
  (236, 237, .iconst 5), (237, 238, .iadd), (238, 239, .iaload), (239, 242, .invokevirtual 1116098), (242, 243, .aload 2), (243, 244, .aload 0), (244, 246, .iload 4), (246, 247, .iconst 1),
  (247, 248, .iadd), (248, 249, .iaload), (249, 250, .aload 0), (250, 252, .iload 4), (252, 253, .iconst 2), (253, 254, .iadd), (254, 255, .iaload), (255, 256, .aload 0),
  (256, 258, .iload 4), (258, 259, .iconst 3), (259, 260, .iadd), (260, 261, .iaload), (261, 262, .aload 0), (262, 264, .iload 4), (264, 265, .iconst 4), (265, 266, .iadd),
  (266, 267, .iaload), (267, 268, .aload 0), (268, 270, .iload 4), (270, 271, .iconst 5), (271, 272, .iadd), (272, 273, .iaload), (273, 276, .invokevirtual 1216165), (276, 279, .if_icmp .eq 1561),
  (279, 280, .iconst 0), (280, 281, .ret 1), (281, 282, .aload 1), (282, 283, .aload 0), (283, 285, .iload 4), (285, 286, .iconst 1), (286, 287, .iadd), (287, 288, .iaload),
  (288, 291, .invokevirtual 1112099), (291, 292, .aload 2), (292, 293, .aload 0), (293, 295, .iload 4), (295, 296, .iconst 1), (296, 297, .iadd), (297, 298, .iaload), (298, 301, .invokevirtual 1212166),
  (301, 304, .if_icmp .eq 1561), (304, 305, .iconst 0), (305, 306, .ret 1), (306, 307, .aload 1), (307, 308, .aload 0), (308, 310, .iload 4), (310, 311, .iconst 1), (311, 312, .iadd),
  (312, 313, .iaload), (313, 316, .invokevirtual 1112100), (316, 317, .aload 2), (317, 318, .aload 0), (318, 320, .iload 4), (320, 321, .iconst 1), (321, 322, .iadd), (322, 323, .iaload),
  (323, 326, .invokevirtual 1212200), (326, 329, .if_icmp .eq 1561), (329, 330, .iconst 0), (330, 331, .ret 1), (331, 332, .aload 1), (332, 333, .aload 0), (333, 335, .iload 4), (335, 336, .iconst 1),
  (336, 337, .iadd), (337, 338, .iaload), (338, 341, .invokevirtual 1112101), (341, 342, .aload 2), (342, 343, .aload 0), (343, 345, .iload 4), (345, 346, .iconst 1), (346, 347, .iadd),
  (347, 348, .iaload), (348, 351, .invokevirtual 1212203), (351, 354, .if_icmp .eq 1561), (354, 355, .iconst 0), (355, 356, .ret 1), (356, 357, .aload 1), (357, 358, .aload 0), (358, 360, .iload 4),
  (360, 361, .iconst 1), (361, 362, .iadd), (362, 363, .iaload), (363, 366, .invokevirtual 1112104), (366, 367, .aload 2), (367, 368, .aload 0), (368, 370, .iload 4), (370, 371, .iconst 1),
  (371, 372, .iadd), (372, 373, .iaload), (373, 376, .invokevirtual 1212223), (376, 379, .if_icmp .eq 1561), (379, 380, .iconst 0), (380, 381, .ret 1), (381, 382, .aload 1), (382, 383, .aload 0),
  (383, 385, .iload 4), (385, 386, .iconst 1), (386, 387, .iadd), (387, 388, .iaload), (388, 389, .aload 0), (389, 391, .iload 4), (391, 392, .iconst 2), (392, 393, .iadd),
  (393, 394, .iaload), (394, 395, .aload 3), (395, 398, .invokestatic 1714302), (398, 400, .istore 5), (400, 401, .aload 2), (401, 402, .aload 0), (402, 404, .iload 4), (404, 405, .iconst 1),
  (405, 406, .iadd), (406, 407, .iaload), (407, 408, .aload 0), (408, 410, .iload 4), (410, 411, .iconst 2), (411, 412, .iadd), (412, 413, .iaload), (413, 416, .invokevirtual 1213224),
  (416, 418, .istore 6), (418, 419, .aload 2), (419, 422, .invokevirtual 1211163), (422, 424, .iload 5), (424, 427, .if_icmp .eq 429), (427, 428, .iconst 0), (428, 429, .ret 1), (429, 431, .iload 5),
  (431, 434, .ifCond .ne 446), (434, 435, .aload 3), (435, 436, .iconst 0), (436, 437, .laload), (437, 439, .iload 6), (439, 440, .i2l), (440, 441, .lcmp), (441, 444, .ifCond .eq 446),
  (444, 445, .iconst 0), (445, 446, .ret 1), (446, 449, .goto 1561), (449, 450, .aload 1), (450, 451, .aload 0), (451, 453, .iload 4), (453, 454, .iconst 1), (454, 455, .iadd),
  (455, 456, .iaload), (456, 457, .aload 0), (457, 459, .iload 4), (459, 460, .iconst 2), (460, 461, .iadd), (461, 462, .iaload), (462, 465, .invokevirtual 1113106), (465, 466, .aload 2),
  (466, 467, .aload 0), (467, 469, .iload 4), (469, 470, .iconst 1), (470, 471, .iadd), (471, 472, .iaload), (472, 473, .aload 0), (473, 475, .iload 4), (475, 476, .iconst 2),
  (476, 477, .iadd), (477, 478, .iaload), (478, 481, .invokevirtual 1213225), (481, 484, .if_icmp .eq 1561), (484, 485, .iconst 0), (485, 486, .ret 1), (486, 487, .aload 1), (487, 488, .aload 0),
  (488, 490, .iload 4), (490, 491, .iconst 1), (491, 492, .iadd), (492, 493, .iaload), (493, 496, .invokevirtual 1112107), (496, 497, .aload 2), (497, 498, .aload 0), (498, 500, .iload 4),
  (500, 501, .iconst 1), (501, 502, .iadd), (502, 503, .iaload), (503, 506, .invokevirtual 1212226), (506, 509, .if_icmp .eq 1561), (509, 510, .iconst 0), (510, 511, .ret 1), (511, 512, .aload 1),
  (512, 513, .aload 0), (513, 515, .iload 4), (515, 516, .iconst 1), (516, 517, .iadd), (517, 518, .iaload), (518, 521, .invokevirtual 1112111), (521, 522, .aload 2), (522, 523, .aload 0),
  (523, 525, .iload 4), (525, 526, .iconst 1), (526, 527, .iadd), (527, 528, .iaload), (528, 531, .invokevirtual 1212230), (531, 534, .if_icmp .eq 1561), (534, 535, .iconst 0), (535, 536, .ret 1),
  (536, 537, .aload 1), (537, 538, .aload 0), (538, 540, .iload 4), (540, 541, .iconst 1), (541, 542, .iadd), (542, 543, .iaload), (543, 544, .aload 0), (544, 546, .iload 4),
  (546, 547, .iconst 2), (547, 548, .iadd), (548, 549, .iaload), (549, 550, .aload 0), (550, 552, .iload 4), (552, 553, .iconst 3), (553, 554, .iadd), (554, 555, .iaload),
  (555, 558, .invokevirtual 1114112), (558, 559, .aload 2), (559, 560, .aload 0), (560, 562, .iload 4), (562, 563, .iconst 1), (563, 564, .iadd), (564, 565, .iaload), (565, 566, .aload 0),
  (566, 568, .iload 4), (568, 569, .iconst 2), (569, 570, .iadd), (570, 571, .iaload), (571, 572, .aload 0), (572, 574, .iload 4), (574, 575, .iconst 3), (575, 576, .iadd),
  (576, 577, .iaload), (577, 580, .invokevirtual 1214234), (580, 583, .if_icmp .eq 1561), (583, 584, .iconst 0), (584, 585, .ret 1), (585, 586, .aload 1), (586, 587, .aload 0), (587, 589, .iload 4),
  (589, 590, .iconst 1), (590, 591, .iadd), (591, 592, .iaload), (592, 593, .aload 0), (593, 595, .iload 4), (595, 596, .iconst 2), (596, 597, .iadd), (597, 598, .iaload),
  (598, 601, .invokevirtual 1113113), (601, 602, .aload 2), (602, 603, .aload 0), (603, 605, .iload 4), (605, 606, .iconst 1), (606, 607, .iadd), (607, 608, .iaload), (608, 609, .aload 0),
  (609, 611, .iload 4), (611, 612, .iconst 2), (612, 613, .iadd), (613, 614, .iaload), (614, 617, .invokevirtual 1213235), (617, 620, .if_icmp .eq 1561), (620, 621, .iconst 0), (621, 622, .ret 1),
  (622, 623, .aload 1), (623, 624, .aload 0), (624, 626, .iload 4), (626, 627, .iconst 1), (627, 628, .iadd), (628, 629, .iaload), (629, 632, .invokevirtual 1112114), (632, 633, .aload 2),
  (633, 634, .aload 0), (634, 636, .iload 4), (636, 637, .iconst 1), (637, 638, .iadd), (638, 639, .iaload), (639, 642, .invokevirtual 1212236), (642, 645, .if_icmp .eq 1561), (645, 646, .iconst 0),
  (646, 647, .ret 1), (647, 648, .aload 1), (648, 649, .aload 0), (649, 651, .iload 4), (651, 652, .iconst 1), (652, 653, .iadd), (653, 654, .iaload), (654, 657, .invokevirtual 1112115),
  (657, 658, .aload 2), (658, 659, .aload 0), (659, 661, .iload 4), (661, 662, .iconst 1), (662, 663, .iadd), (663, 664, .iaload), (664, 667, .invokevirtual 1212237), (667, 670, .if_icmp .eq 1561),
  (670, 671, .iconst 0), (671, 672, .ret 1), (672, 673, .aload 1), (673, 674, .aload 0), (674, 676, .iload 4), (676, 677, .iconst 1), (677, 678, .iadd), (678, 679, .iaload),
  (679, 682, .invokevirtual 1112116), (682, 683, .aload 2), (683, 684, .aload 0), (684, 686, .iload 4), (686, 687, .iconst 1), (687, 688, .iadd), (688, 689, .iaload), (689, 692, .invokevirtual 1212238),
  (692, 695, .if_icmp .eq 1561), (695, 696, .iconst 0), (696, 697, .ret 1), (697, 698, .aload 1), (698, 699, .aload 0), (699, 701, .iload 4), (701, 702, .iconst 1), (702, 703, .iadd),
  (703, 704, .iaload), (704, 707, .invokevirtual 1112119), (707, 708, .aload 2), (708, 709, .aload 0), (709, 711, .iload 4), (711, 712, .iconst 1), (712, 713, .iadd), (713, 714, .iaload),
  (714, 717, .invokevirtual 1212239), (717, 720, .if_icmp .eq 1561), (720, 721, .iconst 0), (721, 722, .ret 1), (722, 723, .aload 1), (723, 724, .aload 0), (724, 726, .iload 4), (726, 727, .iconst 1),
  (727, 728, .iadd), (728, 729, .iaload), (729, 730, .aload 0), (730, 732, .iload 4), (732, 733, .iconst 2), (733, 734, .iadd), (734, 735, .iaload), (735, 736, .i2l),
  (736, 738, .iconst 32), (738, 739, .lshl), (739, 740, .aload 0), (740, 742, .iload 4), (742, 743, .iconst 3), (743, 744, .iadd), (744, 745, .iaload), (745, 746, .i2l),
  (746, 749, .sipush 4294967295), (749, 750, .land), (750, 751, .lor), (751, 754, .invokevirtual 1113120), (754, 755, .aload 2), (755, 756, .aload 0), (756, 758, .iload 4), (758, 759, .iconst 1),
  (759, 760, .iadd), (760, 761, .iaload), (761, 762, .aload 0), (762, 764, .iload 4), (764, 765, .iconst 2), (765, 766, .iadd), (766, 767, .iaload), (767, 768, .i2l),
  (768, 770, .iconst 32), (770, 771, .lshl), (771, 772, .aload 0), (772, 774, .iload 4), (774, 775, .iconst 3), (775, 776, .iadd), (776, 777, .iaload), (777, 778, .i2l),
  (778, 781, .sipush 4294967295), (781, 782, .land), (782, 783, .lor), (783, 786, .invokevirtual 1213242), (786, 789, .if_icmp .eq 1561), (789, 790, .iconst 0), (790, 791, .ret 1), (791, 792, .aload 1),
  (792, 793, .aload 0), (793, 795, .iload 4), (795, 796, .iconst 1), (796, 797, .iadd), (797, 798, .iaload), (798, 801, .invokevirtual 1112117), (801, 802, .aload 2), (802, 803, .aload 0),
  (803, 805, .iload 4), (805, 806, .iconst 1), (806, 807, .iadd), (807, 808, .iaload), (808, 811, .invokevirtual 1212243), (811, 814, .if_icmp .eq 1561), (814, 815, .iconst 0), (815, 816, .ret 1),
  (816, 817, .aload 1), (817, 820, .invokevirtual 1111118), (820, 821, .aload 2), (821, 824, .invokevirtual 1211244), (824, 827, .if_icmp .eq 1561), (827, 828, .iconst 0), (828, 829, .ret 1), (829, 830, .aload 1),
  (830, 831, .aload 0), (831, 833, .iload 4), (833, 834, .iconst 1), (834, 835, .iadd), (835, 836, .iaload), (836, 837, .aload 0), (837, 839, .iload 4), (839, 840, .iconst 2),
  (840, 841, .iadd), (841, 842, .iaload), (842, 845, .invokevirtual 1113109), (845, 846, .aload 2), (846, 847, .aload 0), (847, 849, .iload 4), (849, 850, .iconst 1), (850, 851, .iadd),
  (851, 852, .iaload), (852, 853, .aload 0), (853, 855, .iload 4), (855, 856, .iconst 2), (856, 857, .iadd), (857, 858, .iaload), (858, 861, .invokevirtual 1213245), (861, 864, .if_icmp .eq 1561),
  (864, 865, .iconst 0), (865, 866, .ret 1), (866, 867, .aload 1), (867, 868, .aload 0), (868, 870, .iload 4), (870, 871, .iconst 1), (871, 872, .iadd), (872, 873, .iaload),
  (873, 876, .invokevirtual 1112108), (876, 877, .aload 2), (877, 878, .aload 0), (878, 880, .iload 4), (880, 881, .iconst 1), (881, 882, .iadd), (882, 883, .iaload), (883, 886, .invokevirtual 1212246),
  (886, 889, .if_icmp .eq 1561), (889, 890, .iconst 0), (890, 891, .ret 1), (891, 892, .aload 1), (892, 893, .aload 0), (893, 895, .iload 4), (895, 896, .iconst 1), (896, 897, .iadd),
  (897, 898, .iaload), (898, 899, .aload 0), (899, 901, .iload 4), (901, 902, .iconst 2), (902, 903, .iadd), (903, 904, .iaload), (904, 905, .aload 0), (905, 907, .iload 4),
  (907, 908, .iconst 3), (908, 909, .iadd), (909, 910, .iaload), (910, 913, .invokevirtual 1114123), (913, 914, .aload 2), (914, 915, .aload 0), (915, 917, .iload 4), (917, 918, .iconst 1),
  (918, 919, .iadd), (919, 920, .iaload), (920, 921, .aload 0), (921, 923, .iload 4), (923, 924, .iconst 2), (924, 925, .iadd), (925, 926, .iaload), (926, 927, .aload 0),
  (927, 929, .iload 4), (929, 930, .iconst 3), (930, 931, .iadd), (931, 932, .iaload), (932, 935, .invokevirtual 1214247), (935, 938, .if_icmp .eq 1561), (938, 939, .iconst 0), (939, 940, .ret 1),
  (940, 941, .aload 1), (941, 942, .aload 0), (942, 944, .iload 4), (944, 945, .iconst 1), (945, 946, .iadd), (946, 947, .iaload), (947, 948, .aload 0), (948, 950, .iload 4),
  (950, 951, .iconst 2), (951, 952, .iadd), (952, 953, .iaload), (953, 956, .invokevirtual 1113124), (956, 957, .aload 2), (957, 958, .aload 0), (958, 960, .iload 4), (960, 961, .iconst 1),
  (961, 962, .iadd), (962, 963, .iaload), (963, 964, .aload 0), (964, 966, .iload 4), (966, 967, .iconst 2), (967, 968, .iadd), (968, 969, .iaload), (969, 972, .invokevirtual 1213249),
  (972, 975, .if_icmp .eq 1561), (975, 976, .iconst 0), (976, 977, .ret 1), (977, 978, .aload 1), (978, 979, .aload 0), (979, 981, .iload 4), (981, 982, .iconst 1), (982, 983, .iadd),
  (983, 984, .iaload), (984, 987, .invokevirtual 1112125), (987, 988, .aload 2), (988, 989, .aload 0), (989, 991, .iload 4), (991, 992, .iconst 1), (992, 993, .iadd), (993, 994, .iaload),
  (994, 997, .invokevirtual 1212253), (997, 1000, .if_icmp .eq 1561), (1000, 1001, .iconst 0), (1001, 1002, .ret 1), (1002, 1003, .aload 1), (1003, 1004, .aload 0), (1004, 1006, .iload 4), (1006, 1007, .iconst 1),
  (1007, 1008, .iadd), (1008, 1009, .iaload), (1009, 1010, .aload 0), (1010, 1012, .iload 4), (1012, 1013, .iconst 2), (1013, 1014, .iadd), (1014, 1015, .iaload), (1015, 1016, .aload 0),
  (1016, 1018, .iload 4), (1018, 1019, .iconst 3), (1019, 1020, .iadd), (1020, 1021, .iaload), (1021, 1024, .invokevirtual 1114126), (1024, 1025, .aload 2), (1025, 1026, .aload 0), (1026, 1028, .iload 4),
  (1028, 1029, .iconst 1), (1029, 1030, .iadd), (1030, 1031, .iaload), (1031, 1032, .aload 0), (1032, 1034, .iload 4), (1034, 1035, .iconst 2), (1035, 1036, .iadd), (1036, 1037, .iaload),
  (1037, 1038, .aload 0), (1038, 1040, .iload 4), (1040, 1041, .iconst 3), (1041, 1042, .iadd), (1042, 1043, .iaload), (1043, 1046, .invokevirtual 1214257), (1046, 1049, .if_icmp .eq 1561), (1049, 1050, .iconst 0),
  (1050, 1051, .ret 1), (1051, 1052, .aload 1), (1052, 1055, .invokevirtual 1111127), (1055, 1056, .aload 2), (1056, 1059, .invokevirtual 1211259), (1059, 1062, .if_icmp .eq 1561), (1062, 1063, .iconst 0), (1063, 1064, .ret 1),
  (1064, 1065, .aload 1), (1065, 1066, .aload 0), (1066, 1068, .iload 4), (1068, 1069, .iconst 1), (1069, 1070, .iadd), (1070, 1071, .iaload), (1071, 1072, .aload 0), (1072, 1074, .iload 4),
  (1074, 1075, .iconst 2), (1075, 1076, .iadd), (1076, 1077, .iaload), (1077, 1080, .invokevirtual 1113128), (1080, 1081, .aload 2), (1081, 1082, .aload 0), (1082, 1084, .iload 4), (1084, 1085, .iconst 1),
  (1085, 1086, .iadd), (1086, 1087, .iaload), (1087, 1088, .aload 0), (1088, 1090, .iload 4), (1090, 1091, .iconst 2), (1091, 1092, .iadd), (1092, 1093, .iaload), (1093, 1096, .invokevirtual 1213260),
  (1096, 1099, .if_icmp .eq 1561), (1099, 1100, .iconst 0), (1100, 1101, .ret 1), (1101, 1102, .aload 1), (1102, 1103, .aload 0), (1103, 1105, .iload 4), (1105, 1106, .iconst 1), (1106, 1107, .iadd),
  (1107, 1108, .iaload), (1108, 1111, .invokevirtual 1112129), (1111, 1112, .aload 2), (1112, 1113, .aload 0), (1113, 1115, .iload 4), (1115, 1116, .iconst 1), (1116, 1117, .iadd), (1117, 1118, .iaload),
  (1118, 1121, .invokevirtual 1212262), (1121, 1124, .if_icmp .eq 1561), (1124, 1125, .iconst 0), (1125, 1126, .ret 1), (1126, 1127, .aload 1), (1127, 1128, .aload 0), (1128, 1130, .iload 4), (1130, 1131, .iconst 1),
  (1131, 1132, .iadd), (1132, 1133, .iaload), (1133, 1134, .aload 0), (1134, 1136, .iload 4), (1136, 1137, .iconst 2), (1137, 1138, .iadd), (1138, 1139, .iaload), (1139, 1140, .aload 0),
  (1140, 1142, .iload 4), (1142, 1143, .iconst 3), (1143, 1144, .iadd), (1144, 1145, .iaload), (1145, 1146, .aload 0), (1146, 1148, .iload 4), (1148, 1149, .iconst 4), (1149, 1150, .iadd),
  (1150, 1151, .iaload), (1151, 1154, .ifCond .eq 1158), (1154, 1155, .iconst 1), (1155, 1158, .goto 1159), (1158, 1159, .iconst 0), (1159, 1162, .invokevirtual 1115130), (1162, 1163, .aload 2), (1163, 1164, .aload 0),
  (1164, 1166, .iload 4), (1166, 1167, .iconst 1), (1167, 1168, .iadd), (1168, 1169, .iaload), (1169, 1170, .aload 0), (1170, 1172, .iload 4), (1172, 1173, .iconst 2), (1173, 1174, .iadd),
  (1174, 1175, .iaload), (1175, 1176, .aload 0), (1176, 1178, .iload 4), (1178, 1179, .iconst 3), (1179, 1180, .iadd), (1180, 1181, .iaload), (1181, 1182, .aload 0), (1182, 1184, .iload 4),
  (1184, 1185, .iconst 4), (1185, 1186, .iadd), (1186, 1187, .iaload), (1187, 1190, .ifCond .eq 1194), (1190, 1191, .iconst 1), (1191, 1194, .goto 1195), (1194, 1195, .iconst 0), (1195, 1198, .invokevirtual 1215263),
  (1198, 1201, .if_icmp .eq 1561), (1201, 1202, .iconst 0), (1202, 1203, .ret 1), (1203, 1204, .aload 1), (1204, 1205, .aload 0), (1205, 1207, .iload 4), (1207, 1208, .iconst 1), (1208, 1209, .iadd),
  (1209, 1210, .iaload), (1210, 1211, .aload 0), (1211, 1213, .iload 4), (1213, 1214, .iconst 2), (1214, 1215, .iadd), (1215, 1216, .iaload), (1216, 1219, .invokevirtual 1113131), (1219, 1220, .aload 2),
  (1220, 1221, .aload 0), (1221, 1223, .iload 4), (1223, 1224, .iconst 1), (1224, 1225, .iadd), (1225, 1226, .iaload), (1226, 1227, .aload 0), (1227, 1229, .iload 4), (1229, 1230, .iconst 2),
  (1230, 1231, .iadd), (1231, 1232, .iaload), (1232, 1235, .invokevirtual 1213267), (1235, 1238, .if_icmp .eq 1561), (1238, 1239, .iconst 0), (1239, 1240, .ret 1), (1240, 1241, .aload 1), (1241, 1242, .aload 0),
  (1242, 1244, .iload 4), (1244, 1245, .iconst 1), (1245, 1246, .iadd), (1246, 1247, .iaload), (1247, 1248, .aload 0), (1248, 1250, .iload 4), (1250, 1251, .iconst 2), (1251, 1252, .iadd),
  (1252, 1253, .iaload), (1253, 1256, .invokevirtual 1113132), (1256, 1257, .aload 2), (1257, 1258, .aload 0), (1258, 1260, .iload 4), (1260, 1261, .iconst 1), (1261, 1262, .iadd), (1262, 1263, .iaload),
  (1263, 1264, .aload 0), (1264, 1266, .iload 4), (1266, 1267, .iconst 2), (1267, 1268, .iadd), (1268, 1269, .iaload), (1269, 1272, .invokevirtual 1213268), (1272, 1275, .if_icmp .eq 1561), (1275, 1276, .iconst 0),
  (1276, 1277, .ret 1), (1277, 1278, .aload 1), (1278, 1279, .aload 0), (1279, 1281, .iload 4), (1281, 1282, .iconst 1), (1282, 1283, .iadd), (1283, 1284, .iaload), (1284, 1285, .aload 0),
  (1285, 1287, .iload 4), (1287, 1288, .iconst 2), (1288, 1289, .iadd), (1289, 1290, .iaload), (1290, 1291, .aload 0), (1291, 1293, .iload 4), (1293, 1294, .iconst 3), (1294, 1295, .iadd),
  (1295, 1296, .iaload), (1296, 1297, .aload 0), (1297, 1299, .iload 4), (1299, 1300, .iconst 4), (1300, 1301, .iadd), (1301, 1302, .iaload), (1302, 1303, .aload 0), (1303, 1305, .iload 4),
  (1305, 1306, .iconst 5), (1306, 1307, .iadd), (1307, 1308, .iaload), (1308, 1311, .invokevirtual 1116133), (1311, 1312, .aload 2), (1312, 1313, .aload 0), (1313, 1315, .iload 4), (1315, 1316, .iconst 1),
  (1316, 1317, .iadd), (1317, 1318, .iaload), (1318, 1319, .aload 0), (1319, 1321, .iload 4), (1321, 1322, .iconst 2), (1322, 1323, .iadd), (1323, 1324, .iaload), (1324, 1325, .aload 0),
  (1325, 1327, .iload 4), (1327, 1328, .iconst 3), (1328, 1329, .iadd), (1329, 1330, .iaload), (1330, 1331, .aload 0), (1331, 1333, .iload 4), (1333, 1334, .iconst 4), (1334, 1335, .iadd),
  (1335, 1336, .iaload), (1336, 1337, .aload 0), (1337, 1339, .iload 4), (1339, 1340, .iconst 5), (1340, 1341, .iadd), (1341, 1342, .iaload), (1342, 1345, .invokevirtual 1216270), (1345, 1348, .if_icmp .eq 1561),
  (1348, 1349, .iconst 0), (1349, 1350, .ret 1), (1350, 1351, .aload 1), (1351, 1352, .aload 0), (1352, 1354, .iload 4), (1354, 1355, .iconst 1), (1355, 1356, .iadd), (1356, 1357, .iaload),
  (1357, 1358, .aload 0), (1358, 1360, .iload 4), (1360, 1361, .iconst 2), (1361, 1362, .iadd), (1362, 1363, .iaload), (1363, 1364, .aload 0), (1364, 1366, .iload 4), (1366, 1367, .iconst 3),
  (1367, 1368, .iadd), (1368, 1369, .iaload), (1369, 1372, .invokevirtual 1114134), (1372, 1373, .aload 2), (1373, 1374, .aload 0), (1374, 1376, .iload 4), (1376, 1377, .iconst 1), (1377, 1378, .iadd),
  (1378, 1379, .iaload), (1379, 1380, .aload 0), (1380, 1382, .iload 4), (1382, 1383, .iconst 2), (1383, 1384, .iadd), (1384, 1385, .iaload), (1385, 1386, .aload 0), (1386, 1388, .iload 4),
  (1388, 1389, .iconst 3), (1389, 1390, .iadd), (1390, 1391, .iaload), (1391, 1394, .invokevirtual 1214272), (1394, 1397, .if_icmp .eq 1561), (1397, 1398, .iconst 0), (1398, 1399, .ret 1), (1399, 1400, .aload 1),
  (1400, 1401, .aload 0), (1401, 1403, .iload 4), (1403, 1404, .iconst 1), (1404, 1405, .iadd), (1405, 1406, .iaload), (1406, 1407, .aload 0), (1407, 1409, .iload 4), (1409, 1410, .iconst 2),
  (1410, 1411, .iadd), (1411, 1412, .iaload), (1412, 1413, .aload 0), (1413, 1415, .iload 4), (1415, 1416, .iconst 3), (1416, 1417, .iadd), (1417, 1418, .iaload), (1418, 1421, .invokevirtual 1114135),
  (1421, 1422, .aload 2), (1422, 1423, .aload 0), (1423, 1425, .iload 4), (1425, 1426, .iconst 1), (1426, 1427, .iadd), (1427, 1428, .iaload), (1428, 1429, .aload 0), (1429, 1431, .iload 4),
  (1431, 1432, .iconst 2), (1432, 1433, .iadd), (1433, 1434, .iaload), (1434, 1435, .aload 0), (1435, 1437, .iload 4), (1437, 1438, .iconst 3), (1438, 1439, .iadd), (1439, 1440, .iaload),
  (1440, 1443, .invokevirtual 1214274), (1443, 1446, .if_icmp .eq 1561), (1446, 1447, .iconst 0), (1447, 1448, .ret 1), (1448, 1449, .aload 1), (1449, 1450, .aload 0), (1450, 1452, .iload 4), (1452, 1453, .iconst 1),
  (1453, 1454, .iadd), (1454, 1455, .iaload), (1455, 1456, .aload 0), (1456, 1458, .iload 4), (1458, 1459, .iconst 2), (1459, 1460, .iadd), (1460, 1461, .iaload), (1461, 1464, .invokevirtual 1113136),
  (1464, 1465, .aload 2), (1465, 1466, .aload 0), (1466, 1468, .iload 4), (1468, 1469, .iconst 1), (1469, 1470, .iadd), (1470, 1471, .iaload), (1471, 1472, .aload 0), (1472, 1474, .iload 4),
  (1474, 1475, .iconst 2), (1475, 1476, .iadd), (1476, 1477, .iaload), (1477, 1480, .invokevirtual 1213275), (1480, 1483, .if_icmp .eq 1561), (1483, 1484, .iconst 0), (1484, 1485, .ret 1), (1485, 1486, .aload 1),
  (1486, 1487, .aload 0), (1487, 1489, .iload 4), (1489, 1490, .iconst 1), (1490, 1491, .iadd), (1491, 1492, .iaload), (1492, 1495, .invokevirtual 1112137), (1495, 1496, .aload 2), (1496, 1497, .aload 0),
  (1497, 1499, .iload 4), (1499, 1500, .iconst 1), (1500, 1501, .iadd), (1501, 1502, .iaload), (1502, 1505, .invokevirtual 1212283), (1505, 1508, .if_icmp .eq 1561), (1508, 1509, .iconst 0), (1509, 1510, .ret 1),
  (1510, 1511, .aload 1), (1511, 1514, .invokevirtual 1111121), (1514, 1515, .aload 2), (1515, 1518, .invokevirtual 1211284), (1518, 1521, .if_icmp .eq 1561), (1521, 1522, .iconst 0), (1522, 1523, .ret 1), (1523, 1524, .aload 1),
  (1524, 1527, .invokevirtual 1111122), (1527, 1528, .aload 2), (1528, 1531, .invokevirtual 1211285), (1531, 1534, .if_icmp .eq 1561), (1534, 1535, .iconst 0), (1535, 1536, .ret 1), (1536, 1537, .aload 1), (1537, 1538, .aload 0),
  (1538, 1540, .iload 4), (1540, 1541, .iconst 1), (1541, 1542, .iadd), (1542, 1543, .iaload), (1543, 1546, .invokevirtual 1112110), (1546, 1547, .aload 2), (1547, 1548, .aload 0), (1548, 1550, .iload 4),
  (1550, 1551, .iconst 1), (1551, 1552, .iadd), (1552, 1553, .iaload), (1553, 1556, .invokevirtual 1212286), (1556, 1559, .if_icmp .eq 1561), (1559, 1560, .iconst 0), (1560, 1561, .ret 1), (1561, 1564, .iinc 4 6),
  (1564, 1567, .goto 23), (1567, 1568, .iconst 1), (1568, 1569, .ret 1)]
def zk_rcl : List zk_C := [[], zc_1, zc_2, zc_3, zc_4, zc_5, zc_6, zc_7, zc_8, zc_9, zc_10, zc_11, zc_12, zc_13, zc_14, zc_15, zc_16, zc_17, zc_18, zc_19, zc_20, zc_21, zc_22, zc_23, zc_24, zc_25, zc_26, zc_27, zc_28, zc_29, zc_30, zc_31, zc_32, zc_33, zc_34, zc_35, zc_36, zc_37, zc_38, zc_39, zc_40, zc_41, zc_42, zc_43, zc_44, zc_45, zc_46, zc_47, zc_48, zc_49, zc_50, zc_51, zc_52, zc_53, zc_54, zc_55, zc_56, zc_57, zc_58, zc_59, zc_60, zc_61, zc_62, zc_63, zc_64, zc_65, zc_66, zc_67, zc_68, zc_69, zc_70, zc_71, zc_72, zc_73, zc_74, zc_75, zc_76, zc_77, zc_78, zc_79, zc_80, zc_81, zc_82, zc_83, zc_84, zc_85, zc_86, zc_87, zc_88, zc_89, zc_90, zc_91, zc_92, zc_93, zc_94, zc_95, zc_96, zc_97, zc_98, zc_99, zc_100, zc_101, zc_102, zc_103, zc_104, zc_105, zc_106, zc_107, zc_108, zc_109, zc_110, zc_111, zc_112, zc_113, zc_114, zc_115, zc_116, zc_117, zc_118, zc_119, zc_120, zc_121, zc_122, zc_123, zc_124, zc_125, zc_126, zc_127, zc_128, zc_129, zc_130, zc_131, zc_132, zc_133, zc_134, zc_135, zc_136, zc_137, zc_138, zc_139, zc_140, zc_141, zc_142, zc_143, zc_144, zc_145, zc_146, zc_147, zc_148, zc_149, zc_150, zc_151, zc_152, zc_153, zc_154, zc_155, zc_156, zc_157, zc_158, zc_159, zc_160, zc_161, zc_162, zc_163, zc_164, zc_165, zc_166, zc_167, zc_168, zc_169, zc_170, zc_171, zc_172, zc_173, zc_174, zc_175, zc_176, zc_177, zc_178, zc_179, zc_180, zc_181, zc_182, zc_183, zc_184, zc_185, zc_186, zc_187, zc_188, zc_189, zc_190, zc_191, zc_192, zc_193, zc_194, zc_195, zc_196, zc_197, zc_198, zc_199, zc_200, zc_201, zc_202, zc_203, zc_204, zc_205, zc_206, zc_207, zc_208, zc_209, zc_210, zc_211, zc_212, zc_213, zc_214, zc_215, zc_216, zc_217, zc_218, zc_219, zc_220, zc_221, zc_222, zc_223, zc_224, zc_225, zc_226, zc_227, zc_228, zc_229, zc_230, zc_231, zc_232, zc_233, zc_234, zc_235, zc_236, zc_237, zc_238, zc_239, zc_240, zc_241, zc_242, zc_243, zc_244, zc_245, zc_246, zc_247, zc_248, zc_249, zc_250, zc_251, zc_252, zc_253, zc_254, zc_255, zc_256, zc_257, zc_258, zc_259, zc_260, zc_261, zc_262, zc_263, zc_264, zc_265, zc_266, zc_267, zc_268, zc_269, zc_270, zc_271, zc_272, zc_273, zc_274, zc_275, zc_276, zc_277, zc_278, zc_279, zc_280, zc_281, zc_282, zc_283, zc_284, zc_285, zc_286, zc_287, zc_288, zc_289, zc_290, zc_291, zc_292, zc_293, zc_294, zc_295, zc_296, zc_297, zc_298, zc_299, zc_300, zc_301, zc_302, zc_303]
def zk_rcd (y : Nat) : zk_C := zk_rcl.getD y []
def zk_mll : List Nat := [0, 2, 2, 1, 1, 3, 1, 1, 4, 8, 3, 11, 7, 2, 1, 2, 2, 2, 2, 4, 4, 5, 3, 4, 4, 4, 2, 1, 2, 1, 3, 4, 2, 2, 2, 4, 3, 2, 2, 10, 5, 3, 7, 3, 5, 6, 6, 5, 3, 5, 7, 3, 5, 6, 4, 4, 5, 4, 2, 3, 2, 2, 3, 5, 2, 3, 4, 2, 3, 1, 3, 4, 3, 3, 4, 5, 5, 2, 5, 8, 3, 1, 3, 4, 1, 1, 2, 5, 1, 1, 1, 2, 2, 2, 3, 5, 7, 1, 7, 2, 2, 2, 1, 1, 2, 3, 3, 2, 2, 3, 2, 3, 5, 5, 2, 4, 2, 2, 1, 2, 5, 1, 1, 4, 6, 2, 4, 4, 3, 2, 5, 3, 3, 6, 7, 4, 4, 2, 2, 2, 5, 2, 1, 1, 2, 3, 2, 1, 11, 6, 3, 4, 3, 3, 3, 4, 2, 3, 3, 2, 3, 2, 1, 1, 7, 9, 2, 1, 1, 1, 1, 3, 1, 1, 2, 3, 2, 2, 2, 1, 2, 2, 1, 1, 1, 3, 2, 1, 2, 2, 5, 6, 3, 3, 2, 2, 2, 7, 6, 4, 2, 3, 2, 2, 2, 3, 3, 3, 2, 3, 2, 5, 2, 4, 4, 4, 3, 3, 3, 2, 3, 2, 5, 2, 3, 3, 2, 2, 2, 2, 3, 2, 4, 5, 4, 4, 2, 2, 2, 2, 2, 4, 5, 2, 2, 3, 2, 4, 5, 4, 3, 3, 5, 2, 4, 5, 10, 6, 5, 3, 3, 6, 2, 5, 5, 4, 2, 5, 9, 5, 6, 6, 6, 8, 4, 3, 3, 4, 3, 4, 2, 3, 4, 2, 2, 2, 2, 1, 2, 3, 1, 1, 1, 4, 6, 3, 1, 2, 4, 2, 4, 1, 6, 7]
def zk_ml (y : Nat) : Nat := zk_mll.getD y 0
def zk_dfl : List (List Value) := [[.null, .null, .null, .int 0], [.null, .null, .int 0], [.null, .int 0, .null], [.null, .null, .null, .null, .int 0, .int 0, .int 0], [.null, .null, .int 0, .int 0], [.null, .null, .null, .int 0, .int 0], [.null, .null, .null, .null, .null, .null, .null, .null, .int 0, .int 0], [.null, .null, .null, .null, .int 0, .int 0], [.null, .null, .int 0, .int 0, .int 0, .int 0], [.int 0, .int 0, .null], [.int 0, .int 0, .int 0, .int 0, .null, .null, .null, .null, .null, .null], [.null, .null, .null, .null, .null, .null, .null, .null, .null, .null, .null, .int 0, .long 0], [.int 0, .null, .int 0, .int 0, .int 0, .int 0, .null, .null, .null, .null, .null, .null, .null, .int 0, .int 0, .null, .null, .null, .null, .null, .int 0, .int 0, .null, .null, .null, .int 0, .int 0, .null, .null, .int 0, .int 0, .null, .int 0, .null, .int 0, .long 0, .null, .int 0, .int 0, .null, .int 0, .int 0, .null, .null, .null, .null, .int 0, .null, .null, .null, .int 0]]
def zk_df (c : Nat) : List Value := zk_dfl.getD c []
end
section
/-! RUNS: by fuel f and depth d; what they come to (zk_sf, zk_sm), whatever the fuel; unfolding by blocks (zk_un) -/
def zk_sl : List Value → List Value
  | [] => []
  | .long x :: r => .long x :: .retAddr 0 :: zk_sl r
  | v :: r => v :: zk_sl r
def zk_en (n : Nat) (as : List Value) : List Value := zk_sl as ++ List.replicate (n - (zk_sl as).length) (.retAddr 0)
/-- the law's own person(x, p, what, out): it catches what SaddlerKnows.person throws -/
def zk_lp (run : List Value → zk_S → Option zk_R) (as : List Value) (s : zk_S) : Option zk_R := match as with
  | [.ref x, .int p, .int w, .ref o] => (zk_rv s x 11).bind fun _ => (run [.ref x, .int p, .int w] s).bind fun r => match r with
    | (some (.int y), t) => (zk_stL t o 0 y.toInt64).bind fun u => some (some (.int 0), u)
    | (some (.retAddr _), t) => some (some (.int 1), zk_nw t zk_no zk_xw)
    | _ => none
  | _ => none
def zk_ca (run : Nat → Nat → List Value → zk_S → Option zk_R) (d y : Nat) (as : List Value) (s : zk_S) : Option zk_R := match d with
  | 0 => none
  | d + 1 => bif Nat.beq y m_Law_person then match d with
      | d + 9 => zk_lp (run (d + 8) m_SaddlerKnows_person) as s
      | _ => none
    else run d y as s
/-- do the arguments fit into the method's locals? -/
def zk_fa (y : Nat) (as : List Value) : Bool := Nat.ble (zk_sl as).length (zk_ml y)
def zk_wk : Nat → Nat → Nat → Nat → List Value → List Value → zk_S → Option zk_R
  | 0, _, _, _, _, _, _ => none
  | f + 1, d, y, pc, L, S, s => match zk_lk pc (zk_rcd y) with
    | none => none
    | some (nx, i) => zk_ins zk_df (zk_ca (fun d y as s => bif zk_fa y as then zk_wk f d y 0 (zk_en (zk_ml y) as) [] s else none) d) d i nx L S s (fun pc L S s => zk_wk f d y pc L S s)
/-- one is no less told than the other -/
def zk_le {α : Type} (a b : Option α) : Prop := ∀ x, a = some x → b = some x
theorem zk_le_b {α β : Type} {a b : Option α} {f g : α → Option β} (h : zk_le a b) (h2 : ∀ x, zk_le (f x) (g x)) : zk_le (a.bind f) (b.bind g) := by
  intro y hy
  obtain ⟨x, hx, hf⟩ := Option.bind_eq_some_iff.mp hy
  rw [h x hx]
  exact h2 x y hf
theorem zk_le_r {α : Type} {a : Option α} : zk_le a a := fun _ h => h
theorem zk_le_n {α : Type} {a : Option α} : zk_le none a := fun _ h => by cases h
theorem zk_le_c {α : Type} {b : Bool} {x y : Option α} (h : b = true → zk_le x y) : zk_le (bif b then x else none) (bif b then y else none) := by
  cases b
  · exact zk_le_n
  · exact h rfl
theorem zk_le_i {α : Type} {p : Prop} [Decidable p] {x y x' y' : Option α} (h : p → zk_le x y) (h' : ¬ p → zk_le x' y') : zk_le (if p then x else x') (if p then y else y') := by
  by_cases q : p
  · rw [if_pos q, if_pos q]; exact h q
  · rw [if_neg q, if_neg q]; exact h' q
theorem zk_sw_m {α : Type} {x : Int32} {d : Int} {k k' : Nat → Option α} (h : ∀ t, zk_le (k t) (k' t)) : ∀ ps, zk_le (zk_sw x d k ps) (zk_sw x d k' ps)
  | [] => h _
  | (c, t) :: r => zk_le_i (fun _ => h _) (fun _ => zk_sw_m h r)
set_option maxHeartbeats 4000000 in
theorem zk_inv_m {call call' : Nat → List Value → zk_S → Option zk_R} {k k' : Nat → List Value → List Value → zk_S → Option zk_R} (hc : ∀ y as s, zk_le (call y as s) (call' y as s)) (hk : ∀ pc L S s, zk_le (k pc L S s) (k' pc L S s)) (nx : Nat) (L : List Value) (o : Nat) (as rest : List Value) (s : zk_S) : zk_le (zk_inv call nx L o as rest s k) (zk_inv call' nx L o as rest s k') := by
  unfold zk_inv
  refine zk_le_c fun _ => ?_
  split
  · exact zk_le_b (zk_le_b (hc _ _ _) fun _ => zk_le_r) fun _ => hk _ _ _ _
  · exact zk_le_b (zk_le_b (hc _ _ _) fun _ => zk_le_r) fun _ => hk _ _ _ _
  · exact zk_le_b (zk_le_b (hc _ _ _) fun _ => zk_le_r) fun _ => hk _ _ _ _
  · refine zk_le_b (zk_le_b (hc _ _ _) fun _ => zk_le_r) fun p => ?_
    obtain ⟨q, t⟩ := p
    cases q <;> exact hk _ _ _ _
set_option maxHeartbeats 4000000 in
theorem zk_ins_m {call call' : Nat → List Value → zk_S → Option zk_R} {k k' : Nat → List Value → List Value → zk_S → Option zk_R} (hc : ∀ y as s, zk_le (call y as s) (call' y as s)) (hk : ∀ pc L S s, zk_le (k pc L S s) (k' pc L S s)) (df : Nat → List Value) (d : Nat) (i : Instr) (nx : Nat) (L S : List Value) (s : zk_S) : zk_le (zk_ins df call d i nx L S s k) (zk_ins df call' d i nx L S s k') := by
  have hI := zk_inv_m hc hk
  unfold zk_ins
  split <;> (repeat' (first | exact zk_le_n | exact zk_le_r | exact hk _ _ _ _ | exact hI _ _ _ _ _ _ | refine zk_le_c (fun _ => ?_) | refine zk_le_i (fun _ => ?_) (fun _ => ?_) | refine zk_le_b zk_le_r (fun _ => ?_) | exact zk_sw_m (fun _ => hk _ _ _ _) _ | split))
end
section
theorem zk_lp_m {run run' : List Value → zk_S → Option zk_R} (h : ∀ as s, zk_le (run as s) (run' as s)) (as : List Value) (s : zk_S) : zk_le (zk_lp run as s) (zk_lp run' as s) := by
  unfold zk_lp
  split
  · exact zk_le_b zk_le_r fun _ => zk_le_b (h _ _) fun _ => zk_le_r
  · exact zk_le_n
theorem zk_ca_m {run run' : Nat → Nat → List Value → zk_S → Option zk_R} (h : ∀ d y as s, zk_le (run d y as s) (run' d y as s)) (d y : Nat) (as : List Value) (s : zk_S) : zk_le (zk_ca run d y as s) (zk_ca run' d y as s) := by
  unfold zk_ca
  cases d with
  | zero => exact zk_le_n
  | succ d =>
    cases Nat.beq y m_Law_person with
    | false => exact h _ _ _ _
    | true =>
      rcases d with _ | _ | _ | _ | _ | _ | _ | _ | _ | d
      all_goals first | exact zk_le_n | exact zk_lp_m (h _ _) _ _
theorem zk_wk_s : ∀ (f d y pc : Nat) (L S : List Value) (s : zk_S), zk_le (zk_wk f d y pc L S s) (zk_wk (f + 1) d y pc L S s)
  | 0, _, _, _, _, _, _ => zk_le_n
  | f + 1, d, y, pc, L, S, s => by
    show zk_le (match zk_lk pc (zk_rcd y) with | none => none | some (nx, i) => zk_ins zk_df (zk_ca (fun d y as s => bif zk_fa y as then zk_wk f d y 0 (zk_en (zk_ml y) as) [] s else none) d) d i nx L S s (fun pc L S s => zk_wk f d y pc L S s))
      (match zk_lk pc (zk_rcd y) with | none => none | some (nx, i) => zk_ins zk_df (zk_ca (fun d y as s => bif zk_fa y as then zk_wk (f + 1) d y 0 (zk_en (zk_ml y) as) [] s else none) d) d i nx L S s (fun pc L S s => zk_wk (f + 1) d y pc L S s))
    cases zk_lk pc (zk_rcd y) with
    | none => exact zk_le_n
    | some q => exact zk_ins_m (fun _ _ _ => zk_ca_m (fun _ _ _ _ => zk_le_c fun _ => zk_wk_s f _ _ _ _ _ _) _ _ _ _) (fun _ _ _ _ => zk_wk_s f _ _ _ _ _ _) _ _ _ _ _ _ _
theorem zk_wk_a (f g d y pc : Nat) (L S : List Value) (s : zk_S) : zk_le (zk_wk f d y pc L S s) (zk_wk (f + g) d y pc L S s) := by
  induction g with
  | zero => exact zk_le_r
  | succ g ih => exact fun x h => zk_wk_s _ _ _ _ _ _ _ x (ih x h)
theorem zk_wk_mono {f g d y pc : Nat} {L S : List Value} {s : zk_S} (h : f ≤ g) : zk_le (zk_wk f d y pc L S s) (zk_wk g d y pc L S s) := by
  obtain ⟨k, rfl⟩ := Nat.exists_eq_add_of_le h
  exact zk_wk_a _ _ _ _ _ _ _ _
/-- what a walk from a frame comes to -/
noncomputable def zk_sf (d y pc : Nat) (L S : List Value) (s : zk_S) : Option zk_R := haveI := Classical.propDecidable (∃ r : zk_R, ∃ f : Nat, zk_wk f d y pc L S s = some r)
  if h : ∃ r : zk_R, ∃ f : Nat, zk_wk f d y pc L S s = some r then some (Classical.choose h) else none
noncomputable def zk_sm (d y : Nat) (as : List Value) (s : zk_S) : Option zk_R := bif zk_fa y as then zk_sf d y 0 (zk_en (zk_ml y) as) [] s else none
theorem zk_sf_i {d y pc : Nat} {L S : List Value} {s : zk_S} {r : zk_R} : zk_sf d y pc L S s = some r ↔ ∃ f, zk_wk f d y pc L S s = some r := by
  unfold zk_sf
  constructor
  · intro h
    by_cases q : ∃ r : zk_R, ∃ f : Nat, zk_wk f d y pc L S s = some r
    · rw [dif_pos q] at h
      cases h
      exact Classical.choose_spec q
    · rw [dif_neg q] at h
      cases h
  · intro ⟨f, h⟩
    have q : ∃ r : zk_R, ∃ f : Nat, zk_wk f d y pc L S s = some r := ⟨r, f, h⟩
    rw [dif_pos q]
    obtain ⟨g, hg⟩ := Classical.choose_spec q
    have h1 := zk_wk_mono (Nat.le_max_left f g) r h
    have h2 := zk_wk_mono (Nat.le_max_right f g) _ hg
    rw [h1] at h2
    exact h2.symm
theorem zk_wk_sf (f d y pc : Nat) (L S : List Value) (s : zk_S) : zk_le (zk_wk f d y pc L S s) (zk_sf d y pc L S s) := fun _ h => zk_sf_i.mpr ⟨f, h⟩
/-- a call, by what it comes to -/
noncomputable def zk_cl (d y : Nat) (as : List Value) (s : zk_S) : Option zk_R := zk_ca zk_sm d y as s
end
section
/-! THE UNFOLDING: a walk's result is a step's, over the results behind it -/
def zk_ct {α : Type} (X : Option α) (Y : Nat → Option α) : Prop := ∀ r, X = some r → ∃ f, Y f = some r
theorem zk_ct_n {α : Type} {Y : Nat → Option α} : zk_ct none Y := fun _ h => by cases h
theorem zk_ct_r {α : Type} {X : Option α} : zk_ct X (fun _ => X) := fun _ h => ⟨0, h⟩
theorem zk_ct_c {α : Type} {b : Bool} {x : Option α} {y : Nat → Option α} (h : b = true → zk_ct x y) : zk_ct (bif b then x else none) (fun f => bif b then y f else none) := by
  cases b
  · exact zk_ct_n
  · exact h rfl
theorem zk_ct_i {α : Type} {p : Prop} [Decidable p] {x x' : Option α} {y y' : Nat → Option α} (h : p → zk_ct x y) (h' : ¬ p → zk_ct x' y') : zk_ct (if p then x else x') (fun f => if p then y f else y' f) := by
  by_cases q : p
  · simp only [if_pos q]; exact h q
  · simp only [if_neg q]; exact h' q
theorem zk_ct_b {α β : Type} {X : Option β} {F : β → Option α} {G : Nat → β → Option α} (h : ∀ v, zk_ct (F v) (fun f => G f v)) : zk_ct (X.bind F) (fun f => X.bind (G f)) := by
  cases X with
  | none => exact zk_ct_n
  | some v => exact h v
theorem zk_ct_b2 {α β : Type} {X : Option β} {Y : Nat → Option β} {F : β → Option α} {G : Nat → β → Option α} (hX : zk_ct X Y) (mY : ∀ f g, f ≤ g → zk_le (Y f) (Y g)) (h : ∀ v, zk_ct (F v) (fun f => G f v)) (mG : ∀ v f g, f ≤ g → zk_le (G f v) (G g v)) : zk_ct (X.bind F) (fun f => (Y f).bind (G f)) := by
  intro r hr
  obtain ⟨v, hv, hF⟩ := Option.bind_eq_some_iff.mp hr
  obtain ⟨f1, h1⟩ := hX v hv
  obtain ⟨f2, h2⟩ := h v r hF
  refine ⟨max f1 f2, ?_⟩
  show (Y (max f1 f2)).bind (G (max f1 f2)) = some r
  rw [mY _ _ (Nat.le_max_left f1 f2) v h1]
  exact mG v _ _ (Nat.le_max_right f1 f2) r h2
section
variable {call : Nat → List Value → zk_S → Option zk_R} {cn : Nat → Nat → List Value → zk_S → Option zk_R} {k : Nat → List Value → List Value → zk_S → Option zk_R} {kn : Nat → Nat → List Value → List Value → zk_S → Option zk_R}
theorem zk_ct_sw {x : Int32} {d : Int} {α : Type} {k : Nat → Option α} {kn : Nat → Nat → Option α} (h : ∀ t, zk_ct (k t) (fun f => kn f t)) : ∀ ps, zk_ct (zk_sw x d k ps) (fun f => zk_sw x d (kn f) ps)
  | [] => h _
  | (c, t) :: r => zk_ct_i (fun _ => h _) (fun _ => zk_ct_sw h r)
theorem zk_inv_ct (mc : ∀ f g y as s, f ≤ g → zk_le (cn f y as s) (cn g y as s)) (mk : ∀ f g pc L S s, f ≤ g → zk_le (kn f pc L S s) (kn g pc L S s)) (hc : ∀ y as s, zk_ct (call y as s) (fun f => cn f y as s)) (hk : ∀ pc L S s, zk_ct (k pc L S s) (fun f => kn f pc L S s)) (nx : Nat) (L : List Value) (o : Nat) (as rest : List Value) (s : zk_S) : zk_ct (zk_inv call nx L o as rest s k) (fun f => zk_inv (cn f) nx L o as rest s (kn f)) := by
  unfold zk_inv
  refine zk_ct_c fun _ => ?_
  rcases o / 10000 % 10 with _ | _ | _ | j
  · exact zk_ct_b2 (zk_ct_b2 (hc _ _ _) (fun f g h => mc f g _ _ _ h) (fun _ => zk_ct_r) (fun _ _ _ _ => zk_le_r)) (fun f g h => zk_le_b (mc f g _ _ _ h) fun _ => zk_le_r) (fun _ => hk _ _ _ _) (fun _ f g h => mk f g _ _ _ _ h)
  · exact zk_ct_b2 (zk_ct_b2 (hc _ _ _) (fun f g h => mc f g _ _ _ h) (fun _ => zk_ct_r) (fun _ _ _ _ => zk_le_r)) (fun f g h => zk_le_b (mc f g _ _ _ h) fun _ => zk_le_r) (fun _ => hk _ _ _ _) (fun _ f g h => mk f g _ _ _ _ h)
  · exact zk_ct_b2 (zk_ct_b2 (hc _ _ _) (fun f g h => mc f g _ _ _ h) (fun _ => zk_ct_r) (fun _ _ _ _ => zk_le_r)) (fun f g h => zk_le_b (mc f g _ _ _ h) fun _ => zk_le_r) (fun _ => hk _ _ _ _) (fun _ f g h => mk f g _ _ _ _ h)
  · refine zk_ct_b2 (zk_ct_b2 (hc _ _ _) (fun f g h => mc f g _ _ _ h) (fun _ => zk_ct_r) (fun _ _ _ _ => zk_le_r)) (fun f g h => zk_le_b (mc f g _ _ _ h) fun _ => zk_le_r) (fun p => ?_) (fun p f g h => ?_)
    · obtain ⟨q, t⟩ := p
      cases q <;> exact hk _ _ _ _
    · obtain ⟨q, t⟩ := p
      cases q <;> exact mk f g _ _ _ _ h
set_option maxHeartbeats 4000000 in
theorem zk_ins_ct (mc : ∀ f g y as s, f ≤ g → zk_le (cn f y as s) (cn g y as s)) (mk : ∀ f g pc L S s, f ≤ g → zk_le (kn f pc L S s) (kn g pc L S s)) (hc : ∀ y as s, zk_ct (call y as s) (fun f => cn f y as s)) (hk : ∀ pc L S s, zk_ct (k pc L S s) (fun f => kn f pc L S s)) (df : Nat → List Value) (d : Nat) (i : Instr) (nx : Nat) (L S : List Value) (s : zk_S) : zk_ct (zk_ins df call d i nx L S s k) (fun f => zk_ins df (cn f) d i nx L S s (kn f)) := by
  have hI := zk_inv_ct mc mk hc hk
  unfold zk_ins
  split <;> (repeat' (first | exact zk_ct_n | exact zk_ct_r | exact hk _ _ _ _ | exact hI _ _ _ _ _ _ | refine zk_ct_c (fun _ => ?_) | refine zk_ct_i (fun _ => ?_) (fun _ => ?_) | refine zk_ct_b (fun _ => ?_) | exact zk_ct_sw (fun _ => hk _ _ _ _) _ | split))
end
theorem zk_ca_ct {run : Nat → Nat → List Value → zk_S → Option zk_R} {rn : Nat → Nat → Nat → List Value → zk_S → Option zk_R} (mr : ∀ f g d y as s, f ≤ g → zk_le (rn f d y as s) (rn g d y as s)) (h : ∀ d y as s, zk_ct (run d y as s) (fun f => rn f d y as s)) (d y : Nat) (as : List Value) (s : zk_S) : zk_ct (zk_ca run d y as s) (fun f => zk_ca (rn f) d y as s) := by
  unfold zk_ca
  cases d with
  | zero => exact zk_ct_n
  | succ d =>
    cases Nat.beq y m_Law_person with
    | false => exact h _ _ _ _
    | true =>
      rcases d with _ | _ | _ | _ | _ | _ | _ | _ | _ | d
      all_goals first
        | exact zk_ct_n
        | (show zk_ct (zk_lp _ _ _) (fun f => zk_lp _ _ _)
           unfold zk_lp
           split
           · exact zk_ct_b fun _ => zk_ct_b2 (h _ _ _ _) (fun f g q => mr f g _ _ _ _ q) (fun _ => zk_ct_r) (fun _ _ _ _ => zk_le_r)
           · exact zk_ct_n)
/-- one step of a walk, over what further walks and calls come to -/
noncomputable def zk_st (cd : zk_C) (d pc : Nat) (L S : List Value) (s : zk_S) (k : Nat → List Value → List Value → zk_S → Option zk_R) : Option zk_R := match zk_lk pc cd with
  | none => none
  | some q => zk_ins zk_df (zk_cl d) d q.2 q.1 L S s k
theorem zk_sf_e (d y pc : Nat) (L S : List Value) (s : zk_S) : zk_sf d y pc L S s = zk_st (zk_rcd y) d pc L S s (zk_sf d y) := by
  have h1 : zk_le (zk_sf d y pc L S s) (zk_st (zk_rcd y) d pc L S s (zk_sf d y)) := by
    intro r hr
    obtain ⟨f, hf⟩ := zk_sf_i.mp hr
    cases f with
    | zero => cases hf
    | succ f =>
      have hf : (match zk_lk pc (zk_rcd y) with | none => none | some (nx, i) => zk_ins zk_df (zk_ca (fun d y as s => bif zk_fa y as then zk_wk f d y 0 (zk_en (zk_ml y) as) [] s else none) d) d i nx L S s (fun pc L S s => zk_wk f d y pc L S s)) = some r := hf
      show (match zk_lk pc (zk_rcd y) with | none => none | some q => zk_ins zk_df (zk_cl d) d q.2 q.1 L S s (zk_sf d y)) = some r
      cases hq : zk_lk pc (zk_rcd y) with
      | none => rw [hq] at hf; cases hf
      | some q =>
        rw [hq] at hf
        exact zk_ins_m (fun _ _ _ => zk_ca_m (fun _ _ _ _ => zk_le_c fun _ => zk_wk_sf f _ _ _ _ _ _) _ _ _ _) (fun _ _ _ _ => zk_wk_sf f _ _ _ _ _ _) _ _ _ _ _ _ _ r hf
  have h2 : zk_le (zk_st (zk_rcd y) d pc L S s (zk_sf d y)) (zk_sf d y pc L S s) := by
    intro r hr
    have hr : (match zk_lk pc (zk_rcd y) with | none => none | some q => zk_ins zk_df (zk_cl d) d q.2 q.1 L S s (zk_sf d y)) = some r := hr
    cases hq : zk_lk pc (zk_rcd y) with
    | none => rw [hq] at hr; cases hr
    | some q =>
      rw [hq] at hr
      obtain ⟨f, hf⟩ := zk_ins_ct (cn := fun f => zk_ca (fun d y as s => bif zk_fa y as then zk_wk f d y 0 (zk_en (zk_ml y) as) [] s else none) d) (kn := fun f pc L S s => zk_wk f d y pc L S s)
        (fun f g _ _ _ h => zk_ca_m (fun _ _ _ _ => zk_le_c fun _ => zk_wk_mono h) _ _ _ _) (fun f g _ _ _ _ h => zk_wk_mono h)
        (fun y as s => zk_ca_ct (rn := fun f d y as s => bif zk_fa y as then zk_wk f d y 0 (zk_en (zk_ml y) as) [] s else none) (fun _ _ _ _ _ _ h => zk_le_c fun _ => zk_wk_mono h) (fun _ _ _ _ => zk_ct_c fun _ => fun r h => zk_sf_i.mp h) d y as s) (fun _ _ _ _ r h => zk_sf_i.mp h) zk_df d q.2 q.1 L S s r hr
      refine zk_sf_i.mpr ⟨f + 1, ?_⟩
      show (match zk_lk pc (zk_rcd y) with | none => none | some (nx, i) => zk_ins zk_df (zk_ca (fun d y as s => bif zk_fa y as then zk_wk f d y 0 (zk_en (zk_ml y) as) [] s else none) d) d i nx L S s (fun pc L S s => zk_wk f d y pc L S s)) = some r
      rw [hq]
      exact hf
  cases h : zk_sf d y pc L S s with
  | some r => exact (h1 r h).symm
  | none =>
    cases h' : zk_st (zk_rcd y) d pc L S s (zk_sf d y) with
    | none => rfl
    | some r => rw [h2 r h'] at h; cases h
/-- blocks: up to n steps, stopping ahead of the listed places -/
noncomputable def zk_un (cd : zk_C) (d : Nat) (stops : List Nat) (K : Nat → List Value → List Value → zk_S → Option zk_R) : Nat → Nat → List Value → List Value → zk_S → Option zk_R
  | 0, pc, L, S, s => K pc L S s
  | n + 1, pc, L, S, s => zk_st cd d pc L S s (fun pc L S s => bif stops.elem pc then K pc L S s else zk_un cd d stops K n pc L S s)
theorem zk_un_e (d y : Nat) (stops : List Nat) : ∀ (n pc : Nat) (L S : List Value) (s : zk_S), zk_sf d y pc L S s = zk_un (zk_rcd y) d stops (zk_sf d y) n pc L S s
  | 0, _, _, _, _ => rfl
  | n + 1, pc, L, S, s => by
    rw [zk_sf_e]
    show _ = zk_st (zk_rcd y) d pc L S s (fun pc L S s => bif stops.elem pc then zk_sf d y pc L S s else zk_un (zk_rcd y) d stops (zk_sf d y) n pc L S s)
    congr 1
    funext pc L S s
    cases stops.elem pc
    · exact zk_un_e d y stops n pc L S s
    · rfl
end
