-- ===== PART A: goes FIRST, ahead of the names: the tables' words, and 'selects' of the private methods out of them =====
/-- a private method of a class that the tables say can be made, by its rows of tables_1 -/
def lw_okq (q : MethodName × Nat) : Prop := (q.1.cls ≠ "java/lang/invoke/MethodHandle" ∧ q.1.cls ≠ "java/lang/invoke/VarHandle") ∧ Cond.instantiable q.1.cls q.2 ∈ tables_1 ∧ Cond.privateMethod q.1 ∈ tables_1 ∧ Cond.instanceMethod q.1 ∈ tables_1
theorem lw_p0 : lw_okq (⟨"MiddleThree$Town", "copyHouse", "(II)V"⟩, 12) := ⟨⟨by decide +kernel, by decide +kernel⟩, List.mem_of_getElem? (i := 25) (by decide +kernel), List.mem_of_getElem? (i := 276) (by decide +kernel), List.mem_of_getElem? (i := 277) (by decide +kernel)⟩
theorem lw_p1 : lw_okq (⟨"MiddleThree", "isHouse", "(I)Z"⟩, 13) := ⟨⟨by decide +kernel, by decide +kernel⟩, List.mem_of_getElem? (i := 17) (by decide +kernel), List.mem_of_getElem? (i := 287) (by decide +kernel), List.mem_of_getElem? (i := 288) (by decide +kernel)⟩
theorem lw_p2 : lw_okq (⟨"MiddleThree$Town", "nextByKind", "(I)I"⟩, 12) := ⟨⟨by decide +kernel, by decide +kernel⟩, List.mem_of_getElem? (i := 25) (by decide +kernel), List.mem_of_getElem? (i := 299) (by decide +kernel), List.mem_of_getElem? (i := 300) (by decide +kernel)⟩
theorem lw_p3 : lw_okq (⟨"MiddleThree$Town", "proud", "(I)I"⟩, 12) := ⟨⟨by decide +kernel, by decide +kernel⟩, List.mem_of_getElem? (i := 25) (by decide +kernel), List.mem_of_getElem? (i := 303) (by decide +kernel), List.mem_of_getElem? (i := 304) (by decide +kernel)⟩
theorem lw_p4 : lw_okq (⟨"MiddleThree$Town", "middle", "(I)I"⟩, 12) := ⟨⟨by decide +kernel, by decide +kernel⟩, List.mem_of_getElem? (i := 25) (by decide +kernel), List.mem_of_getElem? (i := 307) (by decide +kernel), List.mem_of_getElem? (i := 308) (by decide +kernel)⟩
theorem lw_p5 : lw_okq (⟨"MiddleThree$Town", "takesHalf", "(I)Z"⟩, 12) := ⟨⟨by decide +kernel, by decide +kernel⟩, List.mem_of_getElem? (i := 25) (by decide +kernel), List.mem_of_getElem? (i := 321) (by decide +kernel), List.mem_of_getElem? (i := 322) (by decide +kernel)⟩
theorem lw_p6 : lw_okq (⟨"MiddleThree$Town", "fillWide", "(I)V"⟩, 12) := ⟨⟨by decide +kernel, by decide +kernel⟩, List.mem_of_getElem? (i := 25) (by decide +kernel), List.mem_of_getElem? (i := 325) (by decide +kernel), List.mem_of_getElem? (i := 326) (by decide +kernel)⟩
theorem lw_p7 : lw_okq (⟨"MiddleThree$Town", "addWide", "(I)V"⟩, 12) := ⟨⟨by decide +kernel, by decide +kernel⟩, List.mem_of_getElem? (i := 25) (by decide +kernel), List.mem_of_getElem? (i := 329) (by decide +kernel), List.mem_of_getElem? (i := 330) (by decide +kernel)⟩
theorem lw_p8 : lw_okq (⟨"MiddleThree$Town", "adds", "(I)I"⟩, 12) := ⟨⟨by decide +kernel, by decide +kernel⟩, List.mem_of_getElem? (i := 25) (by decide +kernel), List.mem_of_getElem? (i := 336) (by decide +kernel), List.mem_of_getElem? (i := 337) (by decide +kernel)⟩
theorem lw_p9 : lw_okq (⟨"MiddleThree$Street", "holds", "(II[I)Z"⟩, 8) := ⟨⟨by decide +kernel, by decide +kernel⟩, List.mem_of_getElem? (i := 123) (by decide +kernel), List.mem_of_getElem? (i := 344) (by decide +kernel), List.mem_of_getElem? (i := 345) (by decide +kernel)⟩
theorem lw_p10 : lw_okq (⟨"MiddleThree$Street", "passes", "(I[I)Z"⟩, 8) := ⟨⟨by decide +kernel, by decide +kernel⟩, List.mem_of_getElem? (i := 123) (by decide +kernel), List.mem_of_getElem? (i := 348) (by decide +kernel), List.mem_of_getElem? (i := 349) (by decide +kernel)⟩
theorem lw_p11 : lw_okq (⟨"MiddleThree$StreetReader", "clause", "()Z"⟩, 4) := ⟨⟨by decide +kernel, by decide +kernel⟩, List.mem_of_getElem? (i := 117) (by decide +kernel), List.mem_of_getElem? (i := 380) (by decide +kernel), List.mem_of_getElem? (i := 381) (by decide +kernel)⟩
theorem lw_p12 : lw_okq (⟨"MiddleThree$StreetReader", "sign", "()I"⟩, 4) := ⟨⟨by decide +kernel, by decide +kernel⟩, List.mem_of_getElem? (i := 117) (by decide +kernel), List.mem_of_getElem? (i := 384) (by decide +kernel), List.mem_of_getElem? (i := 385) (by decide +kernel)⟩
theorem lw_p13 : lw_okq (⟨"MiddleThree$StreetReader", "shape", "()Z"⟩, 4) := ⟨⟨by decide +kernel, by decide +kernel⟩, List.mem_of_getElem? (i := 117) (by decide +kernel), List.mem_of_getElem? (i := 388) (by decide +kernel), List.mem_of_getElem? (i := 389) (by decide +kernel)⟩
theorem lw_p14 : lw_okq (⟨"MiddleThree$StreetReader", "word", "(Ljava/lang/String;)Z"⟩, 4) := ⟨⟨by decide +kernel, by decide +kernel⟩, List.mem_of_getElem? (i := 117) (by decide +kernel), List.mem_of_getElem? (i := 394) (by decide +kernel), List.mem_of_getElem? (i := 395) (by decide +kernel)⟩
theorem lw_p15 : lw_okq (⟨"MiddleThree$StreetReader", "number", "()I"⟩, 4) := ⟨⟨by decide +kernel, by decide +kernel⟩, List.mem_of_getElem? (i := 117) (by decide +kernel), List.mem_of_getElem? (i := 439) (by decide +kernel), List.mem_of_getElem? (i := 440) (by decide +kernel)⟩
def lw_privs_1 : List (MethodName × Nat) := [(⟨"MiddleThree$Town", "copyHouse", "(II)V"⟩, 12), (⟨"MiddleThree", "isHouse", "(I)Z"⟩, 13), (⟨"MiddleThree$Town", "nextByKind", "(I)I"⟩, 12), (⟨"MiddleThree$Town", "proud", "(I)I"⟩, 12), (⟨"MiddleThree$Town", "middle", "(I)I"⟩, 12), (⟨"MiddleThree$Town", "takesHalf", "(I)Z"⟩, 12), (⟨"MiddleThree$Town", "fillWide", "(I)V"⟩, 12), (⟨"MiddleThree$Town", "addWide", "(I)V"⟩, 12), (⟨"MiddleThree$Town", "adds", "(I)I"⟩, 12), (⟨"MiddleThree$Street", "holds", "(II[I)Z"⟩, 8), (⟨"MiddleThree$Street", "passes", "(I[I)Z"⟩, 8), (⟨"MiddleThree$StreetReader", "clause", "()Z"⟩, 4), (⟨"MiddleThree$StreetReader", "sign", "()I"⟩, 4), (⟨"MiddleThree$StreetReader", "shape", "()Z"⟩, 4), (⟨"MiddleThree$StreetReader", "word", "(Ljava/lang/String;)Z"⟩, 4), (⟨"MiddleThree$StreetReader", "number", "()I"⟩, 4)]
theorem lw_r1 : ∀ q ∈ lw_privs_1, lw_okq q := List.forall_mem_cons.mpr ⟨lw_p0, List.forall_mem_cons.mpr ⟨lw_p1, List.forall_mem_cons.mpr ⟨lw_p2, List.forall_mem_cons.mpr ⟨lw_p3, List.forall_mem_cons.mpr ⟨lw_p4, List.forall_mem_cons.mpr ⟨lw_p5, List.forall_mem_cons.mpr ⟨lw_p6, List.forall_mem_cons.mpr ⟨lw_p7, List.forall_mem_cons.mpr ⟨lw_p8, List.forall_mem_cons.mpr ⟨lw_p9, List.forall_mem_cons.mpr ⟨lw_p10, List.forall_mem_cons.mpr ⟨lw_p11, List.forall_mem_cons.mpr ⟨lw_p12, List.forall_mem_cons.mpr ⟨lw_p13, List.forall_mem_cons.mpr ⟨lw_p14, List.forall_mem_cons.mpr ⟨lw_p15, fun _ h => absurd h List.not_mem_nil⟩⟩⟩⟩⟩⟩⟩⟩⟩⟩⟩⟩⟩⟩⟩⟩
theorem lw_p16 : lw_okq (⟨"MiddleThree$StreetReader", "either", "(I)Z"⟩, 4) := ⟨⟨by decide +kernel, by decide +kernel⟩, List.mem_of_getElem? (i := 117) (by decide +kernel), List.mem_of_getElem? (i := 445) (by decide +kernel), List.mem_of_getElem? (i := 446) (by decide +kernel)⟩
theorem lw_p17 : lw_okq (⟨"MiddleThree$StreetReader", "factor", "(I)Z"⟩, 4) := ⟨⟨by decide +kernel, by decide +kernel⟩, List.mem_of_getElem? (i := 117) (by decide +kernel), List.mem_of_getElem? (i := 449) (by decide +kernel), List.mem_of_getElem? (i := 450) (by decide +kernel)⟩
theorem lw_p18 : lw_okq (⟨"MiddleThree$StreetReader", "test", "()Z"⟩, 4) := ⟨⟨by decide +kernel, by decide +kernel⟩, List.mem_of_getElem? (i := 117) (by decide +kernel), List.mem_of_getElem? (i := 453) (by decide +kernel), List.mem_of_getElem? (i := 454) (by decide +kernel)⟩
theorem lw_p19 : lw_okq (⟨"MiddleThree", "keepLater", "()V"⟩, 13) := ⟨⟨by decide +kernel, by decide +kernel⟩, List.mem_of_getElem? (i := 17) (by decide +kernel), List.mem_of_getElem? (i := 563) (by decide +kernel), List.mem_of_getElem? (i := 564) (by decide +kernel)⟩
theorem lw_p20 : lw_okq (⟨"MiddleThree", "laterOtherwise", "()I"⟩, 13) := ⟨⟨by decide +kernel, by decide +kernel⟩, List.mem_of_getElem? (i := 17) (by decide +kernel), List.mem_of_getElem? (i := 568) (by decide +kernel), List.mem_of_getElem? (i := 569) (by decide +kernel)⟩
theorem lw_p21 : lw_okq (⟨"MiddleThree", "listValues", "()I"⟩, 13) := ⟨⟨by decide +kernel, by decide +kernel⟩, List.mem_of_getElem? (i := 17) (by decide +kernel), List.mem_of_getElem? (i := 611) (by decide +kernel), List.mem_of_getElem? (i := 612) (by decide +kernel)⟩
theorem lw_p22 : lw_okq (⟨"MiddleThree", "setLaterRow", "(II)V"⟩, 13) := ⟨⟨by decide +kernel, by decide +kernel⟩, List.mem_of_getElem? (i := 17) (by decide +kernel), List.mem_of_getElem? (i := 619) (by decide +kernel), List.mem_of_getElem? (i := 620) (by decide +kernel)⟩
theorem lw_p23 : lw_okq (⟨"MiddleThree", "laterAsNow", "()Z"⟩, 13) := ⟨⟨by decide +kernel, by decide +kernel⟩, List.mem_of_getElem? (i := 17) (by decide +kernel), List.mem_of_getElem? (i := 623) (by decide +kernel), List.mem_of_getElem? (i := 624) (by decide +kernel)⟩
theorem lw_p24 : lw_okq (⟨"MiddleThree", "allSeenIfLies", "(I)Z"⟩, 13) := ⟨⟨by decide +kernel, by decide +kernel⟩, List.mem_of_getElem? (i := 17) (by decide +kernel), List.mem_of_getElem? (i := 639) (by decide +kernel), List.mem_of_getElem? (i := 640) (by decide +kernel)⟩
theorem lw_p25 : lw_okq (⟨"MiddleThree$Acts", "runEarns", "(III)I"⟩, 5) := ⟨⟨by decide +kernel, by decide +kernel⟩, List.mem_of_getElem? (i := 173) (by decide +kernel), List.mem_of_getElem? (i := 711) (by decide +kernel), List.mem_of_getElem? (i := 712) (by decide +kernel)⟩
theorem lw_p26 : lw_okq (⟨"MiddleThree$Acts", "begin", "(I)V"⟩, 5) := ⟨⟨by decide +kernel, by decide +kernel⟩, List.mem_of_getElem? (i := 173) (by decide +kernel), List.mem_of_getElem? (i := 715) (by decide +kernel), List.mem_of_getElem? (i := 716) (by decide +kernel)⟩
theorem lw_p27 : lw_okq (⟨"MiddleThree$Acts", "runSays", "(III)I"⟩, 5) := ⟨⟨by decide +kernel, by decide +kernel⟩, List.mem_of_getElem? (i := 173) (by decide +kernel), List.mem_of_getElem? (i := 719) (by decide +kernel), List.mem_of_getElem? (i := 720) (by decide +kernel)⟩
theorem lw_p28 : lw_okq (⟨"MiddleThree$Acts", "runTells", "(III)I"⟩, 5) := ⟨⟨by decide +kernel, by decide +kernel⟩, List.mem_of_getElem? (i := 173) (by decide +kernel), List.mem_of_getElem? (i := 723) (by decide +kernel), List.mem_of_getElem? (i := 724) (by decide +kernel)⟩
theorem lw_p29 : lw_okq (⟨"MiddleThreeModel", "in", "(III)Z"⟩, 61) := ⟨⟨by decide +kernel, by decide +kernel⟩, List.mem_of_getElem? (i := 772) (by decide +kernel), List.mem_of_getElem? (i := 967) (by decide +kernel), List.mem_of_getElem? (i := 968) (by decide +kernel)⟩
theorem lw_p30 : lw_okq (⟨"MiddleThreeModel", "lay", "(IIII)V"⟩, 61) := ⟨⟨by decide +kernel, by decide +kernel⟩, List.mem_of_getElem? (i := 772) (by decide +kernel), List.mem_of_getElem? (i := 971) (by decide +kernel), List.mem_of_getElem? (i := 972) (by decide +kernel)⟩
theorem lw_p31 : lw_okq (⟨"MiddleThreeModel", "isHouse", "(I)Z"⟩, 61) := ⟨⟨by decide +kernel, by decide +kernel⟩, List.mem_of_getElem? (i := 772) (by decide +kernel), List.mem_of_getElem? (i := 979) (by decide +kernel), List.mem_of_getElem? (i := 980) (by decide +kernel)⟩
def lw_privs_2 : List (MethodName × Nat) := [(⟨"MiddleThree$StreetReader", "either", "(I)Z"⟩, 4), (⟨"MiddleThree$StreetReader", "factor", "(I)Z"⟩, 4), (⟨"MiddleThree$StreetReader", "test", "()Z"⟩, 4), (⟨"MiddleThree", "keepLater", "()V"⟩, 13), (⟨"MiddleThree", "laterOtherwise", "()I"⟩, 13), (⟨"MiddleThree", "listValues", "()I"⟩, 13), (⟨"MiddleThree", "setLaterRow", "(II)V"⟩, 13), (⟨"MiddleThree", "laterAsNow", "()Z"⟩, 13), (⟨"MiddleThree", "allSeenIfLies", "(I)Z"⟩, 13), (⟨"MiddleThree$Acts", "runEarns", "(III)I"⟩, 5), (⟨"MiddleThree$Acts", "begin", "(I)V"⟩, 5), (⟨"MiddleThree$Acts", "runSays", "(III)I"⟩, 5), (⟨"MiddleThree$Acts", "runTells", "(III)I"⟩, 5), (⟨"MiddleThreeModel", "in", "(III)Z"⟩, 61), (⟨"MiddleThreeModel", "lay", "(IIII)V"⟩, 61), (⟨"MiddleThreeModel", "isHouse", "(I)Z"⟩, 61)]
theorem lw_r2 : ∀ q ∈ lw_privs_2, lw_okq q := List.forall_mem_cons.mpr ⟨lw_p16, List.forall_mem_cons.mpr ⟨lw_p17, List.forall_mem_cons.mpr ⟨lw_p18, List.forall_mem_cons.mpr ⟨lw_p19, List.forall_mem_cons.mpr ⟨lw_p20, List.forall_mem_cons.mpr ⟨lw_p21, List.forall_mem_cons.mpr ⟨lw_p22, List.forall_mem_cons.mpr ⟨lw_p23, List.forall_mem_cons.mpr ⟨lw_p24, List.forall_mem_cons.mpr ⟨lw_p25, List.forall_mem_cons.mpr ⟨lw_p26, List.forall_mem_cons.mpr ⟨lw_p27, List.forall_mem_cons.mpr ⟨lw_p28, List.forall_mem_cons.mpr ⟨lw_p29, List.forall_mem_cons.mpr ⟨lw_p30, List.forall_mem_cons.mpr ⟨lw_p31, fun _ h => absurd h List.not_mem_nil⟩⟩⟩⟩⟩⟩⟩⟩⟩⟩⟩⟩⟩⟩⟩⟩
theorem lw_p32 : lw_okq (⟨"MiddleThreeModel", "goesText", "(I)Z"⟩, 61) := ⟨⟨by decide +kernel, by decide +kernel⟩, List.mem_of_getElem? (i := 772) (by decide +kernel), List.mem_of_getElem? (i := 995) (by decide +kernel), List.mem_of_getElem? (i := 996) (by decide +kernel)⟩
theorem lw_p33 : lw_okq (⟨"MiddleThreeModel", "takesClause", "(I)Z"⟩, 61) := ⟨⟨by decide +kernel, by decide +kernel⟩, List.mem_of_getElem? (i := 772) (by decide +kernel), List.mem_of_getElem? (i := 999) (by decide +kernel), List.mem_of_getElem? (i := 1000) (by decide +kernel)⟩
theorem lw_p34 : lw_okq (⟨"MiddleThreeModel", "takesHead", "(I)Z"⟩, 61) := ⟨⟨by decide +kernel, by decide +kernel⟩, List.mem_of_getElem? (i := 772) (by decide +kernel), List.mem_of_getElem? (i := 1003) (by decide +kernel), List.mem_of_getElem? (i := 1004) (by decide +kernel)⟩
theorem lw_p35 : lw_okq (⟨"MiddleThreeModel", "second", "()I"⟩, 61) := ⟨⟨by decide +kernel, by decide +kernel⟩, List.mem_of_getElem? (i := 772) (by decide +kernel), List.mem_of_getElem? (i := 1007) (by decide +kernel), List.mem_of_getElem? (i := 1008) (by decide +kernel)⟩
theorem lw_p36 : lw_okq (⟨"MiddleThreeModel", "next", "()I"⟩, 61) := ⟨⟨by decide +kernel, by decide +kernel⟩, List.mem_of_getElem? (i := 772) (by decide +kernel), List.mem_of_getElem? (i := 1011) (by decide +kernel), List.mem_of_getElem? (i := 1012) (by decide +kernel)⟩
theorem lw_p37 : lw_okq (⟨"MiddleThreeModel", "takesWord", "(II)Z"⟩, 61) := ⟨⟨by decide +kernel, by decide +kernel⟩, List.mem_of_getElem? (i := 772) (by decide +kernel), List.mem_of_getElem? (i := 1015) (by decide +kernel), List.mem_of_getElem? (i := 1016) (by decide +kernel)⟩
theorem lw_p38 : lw_okq (⟨"MiddleThreeModel", "takesAlone", "(II)Z"⟩, 61) := ⟨⟨by decide +kernel, by decide +kernel⟩, List.mem_of_getElem? (i := 772) (by decide +kernel), List.mem_of_getElem? (i := 1019) (by decide +kernel), List.mem_of_getElem? (i := 1020) (by decide +kernel)⟩
theorem lw_p39 : lw_okq (⟨"MiddleThreeModel", "takes", "(I)Z"⟩, 61) := ⟨⟨by decide +kernel, by decide +kernel⟩, List.mem_of_getElem? (i := 772) (by decide +kernel), List.mem_of_getElem? (i := 1023) (by decide +kernel), List.mem_of_getElem? (i := 1024) (by decide +kernel)⟩
theorem lw_p40 : lw_okq (⟨"MiddleThreeModel", "takesNumber", "()Z"⟩, 61) := ⟨⟨by decide +kernel, by decide +kernel⟩, List.mem_of_getElem? (i := 772) (by decide +kernel), List.mem_of_getElem? (i := 1027) (by decide +kernel), List.mem_of_getElem? (i := 1028) (by decide +kernel)⟩
theorem lw_p41 : lw_okq (⟨"MiddleThreeModel", "isDigit", "()Z"⟩, 61) := ⟨⟨by decide +kernel, by decide +kernel⟩, List.mem_of_getElem? (i := 772) (by decide +kernel), List.mem_of_getElem? (i := 1031) (by decide +kernel), List.mem_of_getElem? (i := 1032) (by decide +kernel)⟩
theorem lw_p42 : lw_okq (⟨"MiddleThreeModel", "takesE", "(I)Z"⟩, 61) := ⟨⟨by decide +kernel, by decide +kernel⟩, List.mem_of_getElem? (i := 772) (by decide +kernel), List.mem_of_getElem? (i := 1035) (by decide +kernel), List.mem_of_getElem? (i := 1036) (by decide +kernel)⟩
theorem lw_p43 : lw_okq (⟨"MiddleThreeModel", "takesTest", "()Z"⟩, 61) := ⟨⟨by decide +kernel, by decide +kernel⟩, List.mem_of_getElem? (i := 772) (by decide +kernel), List.mem_of_getElem? (i := 1039) (by decide +kernel), List.mem_of_getElem? (i := 1040) (by decide +kernel)⟩
theorem lw_p44 : lw_okq (⟨"MiddleThreeModel", "place", "(I)I"⟩, 61) := ⟨⟨by decide +kernel, by decide +kernel⟩, List.mem_of_getElem? (i := 772) (by decide +kernel), List.mem_of_getElem? (i := 1043) (by decide +kernel), List.mem_of_getElem? (i := 1044) (by decide +kernel)⟩
theorem lw_p45 : lw_okq (⟨"MiddleThreeModel", "emits", "(I)V"⟩, 61) := ⟨⟨by decide +kernel, by decide +kernel⟩, List.mem_of_getElem? (i := 772) (by decide +kernel), List.mem_of_getElem? (i := 1047) (by decide +kernel), List.mem_of_getElem? (i := 1048) (by decide +kernel)⟩
theorem lw_p46 : lw_okq (⟨"MiddleThreeModel", "whole", "()V"⟩, 61) := ⟨⟨by decide +kernel, by decide +kernel⟩, List.mem_of_getElem? (i := 772) (by decide +kernel), List.mem_of_getElem? (i := 1051) (by decide +kernel), List.mem_of_getElem? (i := 1052) (by decide +kernel)⟩
theorem lw_p47 : lw_okq (⟨"MiddleThreeModel", "settle", "(I)V"⟩, 61) := ⟨⟨by decide +kernel, by decide +kernel⟩, List.mem_of_getElem? (i := 772) (by decide +kernel), List.mem_of_getElem? (i := 1055) (by decide +kernel), List.mem_of_getElem? (i := 1056) (by decide +kernel)⟩
def lw_privs_3 : List (MethodName × Nat) := [(⟨"MiddleThreeModel", "goesText", "(I)Z"⟩, 61), (⟨"MiddleThreeModel", "takesClause", "(I)Z"⟩, 61), (⟨"MiddleThreeModel", "takesHead", "(I)Z"⟩, 61), (⟨"MiddleThreeModel", "second", "()I"⟩, 61), (⟨"MiddleThreeModel", "next", "()I"⟩, 61), (⟨"MiddleThreeModel", "takesWord", "(II)Z"⟩, 61), (⟨"MiddleThreeModel", "takesAlone", "(II)Z"⟩, 61), (⟨"MiddleThreeModel", "takes", "(I)Z"⟩, 61), (⟨"MiddleThreeModel", "takesNumber", "()Z"⟩, 61), (⟨"MiddleThreeModel", "isDigit", "()Z"⟩, 61), (⟨"MiddleThreeModel", "takesE", "(I)Z"⟩, 61), (⟨"MiddleThreeModel", "takesTest", "()Z"⟩, 61), (⟨"MiddleThreeModel", "place", "(I)I"⟩, 61), (⟨"MiddleThreeModel", "emits", "(I)V"⟩, 61), (⟨"MiddleThreeModel", "whole", "()V"⟩, 61), (⟨"MiddleThreeModel", "settle", "(I)V"⟩, 61)]
theorem lw_r3 : ∀ q ∈ lw_privs_3, lw_okq q := List.forall_mem_cons.mpr ⟨lw_p32, List.forall_mem_cons.mpr ⟨lw_p33, List.forall_mem_cons.mpr ⟨lw_p34, List.forall_mem_cons.mpr ⟨lw_p35, List.forall_mem_cons.mpr ⟨lw_p36, List.forall_mem_cons.mpr ⟨lw_p37, List.forall_mem_cons.mpr ⟨lw_p38, List.forall_mem_cons.mpr ⟨lw_p39, List.forall_mem_cons.mpr ⟨lw_p40, List.forall_mem_cons.mpr ⟨lw_p41, List.forall_mem_cons.mpr ⟨lw_p42, List.forall_mem_cons.mpr ⟨lw_p43, List.forall_mem_cons.mpr ⟨lw_p44, List.forall_mem_cons.mpr ⟨lw_p45, List.forall_mem_cons.mpr ⟨lw_p46, List.forall_mem_cons.mpr ⟨lw_p47, fun _ h => absurd h List.not_mem_nil⟩⟩⟩⟩⟩⟩⟩⟩⟩⟩⟩⟩⟩⟩⟩⟩
theorem lw_p48 : lw_okq (⟨"MiddleThreeModel", "saysOf", "(I)I"⟩, 61) := ⟨⟨by decide +kernel, by decide +kernel⟩, List.mem_of_getElem? (i := 772) (by decide +kernel), List.mem_of_getElem? (i := 1063) (by decide +kernel), List.mem_of_getElem? (i := 1064) (by decide +kernel)⟩
theorem lw_p49 : lw_okq (⟨"MiddleThreeModel", "nextOf", "(I)I"⟩, 61) := ⟨⟨by decide +kernel, by decide +kernel⟩, List.mem_of_getElem? (i := 772) (by decide +kernel), List.mem_of_getElem? (i := 1067) (by decide +kernel), List.mem_of_getElem? (i := 1068) (by decide +kernel)⟩
theorem lw_p50 : lw_okq (⟨"MiddleThreeModel", "plainNext", "(I)I"⟩, 61) := ⟨⟨by decide +kernel, by decide +kernel⟩, List.mem_of_getElem? (i := 772) (by decide +kernel), List.mem_of_getElem? (i := 1071) (by decide +kernel), List.mem_of_getElem? (i := 1072) (by decide +kernel)⟩
theorem lw_p51 : lw_okq (⟨"MiddleThreeModel", "middle", "(I)I"⟩, 61) := ⟨⟨by decide +kernel, by decide +kernel⟩, List.mem_of_getElem? (i := 772) (by decide +kernel), List.mem_of_getElem? (i := 1075) (by decide +kernel), List.mem_of_getElem? (i := 1076) (by decide +kernel)⟩
theorem lw_p52 : lw_okq (⟨"MiddleThreeModel", "laySome", "(II)V"⟩, 61) := ⟨⟨by decide +kernel, by decide +kernel⟩, List.mem_of_getElem? (i := 772) (by decide +kernel), List.mem_of_getElem? (i := 1079) (by decide +kernel), List.mem_of_getElem? (i := 1080) (by decide +kernel)⟩
theorem lw_p53 : lw_okq (⟨"MiddleThreeModel", "isRing", "()Z"⟩, 61) := ⟨⟨by decide +kernel, by decide +kernel⟩, List.mem_of_getElem? (i := 772) (by decide +kernel), List.mem_of_getElem? (i := 1083) (by decide +kernel), List.mem_of_getElem? (i := 1084) (by decide +kernel)⟩
theorem lw_p54 : lw_okq (⟨"MiddleThreeModel", "begin", "()I"⟩, 61) := ⟨⟨by decide +kernel, by decide +kernel⟩, List.mem_of_getElem? (i := 772) (by decide +kernel), List.mem_of_getElem? (i := 1087) (by decide +kernel), List.mem_of_getElem? (i := 1088) (by decide +kernel)⟩
theorem lw_p55 : lw_okq (⟨"MiddleThreeModel", "behind", "()I"⟩, 61) := ⟨⟨by decide +kernel, by decide +kernel⟩, List.mem_of_getElem? (i := 772) (by decide +kernel), List.mem_of_getElem? (i := 1091) (by decide +kernel), List.mem_of_getElem? (i := 1092) (by decide +kernel)⟩
theorem lw_p56 : lw_okq (⟨"MiddleThreeModel", "sortIn", "(I)V"⟩, 61) := ⟨⟨by decide +kernel, by decide +kernel⟩, List.mem_of_getElem? (i := 772) (by decide +kernel), List.mem_of_getElem? (i := 1095) (by decide +kernel), List.mem_of_getElem? (i := 1096) (by decide +kernel)⟩
theorem lw_p57 : lw_okq (⟨"MiddleThreeModel", "away", "(IIZ)I"⟩, 61) := ⟨⟨by decide +kernel, by decide +kernel⟩, List.mem_of_getElem? (i := 772) (by decide +kernel), List.mem_of_getElem? (i := 1099) (by decide +kernel), List.mem_of_getElem? (i := 1100) (by decide +kernel)⟩
theorem lw_p58 : lw_okq (⟨"MiddleThreeModel", "most", "(II)I"⟩, 61) := ⟨⟨by decide +kernel, by decide +kernel⟩, List.mem_of_getElem? (i := 772) (by decide +kernel), List.mem_of_getElem? (i := 1103) (by decide +kernel), List.mem_of_getElem? (i := 1104) (by decide +kernel)⟩
theorem lw_p59 : lw_okq (⟨"MiddleThreeModel", "least", "(II)I"⟩, 61) := ⟨⟨by decide +kernel, by decide +kernel⟩, List.mem_of_getElem? (i := 772) (by decide +kernel), List.mem_of_getElem? (i := 1107) (by decide +kernel), List.mem_of_getElem? (i := 1108) (by decide +kernel)⟩
theorem lw_p60 : lw_okq (⟨"MiddleThreeModel", "adds", "(I)I"⟩, 61) := ⟨⟨by decide +kernel, by decide +kernel⟩, List.mem_of_getElem? (i := 772) (by decide +kernel), List.mem_of_getElem? (i := 1111) (by decide +kernel), List.mem_of_getElem? (i := 1112) (by decide +kernel)⟩
theorem lw_p61 : lw_okq (⟨"MiddleThreeModel", "holds", "(II)Z"⟩, 61) := ⟨⟨by decide +kernel, by decide +kernel⟩, List.mem_of_getElem? (i := 772) (by decide +kernel), List.mem_of_getElem? (i := 1115) (by decide +kernel), List.mem_of_getElem? (i := 1116) (by decide +kernel)⟩
theorem lw_p62 : lw_okq (⟨"MiddleThreeModel", "factOf", "(II)I"⟩, 61) := ⟨⟨by decide +kernel, by decide +kernel⟩, List.mem_of_getElem? (i := 772) (by decide +kernel), List.mem_of_getElem? (i := 1119) (by decide +kernel), List.mem_of_getElem? (i := 1120) (by decide +kernel)⟩
theorem lw_p63 : lw_okq (⟨"MiddleThreeModel", "manyMore", "(I)I"⟩, 61) := ⟨⟨by decide +kernel, by decide +kernel⟩, List.mem_of_getElem? (i := 772) (by decide +kernel), List.mem_of_getElem? (i := 1123) (by decide +kernel), List.mem_of_getElem? (i := 1124) (by decide +kernel)⟩
def lw_privs_4 : List (MethodName × Nat) := [(⟨"MiddleThreeModel", "saysOf", "(I)I"⟩, 61), (⟨"MiddleThreeModel", "nextOf", "(I)I"⟩, 61), (⟨"MiddleThreeModel", "plainNext", "(I)I"⟩, 61), (⟨"MiddleThreeModel", "middle", "(I)I"⟩, 61), (⟨"MiddleThreeModel", "laySome", "(II)V"⟩, 61), (⟨"MiddleThreeModel", "isRing", "()Z"⟩, 61), (⟨"MiddleThreeModel", "begin", "()I"⟩, 61), (⟨"MiddleThreeModel", "behind", "()I"⟩, 61), (⟨"MiddleThreeModel", "sortIn", "(I)V"⟩, 61), (⟨"MiddleThreeModel", "away", "(IIZ)I"⟩, 61), (⟨"MiddleThreeModel", "most", "(II)I"⟩, 61), (⟨"MiddleThreeModel", "least", "(II)I"⟩, 61), (⟨"MiddleThreeModel", "adds", "(I)I"⟩, 61), (⟨"MiddleThreeModel", "holds", "(II)Z"⟩, 61), (⟨"MiddleThreeModel", "factOf", "(II)I"⟩, 61), (⟨"MiddleThreeModel", "manyMore", "(I)I"⟩, 61)]
theorem lw_r4 : ∀ q ∈ lw_privs_4, lw_okq q := List.forall_mem_cons.mpr ⟨lw_p48, List.forall_mem_cons.mpr ⟨lw_p49, List.forall_mem_cons.mpr ⟨lw_p50, List.forall_mem_cons.mpr ⟨lw_p51, List.forall_mem_cons.mpr ⟨lw_p52, List.forall_mem_cons.mpr ⟨lw_p53, List.forall_mem_cons.mpr ⟨lw_p54, List.forall_mem_cons.mpr ⟨lw_p55, List.forall_mem_cons.mpr ⟨lw_p56, List.forall_mem_cons.mpr ⟨lw_p57, List.forall_mem_cons.mpr ⟨lw_p58, List.forall_mem_cons.mpr ⟨lw_p59, List.forall_mem_cons.mpr ⟨lw_p60, List.forall_mem_cons.mpr ⟨lw_p61, List.forall_mem_cons.mpr ⟨lw_p62, List.forall_mem_cons.mpr ⟨lw_p63, fun _ h => absurd h List.not_mem_nil⟩⟩⟩⟩⟩⟩⟩⟩⟩⟩⟩⟩⟩⟩⟩⟩
theorem lw_p64 : lw_okq (⟨"MiddleThreeModel", "allEarn", "()I"⟩, 61) := ⟨⟨by decide +kernel, by decide +kernel⟩, List.mem_of_getElem? (i := 772) (by decide +kernel), List.mem_of_getElem? (i := 1131) (by decide +kernel), List.mem_of_getElem? (i := 1132) (by decide +kernel)⟩
theorem lw_p65 : lw_okq (⟨"MiddleThreeModel", "goYear", "()V"⟩, 61) := ⟨⟨by decide +kernel, by decide +kernel⟩, List.mem_of_getElem? (i := 772) (by decide +kernel), List.mem_of_getElem? (i := 1139) (by decide +kernel), List.mem_of_getElem? (i := 1140) (by decide +kernel)⟩
theorem lw_p66 : lw_okq (⟨"MiddleThreeModel", "layNext", "()V"⟩, 61) := ⟨⟨by decide +kernel, by decide +kernel⟩, List.mem_of_getElem? (i := 772) (by decide +kernel), List.mem_of_getElem? (i := 1143) (by decide +kernel), List.mem_of_getElem? (i := 1144) (by decide +kernel)⟩
theorem lw_p67 : lw_okq (⟨"MiddleThreeModel", "earnsThen", "(II)I"⟩, 61) := ⟨⟨by decide +kernel, by decide +kernel⟩, List.mem_of_getElem? (i := 772) (by decide +kernel), List.mem_of_getElem? (i := 1151) (by decide +kernel), List.mem_of_getElem? (i := 1152) (by decide +kernel)⟩
theorem lw_p68 : lw_okq (⟨"MiddleThreeModel", "goYears", "(I)V"⟩, 61) := ⟨⟨by decide +kernel, by decide +kernel⟩, List.mem_of_getElem? (i := 772) (by decide +kernel), List.mem_of_getElem? (i := 1155) (by decide +kernel), List.mem_of_getElem? (i := 1156) (by decide +kernel)⟩
theorem lw_p69 : lw_okq (⟨"MiddleThreeModel", "keep", "()V"⟩, 61) := ⟨⟨by decide +kernel, by decide +kernel⟩, List.mem_of_getElem? (i := 772) (by decide +kernel), List.mem_of_getElem? (i := 1163) (by decide +kernel), List.mem_of_getElem? (i := 1164) (by decide +kernel)⟩
theorem lw_p70 : lw_okq (⟨"MiddleThreeModel", "isCalm", "()Z"⟩, 61) := ⟨⟨by decide +kernel, by decide +kernel⟩, List.mem_of_getElem? (i := 772) (by decide +kernel), List.mem_of_getElem? (i := 1167) (by decide +kernel), List.mem_of_getElem? (i := 1168) (by decide +kernel)⟩
theorem lw_p71 : lw_okq (⟨"MiddleThreeModel", "putBack", "()V"⟩, 61) := ⟨⟨by decide +kernel, by decide +kernel⟩, List.mem_of_getElem? (i := 772) (by decide +kernel), List.mem_of_getElem? (i := 1171) (by decide +kernel), List.mem_of_getElem? (i := 1172) (by decide +kernel)⟩
theorem lw_p72 : lw_okq (⟨"MiddleThreeModel", "isAsOld", "()Z"⟩, 61) := ⟨⟨by decide +kernel, by decide +kernel⟩, List.mem_of_getElem? (i := 772) (by decide +kernel), List.mem_of_getElem? (i := 1179) (by decide +kernel), List.mem_of_getElem? (i := 1180) (by decide +kernel)⟩
theorem lw_p73 : lw_okq (⟨"MiddleThreeModel", "withGift", "(III)I"⟩, 61) := ⟨⟨by decide +kernel, by decide +kernel⟩, List.mem_of_getElem? (i := 772) (by decide +kernel), List.mem_of_getElem? (i := 1187) (by decide +kernel), List.mem_of_getElem? (i := 1188) (by decide +kernel)⟩
theorem lw_p74 : lw_okq (⟨"MiddleThreeModel", "change", "(II)V"⟩, 61) := ⟨⟨by decide +kernel, by decide +kernel⟩, List.mem_of_getElem? (i := 772) (by decide +kernel), List.mem_of_getElem? (i := 1199) (by decide +kernel), List.mem_of_getElem? (i := 1200) (by decide +kernel)⟩
theorem lw_p75 : lw_okq (⟨"MiddleThreeModel", "opens", "(I)V"⟩, 61) := ⟨⟨by decide +kernel, by decide +kernel⟩, List.mem_of_getElem? (i := 772) (by decide +kernel), List.mem_of_getElem? (i := 1207) (by decide +kernel), List.mem_of_getElem? (i := 1208) (by decide +kernel)⟩
theorem lw_p76 : lw_okq (⟨"MiddleThreeModel", "copy", "(II)V"⟩, 61) := ⟨⟨by decide +kernel, by decide +kernel⟩, List.mem_of_getElem? (i := 772) (by decide +kernel), List.mem_of_getElem? (i := 1211) (by decide +kernel), List.mem_of_getElem? (i := 1212) (by decide +kernel)⟩
theorem lw_p77 : lw_okq (⟨"MiddleThreeModel", "closes", "(I)V"⟩, 61) := ⟨⟨by decide +kernel, by decide +kernel⟩, List.mem_of_getElem? (i := 772) (by decide +kernel), List.mem_of_getElem? (i := 1215) (by decide +kernel), List.mem_of_getElem? (i := 1216) (by decide +kernel)⟩
theorem lw_p78 : lw_okq (⟨"MiddleThreeModel", "opensWith", "(I)V"⟩, 61) := ⟨⟨by decide +kernel, by decide +kernel⟩, List.mem_of_getElem? (i := 772) (by decide +kernel), List.mem_of_getElem? (i := 1223) (by decide +kernel), List.mem_of_getElem? (i := 1224) (by decide +kernel)⟩
theorem lw_p79 : lw_okq (⟨"MiddleThreeModel", "layValues", "()V"⟩, 61) := ⟨⟨by decide +kernel, by decide +kernel⟩, List.mem_of_getElem? (i := 772) (by decide +kernel), List.mem_of_getElem? (i := 1231) (by decide +kernel), List.mem_of_getElem? (i := 1232) (by decide +kernel)⟩
def lw_privs_5 : List (MethodName × Nat) := [(⟨"MiddleThreeModel", "allEarn", "()I"⟩, 61), (⟨"MiddleThreeModel", "goYear", "()V"⟩, 61), (⟨"MiddleThreeModel", "layNext", "()V"⟩, 61), (⟨"MiddleThreeModel", "earnsThen", "(II)I"⟩, 61), (⟨"MiddleThreeModel", "goYears", "(I)V"⟩, 61), (⟨"MiddleThreeModel", "keep", "()V"⟩, 61), (⟨"MiddleThreeModel", "isCalm", "()Z"⟩, 61), (⟨"MiddleThreeModel", "putBack", "()V"⟩, 61), (⟨"MiddleThreeModel", "isAsOld", "()Z"⟩, 61), (⟨"MiddleThreeModel", "withGift", "(III)I"⟩, 61), (⟨"MiddleThreeModel", "change", "(II)V"⟩, 61), (⟨"MiddleThreeModel", "opens", "(I)V"⟩, 61), (⟨"MiddleThreeModel", "copy", "(II)V"⟩, 61), (⟨"MiddleThreeModel", "closes", "(I)V"⟩, 61), (⟨"MiddleThreeModel", "opensWith", "(I)V"⟩, 61), (⟨"MiddleThreeModel", "layValues", "()V"⟩, 61)]
theorem lw_r5 : ∀ q ∈ lw_privs_5, lw_okq q := List.forall_mem_cons.mpr ⟨lw_p64, List.forall_mem_cons.mpr ⟨lw_p65, List.forall_mem_cons.mpr ⟨lw_p66, List.forall_mem_cons.mpr ⟨lw_p67, List.forall_mem_cons.mpr ⟨lw_p68, List.forall_mem_cons.mpr ⟨lw_p69, List.forall_mem_cons.mpr ⟨lw_p70, List.forall_mem_cons.mpr ⟨lw_p71, List.forall_mem_cons.mpr ⟨lw_p72, List.forall_mem_cons.mpr ⟨lw_p73, List.forall_mem_cons.mpr ⟨lw_p74, List.forall_mem_cons.mpr ⟨lw_p75, List.forall_mem_cons.mpr ⟨lw_p76, List.forall_mem_cons.mpr ⟨lw_p77, List.forall_mem_cons.mpr ⟨lw_p78, List.forall_mem_cons.mpr ⟨lw_p79, fun _ h => absurd h List.not_mem_nil⟩⟩⟩⟩⟩⟩⟩⟩⟩⟩⟩⟩⟩⟩⟩⟩
theorem lw_p80 : lw_okq (⟨"MiddleThreeModel", "bringsNow", "()Z"⟩, 61) := ⟨⟨by decide +kernel, by decide +kernel⟩, List.mem_of_getElem? (i := 772) (by decide +kernel), List.mem_of_getElem? (i := 1235) (by decide +kernel), List.mem_of_getElem? (i := 1236) (by decide +kernel)⟩
theorem lw_p81 : lw_okq (⟨"MiddleThreeModel", "nextRow", "()Z"⟩, 61) := ⟨⟨by decide +kernel, by decide +kernel⟩, List.mem_of_getElem? (i := 772) (by decide +kernel), List.mem_of_getElem? (i := 1239) (by decide +kernel), List.mem_of_getElem? (i := 1240) (by decide +kernel)⟩
theorem lw_p82 : lw_okq (⟨"MiddleThreeModel", "isSeen", "(I)Z"⟩, 61) := ⟨⟨by decide +kernel, by decide +kernel⟩, List.mem_of_getElem? (i := 772) (by decide +kernel), List.mem_of_getElem? (i := 1251) (by decide +kernel), List.mem_of_getElem? (i := 1252) (by decide +kernel)⟩
theorem lw_p83 : lw_okq (⟨"MiddleThreeModel", "lowest", "(III)J"⟩, 61) := ⟨⟨by decide +kernel, by decide +kernel⟩, List.mem_of_getElem? (i := 772) (by decide +kernel), List.mem_of_getElem? (i := 1264) (by decide +kernel), List.mem_of_getElem? (i := 1265) (by decide +kernel)⟩
theorem lw_p84 : lw_okq (⟨"MiddleThreeModel", "divisor", "(II)I"⟩, 61) := ⟨⟨by decide +kernel, by decide +kernel⟩, List.mem_of_getElem? (i := 772) (by decide +kernel), List.mem_of_getElem? (i := 1268) (by decide +kernel), List.mem_of_getElem? (i := 1269) (by decide +kernel)⟩
theorem lw_p85 : lw_okq (⟨"MiddleThreeModel", "isTape", "(I)Z"⟩, 61) := ⟨⟨by decide +kernel, by decide +kernel⟩, List.mem_of_getElem? (i := 772) (by decide +kernel), List.mem_of_getElem? (i := 1288) (by decide +kernel), List.mem_of_getElem? (i := 1289) (by decide +kernel)⟩
theorem lw_p86 : lw_okq (⟨"MiddleThreeModel", "earnsAct", "(II)I"⟩, 61) := ⟨⟨by decide +kernel, by decide +kernel⟩, List.mem_of_getElem? (i := 772) (by decide +kernel), List.mem_of_getElem? (i := 1304) (by decide +kernel), List.mem_of_getElem? (i := 1305) (by decide +kernel)⟩
theorem lw_p87 : lw_okq (⟨"MiddleThreeModel", "body", "(I)V"⟩, 61) := ⟨⟨by decide +kernel, by decide +kernel⟩, List.mem_of_getElem? (i := 772) (by decide +kernel), List.mem_of_getElem? (i := 1308) (by decide +kernel), List.mem_of_getElem? (i := 1309) (by decide +kernel)⟩
theorem lw_p88 : lw_okq (⟨"MiddleThreeModel", "houseEarns", "(II)I"⟩, 61) := ⟨⟨by decide +kernel, by decide +kernel⟩, List.mem_of_getElem? (i := 772) (by decide +kernel), List.mem_of_getElem? (i := 1312) (by decide +kernel), List.mem_of_getElem? (i := 1313) (by decide +kernel)⟩
theorem lw_p89 : lw_okq (⟨"MiddleThreeModel", "saysAct", "(II)I"⟩, 61) := ⟨⟨by decide +kernel, by decide +kernel⟩, List.mem_of_getElem? (i := 772) (by decide +kernel), List.mem_of_getElem? (i := 1316) (by decide +kernel), List.mem_of_getElem? (i := 1317) (by decide +kernel)⟩
theorem lw_p90 : lw_okq (⟨"MiddleThreeModel", "proudSays", "(II)I"⟩, 61) := ⟨⟨by decide +kernel, by decide +kernel⟩, List.mem_of_getElem? (i := 772) (by decide +kernel), List.mem_of_getElem? (i := 1320) (by decide +kernel), List.mem_of_getElem? (i := 1321) (by decide +kernel)⟩
theorem lw_p91 : lw_okq (⟨"MiddleThreeModel", "houseSays", "(II)I"⟩, 61) := ⟨⟨by decide +kernel, by decide +kernel⟩, List.mem_of_getElem? (i := 772) (by decide +kernel), List.mem_of_getElem? (i := 1324) (by decide +kernel), List.mem_of_getElem? (i := 1325) (by decide +kernel)⟩
theorem lw_p92 : lw_okq (⟨"MiddleThreeModel", "tellsAct", "(II)I"⟩, 61) := ⟨⟨by decide +kernel, by decide +kernel⟩, List.mem_of_getElem? (i := 772) (by decide +kernel), List.mem_of_getElem? (i := 1328) (by decide +kernel), List.mem_of_getElem? (i := 1329) (by decide +kernel)⟩
theorem lw_p93 : lw_okq (⟨"MiddleThreeModel", "houseTells", "(II)I"⟩, 61) := ⟨⟨by decide +kernel, by decide +kernel⟩, List.mem_of_getElem? (i := 772) (by decide +kernel), List.mem_of_getElem? (i := 1332) (by decide +kernel), List.mem_of_getElem? (i := 1333) (by decide +kernel)⟩
theorem lw_p94 : lw_okq (⟨"MiddleThreeModel", "narrow", "(IJ)J"⟩, 61) := ⟨⟨by decide +kernel, by decide +kernel⟩, List.mem_of_getElem? (i := 772) (by decide +kernel), List.mem_of_getElem? (i := 1356) (by decide +kernel), List.mem_of_getElem? (i := 1357) (by decide +kernel)⟩
def lw_privs_6 : List (MethodName × Nat) := [(⟨"MiddleThreeModel", "bringsNow", "()Z"⟩, 61), (⟨"MiddleThreeModel", "nextRow", "()Z"⟩, 61), (⟨"MiddleThreeModel", "isSeen", "(I)Z"⟩, 61), (⟨"MiddleThreeModel", "lowest", "(III)J"⟩, 61), (⟨"MiddleThreeModel", "divisor", "(II)I"⟩, 61), (⟨"MiddleThreeModel", "isTape", "(I)Z"⟩, 61), (⟨"MiddleThreeModel", "earnsAct", "(II)I"⟩, 61), (⟨"MiddleThreeModel", "body", "(I)V"⟩, 61), (⟨"MiddleThreeModel", "houseEarns", "(II)I"⟩, 61), (⟨"MiddleThreeModel", "saysAct", "(II)I"⟩, 61), (⟨"MiddleThreeModel", "proudSays", "(II)I"⟩, 61), (⟨"MiddleThreeModel", "houseSays", "(II)I"⟩, 61), (⟨"MiddleThreeModel", "tellsAct", "(II)I"⟩, 61), (⟨"MiddleThreeModel", "houseTells", "(II)I"⟩, 61), (⟨"MiddleThreeModel", "narrow", "(IJ)J"⟩, 61)]
theorem lw_r6 : ∀ q ∈ lw_privs_6, lw_okq q := List.forall_mem_cons.mpr ⟨lw_p80, List.forall_mem_cons.mpr ⟨lw_p81, List.forall_mem_cons.mpr ⟨lw_p82, List.forall_mem_cons.mpr ⟨lw_p83, List.forall_mem_cons.mpr ⟨lw_p84, List.forall_mem_cons.mpr ⟨lw_p85, List.forall_mem_cons.mpr ⟨lw_p86, List.forall_mem_cons.mpr ⟨lw_p87, List.forall_mem_cons.mpr ⟨lw_p88, List.forall_mem_cons.mpr ⟨lw_p89, List.forall_mem_cons.mpr ⟨lw_p90, List.forall_mem_cons.mpr ⟨lw_p91, List.forall_mem_cons.mpr ⟨lw_p92, List.forall_mem_cons.mpr ⟨lw_p93, List.forall_mem_cons.mpr ⟨lw_p94, fun _ h => absurd h List.not_mem_nil⟩⟩⟩⟩⟩⟩⟩⟩⟩⟩⟩⟩⟩⟩⟩
def lw_privs : List (MethodName × Nat) := lw_privs_1 ++ (lw_privs_2 ++ (lw_privs_3 ++ (lw_privs_4 ++ (lw_privs_5 ++ (lw_privs_6)))))
def lw_tbl : List Cond := k2_sels lw_privs ++ tables_1
theorem lw_privs_ok : ∀ q ∈ lw_privs, lw_okq q := by
  show ∀ q ∈ lw_privs_1 ++ (lw_privs_2 ++ (lw_privs_3 ++ (lw_privs_4 ++ (lw_privs_5 ++ (lw_privs_6))))), lw_okq q
  exact List.forall_mem_append.mpr ⟨lw_r1, List.forall_mem_append.mpr ⟨lw_r2, List.forall_mem_append.mpr ⟨lw_r3, List.forall_mem_append.mpr ⟨lw_r4, List.forall_mem_append.mpr ⟨lw_r5, lw_r6⟩⟩⟩⟩⟩
def RX0 : String := "MiddleThree$Acts"
def TX0 : u_T := fun k => match k with
  | 0 => ("MiddleThree$Acts", "ran", "I", false)
  | 1 => ("MiddleThree$Acts", "bodies", "[I", true)
  | 2 => ("MiddleThree$Acts", "kind", "I", false)
  | 3 => ("MiddleThree$Acts", "v", "I", false)
  | _ => ("MiddleThree$Acts", "i", "I", false)
def tyX0 : Nat → FieldType := fun k => match k with
  | 0 => .int
  | 1 => .array .int
  | 2 => .int
  | 3 => .int
  | _ => .int
abbrev wsX00 : List Cond := u_ws RX0 TX0 5
theorem nmX0 : ∀ a, a < 5 → ∀ b, b < 5 → a ≠ b → (TX0 a).2.1 ≠ (TX0 b).2.1 := by decide +kernel
theorem tyX0_ok : ∀ k, k < 5 → parseFieldDescriptor (TX0 k).2.2.1 = some (tyX0 k) := by decide +kernel
abbrev cX0_init : ByteArray := prog_2_method_1_code
def yX0_init : MethodName := ⟨RX0, "<init>", "()V"⟩
abbrev cX0_clear : ByteArray := prog_2_method_2_code
def yX0_clear : MethodName := ⟨RX0, "clear", "()V"⟩
abbrev cX0_choose : ByteArray := prog_2_method_3_code
def yX0_choose : MethodName := ⟨RX0, "choose", "(III)V"⟩
abbrev cX0_perform : ByteArray := prog_2_method_4_code
def yX0_perform : MethodName := ⟨RX0, "perform", "(II)I"⟩
abbrev cX0_begin : ByteArray := prog_2_method_5_code
def yX0_begin : MethodName := ⟨RX0, "begin", "(I)V"⟩
abbrev cX0_runEarns : ByteArray := prog_2_method_6_code
def yX0_runEarns : MethodName := ⟨RX0, "runEarns", "(III)I"⟩
abbrev cX0_runSays : ByteArray := prog_2_method_7_code
def yX0_runSays : MethodName := ⟨RX0, "runSays", "(III)I"⟩
abbrev cX0_runTells : ByteArray := prog_2_method_8_code
def yX0_runTells : MethodName := ⟨RX0, "runTells", "(III)I"⟩
def RX1 : String := "MiddleThree$Notes"
def TX1 : u_T := fun k => match k with
  | 0 => ("MiddleThree$Notes", "seenCount", "I", false)
  | 1 => ("MiddleThree$Notes", "seenHouses", "[I", true)
  | 2 => ("MiddleThree$Notes", "seenEarned", "[I", true)
  | 3 => ("MiddleThree$Notes", "bookCount", "I", false)
  | _ => ("MiddleThree$Notes", "book", "[I", true)
def tyX1 : Nat → FieldType := fun k => match k with
  | 0 => .int
  | 1 => .array .int
  | 2 => .array .int
  | 3 => .int
  | _ => .array .int
abbrev wsX10 : List Cond := u_ws RX1 TX1 5
theorem nmX1 : ∀ a, a < 5 → ∀ b, b < 5 → a ≠ b → (TX1 a).2.1 ≠ (TX1 b).2.1 := by decide +kernel
theorem tyX1_ok : ∀ k, k < 5 → parseFieldDescriptor (TX1 k).2.2.1 = some (tyX1 k) := by decide +kernel
abbrev cX1_init : ByteArray := prog_3_method_1_code
def yX1_init : MethodName := ⟨RX1, "<init>", "()V"⟩
abbrev cX1_takeFrom : ByteArray := prog_3_method_2_code
def yX1_takeFrom : MethodName := ⟨RX1, "takeFrom", "(LMiddleThree$Notes;)V"⟩
abbrev cX1_addSeen : ByteArray := prog_3_method_3_code
def yX1_addSeen : MethodName := ⟨RX1, "addSeen", "(II)I"⟩
abbrev cX1_addBook : ByteArray := prog_3_method_4_code
def yX1_addBook : MethodName := ⟨RX1, "addBook", "(I)I"⟩
def RX2 : String := "MiddleThree$Street"
def TX2 : u_T := fun k => match k with
  | 0 => ("MiddleThree$Street", "ring", "Z", false)
  | 1 => ("MiddleThree$Street", "changes", "I", false)
  | 2 => ("MiddleThree$Street", "amounts", "[I", true)
  | 3 => ("MiddleThree$Street", "ends", "[I", true)
  | 4 => ("MiddleThree$Street", "size", "I", false)
  | 5 => ("MiddleThree$Street", "steps", "[I", true)
  | 6 => ("MiddleThree$Street", "signs", "[I", true)
  | _ => ("MiddleThree$Street", "numbers", "[I", true)
def tyX2 : Nat → FieldType := fun k => match k with
  | 0 => .boolean
  | 1 => .int
  | 2 => .array .int
  | 3 => .array .int
  | 4 => .int
  | 5 => .array .int
  | 6 => .array .int
  | _ => .array .int
abbrev wsX20 : List Cond := u_ws RX2 TX2 8
theorem nmX2 : ∀ a, a < 8 → ∀ b, b < 8 → a ≠ b → (TX2 a).2.1 ≠ (TX2 b).2.1 := by decide +kernel
theorem tyX2_ok : ∀ k, k < 8 → parseFieldDescriptor (TX2 k).2.2.1 = some (tyX2 k) := by decide +kernel
abbrev cX2_init : ByteArray := prog_4_method_1_code
def yX2_init : MethodName := ⟨RX2, "<init>", "()V"⟩
abbrev cX2_clear : ByteArray := prog_4_method_2_code
def yX2_clear : MethodName := ⟨RX2, "clear", "()V"⟩
abbrev cX2_takeFrom : ByteArray := prog_4_method_3_code
def yX2_takeFrom : MethodName := ⟨RX2, "takeFrom", "(LMiddleThree$Street;)V"⟩
abbrev cX2_put : ByteArray := prog_4_method_4_code
def yX2_put : MethodName := ⟨RX2, "put", "(III)V"⟩
abbrev cX2_close : ByteArray := prog_4_method_5_code
def yX2_close : MethodName := ⟨RX2, "close", "(I)Z"⟩
abbrev cX2_addsBy : ByteArray := prog_4_method_6_code
def yX2_addsBy : MethodName := ⟨RX2, "addsBy", "([I)I"⟩
abbrev cX2_holds : ByteArray := prog_4_method_7_code
def yX2_holds : MethodName := ⟨RX2, "holds", "(II[I)Z"⟩
abbrev cX2_passes : ByteArray := prog_4_method_8_code
def yX2_passes : MethodName := ⟨RX2, "passes", "(I[I)Z"⟩
def RX3 : String := "MiddleThree$StreetReader"
def TX3 : u_T := fun k => match k with
  | 0 => ("MiddleThree$StreetReader", "size", "I", false)
  | 1 => ("MiddleThree$StreetReader", "street", "LMiddleThree$Street;", true)
  | 2 => ("MiddleThree$StreetReader", "signs", "[B", true)
  | _ => ("MiddleThree$StreetReader", "place", "I", false)
def tyX3 : Nat → FieldType := fun k => match k with
  | 0 => .int
  | 1 => .object "MiddleThree$Street"
  | 2 => .array .byte
  | _ => .int
abbrev wsX30 : List Cond := u_ws RX3 TX3 4
theorem nmX3 : ∀ a, a < 4 → ∀ b, b < 4 → a ≠ b → (TX3 a).2.1 ≠ (TX3 b).2.1 := by decide +kernel
theorem tyX3_ok : ∀ k, k < 4 → parseFieldDescriptor (TX3 k).2.2.1 = some (tyX3 k) := by decide +kernel
abbrev cX3_init : ByteArray := prog_5_method_1_code
def yX3_init : MethodName := ⟨RX3, "<init>", "()V"⟩
abbrev cX3_addSign : ByteArray := prog_5_method_2_code
def yX3_addSign : MethodName := ⟨RX3, "addSign", "(I)I"⟩
abbrev cX3_clear : ByteArray := prog_5_method_3_code
def yX3_clear : MethodName := ⟨RX3, "clear", "()V"⟩
abbrev cX3_readStreet : ByteArray := prog_5_method_4_code
def yX3_readStreet : MethodName := ⟨RX3, "readStreet", "()I"⟩
abbrev cX3_sign : ByteArray := prog_5_method_5_code
def yX3_sign : MethodName := ⟨RX3, "sign", "()I"⟩
abbrev cX3_clause : ByteArray := prog_5_method_6_code
def yX3_clause : MethodName := ⟨RX3, "clause", "()Z"⟩
abbrev cX3_shape : ByteArray := prog_5_method_7_code
def yX3_shape : MethodName := ⟨RX3, "shape", "()Z"⟩
abbrev cX3_word : ByteArray := prog_5_method_8_code
def yX3_word : MethodName := ⟨RX3, "word", "(Ljava/lang/String;)Z"⟩
abbrev cX3_number : ByteArray := prog_5_method_9_code
def yX3_number : MethodName := ⟨RX3, "number", "()I"⟩
abbrev cX3_either : ByteArray := prog_5_method_10_code
def yX3_either : MethodName := ⟨RX3, "either", "(I)Z"⟩
abbrev cX3_factor : ByteArray := prog_5_method_11_code
def yX3_factor : MethodName := ⟨RX3, "factor", "(I)Z"⟩
abbrev cX3_test : ByteArray := prog_5_method_12_code
def yX3_test : MethodName := ⟨RX3, "test", "()Z"⟩
def RX4 : String := "MiddleThree$Tape"
def TX4 : u_T := fun k => match k with
  | 0 => ("MiddleThree$Tape", "sort", "I", false)
  | 1 => ("MiddleThree$Tape", "size", "I", false)
  | _ => ("MiddleThree$Tape", "items", "[J", true)
def tyX4 : Nat → FieldType := fun k => match k with
  | 0 => .int
  | 1 => .int
  | _ => .array .long
abbrev wsX40 : List Cond := u_ws RX4 TX4 3
theorem nmX4 : ∀ a, a < 3 → ∀ b, b < 3 → a ≠ b → (TX4 a).2.1 ≠ (TX4 b).2.1 := by decide +kernel
theorem tyX4_ok : ∀ k, k < 3 → parseFieldDescriptor (TX4 k).2.2.1 = some (tyX4 k) := by decide +kernel
abbrev cX4_init : ByteArray := prog_6_method_1_code
def yX4_init : MethodName := ⟨RX4, "<init>", "()V"⟩
abbrev cX4_become : ByteArray := prog_6_method_2_code
def yX4_become : MethodName := ⟨RX4, "become", "(II)V"⟩
abbrev cX4_reaches : ByteArray := prog_6_method_3_code
def yX4_reaches : MethodName := ⟨RX4, "reaches", "(II)Z"⟩
abbrev cX4_fitted : ByteArray := prog_6_method_4_code
def yX4_fitted : MethodName := ⟨RX4, "fitted", "(J)J"⟩
def RX5 : String := "MiddleThree$Town"
def TX5 : u_T := fun k => match k with
  | 0 => ("MiddleThree$Town", "count", "I", false)
  | 1 => ("MiddleThree$Town", "year", "I", false)
  | 2 => ("MiddleThree$Town", "street", "LMiddleThree$Street;", false)
  | 3 => ("MiddleThree$Town", "kinds", "[I", true)
  | 4 => ("MiddleThree$Town", "vs", "[I", true)
  | 5 => ("MiddleThree$Town", "earns", "[I", true)
  | 6 => ("MiddleThree$Town", "rows", "[I", true)
  | 7 => ("MiddleThree$Town", "says", "[I", true)
  | 8 => ("MiddleThree$Town", "next", "[I", true)
  | 9 => ("MiddleThree$Town", "wide", "[I", true)
  | 10 => ("MiddleThree$Town", "wideSize", "I", false)
  | _ => ("MiddleThree$Town", "facts", "[I", true)
def tyX5 : Nat → FieldType := fun k => match k with
  | 0 => .int
  | 1 => .int
  | 2 => .object "MiddleThree$Street"
  | 3 => .array .int
  | 4 => .array .int
  | 5 => .array .int
  | 6 => .array .int
  | 7 => .array .int
  | 8 => .array .int
  | 9 => .array .int
  | 10 => .int
  | _ => .array .int
abbrev wsX50 : List Cond := u_ws RX5 TX5 12
theorem nmX5 : ∀ a, a < 12 → ∀ b, b < 12 → a ≠ b → (TX5 a).2.1 ≠ (TX5 b).2.1 := by decide +kernel
theorem tyX5_ok : ∀ k, k < 12 → parseFieldDescriptor (TX5 k).2.2.1 = some (tyX5 k) := by decide +kernel
abbrev cX5_init : ByteArray := prog_7_method_1_code
def yX5_init : MethodName := ⟨RX5, "<init>", "()V"⟩
abbrev cX5_takeFrom : ByteArray := prog_7_method_2_code
def yX5_takeFrom : MethodName := ⟨RX5, "takeFrom", "(LMiddleThree$Town;)V"⟩
abbrev cX5_insert : ByteArray := prog_7_method_3_code
def yX5_insert : MethodName := ⟨RX5, "insert", "(IIII)V"⟩
abbrev cX5_remove : ByteArray := prog_7_method_4_code
def yX5_remove : MethodName := ⟨RX5, "remove", "(I)V"⟩
abbrev cX5_copyHouse : ByteArray := prog_7_method_5_code
def yX5_copyHouse : MethodName := ⟨RX5, "copyHouse", "(II)V"⟩
abbrev cX5_give : ByteArray := prog_7_method_6_code
def yX5_give : MethodName := ⟨RX5, "give", "(II)V"⟩
abbrev cX5_isRing : ByteArray := prog_7_method_7_code
def yX5_isRing : MethodName := ⟨RX5, "isRing", "()Z"⟩
abbrev cX5_total : ByteArray := prog_7_method_8_code
def yX5_total : MethodName := ⟨RX5, "total", "()I"⟩
abbrev cX5_someEarns : ByteArray := prog_7_method_9_code
def yX5_someEarns : MethodName := ⟨RX5, "someEarns", "(I)Z"⟩
abbrev cX5_go : ByteArray := prog_7_method_10_code
def yX5_go : MethodName := ⟨RX5, "go", "(I)V"⟩
abbrev cX5_sayByKind : ByteArray := prog_7_method_11_code
def yX5_sayByKind : MethodName := ⟨RX5, "sayByKind", "()V"⟩
abbrev cX5_sayPlain : ByteArray := prog_7_method_12_code
def yX5_sayPlain : MethodName := ⟨RX5, "sayPlain", "(I)V"⟩
abbrev cX5_reckon : ByteArray := prog_7_method_13_code
def yX5_reckon : MethodName := ⟨RX5, "reckon", "()V"⟩
abbrev cX5_nextByKind : ByteArray := prog_7_method_14_code
def yX5_nextByKind : MethodName := ⟨RX5, "nextByKind", "(I)I"⟩
abbrev cX5_proud : ByteArray := prog_7_method_15_code
def yX5_proud : MethodName := ⟨RX5, "proud", "(I)I"⟩
abbrev cX5_takesHalf : ByteArray := prog_7_method_16_code
def yX5_takesHalf : MethodName := ⟨RX5, "takesHalf", "(I)Z"⟩
abbrev cX5_middle : ByteArray := prog_7_method_17_code
def yX5_middle : MethodName := ⟨RX5, "middle", "(I)I"⟩
abbrev cX5_fillWide : ByteArray := prog_7_method_18_code
def yX5_fillWide : MethodName := ⟨RX5, "fillWide", "(I)V"⟩
abbrev cX5_addWide : ByteArray := prog_7_method_19_code
def yX5_addWide : MethodName := ⟨RX5, "addWide", "(I)V"⟩
abbrev cX5_adds : ByteArray := prog_7_method_20_code
def yX5_adds : MethodName := ⟨RX5, "adds", "(I)I"⟩
def RX6 : String := "MiddleThree"
def TX6 : u_T := fun k => match k with
  | 0 => ("MiddleThree", "now", "LMiddleThree$Town;", true)
  | 1 => ("MiddleThree", "later", "LMiddleThree$Town;", true)
  | 2 => ("MiddleThree", "imageTown", "LMiddleThree$Town;", true)
  | 3 => ("MiddleThree", "notes", "LMiddleThree$Notes;", true)
  | 4 => ("MiddleThree", "imageNotes", "LMiddleThree$Notes;", true)
  | 5 => ("MiddleThree", "imageTaken", "Z", false)
  | 6 => ("MiddleThree", "reader", "LMiddleThree$StreetReader;", true)
  | 7 => ("MiddleThree", "streets", "[LMiddleThree$Street;", true)
  | 8 => ("MiddleThree", "streetCount", "I", false)
  | 9 => ("MiddleThree", "acts", "LMiddleThree$Acts;", true)
  | 10 => ("MiddleThree", "tapes", "[LMiddleThree$Tape;", true)
  | 11 => ("MiddleThree", "kept", "[I", true)
  | _ => ("MiddleThree", "values", "[I", true)
def tyX6 : Nat → FieldType := fun k => match k with
  | 0 => .object "MiddleThree$Town"
  | 1 => .object "MiddleThree$Town"
  | 2 => .object "MiddleThree$Town"
  | 3 => .object "MiddleThree$Notes"
  | 4 => .object "MiddleThree$Notes"
  | 5 => .boolean
  | 6 => .object "MiddleThree$StreetReader"
  | 7 => .array (.object "MiddleThree$Street")
  | 8 => .int
  | 9 => .object "MiddleThree$Acts"
  | 10 => .array (.object "MiddleThree$Tape")
  | 11 => .array .int
  | _ => .array .int
abbrev wsX60 : List Cond := u_ws RX6 TX6 13
theorem nmX6 : ∀ a, a < 13 → ∀ b, b < 13 → a ≠ b → (TX6 a).2.1 ≠ (TX6 b).2.1 := by decide +kernel
theorem tyX6_ok : ∀ k, k < 13 → parseFieldDescriptor (TX6 k).2.2.1 = some (tyX6 k) := by decide +kernel
abbrev cX6_init : ByteArray := prog_1_method_1_code
def yX6_init : MethodName := ⟨RX6, "<init>", "()V"⟩
abbrev cX6_house : ByteArray := prog_1_method_2_code
def yX6_house : MethodName := ⟨RX6, "house", "(III)I"⟩
abbrev cX6_of : ByteArray := prog_1_method_3_code
def yX6_of : MethodName := ⟨RX6, "of", "(II)I"⟩
abbrev cX6_earn : ByteArray := prog_1_method_4_code
def yX6_earn : MethodName := ⟨RX6, "earn", "(II)I"⟩
abbrev cX6_row : ByteArray := prog_1_method_5_code
def yX6_row : MethodName := ⟨RX6, "row", "(III)I"⟩
abbrev cX6_feed : ByteArray := prog_1_method_6_code
def yX6_feed : MethodName := ⟨RX6, "feed", "(I)I"⟩
abbrev cX6_street : ByteArray := prog_1_method_7_code
def yX6_street : MethodName := ⟨RX6, "street", "()I"⟩
abbrev cX6_told : ByteArray := prog_1_method_8_code
def yX6_told : MethodName := ⟨RX6, "told", "(I)I"⟩
abbrev cX6_year : ByteArray := prog_1_method_9_code
def yX6_year : MethodName := ⟨RX6, "year", "()I"⟩
abbrev cX6_at : ByteArray := prog_1_method_10_code
def yX6_at : MethodName := ⟨RX6, "at", "(II)I"⟩
abbrev cX6_stays : ByteArray := prog_1_method_11_code
def yX6_stays : MethodName := ⟨RX6, "stays", "()I"⟩
abbrev cX6_swings : ByteArray := prog_1_method_12_code
def yX6_swings : MethodName := ⟨RX6, "swings", "()I"⟩
abbrev cX6_gift : ByteArray := prog_1_method_13_code
def yX6_gift : MethodName := ⟨RX6, "gift", "(III)I"⟩
abbrev cX6_best : ByteArray := prog_1_method_14_code
def yX6_best : MethodName := ⟨RX6, "best", "(I)I"⟩
abbrev cX6_lots : ByteArray := prog_1_method_15_code
def yX6_lots : MethodName := ⟨RX6, "lots", "()I"⟩
abbrev cX6_build : ByteArray := prog_1_method_16_code
def yX6_build : MethodName := ⟨RX6, "build", "(IIII)I"⟩
abbrev cX6_down : ByteArray := prog_1_method_17_code
def yX6_down : MethodName := ⟨RX6, "down", "(I)I"⟩
abbrev cX6_before : ByteArray := prog_1_method_18_code
def yX6_before : MethodName := ⟨RX6, "before", "(I)I"⟩
abbrev cX6_see : ByteArray := prog_1_method_19_code
def yX6_see : MethodName := ⟨RX6, "see", "(II)I"⟩
abbrev cX6_lied : ByteArray := prog_1_method_20_code
def yX6_lied : MethodName := ⟨RX6, "lied", "(I)I"⟩
abbrev cX6_wed : ByteArray := prog_1_method_21_code
def yX6_wed : MethodName := ⟨RX6, "wed", "(II)I"⟩
abbrev cX6_odds : ByteArray := prog_1_method_22_code
def yX6_odds : MethodName := ⟨RX6, "odds", "(III)J"⟩
abbrev cX6_mean : ByteArray := prog_1_method_23_code
def yX6_mean : MethodName := ⟨RX6, "mean", "(II)J"⟩
abbrev cX6_book : ByteArray := prog_1_method_24_code
def yX6_book : MethodName := ⟨RX6, "book", "(I)I"⟩
abbrev cX6_looked : ByteArray := prog_1_method_25_code
def yX6_looked : MethodName := ⟨RX6, "looked", "()I"⟩
abbrev cX6_judge : ByteArray := prog_1_method_26_code
def yX6_judge : MethodName := ⟨RX6, "judge", "(II)I"⟩
abbrev cX6_image : ByteArray := prog_1_method_27_code
def yX6_image : MethodName := ⟨RX6, "image", "()I"⟩
abbrev cX6_undo : ByteArray := prog_1_method_28_code
def yX6_undo : MethodName := ⟨RX6, "undo", "()I"⟩
abbrev cX6_act : ByteArray := prog_1_method_29_code
def yX6_act : MethodName := ⟨RX6, "act", "(III)I"⟩
abbrev cX6_trace : ByteArray := prog_1_method_30_code
def yX6_trace : MethodName := ⟨RX6, "trace", "(I)I"⟩
abbrev cX6_taken : ByteArray := prog_1_method_31_code
def yX6_taken : MethodName := ⟨RX6, "taken", "(II)I"⟩
abbrev cX6_count : ByteArray := prog_1_method_32_code
def yX6_count : MethodName := ⟨RX6, "count", "(I)I"⟩
abbrev cX6_tape : ByteArray := prog_1_method_33_code
def yX6_tape : MethodName := ⟨RX6, "tape", "(III)I"⟩
abbrev cX6_item : ByteArray := prog_1_method_34_code
def yX6_item : MethodName := ⟨RX6, "item", "(IIJ)I"⟩
abbrev cX6_read : ByteArray := prog_1_method_35_code
def yX6_read : MethodName := ⟨RX6, "read", "(II)J"⟩
abbrev cX6_shift : ByteArray := prog_1_method_36_code
def yX6_shift : MethodName := ⟨RX6, "shift", "(IIIII)I"⟩
abbrev cX6_isHouse : ByteArray := prog_1_method_37_code
def yX6_isHouse : MethodName := ⟨RX6, "isHouse", "(I)Z"⟩
abbrev cX6_isKind : ByteArray := prog_1_method_38_code
def yX6_isKind : MethodName := ⟨RX6, "isKind", "(I)Z"⟩
abbrev cX6_isV : ByteArray := prog_1_method_39_code
def yX6_isV : MethodName := ⟨RX6, "isV", "(I)Z"⟩
abbrev cX6_isEarned : ByteArray := prog_1_method_40_code
def yX6_isEarned : MethodName := ⟨RX6, "isEarned", "(I)Z"⟩
abbrev cX6_isWhich : ByteArray := prog_1_method_41_code
def yX6_isWhich : MethodName := ⟨RX6, "isWhich", "(I)Z"⟩
abbrev cX6_isTape : ByteArray := prog_1_method_42_code
def yX6_isTape : MethodName := ⟨RX6, "isTape", "(I)Z"⟩
abbrev cX6_isUnder : ByteArray := prog_1_method_43_code
def yX6_isUnder : MethodName := ⟨RX6, "isUnder", "(II)Z"⟩
abbrev cX6_keepLater : ByteArray := prog_1_method_44_code
def yX6_keepLater : MethodName := ⟨RX6, "keepLater", "()V"⟩
abbrev cX6_laterOtherwise : ByteArray := prog_1_method_45_code
def yX6_laterOtherwise : MethodName := ⟨RX6, "laterOtherwise", "()I"⟩
abbrev cX6_laterAsNow : ByteArray := prog_1_method_46_code
def yX6_laterAsNow : MethodName := ⟨RX6, "laterAsNow", "()Z"⟩
abbrev cX6_listValues : ByteArray := prog_1_method_47_code
def yX6_listValues : MethodName := ⟨RX6, "listValues", "()I"⟩
abbrev cX6_setLaterRow : ByteArray := prog_1_method_48_code
def yX6_setLaterRow : MethodName := ⟨RX6, "setLaterRow", "(II)V"⟩
abbrev cX6_allSeenIfLies : ByteArray := prog_1_method_49_code
def yX6_allSeenIfLies : MethodName := ⟨RX6, "allSeenIfLies", "(I)Z"⟩
abbrev cX6_lowest : ByteArray := prog_1_method_50_code
def yX6_lowest : MethodName := ⟨RX6, "lowest", "(III)J"⟩
def RX7 : String := "MiddleThreeModel"
def TX7 : u_T := fun k => match k with
  | 0 => ("MiddleThreeModel", "houses", "I", false)
  | 1 => ("MiddleThreeModel", "years", "I", false)
  | 2 => ("MiddleThreeModel", "kind", "[I", true)
  | 3 => ("MiddleThreeModel", "v", "[I", true)
  | 4 => ("MiddleThreeModel", "earns", "[I", true)
  | 5 => ("MiddleThreeModel", "rows", "[I", true)
  | 6 => ("MiddleThreeModel", "streets", "I", false)
  | 7 => ("MiddleThreeModel", "the", "I", false)
  | 8 => ("MiddleThreeModel", "fed", "I", false)
  | 9 => ("MiddleThreeModel", "at", "I", false)
  | 10 => ("MiddleThreeModel", "digits", "I", false)
  | 11 => ("MiddleThreeModel", "text", "[I", true)
  | 12 => ("MiddleThreeModel", "clauses", "[I", true)
  | 13 => ("MiddleThreeModel", "word", "[I", true)
  | 14 => ("MiddleThreeModel", "number", "[I", true)
  | 15 => ("MiddleThreeModel", "from", "[I", true)
  | 16 => ("MiddleThreeModel", "to", "[I", true)
  | 17 => ("MiddleThreeModel", "sign", "[I", true)
  | 18 => ("MiddleThreeModel", "waits", "[I", true)
  | 19 => ("MiddleThreeModel", "signs", "I", false)
  | 20 => ("MiddleThreeModel", "waiting", "I", false)
  | 21 => ("MiddleThreeModel", "open", "I", false)
  | 22 => ("MiddleThreeModel", "letters", "[I", true)
  | 23 => ("MiddleThreeModel", "pile", "[Z", true)
  | 24 => ("MiddleThreeModel", "liar", "I", false)
  | 25 => ("MiddleThreeModel", "some", "[I", true)
  | 26 => ("MiddleThreeModel", "someMany", "I", false)
  | 27 => ("MiddleThreeModel", "then", "[I", true)
  | 28 => ("MiddleThreeModel", "kept", "[I", true)
  | 29 => ("MiddleThreeModel", "keptYears", "I", false)
  | 30 => ("MiddleThreeModel", "before1", "[I", true)
  | 31 => ("MiddleThreeModel", "old", "[I", true)
  | 32 => ("MiddleThreeModel", "values", "[I", true)
  | 33 => ("MiddleThreeModel", "now", "[I", true)
  | 34 => ("MiddleThreeModel", "first", "[I", true)
  | 35 => ("MiddleThreeModel", "digit", "[I", true)
  | 36 => ("MiddleThreeModel", "valueMany", "I", false)
  | 37 => ("MiddleThreeModel", "seen", "I", false)
  | 38 => ("MiddleThreeModel", "seenHouse", "[I", true)
  | 39 => ("MiddleThreeModel", "seenEarns", "[I", true)
  | 40 => ("MiddleThreeModel", "books", "I", false)
  | 41 => ("MiddleThreeModel", "book", "[I", true)
  | 42 => ("MiddleThreeModel", "hasImage", "Z", false)
  | 43 => ("MiddleThreeModel", "imageThe", "I", false)
  | 44 => ("MiddleThreeModel", "imageHouses", "I", false)
  | 45 => ("MiddleThreeModel", "imageYears", "I", false)
  | 46 => ("MiddleThreeModel", "imageSeen", "I", false)
  | 47 => ("MiddleThreeModel", "imageBooks", "I", false)
  | 48 => ("MiddleThreeModel", "imageKind", "[I", true)
  | 49 => ("MiddleThreeModel", "imageV", "[I", true)
  | 50 => ("MiddleThreeModel", "imageEarns", "[I", true)
  | 51 => ("MiddleThreeModel", "imageRows", "[I", true)
  | 52 => ("MiddleThreeModel", "imageHouse", "[I", true)
  | 53 => ("MiddleThreeModel", "imageSaw", "[I", true)
  | 54 => ("MiddleThreeModel", "imageBook", "[I", true)
  | 55 => ("MiddleThreeModel", "ran", "I", false)
  | 56 => ("MiddleThreeModel", "bodies", "[I", true)
  | 57 => ("MiddleThreeModel", "sort", "[I", true)
  | 58 => ("MiddleThreeModel", "length", "[I", true)
  | 59 => ("MiddleThreeModel", "item", "[J", true)
  | _ => ("MiddleThreeModel", "aside", "[J", true)
def tyX7 : Nat → FieldType := fun k => match k with
  | 0 => .int
  | 1 => .int
  | 2 => .array .int
  | 3 => .array .int
  | 4 => .array .int
  | 5 => .array .int
  | 6 => .int
  | 7 => .int
  | 8 => .int
  | 9 => .int
  | 10 => .int
  | 11 => .array .int
  | 12 => .array .int
  | 13 => .array .int
  | 14 => .array .int
  | 15 => .array .int
  | 16 => .array .int
  | 17 => .array .int
  | 18 => .array .int
  | 19 => .int
  | 20 => .int
  | 21 => .int
  | 22 => .array .int
  | 23 => .array .boolean
  | 24 => .int
  | 25 => .array .int
  | 26 => .int
  | 27 => .array .int
  | 28 => .array .int
  | 29 => .int
  | 30 => .array .int
  | 31 => .array .int
  | 32 => .array .int
  | 33 => .array .int
  | 34 => .array .int
  | 35 => .array .int
  | 36 => .int
  | 37 => .int
  | 38 => .array .int
  | 39 => .array .int
  | 40 => .int
  | 41 => .array .int
  | 42 => .boolean
  | 43 => .int
  | 44 => .int
  | 45 => .int
  | 46 => .int
  | 47 => .int
  | 48 => .array .int
  | 49 => .array .int
  | 50 => .array .int
  | 51 => .array .int
  | 52 => .array .int
  | 53 => .array .int
  | 54 => .array .int
  | 55 => .int
  | 56 => .array .int
  | 57 => .array .int
  | 58 => .array .int
  | 59 => .array .long
  | _ => .array .long
abbrev wsX70 : List Cond := u_ws RX7 TX7 61
theorem nmX7 : ∀ a, a < 61 → ∀ b, b < 61 → a ≠ b → (TX7 a).2.1 ≠ (TX7 b).2.1 := by decide +kernel
theorem tyX7_ok : ∀ k, k < 61 → parseFieldDescriptor (TX7 k).2.2.1 = some (tyX7 k) := by decide +kernel
abbrev cX7_init : ByteArray := prog_9_method_1_code
def yX7_init : MethodName := ⟨RX7, "<init>", "()V"⟩
abbrev cX7_in : ByteArray := prog_9_method_2_code
def yX7_in : MethodName := ⟨RX7, "in", "(III)Z"⟩
abbrev cX7_isHouse : ByteArray := prog_9_method_3_code
def yX7_isHouse : MethodName := ⟨RX7, "isHouse", "(I)Z"⟩
abbrev cX7_lay : ByteArray := prog_9_method_4_code
def yX7_lay : MethodName := ⟨RX7, "lay", "(IIII)V"⟩
abbrev cX7_copy : ByteArray := prog_9_method_5_code
def yX7_copy : MethodName := ⟨RX7, "copy", "(II)V"⟩
abbrev cX7_house : ByteArray := prog_9_method_6_code
def yX7_house : MethodName := ⟨RX7, "house", "(III)I"⟩
abbrev cX7_earn : ByteArray := prog_9_method_7_code
def yX7_earn : MethodName := ⟨RX7, "earn", "(II)I"⟩
abbrev cX7_row : ByteArray := prog_9_method_8_code
def yX7_row : MethodName := ⟨RX7, "row", "(III)I"⟩
abbrev cX7_feed : ByteArray := prog_9_method_9_code
def yX7_feed : MethodName := ⟨RX7, "feed", "(I)I"⟩
abbrev cX7_next : ByteArray := prog_9_method_10_code
def yX7_next : MethodName := ⟨RX7, "next", "()I"⟩
abbrev cX7_second : ByteArray := prog_9_method_11_code
def yX7_second : MethodName := ⟨RX7, "second", "()I"⟩
abbrev cX7_takes : ByteArray := prog_9_method_12_code
def yX7_takes : MethodName := ⟨RX7, "takes", "(I)Z"⟩
abbrev cX7_takesAlone : ByteArray := prog_9_method_13_code
def yX7_takesAlone : MethodName := ⟨RX7, "takesAlone", "(II)Z"⟩
abbrev cX7_takesWord : ByteArray := prog_9_method_14_code
def yX7_takesWord : MethodName := ⟨RX7, "takesWord", "(II)Z"⟩
abbrev cX7_isDigit : ByteArray := prog_9_method_15_code
def yX7_isDigit : MethodName := ⟨RX7, "isDigit", "()Z"⟩
abbrev cX7_takesNumber : ByteArray := prog_9_method_16_code
def yX7_takesNumber : MethodName := ⟨RX7, "takesNumber", "()Z"⟩
abbrev cX7_emits : ByteArray := prog_9_method_17_code
def yX7_emits : MethodName := ⟨RX7, "emits", "(I)V"⟩
abbrev cX7_whole : ByteArray := prog_9_method_18_code
def yX7_whole : MethodName := ⟨RX7, "whole", "()V"⟩
abbrev cX7_settle : ByteArray := prog_9_method_19_code
def yX7_settle : MethodName := ⟨RX7, "settle", "(I)V"⟩
abbrev cX7_place : ByteArray := prog_9_method_20_code
def yX7_place : MethodName := ⟨RX7, "place", "(I)I"⟩
abbrev cX7_takesTest : ByteArray := prog_9_method_21_code
def yX7_takesTest : MethodName := ⟨RX7, "takesTest", "()Z"⟩
abbrev cX7_takesE : ByteArray := prog_9_method_22_code
def yX7_takesE : MethodName := ⟨RX7, "takesE", "(I)Z"⟩
abbrev cX7_takesHead : ByteArray := prog_9_method_23_code
def yX7_takesHead : MethodName := ⟨RX7, "takesHead", "(I)Z"⟩
abbrev cX7_takesClause : ByteArray := prog_9_method_24_code
def yX7_takesClause : MethodName := ⟨RX7, "takesClause", "(I)Z"⟩
abbrev cX7_goesText : ByteArray := prog_9_method_25_code
def yX7_goesText : MethodName := ⟨RX7, "goesText", "(I)Z"⟩
abbrev cX7_street : ByteArray := prog_9_method_26_code
def yX7_street : MethodName := ⟨RX7, "street", "()I"⟩
abbrev cX7_begin : ByteArray := prog_9_method_27_code
def yX7_begin : MethodName := ⟨RX7, "begin", "()I"⟩
abbrev cX7_behind : ByteArray := prog_9_method_28_code
def yX7_behind : MethodName := ⟨RX7, "behind", "()I"⟩
abbrev cX7_isRing : ByteArray := prog_9_method_29_code
def yX7_isRing : MethodName := ⟨RX7, "isRing", "()Z"⟩
abbrev cX7_manyMore : ByteArray := prog_9_method_30_code
def yX7_manyMore : MethodName := ⟨RX7, "manyMore", "(I)I"⟩
abbrev cX7_factOf : ByteArray := prog_9_method_31_code
def yX7_factOf : MethodName := ⟨RX7, "factOf", "(II)I"⟩
abbrev cX7_holds : ByteArray := prog_9_method_32_code
def yX7_holds : MethodName := ⟨RX7, "holds", "(II)Z"⟩
abbrev cX7_adds : ByteArray := prog_9_method_33_code
def yX7_adds : MethodName := ⟨RX7, "adds", "(I)I"⟩
abbrev cX7_saysOf : ByteArray := prog_9_method_34_code
def yX7_saysOf : MethodName := ⟨RX7, "saysOf", "(I)I"⟩
abbrev cX7_sortIn : ByteArray := prog_9_method_35_code
def yX7_sortIn : MethodName := ⟨RX7, "sortIn", "(I)V"⟩
abbrev cX7_away : ByteArray := prog_9_method_36_code
def yX7_away : MethodName := ⟨RX7, "away", "(IIZ)I"⟩
abbrev cX7_laySome : ByteArray := prog_9_method_37_code
def yX7_laySome : MethodName := ⟨RX7, "laySome", "(II)V"⟩
abbrev cX7_middle : ByteArray := prog_9_method_38_code
def yX7_middle : MethodName := ⟨RX7, "middle", "(I)I"⟩
abbrev cX7_least : ByteArray := prog_9_method_39_code
def yX7_least : MethodName := ⟨RX7, "least", "(II)I"⟩
abbrev cX7_most : ByteArray := prog_9_method_40_code
def yX7_most : MethodName := ⟨RX7, "most", "(II)I"⟩
abbrev cX7_plainNext : ByteArray := prog_9_method_41_code
def yX7_plainNext : MethodName := ⟨RX7, "plainNext", "(I)I"⟩
abbrev cX7_nextOf : ByteArray := prog_9_method_42_code
def yX7_nextOf : MethodName := ⟨RX7, "nextOf", "(I)I"⟩
abbrev cX7_layNext : ByteArray := prog_9_method_43_code
def yX7_layNext : MethodName := ⟨RX7, "layNext", "()V"⟩
abbrev cX7_goYear : ByteArray := prog_9_method_44_code
def yX7_goYear : MethodName := ⟨RX7, "goYear", "()V"⟩
abbrev cX7_goYears : ByteArray := prog_9_method_45_code
def yX7_goYears : MethodName := ⟨RX7, "goYears", "(I)V"⟩
abbrev cX7_allEarn : ByteArray := prog_9_method_46_code
def yX7_allEarn : MethodName := ⟨RX7, "allEarn", "()I"⟩
abbrev cX7_of : ByteArray := prog_9_method_47_code
def yX7_of : MethodName := ⟨RX7, "of", "(II)I"⟩
abbrev cX7_told : ByteArray := prog_9_method_48_code
def yX7_told : MethodName := ⟨RX7, "told", "(I)I"⟩
abbrev cX7_year : ByteArray := prog_9_method_49_code
def yX7_year : MethodName := ⟨RX7, "year", "()I"⟩
abbrev cX7_keep : ByteArray := prog_9_method_50_code
def yX7_keep : MethodName := ⟨RX7, "keep", "()V"⟩
abbrev cX7_putBack : ByteArray := prog_9_method_51_code
def yX7_putBack : MethodName := ⟨RX7, "putBack", "()V"⟩
abbrev cX7_earnsThen : ByteArray := prog_9_method_52_code
def yX7_earnsThen : MethodName := ⟨RX7, "earnsThen", "(II)I"⟩
abbrev cX7_at : ByteArray := prog_9_method_53_code
def yX7_at : MethodName := ⟨RX7, "at", "(II)I"⟩
abbrev cX7_isCalm : ByteArray := prog_9_method_54_code
def yX7_isCalm : MethodName := ⟨RX7, "isCalm", "()Z"⟩
abbrev cX7_stays : ByteArray := prog_9_method_55_code
def yX7_stays : MethodName := ⟨RX7, "stays", "()I"⟩
abbrev cX7_isAsOld : ByteArray := prog_9_method_56_code
def yX7_isAsOld : MethodName := ⟨RX7, "isAsOld", "()Z"⟩
abbrev cX7_swings : ByteArray := prog_9_method_57_code
def yX7_swings : MethodName := ⟨RX7, "swings", "()I"⟩
abbrev cX7_withGift : ByteArray := prog_9_method_58_code
def yX7_withGift : MethodName := ⟨RX7, "withGift", "(III)I"⟩
abbrev cX7_gift : ByteArray := prog_9_method_59_code
def yX7_gift : MethodName := ⟨RX7, "gift", "(III)I"⟩
abbrev cX7_best : ByteArray := prog_9_method_60_code
def yX7_best : MethodName := ⟨RX7, "best", "(I)I"⟩
abbrev cX7_change : ByteArray := prog_9_method_61_code
def yX7_change : MethodName := ⟨RX7, "change", "(II)V"⟩
abbrev cX7_lots : ByteArray := prog_9_method_62_code
def yX7_lots : MethodName := ⟨RX7, "lots", "()I"⟩
abbrev cX7_opens : ByteArray := prog_9_method_63_code
def yX7_opens : MethodName := ⟨RX7, "opens", "(I)V"⟩
abbrev cX7_closes : ByteArray := prog_9_method_64_code
def yX7_closes : MethodName := ⟨RX7, "closes", "(I)V"⟩
abbrev cX7_build : ByteArray := prog_9_method_65_code
def yX7_build : MethodName := ⟨RX7, "build", "(IIII)I"⟩
abbrev cX7_down : ByteArray := prog_9_method_66_code
def yX7_down : MethodName := ⟨RX7, "down", "(I)I"⟩
abbrev cX7_opensWith : ByteArray := prog_9_method_67_code
def yX7_opensWith : MethodName := ⟨RX7, "opensWith", "(I)V"⟩
abbrev cX7_layValues : ByteArray := prog_9_method_68_code
def yX7_layValues : MethodName := ⟨RX7, "layValues", "()V"⟩
abbrev cX7_nextRow : ByteArray := prog_9_method_69_code
def yX7_nextRow : MethodName := ⟨RX7, "nextRow", "()Z"⟩
abbrev cX7_bringsNow : ByteArray := prog_9_method_70_code
def yX7_bringsNow : MethodName := ⟨RX7, "bringsNow", "()Z"⟩
abbrev cX7_before : ByteArray := prog_9_method_71_code
def yX7_before : MethodName := ⟨RX7, "before", "(I)I"⟩
abbrev cX7_see : ByteArray := prog_9_method_72_code
def yX7_see : MethodName := ⟨RX7, "see", "(II)I"⟩
abbrev cX7_isSeen : ByteArray := prog_9_method_73_code
def yX7_isSeen : MethodName := ⟨RX7, "isSeen", "(I)Z"⟩
abbrev cX7_lied : ByteArray := prog_9_method_74_code
def yX7_lied : MethodName := ⟨RX7, "lied", "(I)I"⟩
abbrev cX7_wed : ByteArray := prog_9_method_75_code
def yX7_wed : MethodName := ⟨RX7, "wed", "(II)I"⟩
abbrev cX7_divisor : ByteArray := prog_9_method_76_code
def yX7_divisor : MethodName := ⟨RX7, "divisor", "(II)I"⟩
abbrev cX7_lowest : ByteArray := prog_9_method_77_code
def yX7_lowest : MethodName := ⟨RX7, "lowest", "(III)J"⟩
abbrev cX7_odds : ByteArray := prog_9_method_78_code
def yX7_odds : MethodName := ⟨RX7, "odds", "(III)J"⟩
abbrev cX7_mean : ByteArray := prog_9_method_79_code
def yX7_mean : MethodName := ⟨RX7, "mean", "(II)J"⟩
abbrev cX7_book : ByteArray := prog_9_method_80_code
def yX7_book : MethodName := ⟨RX7, "book", "(I)I"⟩
abbrev cX7_looked : ByteArray := prog_9_method_81_code
def yX7_looked : MethodName := ⟨RX7, "looked", "()I"⟩
abbrev cX7_judge : ByteArray := prog_9_method_82_code
def yX7_judge : MethodName := ⟨RX7, "judge", "(II)I"⟩
abbrev cX7_image : ByteArray := prog_9_method_83_code
def yX7_image : MethodName := ⟨RX7, "image", "()I"⟩
abbrev cX7_undo : ByteArray := prog_9_method_84_code
def yX7_undo : MethodName := ⟨RX7, "undo", "()I"⟩
abbrev cX7_body : ByteArray := prog_9_method_85_code
def yX7_body : MethodName := ⟨RX7, "body", "(I)V"⟩
abbrev cX7_houseEarns : ByteArray := prog_9_method_86_code
def yX7_houseEarns : MethodName := ⟨RX7, "houseEarns", "(II)I"⟩
abbrev cX7_earnsAct : ByteArray := prog_9_method_87_code
def yX7_earnsAct : MethodName := ⟨RX7, "earnsAct", "(II)I"⟩
abbrev cX7_houseSays : ByteArray := prog_9_method_88_code
def yX7_houseSays : MethodName := ⟨RX7, "houseSays", "(II)I"⟩
abbrev cX7_proudSays : ByteArray := prog_9_method_89_code
def yX7_proudSays : MethodName := ⟨RX7, "proudSays", "(II)I"⟩
abbrev cX7_saysAct : ByteArray := prog_9_method_90_code
def yX7_saysAct : MethodName := ⟨RX7, "saysAct", "(II)I"⟩
abbrev cX7_houseTells : ByteArray := prog_9_method_91_code
def yX7_houseTells : MethodName := ⟨RX7, "houseTells", "(II)I"⟩
abbrev cX7_tellsAct : ByteArray := prog_9_method_92_code
def yX7_tellsAct : MethodName := ⟨RX7, "tellsAct", "(II)I"⟩
abbrev cX7_act : ByteArray := prog_9_method_93_code
def yX7_act : MethodName := ⟨RX7, "act", "(III)I"⟩
abbrev cX7_trace : ByteArray := prog_9_method_94_code
def yX7_trace : MethodName := ⟨RX7, "trace", "(I)I"⟩
abbrev cX7_taken : ByteArray := prog_9_method_95_code
def yX7_taken : MethodName := ⟨RX7, "taken", "(II)I"⟩
abbrev cX7_count : ByteArray := prog_9_method_96_code
def yX7_count : MethodName := ⟨RX7, "count", "(I)I"⟩
abbrev cX7_isTape : ByteArray := prog_9_method_97_code
def yX7_isTape : MethodName := ⟨RX7, "isTape", "(I)Z"⟩
abbrev cX7_tape : ByteArray := prog_9_method_98_code
def yX7_tape : MethodName := ⟨RX7, "tape", "(III)I"⟩
abbrev cX7_narrow : ByteArray := prog_9_method_99_code
def yX7_narrow : MethodName := ⟨RX7, "narrow", "(IJ)J"⟩
abbrev cX7_item : ByteArray := prog_9_method_100_code
def yX7_item : MethodName := ⟨RX7, "item", "(IIJ)I"⟩
abbrev cX7_read : ByteArray := prog_9_method_101_code
def yX7_read : MethodName := ⟨RX7, "read", "(II)J"⟩
abbrev cX7_shift : ByteArray := prog_9_method_102_code
def yX7_shift : MethodName := ⟨RX7, "shift", "(IIIII)I"⟩
def RJ11 : String := "java/lang/Character"
def TJ11 : u_T := fun k => match k with
  | _ => ("", "", "", false)
def tyJ11 : Nat → FieldType := fun k => match k with
  | _ => .int
abbrev wsJ110 : List Cond := u_ws RJ11 TJ11 0
theorem nmJ11 : ∀ a, a < 0 → ∀ b, b < 0 → a ≠ b → (TJ11 a).2.1 ≠ (TJ11 b).2.1 := by decide +kernel
theorem tyJ11_ok : ∀ k, k < 0 → parseFieldDescriptor (TJ11 k).2.2.1 = some (tyJ11 k) := by decide +kernel
abbrev cJ11_isValidCodePoint_9a6ad : ByteArray := prog_10_method_11_code
def yJ11_isValidCodePoint_9a6ad : MethodName := ⟨RJ11, "isValidCodePoint", "(I)Z"⟩
abbrev cJ11_highSurrogate_5068e : ByteArray := prog_10_method_28_code
def yJ11_highSurrogate_5068e : MethodName := ⟨RJ11, "highSurrogate", "(I)C"⟩
abbrev cJ11_lowSurrogate_5068e : ByteArray := prog_10_method_29_code
def yJ11_lowSurrogate_5068e : MethodName := ⟨RJ11, "lowSurrogate", "(I)C"⟩
def RJ9 : String := "java/lang/Math"
def TJ9 : u_T := fun k => match k with
  | _ => ("", "", "", false)
def tyJ9 : Nat → FieldType := fun k => match k with
  | _ => .int
abbrev wsJ90 : List Cond := u_ws RJ9 TJ9 0
theorem nmJ9 : ∀ a, a < 0 → ∀ b, b < 0 → a ≠ b → (TJ9 a).2.1 ≠ (TJ9 b).2.1 := by decide +kernel
theorem tyJ9_ok : ∀ k, k < 0 → parseFieldDescriptor (TJ9 k).2.2.1 = some (tyJ9 k) := by decide +kernel
abbrev cJ9_abs_0f7a4 : ByteArray := prog_11_method_59_code
def yJ9_abs_0f7a4 : MethodName := ⟨RJ9, "abs", "(I)I"⟩
abbrev cJ9_max_7cf53 : ByteArray := prog_11_method_65_code
def yJ9_max_7cf53 : MethodName := ⟨RJ9, "max", "(II)I"⟩
abbrev cJ9_min_7cf53 : ByteArray := prog_11_method_69_code
def yJ9_min_7cf53 : MethodName := ⟨RJ9, "min", "(II)I"⟩
def RJ0 : String := "java/lang/String"
def TJ0 : u_T := fun k => match k with
  | _ => ("", "", "", false)
def tyJ0 : Nat → FieldType := fun k => match k with
  | _ => .int
abbrev wsJ00 : List Cond := u_ws RJ0 TJ0 0
theorem nmJ0 : ∀ a, a < 0 → ∀ b, b < 0 → a ≠ b → (TJ0 a).2.1 ≠ (TJ0 b).2.1 := by decide +kernel
theorem tyJ0_ok : ∀ k, k < 0 → parseFieldDescriptor (TJ0 k).2.2.1 = some (tyJ0 k) := by decide +kernel
abbrev cJ0_length_8abf5 : ByteArray := prog_12_method_54_code
def yJ0_length_8abf5 : MethodName := ⟨RJ0, "length", "()I"⟩
abbrev cJ0_charAt_5068e : ByteArray := prog_12_method_56_code
def yJ0_charAt_5068e : MethodName := ⟨RJ0, "charAt", "(I)C"⟩
abbrev cJ0_indexOf_0f7a4 : ByteArray := prog_12_method_79_code
def yJ0_indexOf_0f7a4 : MethodName := ⟨RJ0, "indexOf", "(I)I"⟩
abbrev cJ0_indexOf_7cf53 : ByteArray := prog_12_method_80_code
def yJ0_indexOf_7cf53 : MethodName := ⟨RJ0, "indexOf", "(II)I"⟩
abbrev cJ0_coder_7d493 : ByteArray := prog_12_method_152_code
def yJ0_coder_7d493 : MethodName := ⟨RJ0, "coder", "()B"⟩
abbrev cJ0_isLatin1_aae02 : ByteArray := prog_12_method_154_code
def yJ0_isLatin1_aae02 : MethodName := ⟨RJ0, "isLatin1", "()Z"⟩
abbrev cJ0_checkIndex_df160 : ByteArray := prog_12_method_155_code
def yJ0_checkIndex_df160 : MethodName := ⟨RJ0, "checkIndex", "(II)V"⟩
abbrev cJ0_checkBoundsBeginEnd_23922 : ByteArray := prog_12_method_158_code
def yJ0_checkBoundsBeginEnd_23922 : MethodName := ⟨RJ0, "checkBoundsBeginEnd", "(III)V"⟩
def RJ1 : String := "java/lang/StringLatin1"
def TJ1 : u_T := fun k => match k with
  | _ => ("", "", "", false)
def tyJ1 : Nat → FieldType := fun k => match k with
  | _ => .int
abbrev wsJ10 : List Cond := u_ws RJ1 TJ1 0
theorem nmJ1 : ∀ a, a < 0 → ∀ b, b < 0 → a ≠ b → (TJ1 a).2.1 ≠ (TJ1 b).2.1 := by decide +kernel
theorem tyJ1_ok : ∀ k, k < 0 → parseFieldDescriptor (TJ1 k).2.2.1 = some (tyJ1 k) := by decide +kernel
abbrev cJ1_charAt_3b067 : ByteArray := prog_13_method_2_code
def yJ1_charAt_3b067 : MethodName := ⟨RJ1, "charAt", "([BI)C"⟩
abbrev cJ1_canEncode_9a6ad : ByteArray := prog_13_method_4_code
def yJ1_canEncode_9a6ad : MethodName := ⟨RJ1, "canEncode", "(I)Z"⟩
abbrev cJ1_indexOf_4cfef : ByteArray := prog_13_method_22_code
def yJ1_indexOf_4cfef : MethodName := ⟨RJ1, "indexOf", "([BIII)I"⟩
abbrev cJ1_indexOfChar_4cfef : ByteArray := prog_13_method_23_code
def yJ1_indexOfChar_4cfef : MethodName := ⟨RJ1, "indexOfChar", "([BIII)I"⟩
def RJ2 : String := "java/lang/StringUTF16"
def TJ2 : u_T := fun k => match k with
  | _ => ("", "", "", false)
def tyJ2 : Nat → FieldType := fun k => match k with
  | _ => .int
abbrev wsJ20 : List Cond := u_ws RJ2 TJ2 0
theorem nmJ2 : ∀ a, a < 0 → ∀ b, b < 0 → a ≠ b → (TJ2 a).2.1 ≠ (TJ2 b).2.1 := by decide +kernel
theorem tyJ2_ok : ∀ k, k < 0 → parseFieldDescriptor (TJ2 k).2.2.1 = some (tyJ2 k) := by decide +kernel
abbrev cJ2_getChar_3b067 : ByteArray := prog_14_method_5_code
def yJ2_getChar_3b067 : MethodName := ⟨RJ2, "getChar", "([BI)C"⟩
abbrev cJ2_length_9d52b : ByteArray := prog_14_method_6_code
def yJ2_length_9d52b : MethodName := ⟨RJ2, "length", "([B)I"⟩
abbrev cJ2_indexOf_4cfef : ByteArray := prog_14_method_40_code
def yJ2_indexOf_4cfef : MethodName := ⟨RJ2, "indexOf", "([BIII)I"⟩
abbrev cJ2_indexOfChar_4cfef : ByteArray := prog_14_method_47_code
def yJ2_indexOfChar_4cfef : MethodName := ⟨RJ2, "indexOfChar", "([BIII)I"⟩
abbrev cJ2_indexOfCharUnsafe_4cfef : ByteArray := prog_14_method_48_code
def yJ2_indexOfCharUnsafe_4cfef : MethodName := ⟨RJ2, "indexOfCharUnsafe", "([BIII)I"⟩
abbrev cJ2_indexOfSupplementary_4cfef : ByteArray := prog_14_method_49_code
def yJ2_indexOfSupplementary_4cfef : MethodName := ⟨RJ2, "indexOfSupplementary", "([BIII)I"⟩
abbrev cJ2_charAt_3b067 : ByteArray := prog_14_method_83_code
def yJ2_charAt_3b067 : MethodName := ⟨RJ2, "charAt", "([BI)C"⟩
abbrev cJ2_checkIndex_2214a : ByteArray := prog_14_method_91_code
def yJ2_checkIndex_2214a : MethodName := ⟨RJ2, "checkIndex", "(I[B)V"⟩
abbrev cJ2_checkBoundsBeginEnd_d044e : ByteArray := prog_14_method_93_code
def yJ2_checkBoundsBeginEnd_d044e : MethodName := ⟨RJ2, "checkBoundsBeginEnd", "(II[B)V"⟩
def RJ10 : String := "java/lang/System"
def TJ10 : u_T := fun k => match k with
  | _ => ("", "", "", false)
def tyJ10 : Nat → FieldType := fun k => match k with
  | _ => .int
abbrev wsJ100 : List Cond := u_ws RJ10 TJ10 0
theorem nmJ10 : ∀ a, a < 0 → ∀ b, b < 0 → a ≠ b → (TJ10 a).2.1 ≠ (TJ10 b).2.1 := by decide +kernel
theorem tyJ10_ok : ∀ k, k < 0 → parseFieldDescriptor (TJ10 k).2.2.1 = some (tyJ10 k) := by decide +kernel
def RJ3 : String := "jdk/internal/util/Preconditions"
def TJ3 : u_T := fun k => match k with
  | _ => ("", "", "", false)
def tyJ3 : Nat → FieldType := fun k => match k with
  | _ => .int
abbrev wsJ30 : List Cond := u_ws RJ3 TJ3 0
theorem nmJ3 : ∀ a, a < 0 → ∀ b, b < 0 → a ≠ b → (TJ3 a).2.1 ≠ (TJ3 b).2.1 := by decide +kernel
theorem tyJ3_ok : ∀ k, k < 0 → parseFieldDescriptor (TJ3 k).2.2.1 = some (tyJ3 k) := by decide +kernel
abbrev cJ3_checkIndex_8e157 : ByteArray := prog_16_method_11_code
def yJ3_checkIndex_8e157 : MethodName := ⟨RJ3, "checkIndex", "(IILjava/util/function/BiFunction;)I"⟩
abbrev cJ3_checkFromToIndex_8c36e : ByteArray := prog_16_method_12_code
def yJ3_checkFromToIndex_8c36e : MethodName := ⟨RJ3, "checkFromToIndex", "(IIILjava/util/function/BiFunction;)I"⟩
def RL : String := "MiddleThreeLaw"
abbrev cL_law : ByteArray := code
def yL_law : MethodName := ⟨RL, "law", "([I)Z"⟩
