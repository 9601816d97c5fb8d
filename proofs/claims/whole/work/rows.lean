section
-- ===== PART A: goes FIRST, ahead of the names: the tables' words, and 'selects' of the private methods out of them =====
/-- a private method of a class that the tables say can be made, by its rows of tables_1 -/
def lw_okq (q : MethodName × Nat) : Prop := (q.1.cls ≠ "java/lang/invoke/MethodHandle" ∧ q.1.cls ≠ "java/lang/invoke/VarHandle") ∧ Cond.instantiable q.1.cls q.2 ∈ tables_1 ∧ Cond.privateMethod q.1 ∈ tables_1 ∧ Cond.instanceMethod q.1 ∈ tables_1
theorem lw_p0 : lw_okq (⟨"MiddleThree$Town", "copyHouse", "(II)V"⟩, 12) := ⟨⟨by decide +kernel, by decide +kernel⟩, List.mem_of_getElem? (i := 25) (by decide +kernel), List.mem_of_getElem? (i := 276) (by decide +kernel), List.mem_of_getElem? (i := 277) (by decide +kernel)⟩
theorem lw_p1 : lw_okq (⟨"MiddleThree", "isHouse", "(I)Z"⟩, 13) := ⟨⟨by decide +kernel, by decide +kernel⟩, List.mem_of_getElem? (i := 17) (by decide +kernel), List.mem_of_getElem? (i := 287) (by decide +kernel), List.mem_of_getElem? (i := 288) (by decide +kernel)⟩
theorem lw_p2 : lw_okq (⟨"MiddleThree$Town", "nextByKind", "(I)I"⟩, 12) := ⟨⟨by decide +kernel, by decide +kernel⟩, List.mem_of_getElem? (i := 25) (by decide +kernel), List.mem_of_getElem? (i := 299) (by decide +kernel), List.mem_of_getElem? (i := 300) (by decide +kernel)⟩
theorem lw_p3 : lw_okq (⟨"MiddleThree$Town", "proud", "(I)I"⟩, 12) := ⟨⟨by decide +kernel, by decide +kernel⟩, List.mem_of_getElem? (i := 25) (by decide +kernel), List.mem_of_getElem? (i := 303) (by decide +kernel), List.mem_of_getElem? (i := 304) (by decide +kernel)⟩
theorem lw_p4 : lw_okq (⟨"MiddleThree$Town", "middle", "(I)I"⟩, 12) := ⟨⟨by decide +kernel, by decide +kernel⟩, List.mem_of_getElem? (i := 25) (by decide +kernel), List.mem_of_getElem? (i := 307) (by decide +kernel), List.mem_of_getElem? (i := 308) (by decide +kernel)⟩
theorem lw_p5 : lw_okq (⟨"MiddleThree$Town", "takesHalf", "(I)Z"⟩, 12) := ⟨⟨by decide +kernel, by decide +kernel⟩, List.mem_of_getElem? (i := 25) (by decide +kernel), List.mem_of_getElem? (i := 321) (by decide +kernel), List.mem_of_getElem? (i := 322) (by decide +kernel)⟩
theorem lw_p6 : lw_okq (⟨"MiddleThree$Town", "fillWide", "(I)V"⟩, 12) := ⟨⟨by decide +kernel, by decide +kernel⟩, List.mem_of_getElem? (i := 25) (by decide +kernel), List.mem_of_getElem? (i := 325) (by decide +kernel), List.mem_of_getElem? (i := 326) (by decide +kernel)⟩
theorem lw_p7 : lw_okq (⟨"MiddleThree$Town", "addWide", "(I)V"⟩, 12) := ⟨⟨by decide +kernel, by decide +kernel⟩, List.mem_of_getElem? (i := 25) (by decide +kernel), List.mem_of_getElem? (i := 329) (by decide +kernel), List.mem_of_getElem? (i := 330) (by decide +kernel)⟩
theorem lw_p8 : lw_okq (⟨"MiddleThree$Town", "adds", "(I)I"⟩, 12) := ⟨⟨by decide +kernel, by decide +kernel⟩, List.mem_of_getElem? (i := 25) (by decide +kernel), List.mem_of_getElem? (i := 336) (by decide +kernel), List.mem_of_getElem? (i := 337) (by decide +kernel)⟩
theorem lw_p9 : lw_okq (⟨"MiddleThree$Street", "holds", "(II[I)Z"⟩, 8) := ⟨⟨by decide +kernel, by decide +kernel⟩, List.mem_of_getElem? (i := 123) (by decide +kernel), List.mem_of_getElem? (i := 344) (by decide +kernel), List.mem_of_getElem? (i := 345) (by decide +kernel)⟩
theorem lw_p10 : lw_okq (⟨"MiddleThree$Street", "passes", "(I[I)Z"⟩, 8) := ⟨⟨by decide +kernel, by decide +kernel⟩, List.mem_of_getElem? (i := 123) (by decide +kernel), List.mem_of_getElem? (i := 348) (by decide +kernel), List.mem_of_getElem? (i := 349) (by decide +kernel)⟩
theorem lw_p11 : lw_okq (⟨"MiddleThree$StreetReader", "clause", "()Z"⟩, 4) := ⟨⟨by decide +kernel, by decide +kernel⟩, List.mem_of_getElem? (i := 117) (by decide +kernel), List.mem_of_getElem? (i := 380) (by decide +kernel), List.mem_of_getElem? (i := 381) (by decide +kernel)⟩
theorem lw_p12 : lw_okq (⟨"MiddleThree$StreetReader", "sign", "()I"⟩, 4) := ⟨⟨by decide +kernel, by decide +kernel⟩, List.mem_of_getElem? (i := 117) (by decide +kernel), List.mem_of_getElem? (i := 384) (by decide +kernel), List.mem_of_getElem? (i := 385) (by decide +kernel)⟩
theorem lw_p13 : lw_okq (⟨"MiddleThree$StreetReader", "shape", "()Z"⟩, 4) := ⟨⟨by decide +kernel, by decide +kernel⟩, List.mem_of_getElem? (i := 117) (by decide +kernel), List.mem_of_getElem? (i := 388) (by decide +kernel), List.mem_of_getElem? (i := 389) (by decide +kernel)⟩
theorem lw_p14 : lw_okq (⟨"MiddleThree$StreetReader", "word", "(Ljava/lang/String;)Z"⟩, 4) := ⟨⟨by decide +kernel, by decide +kernel⟩, List.mem_of_getElem? (i := 117) (by decide +kernel), List.mem_of_getElem? (i := 394) (by decide +kernel), List.mem_of_getElem? (i := 395) (by decide +kernel)⟩
theorem lw_p15 : lw_okq (⟨"MiddleThree$StreetReader", "number", "()I"⟩, 4) := ⟨⟨by decide +kernel, by decide +kernel⟩, List.mem_of_getElem? (i := 117) (by decide +kernel), List.mem_of_getElem? (i := 439) (by decide +kernel), List.mem_of_getElem? (i := 440) (by decide +kernel)⟩
def lw_privs_1 : List (MethodName × Nat) := [(⟨"MiddleThree$Town", "copyHouse", "(II)V"⟩, 12), (⟨"MiddleThree", "isHouse", "(I)Z"⟩, 13), (⟨"MiddleThree$Town", "nextByKind", "(I)I"⟩, 12), (⟨"MiddleThree$Town", "proud", "(I)I"⟩, 12), (⟨"MiddleThree$Town", "middle", "(I)I"⟩, 12), (⟨"MiddleThree$Town", "takesHalf", "(I)Z"⟩, 12), (⟨"MiddleThree$Town", "fillWide", "(I)V"⟩, 12), (⟨"MiddleThree$Town", "addWide", "(I)V"⟩, 12), (⟨"MiddleThree$Town", "adds", "(I)I"⟩, 12), (⟨"MiddleThree$Street", "holds", "(II[I)Z"⟩, 8), (⟨"MiddleThree$Street", "passes", "(I[I)Z"⟩, 8), (⟨"MiddleThree$StreetReader", "clause", "()Z"⟩, 4), (⟨"MiddleThree$StreetReader", "sign", "()I"⟩, 4), (⟨"MiddleThree$StreetReader", "shape", "()Z"⟩, 4), (⟨"MiddleThree$StreetReader", "word", "(Ljava/lang/String;)Z"⟩, 4), (⟨"MiddleThree$StreetReader", "number", "()I"⟩, 4)]
theorem lw_r1 : ∀ q ∈ lw_privs_1, lw_okq q := List.forall_mem_cons.mpr ⟨lw_p0, List.forall_mem_cons.mpr ⟨lw_p1, List.forall_mem_cons.mpr ⟨lw_p2, List.forall_mem_cons.mpr ⟨lw_p3, List.forall_mem_cons.mpr ⟨lw_p4, List.forall_mem_cons.mpr ⟨lw_p5, List.forall_mem_cons.mpr ⟨lw_p6, List.forall_mem_cons.mpr ⟨lw_p7, List.forall_mem_cons.mpr ⟨lw_p8, List.forall_mem_cons.mpr ⟨lw_p9, List.forall_mem_cons.mpr ⟨lw_p10, List.forall_mem_cons.mpr ⟨lw_p11, List.forall_mem_cons.mpr ⟨lw_p12, List.forall_mem_cons.mpr ⟨lw_p13, List.forall_mem_cons.mpr ⟨lw_p14, List.forall_mem_cons.mpr ⟨lw_p15, fun _ h => absurd h List.not_mem_nil⟩⟩⟩⟩⟩⟩⟩⟩⟩⟩⟩⟩⟩⟩⟩⟩
theorem lw_p16 : lw_okq (⟨"MiddleThree$StreetReader", "either", "(I)Z"⟩, 4) := ⟨⟨by decide +kernel, by decide +kernel⟩, List.mem_of_getElem? (i := 117) (by decide +kernel), List.mem_of_getElem? (i := 445) (by decide +kernel), List.mem_of_getElem? (i := 446) (by decide +kernel)⟩
theorem lw_p17 : lw_okq (⟨"MiddleThree$StreetReader", "factor", "(I)Z"⟩, 4) := ⟨⟨by decide +kernel, by decide +kernel⟩, List.mem_of_getElem? (i := 117) (by decide +kernel), List.mem_of_getElem? (i := 449) (by decide +kernel), List.mem_of_getElem? (i := 450) (by decide +kernel)⟩
theorem lw_p18 : lw_okq (⟨"MiddleThree$StreetReader", "test", "()Z"⟩, 4) := ⟨⟨by decide +kernel, by decide +kernel⟩, List.mem_of_getElem? (i := 117) (by decide +kernel), List.mem_of_getElem? (i := 453) (by decide +kernel), List.mem_of_getElem? (i := 454) (by decide +kernel)⟩
theorem lw_p19 : lw_okq (⟨"MiddleThree", "keepLater", "()V"⟩, 13) := ⟨⟨by decide +kernel, by decide +kernel⟩, List.mem_of_getElem? (i := 17) (by decide +kernel), List.mem_of_getElem? (i := 563) (by decide +kernel), List.mem_of_getElem? (i := 564) (by decide +kernel)⟩
theorem lw_p20 : lw_okq (⟨"MiddleThree", "laterOtherwise", "()I"⟩, 13) := ⟨⟨by decide +kernel, by decide +kernel⟩, List.mem_of_getElem? (i := 17) (by decide +kernel), List.mem_of_getElem? (i := 568) (by decide +kernel), List.mem_of_getElem? (i := 569) (by decide +kernel)⟩
theorem lw_p21 : lw_okq (⟨"MiddleThree", "listValues", "()I"⟩, 13) := ⟨⟨by decide +kernel, by decide +kernel⟩, List.mem_of_getElem? (i := 17) (by decide +kernel), List.mem_of_getElem? (i := 611) (by decide +kernel), List.mem_of_getElem? (i := 612) (by decide +kernel)⟩
theorem lw_p22 : lw_okq (⟨"MiddleThree", "setLaterRow", "(II)V"⟩, 13) := ⟨⟨by decide +kernel, by decide +kernel⟩, List.mem_of_getElem? (i := 17) (by decide +kernel), List.mem_of_getElem? (i := 619) (by decide +kernel), List.mem_of_getElem? (i := 620) (by decide +kernel)⟩
theorem lw_p23 : lw_okq (⟨"MiddleThree", "laterAsNow", "()Z"⟩, 13) := ⟨⟨by decide +kernel, by decide +kernel⟩, List.mem_of_getElem? (i := 17) (by decide +kernel), List.mem_of_getElem? (i := 623) (by decide +kernel), List.mem_of_getElem? (i := 624) (by decide +kernel)⟩
theorem lw_p24 : lw_okq (⟨"MiddleThree", "allSeenIfLies", "(I)Z"⟩, 13) := ⟨⟨by decide +kernel, by decide +kernel⟩, List.mem_of_getElem? (i := 17) (by decide +kernel), List.mem_of_getElem? (i := 639) (by decide +kernel), List.mem_of_getElem? (i := 640) (by decide +kernel)⟩
theorem lw_p25 : lw_okq (⟨"MiddleThree$Acts", "runEarns", "(III)I"⟩, 5) := ⟨⟨by decide +kernel, by decide +kernel⟩, List.mem_of_getElem? (i := 173) (by decide +kernel), List.mem_of_getElem? (i := 711) (by decide +kernel), List.mem_of_getElem? (i := 712) (by decide +kernel)⟩
theorem lw_p26 : lw_okq (⟨"MiddleThree$Acts", "begin", "(I)V"⟩, 5) := ⟨⟨by decide +kernel, by decide +kernel⟩, List.mem_of_getElem? (i := 173) (by decide +kernel), List.mem_of_getElem? (i := 715) (by decide +kernel), List.mem_of_getElem? (i := 716) (by decide +kernel)⟩
theorem lw_p27 : lw_okq (⟨"MiddleThree$Acts", "runSays", "(III)I"⟩, 5) := ⟨⟨by decide +kernel, by decide +kernel⟩, List.mem_of_getElem? (i := 173) (by decide +kernel), List.mem_of_getElem? (i := 719) (by decide +kernel), List.mem_of_getElem? (i := 720) (by decide +kernel)⟩
theorem lw_p28 : lw_okq (⟨"MiddleThree$Acts", "runTells", "(III)I"⟩, 5) := ⟨⟨by decide +kernel, by decide +kernel⟩, List.mem_of_getElem? (i := 173) (by decide +kernel), List.mem_of_getElem? (i := 723) (by decide +kernel), List.mem_of_getElem? (i := 724) (by decide +kernel)⟩
theorem lw_p29 : lw_okq (⟨"MiddleThreeModel", "in", "(III)Z"⟩, 61) := ⟨⟨by decide +kernel, by decide +kernel⟩, List.mem_of_getElem? (i := 772) (by decide +kernel), List.mem_of_getElem? (i := 967) (by decide +kernel), List.mem_of_getElem? (i := 968) (by decide +kernel)⟩
theorem lw_p30 : lw_okq (⟨"MiddleThreeModel", "lay", "(IIII)V"⟩, 61) := ⟨⟨by decide +kernel, by decide +kernel⟩, List.mem_of_getElem? (i := 772) (by decide +kernel), List.mem_of_getElem? (i := 971) (by decide +kernel), List.mem_of_getElem? (i := 972) (by decide +kernel)⟩
theorem lw_p31 : lw_okq (⟨"MiddleThreeModel", "isHouse", "(I)Z"⟩, 61) := ⟨⟨by decide +kernel, by decide +kernel⟩, List.mem_of_getElem? (i := 772) (by decide +kernel), List.mem_of_getElem? (i := 979) (by decide +kernel), List.mem_of_getElem? (i := 980) (by decide +kernel)⟩
def lw_privs_2 : List (MethodName × Nat) := [(⟨"MiddleThree$StreetReader", "either", "(I)Z"⟩, 4), (⟨"MiddleThree$StreetReader", "factor", "(I)Z"⟩, 4), (⟨"MiddleThree$StreetReader", "test", "()Z"⟩, 4), (⟨"MiddleThree", "keepLater", "()V"⟩, 13), (⟨"MiddleThree", "laterOtherwise", "()I"⟩, 13), (⟨"MiddleThree", "listValues", "()I"⟩, 13), (⟨"MiddleThree", "setLaterRow", "(II)V"⟩, 13), (⟨"MiddleThree", "laterAsNow", "()Z"⟩, 13), (⟨"MiddleThree", "allSeenIfLies", "(I)Z"⟩, 13), (⟨"MiddleThree$Acts", "runEarns", "(III)I"⟩, 5), (⟨"MiddleThree$Acts", "begin", "(I)V"⟩, 5), (⟨"MiddleThree$Acts", "runSays", "(III)I"⟩, 5), (⟨"MiddleThree$Acts", "runTells", "(III)I"⟩, 5), (⟨"MiddleThreeModel", "in", "(III)Z"⟩, 61), (⟨"MiddleThreeModel", "lay", "(IIII)V"⟩, 61), (⟨"MiddleThreeModel", "isHouse", "(I)Z"⟩, 61)]
theorem lw_r2 : ∀ q ∈ lw_privs_2, lw_okq q := List.forall_mem_cons.mpr ⟨lw_p16, List.forall_mem_cons.mpr ⟨lw_p17, List.forall_mem_cons.mpr ⟨lw_p18, List.forall_mem_cons.mpr ⟨lw_p19, List.forall_mem_cons.mpr ⟨lw_p20, List.forall_mem_cons.mpr ⟨lw_p21, List.forall_mem_cons.mpr ⟨lw_p22, List.forall_mem_cons.mpr ⟨lw_p23, List.forall_mem_cons.mpr ⟨lw_p24, List.forall_mem_cons.mpr ⟨lw_p25, List.forall_mem_cons.mpr ⟨lw_p26, List.forall_mem_cons.mpr ⟨lw_p27, List.forall_mem_cons.mpr ⟨lw_p28, List.forall_mem_cons.mpr ⟨lw_p29, List.forall_mem_cons.mpr ⟨lw_p30, List.forall_mem_cons.mpr ⟨lw_p31, fun _ h => absurd h List.not_mem_nil⟩⟩⟩⟩⟩⟩⟩⟩⟩⟩⟩⟩⟩⟩⟩⟩
theorem lw_p32 : lw_okq (⟨"MiddleThreeModel", "goesText", "(I)Z"⟩, 61) := ⟨⟨by decide +kernel, by decide +kernel⟩, List.mem_of_getElem? (i := 772) (by decide +kernel), List.mem_of_getElem? (i := 995) (by decide +kernel), List.mem_of_getElem? (i := 996) (by decide +kernel)⟩
theorem lw_p33 : lw_okq (⟨"MiddleThreeModel", "takesClause", "(I)Z"⟩, 61) := ⟨⟨by decide +kernel, by decide +kernel⟩, List.mem_of_getElem? (i := 772) (by decide +kernel), List.mem_of_getElem? (i := 999) (by decide +kernel), List.mem_of_getElem? (i := 1000) (by decide +kernel)⟩
theorem lw_p34 : lw_okq (⟨"MiddleThreeModel", "takesHead", "(I)Z"⟩, 61) := ⟨⟨by decide +kernel, by decide +kernel⟩, List.mem_of_getElem? (i := 772) (by decide +kernel), List.mem_of_getElem? (i := 1003) (by decide +kernel), List.mem_of_getElem? (i := 1004) (by decide +kernel)⟩
theorem lw_p35 : lw_okq (⟨"MiddleThreeModel", "second", "()I"⟩, 61) := ⟨⟨by decide +kernel, by decide +kernel⟩, List.mem_of_getElem? (i := 772) (by decide +kernel), List.mem_of_getElem? (i := 1007) (by decide +kernel), List.mem_of_getElem? (i := 1008) (by decide +kernel)⟩
theorem lw_p36 : lw_okq (⟨"MiddleThreeModel", "next", "()I"⟩, 61) := ⟨⟨by decide +kernel, by decide +kernel⟩, List.mem_of_getElem? (i := 772) (by decide +kernel), List.mem_of_getElem? (i := 1011) (by decide +kernel), List.mem_of_getElem? (i := 1012) (by decide +kernel)⟩
theorem lw_p37 : lw_okq (⟨"MiddleThreeModel", "takesWord", "(II)Z"⟩, 61) := ⟨⟨by decide +kernel, by decide +kernel⟩, List.mem_of_getElem? (i := 772) (by decide +kernel), List.mem_of_getElem? (i := 1015) (by decide +kernel), List.mem_of_getElem? (i := 1016) (by decide +kernel)⟩
theorem lw_p38 : lw_okq (⟨"MiddleThreeModel", "takesAlone", "(II)Z"⟩, 61) := ⟨⟨by decide +kernel, by decide +kernel⟩, List.mem_of_getElem? (i := 772) (by decide +kernel), List.mem_of_getElem? (i := 1019) (by decide +kernel), List.mem_of_getElem? (i := 1020) (by decide +kernel)⟩
theorem lw_p39 : lw_okq (⟨"MiddleThreeModel", "takes", "(I)Z"⟩, 61) := ⟨⟨by decide +kernel, by decide +kernel⟩, List.mem_of_getElem? (i := 772) (by decide +kernel), List.mem_of_getElem? (i := 1023) (by decide +kernel), List.mem_of_getElem? (i := 1024) (by decide +kernel)⟩
theorem lw_p40 : lw_okq (⟨"MiddleThreeModel", "takesNumber", "()Z"⟩, 61) := ⟨⟨by decide +kernel, by decide +kernel⟩, List.mem_of_getElem? (i := 772) (by decide +kernel), List.mem_of_getElem? (i := 1027) (by decide +kernel), List.mem_of_getElem? (i := 1028) (by decide +kernel)⟩
theorem lw_p41 : lw_okq (⟨"MiddleThreeModel", "isDigit", "()Z"⟩, 61) := ⟨⟨by decide +kernel, by decide +kernel⟩, List.mem_of_getElem? (i := 772) (by decide +kernel), List.mem_of_getElem? (i := 1031) (by decide +kernel), List.mem_of_getElem? (i := 1032) (by decide +kernel)⟩
theorem lw_p42 : lw_okq (⟨"MiddleThreeModel", "takesE", "(I)Z"⟩, 61) := ⟨⟨by decide +kernel, by decide +kernel⟩, List.mem_of_getElem? (i := 772) (by decide +kernel), List.mem_of_getElem? (i := 1035) (by decide +kernel), List.mem_of_getElem? (i := 1036) (by decide +kernel)⟩
theorem lw_p43 : lw_okq (⟨"MiddleThreeModel", "takesTest", "()Z"⟩, 61) := ⟨⟨by decide +kernel, by decide +kernel⟩, List.mem_of_getElem? (i := 772) (by decide +kernel), List.mem_of_getElem? (i := 1039) (by decide +kernel), List.mem_of_getElem? (i := 1040) (by decide +kernel)⟩
theorem lw_p44 : lw_okq (⟨"MiddleThreeModel", "place", "(I)I"⟩, 61) := ⟨⟨by decide +kernel, by decide +kernel⟩, List.mem_of_getElem? (i := 772) (by decide +kernel), List.mem_of_getElem? (i := 1043) (by decide +kernel), List.mem_of_getElem? (i := 1044) (by decide +kernel)⟩
theorem lw_p45 : lw_okq (⟨"MiddleThreeModel", "emits", "(I)V"⟩, 61) := ⟨⟨by decide +kernel, by decide +kernel⟩, List.mem_of_getElem? (i := 772) (by decide +kernel), List.mem_of_getElem? (i := 1047) (by decide +kernel), List.mem_of_getElem? (i := 1048) (by decide +kernel)⟩
theorem lw_p46 : lw_okq (⟨"MiddleThreeModel", "whole", "()V"⟩, 61) := ⟨⟨by decide +kernel, by decide +kernel⟩, List.mem_of_getElem? (i := 772) (by decide +kernel), List.mem_of_getElem? (i := 1051) (by decide +kernel), List.mem_of_getElem? (i := 1052) (by decide +kernel)⟩
theorem lw_p47 : lw_okq (⟨"MiddleThreeModel", "settle", "(I)V"⟩, 61) := ⟨⟨by decide +kernel, by decide +kernel⟩, List.mem_of_getElem? (i := 772) (by decide +kernel), List.mem_of_getElem? (i := 1055) (by decide +kernel), List.mem_of_getElem? (i := 1056) (by decide +kernel)⟩
def lw_privs_3 : List (MethodName × Nat) := [(⟨"MiddleThreeModel", "goesText", "(I)Z"⟩, 61), (⟨"MiddleThreeModel", "takesClause", "(I)Z"⟩, 61), (⟨"MiddleThreeModel", "takesHead", "(I)Z"⟩, 61), (⟨"MiddleThreeModel", "second", "()I"⟩, 61), (⟨"MiddleThreeModel", "next", "()I"⟩, 61), (⟨"MiddleThreeModel", "takesWord", "(II)Z"⟩, 61), (⟨"MiddleThreeModel", "takesAlone", "(II)Z"⟩, 61), (⟨"MiddleThreeModel", "takes", "(I)Z"⟩, 61), (⟨"MiddleThreeModel", "takesNumber", "()Z"⟩, 61), (⟨"MiddleThreeModel", "isDigit", "()Z"⟩, 61), (⟨"MiddleThreeModel", "takesE", "(I)Z"⟩, 61), (⟨"MiddleThreeModel", "takesTest", "()Z"⟩, 61), (⟨"MiddleThreeModel", "place", "(I)I"⟩, 61), (⟨"MiddleThreeModel", "emits", "(I)V"⟩, 61), (⟨"MiddleThreeModel", "whole", "()V"⟩, 61), (⟨"MiddleThreeModel", "settle", "(I)V"⟩, 61)]
theorem lw_r3 : ∀ q ∈ lw_privs_3, lw_okq q := List.forall_mem_cons.mpr ⟨lw_p32, List.forall_mem_cons.mpr ⟨lw_p33, List.forall_mem_cons.mpr ⟨lw_p34, List.forall_mem_cons.mpr ⟨lw_p35, List.forall_mem_cons.mpr ⟨lw_p36, List.forall_mem_cons.mpr ⟨lw_p37, List.forall_mem_cons.mpr ⟨lw_p38, List.forall_mem_cons.mpr ⟨lw_p39, List.forall_mem_cons.mpr ⟨lw_p40, List.forall_mem_cons.mpr ⟨lw_p41, List.forall_mem_cons.mpr ⟨lw_p42, List.forall_mem_cons.mpr ⟨lw_p43, List.forall_mem_cons.mpr ⟨lw_p44, List.forall_mem_cons.mpr ⟨lw_p45, List.forall_mem_cons.mpr ⟨lw_p46, List.forall_mem_cons.mpr ⟨lw_p47, fun _ h => absurd h List.not_mem_nil⟩⟩⟩⟩⟩⟩⟩⟩⟩⟩⟩⟩⟩⟩⟩⟩
theorem lw_p48 : lw_okq (⟨"MiddleThreeModel", "saysOf", "(I)I"⟩, 61) := ⟨⟨by decide +kernel, by decide +kernel⟩, List.mem_of_getElem? (i := 772) (by decide +kernel), List.mem_of_getElem? (i := 1063) (by decide +kernel), List.mem_of_getElem? (i := 1064) (by decide +kernel)⟩
theorem lw_p49 : lw_okq (⟨"MiddleThreeModel", "nextOf", "(I)I"⟩, 61) := ⟨⟨by decide +kernel, by decide +kernel⟩, List.mem_of_getElem? (i := 772) (by decide +kernel), List.mem_of_getElem? (i := 1067) (by decide +kernel), List.mem_of_getElem? (i := 1068) (by decide +kernel)⟩
theorem lw_p50 : lw_okq (⟨"MiddleThreeModel", "plainNext", "(I)I"⟩, 61) := ⟨⟨by decide +kernel, by decide +kernel⟩, List.mem_of_getElem? (i := 772) (by decide +kernel), List.mem_of_getElem? (i := 1071) (by decide +kernel), List.mem_of_getElem? (i := 1072) (by decide +kernel)⟩
theorem lw_p51 : lw_okq (⟨"MiddleThreeModel", "middle", "(I)I"⟩, 61) := ⟨⟨by decide +kernel, by decide +kernel⟩, List.mem_of_getElem? (i := 772) (by decide +kernel), List.mem_of_getElem? (i := 1075) (by decide +kernel), List.mem_of_getElem? (i := 1076) (by decide +kernel)⟩
theorem lw_p52 : lw_okq (⟨"MiddleThreeModel", "laySome", "(II)V"⟩, 61) := ⟨⟨by decide +kernel, by decide +kernel⟩, List.mem_of_getElem? (i := 772) (by decide +kernel), List.mem_of_getElem? (i := 1079) (by decide +kernel), List.mem_of_getElem? (i := 1080) (by decide +kernel)⟩
theorem lw_p53 : lw_okq (⟨"MiddleThreeModel", "isRing", "()Z"⟩, 61) := ⟨⟨by decide +kernel, by decide +kernel⟩, List.mem_of_getElem? (i := 772) (by decide +kernel), List.mem_of_getElem? (i := 1083) (by decide +kernel), List.mem_of_getElem? (i := 1084) (by decide +kernel)⟩
theorem lw_p54 : lw_okq (⟨"MiddleThreeModel", "begin", "()I"⟩, 61) := ⟨⟨by decide +kernel, by decide +kernel⟩, List.mem_of_getElem? (i := 772) (by decide +kernel), List.mem_of_getElem? (i := 1087) (by decide +kernel), List.mem_of_getElem? (i := 1088) (by decide +kernel)⟩
theorem lw_p55 : lw_okq (⟨"MiddleThreeModel", "behind", "()I"⟩, 61) := ⟨⟨by decide +kernel, by decide +kernel⟩, List.mem_of_getElem? (i := 772) (by decide +kernel), List.mem_of_getElem? (i := 1091) (by decide +kernel), List.mem_of_getElem? (i := 1092) (by decide +kernel)⟩
theorem lw_p56 : lw_okq (⟨"MiddleThreeModel", "sortIn", "(I)V"⟩, 61) := ⟨⟨by decide +kernel, by decide +kernel⟩, List.mem_of_getElem? (i := 772) (by decide +kernel), List.mem_of_getElem? (i := 1095) (by decide +kernel), List.mem_of_getElem? (i := 1096) (by decide +kernel)⟩
theorem lw_p57 : lw_okq (⟨"MiddleThreeModel", "away", "(IIZ)I"⟩, 61) := ⟨⟨by decide +kernel, by decide +kernel⟩, List.mem_of_getElem? (i := 772) (by decide +kernel), List.mem_of_getElem? (i := 1099) (by decide +kernel), List.mem_of_getElem? (i := 1100) (by decide +kernel)⟩
theorem lw_p58 : lw_okq (⟨"MiddleThreeModel", "most", "(II)I"⟩, 61) := ⟨⟨by decide +kernel, by decide +kernel⟩, List.mem_of_getElem? (i := 772) (by decide +kernel), List.mem_of_getElem? (i := 1103) (by decide +kernel), List.mem_of_getElem? (i := 1104) (by decide +kernel)⟩
theorem lw_p59 : lw_okq (⟨"MiddleThreeModel", "least", "(II)I"⟩, 61) := ⟨⟨by decide +kernel, by decide +kernel⟩, List.mem_of_getElem? (i := 772) (by decide +kernel), List.mem_of_getElem? (i := 1107) (by decide +kernel), List.mem_of_getElem? (i := 1108) (by decide +kernel)⟩
theorem lw_p60 : lw_okq (⟨"MiddleThreeModel", "adds", "(I)I"⟩, 61) := ⟨⟨by decide +kernel, by decide +kernel⟩, List.mem_of_getElem? (i := 772) (by decide +kernel), List.mem_of_getElem? (i := 1111) (by decide +kernel), List.mem_of_getElem? (i := 1112) (by decide +kernel)⟩
theorem lw_p61 : lw_okq (⟨"MiddleThreeModel", "holds", "(II)Z"⟩, 61) := ⟨⟨by decide +kernel, by decide +kernel⟩, List.mem_of_getElem? (i := 772) (by decide +kernel), List.mem_of_getElem? (i := 1115) (by decide +kernel), List.mem_of_getElem? (i := 1116) (by decide +kernel)⟩
theorem lw_p62 : lw_okq (⟨"MiddleThreeModel", "factOf", "(II)I"⟩, 61) := ⟨⟨by decide +kernel, by decide +kernel⟩, List.mem_of_getElem? (i := 772) (by decide +kernel), List.mem_of_getElem? (i := 1119) (by decide +kernel), List.mem_of_getElem? (i := 1120) (by decide +kernel)⟩
theorem lw_p63 : lw_okq (⟨"MiddleThreeModel", "manyMore", "(I)I"⟩, 61) := ⟨⟨by decide +kernel, by decide +kernel⟩, List.mem_of_getElem? (i := 772) (by decide +kernel), List.mem_of_getElem? (i := 1123) (by decide +kernel), List.mem_of_getElem? (i := 1124) (by decide +kernel)⟩
def lw_privs_4 : List (MethodName × Nat) := [(⟨"MiddleThreeModel", "saysOf", "(I)I"⟩, 61), (⟨"MiddleThreeModel", "nextOf", "(I)I"⟩, 61), (⟨"MiddleThreeModel", "plainNext", "(I)I"⟩, 61), (⟨"MiddleThreeModel", "middle", "(I)I"⟩, 61), (⟨"MiddleThreeModel", "laySome", "(II)V"⟩, 61), (⟨"MiddleThreeModel", "isRing", "()Z"⟩, 61), (⟨"MiddleThreeModel", "begin", "()I"⟩, 61), (⟨"MiddleThreeModel", "behind", "()I"⟩, 61), (⟨"MiddleThreeModel", "sortIn", "(I)V"⟩, 61), (⟨"MiddleThreeModel", "away", "(IIZ)I"⟩, 61), (⟨"MiddleThreeModel", "most", "(II)I"⟩, 61), (⟨"MiddleThreeModel", "least", "(II)I"⟩, 61), (⟨"MiddleThreeModel", "adds", "(I)I"⟩, 61), (⟨"MiddleThreeModel", "holds", "(II)Z"⟩, 61), (⟨"MiddleThreeModel", "factOf", "(II)I"⟩, 61), (⟨"MiddleThreeModel", "manyMore", "(I)I"⟩, 61)]
theorem lw_r4 : ∀ q ∈ lw_privs_4, lw_okq q := List.forall_mem_cons.mpr ⟨lw_p48, List.forall_mem_cons.mpr ⟨lw_p49, List.forall_mem_cons.mpr ⟨lw_p50, List.forall_mem_cons.mpr ⟨lw_p51, List.forall_mem_cons.mpr ⟨lw_p52, List.forall_mem_cons.mpr ⟨lw_p53, List.forall_mem_cons.mpr ⟨lw_p54, List.forall_mem_cons.mpr ⟨lw_p55, List.forall_mem_cons.mpr ⟨lw_p56, List.forall_mem_cons.mpr ⟨lw_p57, List.forall_mem_cons.mpr ⟨lw_p58, List.forall_mem_cons.mpr ⟨lw_p59, List.forall_mem_cons.mpr ⟨lw_p60, List.forall_mem_cons.mpr ⟨lw_p61, List.forall_mem_cons.mpr ⟨lw_p62, List.forall_mem_cons.mpr ⟨lw_p63, fun _ h => absurd h List.not_mem_nil⟩⟩⟩⟩⟩⟩⟩⟩⟩⟩⟩⟩⟩⟩⟩⟩
theorem lw_p64 : lw_okq (⟨"MiddleThreeModel", "allEarn", "()I"⟩, 61) := ⟨⟨by decide +kernel, by decide +kernel⟩, List.mem_of_getElem? (i := 772) (by decide +kernel), List.mem_of_getElem? (i := 1131) (by decide +kernel), List.mem_of_getElem? (i := 1132) (by decide +kernel)⟩
theorem lw_p65 : lw_okq (⟨"MiddleThreeModel", "goYear", "()V"⟩, 61) := ⟨⟨by decide +kernel, by decide +kernel⟩, List.mem_of_getElem? (i := 772) (by decide +kernel), List.mem_of_getElem? (i := 1139) (by decide +kernel), List.mem_of_getElem? (i := 1140) (by decide +kernel)⟩
theorem lw_p66 : lw_okq (⟨"MiddleThreeModel", "layNext", "()V"⟩, 61) := ⟨⟨by decide +kernel, by decide +kernel⟩, List.mem_of_getElem? (i := 772) (by decide +kernel), List.mem_of_getElem? (i := 1143) (by decide +kernel), List.mem_of_getElem? (i := 1144) (by decide +kernel)⟩
theorem lw_p67 : lw_okq (⟨"MiddleThreeModel", "earnsThen", "(II)I"⟩, 61) := ⟨⟨by decide +kernel, by decide +kernel⟩, List.mem_of_getElem? (i := 772) (by decide +kernel), List.mem_of_getElem? (i := 1151) (by decide +kernel), List.mem_of_getElem? (i := 1152) (by decide +kernel)⟩
theorem lw_p68 : lw_okq (⟨"MiddleThreeModel", "goYears", "(I)V"⟩, 61) := ⟨⟨by decide +kernel, by decide +kernel⟩, List.mem_of_getElem? (i := 772) (by decide +kernel), List.mem_of_getElem? (i := 1155) (by decide +kernel), List.mem_of_getElem? (i := 1156) (by decide +kernel)⟩
theorem lw_p69 : lw_okq (⟨"MiddleThreeModel", "keep", "()V"⟩, 61) := ⟨⟨by decide +kernel, by decide +kernel⟩, List.mem_of_getElem? (i := 772) (by decide +kernel), List.mem_of_getElem? (i := 1163) (by decide +kernel), List.mem_of_getElem? (i := 1164) (by decide +kernel)⟩
theorem lw_p70 : lw_okq (⟨"MiddleThreeModel", "isCalm", "()Z"⟩, 61) := ⟨⟨by decide +kernel, by decide +kernel⟩, List.mem_of_getElem? (i := 772) (by decide +kernel), List.mem_of_getElem? (i := 1167) (by decide +kernel), List.mem_of_getElem? (i := 1168) (by decide +kernel)⟩
theorem lw_p71 : lw_okq (⟨"MiddleThreeModel", "putBack", "()V"⟩, 61) := ⟨⟨by decide +kernel, by decide +kernel⟩, List.mem_of_getElem? (i := 772) (by decide +kernel), List.mem_of_getElem? (i := 1171) (by decide +kernel), List.mem_of_getElem? (i := 1172) (by decide +kernel)⟩
theorem lw_p72 : lw_okq (⟨"MiddleThreeModel", "isAsOld", "()Z"⟩, 61) := ⟨⟨by decide +kernel, by decide +kernel⟩, List.mem_of_getElem? (i := 772) (by decide +kernel), List.mem_of_getElem? (i := 1179) (by decide +kernel), List.mem_of_getElem? (i := 1180) (by decide +kernel)⟩
theorem lw_p73 : lw_okq (⟨"MiddleThreeModel", "withGift", "(III)I"⟩, 61) := ⟨⟨by decide +kernel, by decide +kernel⟩, List.mem_of_getElem? (i := 772) (by decide +kernel), List.mem_of_getElem? (i := 1187) (by decide +kernel), List.mem_of_getElem? (i := 1188) (by decide +kernel)⟩
theorem lw_p74 : lw_okq (⟨"MiddleThreeModel", "change", "(II)V"⟩, 61) := ⟨⟨by decide +kernel, by decide +kernel⟩, List.mem_of_getElem? (i := 772) (by decide +kernel), List.mem_of_getElem? (i := 1199) (by decide +kernel), List.mem_of_getElem? (i := 1200) (by decide +kernel)⟩
theorem lw_p75 : lw_okq (⟨"MiddleThreeModel", "opens", "(I)V"⟩, 61) := ⟨⟨by decide +kernel, by decide +kernel⟩, List.mem_of_getElem? (i := 772) (by decide +kernel), List.mem_of_getElem? (i := 1207) (by decide +kernel), List.mem_of_getElem? (i := 1208) (by decide +kernel)⟩
theorem lw_p76 : lw_okq (⟨"MiddleThreeModel", "copy", "(II)V"⟩, 61) := ⟨⟨by decide +kernel, by decide +kernel⟩, List.mem_of_getElem? (i := 772) (by decide +kernel), List.mem_of_getElem? (i := 1211) (by decide +kernel), List.mem_of_getElem? (i := 1212) (by decide +kernel)⟩
theorem lw_p77 : lw_okq (⟨"MiddleThreeModel", "closes", "(I)V"⟩, 61) := ⟨⟨by decide +kernel, by decide +kernel⟩, List.mem_of_getElem? (i := 772) (by decide +kernel), List.mem_of_getElem? (i := 1215) (by decide +kernel), List.mem_of_getElem? (i := 1216) (by decide +kernel)⟩
theorem lw_p78 : lw_okq (⟨"MiddleThreeModel", "opensWith", "(I)V"⟩, 61) := ⟨⟨by decide +kernel, by decide +kernel⟩, List.mem_of_getElem? (i := 772) (by decide +kernel), List.mem_of_getElem? (i := 1223) (by decide +kernel), List.mem_of_getElem? (i := 1224) (by decide +kernel)⟩
theorem lw_p79 : lw_okq (⟨"MiddleThreeModel", "layValues", "()V"⟩, 61) := ⟨⟨by decide +kernel, by decide +kernel⟩, List.mem_of_getElem? (i := 772) (by decide +kernel), List.mem_of_getElem? (i := 1231) (by decide +kernel), List.mem_of_getElem? (i := 1232) (by decide +kernel)⟩
def lw_privs_5 : List (MethodName × Nat) := [(⟨"MiddleThreeModel", "allEarn", "()I"⟩, 61), (⟨"MiddleThreeModel", "goYear", "()V"⟩, 61), (⟨"MiddleThreeModel", "layNext", "()V"⟩, 61), (⟨"MiddleThreeModel", "earnsThen", "(II)I"⟩, 61), (⟨"MiddleThreeModel", "goYears", "(I)V"⟩, 61), (⟨"MiddleThreeModel", "keep", "()V"⟩, 61), (⟨"MiddleThreeModel", "isCalm", "()Z"⟩, 61), (⟨"MiddleThreeModel", "putBack", "()V"⟩, 61), (⟨"MiddleThreeModel", "isAsOld", "()Z"⟩, 61), (⟨"MiddleThreeModel", "withGift", "(III)I"⟩, 61), (⟨"MiddleThreeModel", "change", "(II)V"⟩, 61), (⟨"MiddleThreeModel", "opens", "(I)V"⟩, 61), (⟨"MiddleThreeModel", "copy", "(II)V"⟩, 61), (⟨"MiddleThreeModel", "closes", "(I)V"⟩, 61), (⟨"MiddleThreeModel", "opensWith", "(I)V"⟩, 61), (⟨"MiddleThreeModel", "layValues", "()V"⟩, 61)]
theorem lw_r5 : ∀ q ∈ lw_privs_5, lw_okq q := List.forall_mem_cons.mpr ⟨lw_p64, List.forall_mem_cons.mpr ⟨lw_p65, List.forall_mem_cons.mpr ⟨lw_p66, List.forall_mem_cons.mpr ⟨lw_p67, List.forall_mem_cons.mpr ⟨lw_p68, List.forall_mem_cons.mpr ⟨lw_p69, List.forall_mem_cons.mpr ⟨lw_p70, List.forall_mem_cons.mpr ⟨lw_p71, List.forall_mem_cons.mpr ⟨lw_p72, List.forall_mem_cons.mpr ⟨lw_p73, List.forall_mem_cons.mpr ⟨lw_p74, List.forall_mem_cons.mpr ⟨lw_p75, List.forall_mem_cons.mpr ⟨lw_p76, List.forall_mem_cons.mpr ⟨lw_p77, List.forall_mem_cons.mpr ⟨lw_p78, List.forall_mem_cons.mpr ⟨lw_p79, fun _ h => absurd h List.not_mem_nil⟩⟩⟩⟩⟩⟩⟩⟩⟩⟩⟩⟩⟩⟩⟩⟩
theorem lw_p80 : lw_okq (⟨"MiddleThreeModel", "bringsNow", "()Z"⟩, 61) := ⟨⟨by decide +kernel, by decide +kernel⟩, List.mem_of_getElem? (i := 772) (by decide +kernel), List.mem_of_getElem? (i := 1235) (by decide +kernel), List.mem_of_getElem? (i := 1236) (by decide +kernel)⟩
theorem lw_p81 : lw_okq (⟨"MiddleThreeModel", "nextRow", "()Z"⟩, 61) := ⟨⟨by decide +kernel, by decide +kernel⟩, List.mem_of_getElem? (i := 772) (by decide +kernel), List.mem_of_getElem? (i := 1239) (by decide +kernel), List.mem_of_getElem? (i := 1240) (by decide +kernel)⟩
theorem lw_p82 : lw_okq (⟨"MiddleThreeModel", "isSeen", "(I)Z"⟩, 61) := ⟨⟨by decide +kernel, by decide +kernel⟩, List.mem_of_getElem? (i := 772) (by decide +kernel), List.mem_of_getElem? (i := 1251) (by decide +kernel), List.mem_of_getElem? (i := 1252) (by decide +kernel)⟩
theorem lw_p83 : lw_okq (⟨"MiddleThreeModel", "lowest", "(III)J"⟩, 61) := ⟨⟨by decide +kernel, by decide +kernel⟩, List.mem_of_getElem? (i := 772) (by decide +kernel), List.mem_of_getElem? (i := 1264) (by decide +kernel), List.mem_of_getElem? (i := 1265) (by decide +kernel)⟩
theorem lw_p84 : lw_okq (⟨"MiddleThreeModel", "divisor", "(II)I"⟩, 61) := ⟨⟨by decide +kernel, by decide +kernel⟩, List.mem_of_getElem? (i := 772) (by decide +kernel), List.mem_of_getElem? (i := 1268) (by decide +kernel), List.mem_of_getElem? (i := 1269) (by decide +kernel)⟩
theorem lw_p85 : lw_okq (⟨"MiddleThreeModel", "isTape", "(I)Z"⟩, 61) := ⟨⟨by decide +kernel, by decide +kernel⟩, List.mem_of_getElem? (i := 772) (by decide +kernel), List.mem_of_getElem? (i := 1288) (by decide +kernel), List.mem_of_getElem? (i := 1289) (by decide +kernel)⟩
theorem lw_p86 : lw_okq (⟨"MiddleThreeModel", "earnsAct", "(II)I"⟩, 61) := ⟨⟨by decide +kernel, by decide +kernel⟩, List.mem_of_getElem? (i := 772) (by decide +kernel), List.mem_of_getElem? (i := 1304) (by decide +kernel), List.mem_of_getElem? (i := 1305) (by decide +kernel)⟩
theorem lw_p87 : lw_okq (⟨"MiddleThreeModel", "body", "(I)V"⟩, 61) := ⟨⟨by decide +kernel, by decide +kernel⟩, List.mem_of_getElem? (i := 772) (by decide +kernel), List.mem_of_getElem? (i := 1308) (by decide +kernel), List.mem_of_getElem? (i := 1309) (by decide +kernel)⟩
theorem lw_p88 : lw_okq (⟨"MiddleThreeModel", "houseEarns", "(II)I"⟩, 61) := ⟨⟨by decide +kernel, by decide +kernel⟩, List.mem_of_getElem? (i := 772) (by decide +kernel), List.mem_of_getElem? (i := 1312) (by decide +kernel), List.mem_of_getElem? (i := 1313) (by decide +kernel)⟩
theorem lw_p89 : lw_okq (⟨"MiddleThreeModel", "saysAct", "(II)I"⟩, 61) := ⟨⟨by decide +kernel, by decide +kernel⟩, List.mem_of_getElem? (i := 772) (by decide +kernel), List.mem_of_getElem? (i := 1316) (by decide +kernel), List.mem_of_getElem? (i := 1317) (by decide +kernel)⟩
theorem lw_p90 : lw_okq (⟨"MiddleThreeModel", "proudSays", "(II)I"⟩, 61) := ⟨⟨by decide +kernel, by decide +kernel⟩, List.mem_of_getElem? (i := 772) (by decide +kernel), List.mem_of_getElem? (i := 1320) (by decide +kernel), List.mem_of_getElem? (i := 1321) (by decide +kernel)⟩
theorem lw_p91 : lw_okq (⟨"MiddleThreeModel", "houseSays", "(II)I"⟩, 61) := ⟨⟨by decide +kernel, by decide +kernel⟩, List.mem_of_getElem? (i := 772) (by decide +kernel), List.mem_of_getElem? (i := 1324) (by decide +kernel), List.mem_of_getElem? (i := 1325) (by decide +kernel)⟩
theorem lw_p92 : lw_okq (⟨"MiddleThreeModel", "tellsAct", "(II)I"⟩, 61) := ⟨⟨by decide +kernel, by decide +kernel⟩, List.mem_of_getElem? (i := 772) (by decide +kernel), List.mem_of_getElem? (i := 1328) (by decide +kernel), List.mem_of_getElem? (i := 1329) (by decide +kernel)⟩
theorem lw_p93 : lw_okq (⟨"MiddleThreeModel", "houseTells", "(II)I"⟩, 61) := ⟨⟨by decide +kernel, by decide +kernel⟩, List.mem_of_getElem? (i := 772) (by decide +kernel), List.mem_of_getElem? (i := 1332) (by decide +kernel), List.mem_of_getElem? (i := 1333) (by decide +kernel)⟩
theorem lw_p94 : lw_okq (⟨"MiddleThreeModel", "narrow", "(IJ)J"⟩, 61) := ⟨⟨by decide +kernel, by decide +kernel⟩, List.mem_of_getElem? (i := 772) (by decide +kernel), List.mem_of_getElem? (i := 1356) (by decide +kernel), List.mem_of_getElem? (i := 1357) (by decide +kernel)⟩
def lw_privs_6 : List (MethodName × Nat) := [(⟨"MiddleThreeModel", "bringsNow", "()Z"⟩, 61), (⟨"MiddleThreeModel", "nextRow", "()Z"⟩, 61), (⟨"MiddleThreeModel", "isSeen", "(I)Z"⟩, 61), (⟨"MiddleThreeModel", "lowest", "(III)J"⟩, 61), (⟨"MiddleThreeModel", "divisor", "(II)I"⟩, 61), (⟨"MiddleThreeModel", "isTape", "(I)Z"⟩, 61), (⟨"MiddleThreeModel", "earnsAct", "(II)I"⟩, 61), (⟨"MiddleThreeModel", "body", "(I)V"⟩, 61), (⟨"MiddleThreeModel", "houseEarns", "(II)I"⟩, 61), (⟨"MiddleThreeModel", "saysAct", "(II)I"⟩, 61), (⟨"MiddleThreeModel", "proudSays", "(II)I"⟩, 61), (⟨"MiddleThreeModel", "houseSays", "(II)I"⟩, 61), (⟨"MiddleThreeModel", "tellsAct", "(II)I"⟩, 61), (⟨"MiddleThreeModel", "houseTells", "(II)I"⟩, 61), (⟨"MiddleThreeModel", "narrow", "(IJ)J"⟩, 61)]
theorem lw_r6 : ∀ q ∈ lw_privs_6, lw_okq q := List.forall_mem_cons.mpr ⟨lw_p80, List.forall_mem_cons.mpr ⟨lw_p81, List.forall_mem_cons.mpr ⟨lw_p82, List.forall_mem_cons.mpr ⟨lw_p83, List.forall_mem_cons.mpr ⟨lw_p84, List.forall_mem_cons.mpr ⟨lw_p85, List.forall_mem_cons.mpr ⟨lw_p86, List.forall_mem_cons.mpr ⟨lw_p87, List.forall_mem_cons.mpr ⟨lw_p88, List.forall_mem_cons.mpr ⟨lw_p89, List.forall_mem_cons.mpr ⟨lw_p90, List.forall_mem_cons.mpr ⟨lw_p91, List.forall_mem_cons.mpr ⟨lw_p92, List.forall_mem_cons.mpr ⟨lw_p93, List.forall_mem_cons.mpr ⟨lw_p94, fun _ h => absurd h List.not_mem_nil⟩⟩⟩⟩⟩⟩⟩⟩⟩⟩⟩⟩⟩⟩⟩
def lw_privs : List (MethodName × Nat) := lw_privs_1 ++ (lw_privs_2 ++ (lw_privs_3 ++ (lw_privs_4 ++ (lw_privs_5 ++ (lw_privs_6)))))
def lw_tbl : List Cond := k2_sels lw_privs ++ tables_1
theorem lw_privs_ok : ∀ q ∈ lw_privs, lw_okq q := by
  show ∀ q ∈ lw_privs_1 ++ (lw_privs_2 ++ (lw_privs_3 ++ (lw_privs_4 ++ (lw_privs_5 ++ (lw_privs_6))))), lw_okq q
  exact List.forall_mem_append.mpr ⟨lw_r1, List.forall_mem_append.mpr ⟨lw_r2, List.forall_mem_append.mpr ⟨lw_r3, List.forall_mem_append.mpr ⟨lw_r4, List.forall_mem_append.mpr ⟨lw_r5, lw_r6⟩⟩⟩⟩⟩
def RX0 : String := "MiddleThree$Acts"
def TX0 : u_T := fun k => match k with
  | 0 => ("MiddleThree$Acts", "ran", "I", false)
  | 1 => ("MiddleThree$Acts", "bodies", "[I", true)
  | 2 => ("MiddleThree$Acts", "kind", "I", false)
  | 3 => ("MiddleThree$Acts", "v", "I", false)
  | _ => ("MiddleThree$Acts", "i", "I", false)
def tyX0 : Nat → FieldType := fun k => match k with
  | 0 => .int
  | 1 => .array .int
  | 2 => .int
  | 3 => .int
  | _ => .int
abbrev wsX00 : List Cond := u_ws RX0 TX0 5
theorem nmX0 : ∀ a, a < 5 → ∀ b, b < 5 → a ≠ b → (TX0 a).2.1 ≠ (TX0 b).2.1 := by decide +kernel
theorem tyX0_ok : ∀ k, k < 5 → parseFieldDescriptor (TX0 k).2.2.1 = some (tyX0 k) := by decide +kernel
abbrev cX0_init : ByteArray := prog_2_method_1_code
def yX0_init : MethodName := ⟨RX0, "<init>", "()V"⟩
abbrev cX0_clear : ByteArray := prog_2_method_2_code
def yX0_clear : MethodName := ⟨RX0, "clear", "()V"⟩
abbrev cX0_choose : ByteArray := prog_2_method_3_code
def yX0_choose : MethodName := ⟨RX0, "choose", "(III)V"⟩
abbrev cX0_perform : ByteArray := prog_2_method_4_code
def yX0_perform : MethodName := ⟨RX0, "perform", "(II)I"⟩
abbrev cX0_begin : ByteArray := prog_2_method_5_code
def yX0_begin : MethodName := ⟨RX0, "begin", "(I)V"⟩
abbrev cX0_runEarns : ByteArray := prog_2_method_6_code
def yX0_runEarns : MethodName := ⟨RX0, "runEarns", "(III)I"⟩
abbrev cX0_runSays : ByteArray := prog_2_method_7_code
def yX0_runSays : MethodName := ⟨RX0, "runSays", "(III)I"⟩
abbrev cX0_runTells : ByteArray := prog_2_method_8_code
def yX0_runTells : MethodName := ⟨RX0, "runTells", "(III)I"⟩
def RX1 : String := "MiddleThree$Notes"
def TX1 : u_T := fun k => match k with
  | 0 => ("MiddleThree$Notes", "seenCount", "I", false)
  | 1 => ("MiddleThree$Notes", "seenHouses", "[I", true)
  | 2 => ("MiddleThree$Notes", "seenEarned", "[I", true)
  | 3 => ("MiddleThree$Notes", "bookCount", "I", false)
  | _ => ("MiddleThree$Notes", "book", "[I", true)
def tyX1 : Nat → FieldType := fun k => match k with
  | 0 => .int
  | 1 => .array .int
  | 2 => .array .int
  | 3 => .int
  | _ => .array .int
abbrev wsX10 : List Cond := u_ws RX1 TX1 5
theorem nmX1 : ∀ a, a < 5 → ∀ b, b < 5 → a ≠ b → (TX1 a).2.1 ≠ (TX1 b).2.1 := by decide +kernel
theorem tyX1_ok : ∀ k, k < 5 → parseFieldDescriptor (TX1 k).2.2.1 = some (tyX1 k) := by decide +kernel
abbrev cX1_init : ByteArray := prog_3_method_1_code
def yX1_init : MethodName := ⟨RX1, "<init>", "()V"⟩
abbrev cX1_takeFrom : ByteArray := prog_3_method_2_code
def yX1_takeFrom : MethodName := ⟨RX1, "takeFrom", "(LMiddleThree$Notes;)V"⟩
abbrev cX1_addSeen : ByteArray := prog_3_method_3_code
def yX1_addSeen : MethodName := ⟨RX1, "addSeen", "(II)I"⟩
abbrev cX1_addBook : ByteArray := prog_3_method_4_code
def yX1_addBook : MethodName := ⟨RX1, "addBook", "(I)I"⟩
def RX2 : String := "MiddleThree$Street"
def TX2 : u_T := fun k => match k with
  | 0 => ("MiddleThree$Street", "ring", "Z", false)
  | 1 => ("MiddleThree$Street", "changes", "I", false)
  | 2 => ("MiddleThree$Street", "amounts", "[I", true)
  | 3 => ("MiddleThree$Street", "ends", "[I", true)
  | 4 => ("MiddleThree$Street", "size", "I", false)
  | 5 => ("MiddleThree$Street", "steps", "[I", true)
  | 6 => ("MiddleThree$Street", "signs", "[I", true)
  | _ => ("MiddleThree$Street", "numbers", "[I", true)
def tyX2 : Nat → FieldType := fun k => match k with
  | 0 => .boolean
  | 1 => .int
  | 2 => .array .int
  | 3 => .array .int
  | 4 => .int
  | 5 => .array .int
  | 6 => .array .int
  | _ => .array .int
abbrev wsX20 : List Cond := u_ws RX2 TX2 8
theorem nmX2 : ∀ a, a < 8 → ∀ b, b < 8 → a ≠ b → (TX2 a).2.1 ≠ (TX2 b).2.1 := by decide +kernel
theorem tyX2_ok : ∀ k, k < 8 → parseFieldDescriptor (TX2 k).2.2.1 = some (tyX2 k) := by decide +kernel
abbrev cX2_init : ByteArray := prog_4_method_1_code
def yX2_init : MethodName := ⟨RX2, "<init>", "()V"⟩
abbrev cX2_clear : ByteArray := prog_4_method_2_code
def yX2_clear : MethodName := ⟨RX2, "clear", "()V"⟩
abbrev cX2_takeFrom : ByteArray := prog_4_method_3_code
def yX2_takeFrom : MethodName := ⟨RX2, "takeFrom", "(LMiddleThree$Street;)V"⟩
abbrev cX2_put : ByteArray := prog_4_method_4_code
def yX2_put : MethodName := ⟨RX2, "put", "(III)V"⟩
abbrev cX2_close : ByteArray := prog_4_method_5_code
def yX2_close : MethodName := ⟨RX2, "close", "(I)Z"⟩
abbrev cX2_addsBy : ByteArray := prog_4_method_6_code
def yX2_addsBy : MethodName := ⟨RX2, "addsBy", "([I)I"⟩
abbrev cX2_holds : ByteArray := prog_4_method_7_code
def yX2_holds : MethodName := ⟨RX2, "holds", "(II[I)Z"⟩
abbrev cX2_passes : ByteArray := prog_4_method_8_code
def yX2_passes : MethodName := ⟨RX2, "passes", "(I[I)Z"⟩
def RX3 : String := "MiddleThree$StreetReader"
def TX3 : u_T := fun k => match k with
  | 0 => ("MiddleThree$StreetReader", "size", "I", false)
  | 1 => ("MiddleThree$StreetReader", "street", "LMiddleThree$Street;", true)
  | 2 => ("MiddleThree$StreetReader", "signs", "[B", true)
  | _ => ("MiddleThree$StreetReader", "place", "I", false)
def tyX3 : Nat → FieldType := fun k => match k with
  | 0 => .int
  | 1 => .object "MiddleThree$Street"
  | 2 => .array .byte
  | _ => .int
abbrev wsX30 : List Cond := u_ws RX3 TX3 4
theorem nmX3 : ∀ a, a < 4 → ∀ b, b < 4 → a ≠ b → (TX3 a).2.1 ≠ (TX3 b).2.1 := by decide +kernel
theorem tyX3_ok : ∀ k, k < 4 → parseFieldDescriptor (TX3 k).2.2.1 = some (tyX3 k) := by decide +kernel
abbrev cX3_init : ByteArray := prog_5_method_1_code
def yX3_init : MethodName := ⟨RX3, "<init>", "()V"⟩
abbrev cX3_addSign : ByteArray := prog_5_method_2_code
def yX3_addSign : MethodName := ⟨RX3, "addSign", "(I)I"⟩
abbrev cX3_clear : ByteArray := prog_5_method_3_code
def yX3_clear : MethodName := ⟨RX3, "clear", "()V"⟩
abbrev cX3_readStreet : ByteArray := prog_5_method_4_code
def yX3_readStreet : MethodName := ⟨RX3, "readStreet", "()I"⟩
abbrev cX3_sign : ByteArray := prog_5_method_5_code
def yX3_sign : MethodName := ⟨RX3, "sign", "()I"⟩
abbrev cX3_clause : ByteArray := prog_5_method_6_code
def yX3_clause : MethodName := ⟨RX3, "clause", "()Z"⟩
abbrev cX3_shape : ByteArray := prog_5_method_7_code
def yX3_shape : MethodName := ⟨RX3, "shape", "()Z"⟩
abbrev cX3_word : ByteArray := prog_5_method_8_code
def yX3_word : MethodName := ⟨RX3, "word", "(Ljava/lang/String;)Z"⟩
abbrev cX3_number : ByteArray := prog_5_method_9_code
def yX3_number : MethodName := ⟨RX3, "number", "()I"⟩
abbrev cX3_either : ByteArray := prog_5_method_10_code
def yX3_either : MethodName := ⟨RX3, "either", "(I)Z"⟩
abbrev cX3_factor : ByteArray := prog_5_method_11_code
def yX3_factor : MethodName := ⟨RX3, "factor", "(I)Z"⟩
abbrev cX3_test : ByteArray := prog_5_method_12_code
def yX3_test : MethodName := ⟨RX3, "test", "()Z"⟩
def RX4 : String := "MiddleThree$Tape"
def TX4 : u_T := fun k => match k with
  | 0 => ("MiddleThree$Tape", "sort", "I", false)
  | 1 => ("MiddleThree$Tape", "size", "I", false)
  | _ => ("MiddleThree$Tape", "items", "[J", true)
def tyX4 : Nat → FieldType := fun k => match k with
  | 0 => .int
  | 1 => .int
  | _ => .array .long
abbrev wsX40 : List Cond := u_ws RX4 TX4 3
theorem nmX4 : ∀ a, a < 3 → ∀ b, b < 3 → a ≠ b → (TX4 a).2.1 ≠ (TX4 b).2.1 := by decide +kernel
theorem tyX4_ok : ∀ k, k < 3 → parseFieldDescriptor (TX4 k).2.2.1 = some (tyX4 k) := by decide +kernel
abbrev cX4_init : ByteArray := prog_6_method_1_code
def yX4_init : MethodName := ⟨RX4, "<init>", "()V"⟩
abbrev cX4_become : ByteArray := prog_6_method_2_code
def yX4_become : MethodName := ⟨RX4, "become", "(II)V"⟩
abbrev cX4_reaches : ByteArray := prog_6_method_3_code
def yX4_reaches : MethodName := ⟨RX4, "reaches", "(II)Z"⟩
abbrev cX4_fitted : ByteArray := prog_6_method_4_code
def yX4_fitted : MethodName := ⟨RX4, "fitted", "(J)J"⟩
def RX5 : String := "MiddleThree$Town"
def TX5 : u_T := fun k => match k with
  | 0 => ("MiddleThree$Town", "count", "I", false)
  | 1 => ("MiddleThree$Town", "year", "I", false)
  | 2 => ("MiddleThree$Town", "street", "LMiddleThree$Street;", false)
  | 3 => ("MiddleThree$Town", "kinds", "[I", true)
  | 4 => ("MiddleThree$Town", "vs", "[I", true)
  | 5 => ("MiddleThree$Town", "earns", "[I", true)
  | 6 => ("MiddleThree$Town", "rows", "[I", true)
  | 7 => ("MiddleThree$Town", "says", "[I", true)
  | 8 => ("MiddleThree$Town", "next", "[I", true)
  | 9 => ("MiddleThree$Town", "wide", "[I", true)
  | 10 => ("MiddleThree$Town", "wideSize", "I", false)
  | _ => ("MiddleThree$Town", "facts", "[I", true)
def tyX5 : Nat → FieldType := fun k => match k with
  | 0 => .int
  | 1 => .int
  | 2 => .object "MiddleThree$Street"
  | 3 => .array .int
  | 4 => .array .int
  | 5 => .array .int
  | 6 => .array .int
  | 7 => .array .int
  | 8 => .array .int
  | 9 => .array .int
  | 10 => .int
  | _ => .array .int
abbrev wsX50 : List Cond := u_ws RX5 TX5 12
theorem nmX5 : ∀ a, a < 12 → ∀ b, b < 12 → a ≠ b → (TX5 a).2.1 ≠ (TX5 b).2.1 := by decide +kernel
theorem tyX5_ok : ∀ k, k < 12 → parseFieldDescriptor (TX5 k).2.2.1 = some (tyX5 k) := by decide +kernel
abbrev cX5_init : ByteArray := prog_7_method_1_code
def yX5_init : MethodName := ⟨RX5, "<init>", "()V"⟩
abbrev cX5_takeFrom : ByteArray := prog_7_method_2_code
def yX5_takeFrom : MethodName := ⟨RX5, "takeFrom", "(LMiddleThree$Town;)V"⟩
abbrev cX5_insert : ByteArray := prog_7_method_3_code
def yX5_insert : MethodName := ⟨RX5, "insert", "(IIII)V"⟩
abbrev cX5_remove : ByteArray := prog_7_method_4_code
def yX5_remove : MethodName := ⟨RX5, "remove", "(I)V"⟩
abbrev cX5_copyHouse : ByteArray := prog_7_method_5_code
def yX5_copyHouse : MethodName := ⟨RX5, "copyHouse", "(II)V"⟩
abbrev cX5_give : ByteArray := prog_7_method_6_code
def yX5_give : MethodName := ⟨RX5, "give", "(II)V"⟩
abbrev cX5_isRing : ByteArray := prog_7_method_7_code
def yX5_isRing : MethodName := ⟨RX5, "isRing", "()Z"⟩
abbrev cX5_total : ByteArray := prog_7_method_8_code
def yX5_total : MethodName := ⟨RX5, "total", "()I"⟩
abbrev cX5_someEarns : ByteArray := prog_7_method_9_code
def yX5_someEarns : MethodName := ⟨RX5, "someEarns", "(I)Z"⟩
abbrev cX5_go : ByteArray := prog_7_method_10_code
def yX5_go : MethodName := ⟨RX5, "go", "(I)V"⟩
abbrev cX5_sayByKind : ByteArray := prog_7_method_11_code
def yX5_sayByKind : MethodName := ⟨RX5, "sayByKind", "()V"⟩
abbrev cX5_sayPlain : ByteArray := prog_7_method_12_code
def yX5_sayPlain : MethodName := ⟨RX5, "sayPlain", "(I)V"⟩
abbrev cX5_reckon : ByteArray := prog_7_method_13_code
def yX5_reckon : MethodName := ⟨RX5, "reckon", "()V"⟩
abbrev cX5_nextByKind : ByteArray := prog_7_method_14_code
def yX5_nextByKind : MethodName := ⟨RX5, "nextByKind", "(I)I"⟩
abbrev cX5_proud : ByteArray := prog_7_method_15_code
def yX5_proud : MethodName := ⟨RX5, "proud", "(I)I"⟩
abbrev cX5_takesHalf : ByteArray := prog_7_method_16_code
def yX5_takesHalf : MethodName := ⟨RX5, "takesHalf", "(I)Z"⟩
abbrev cX5_middle : ByteArray := prog_7_method_17_code
def yX5_middle : MethodName := ⟨RX5, "middle", "(I)I"⟩
abbrev cX5_fillWide : ByteArray := prog_7_method_18_code
def yX5_fillWide : MethodName := ⟨RX5, "fillWide", "(I)V"⟩
abbrev cX5_addWide : ByteArray := prog_7_method_19_code
def yX5_addWide : MethodName := ⟨RX5, "addWide", "(I)V"⟩
abbrev cX5_adds : ByteArray := prog_7_method_20_code
def yX5_adds : MethodName := ⟨RX5, "adds", "(I)I"⟩
def RX6 : String := "MiddleThree"
def TX6 : u_T := fun k => match k with
  | 0 => ("MiddleThree", "now", "LMiddleThree$Town;", true)
  | 1 => ("MiddleThree", "later", "LMiddleThree$Town;", true)
  | 2 => ("MiddleThree", "imageTown", "LMiddleThree$Town;", true)
  | 3 => ("MiddleThree", "notes", "LMiddleThree$Notes;", true)
  | 4 => ("MiddleThree", "imageNotes", "LMiddleThree$Notes;", true)
  | 5 => ("MiddleThree", "imageTaken", "Z", false)
  | 6 => ("MiddleThree", "reader", "LMiddleThree$StreetReader;", true)
  | 7 => ("MiddleThree", "streets", "[LMiddleThree$Street;", true)
  | 8 => ("MiddleThree", "streetCount", "I", false)
  | 9 => ("MiddleThree", "acts", "LMiddleThree$Acts;", true)
  | 10 => ("MiddleThree", "tapes", "[LMiddleThree$Tape;", true)
  | 11 => ("MiddleThree", "kept", "[I", true)
  | _ => ("MiddleThree", "values", "[I", true)
def tyX6 : Nat → FieldType := fun k => match k with
  | 0 => .object "MiddleThree$Town"
  | 1 => .object "MiddleThree$Town"
  | 2 => .object "MiddleThree$Town"
  | 3 => .object "MiddleThree$Notes"
  | 4 => .object "MiddleThree$Notes"
  | 5 => .boolean
  | 6 => .object "MiddleThree$StreetReader"
  | 7 => .array (.object "MiddleThree$Street")
  | 8 => .int
  | 9 => .object "MiddleThree$Acts"
  | 10 => .array (.object "MiddleThree$Tape")
  | 11 => .array .int
  | _ => .array .int
abbrev wsX60 : List Cond := u_ws RX6 TX6 13
theorem nmX6 : ∀ a, a < 13 → ∀ b, b < 13 → a ≠ b → (TX6 a).2.1 ≠ (TX6 b).2.1 := by decide +kernel
theorem tyX6_ok : ∀ k, k < 13 → parseFieldDescriptor (TX6 k).2.2.1 = some (tyX6 k) := by decide +kernel
abbrev cX6_init : ByteArray := prog_1_method_1_code
def yX6_init : MethodName := ⟨RX6, "<init>", "()V"⟩
abbrev cX6_house : ByteArray := prog_1_method_2_code
def yX6_house : MethodName := ⟨RX6, "house", "(III)I"⟩
abbrev cX6_of : ByteArray := prog_1_method_3_code
def yX6_of : MethodName := ⟨RX6, "of", "(II)I"⟩
abbrev cX6_earn : ByteArray := prog_1_method_4_code
def yX6_earn : MethodName := ⟨RX6, "earn", "(II)I"⟩
abbrev cX6_row : ByteArray := prog_1_method_5_code
def yX6_row : MethodName := ⟨RX6, "row", "(III)I"⟩
abbrev cX6_feed : ByteArray := prog_1_method_6_code
def yX6_feed : MethodName := ⟨RX6, "feed", "(I)I"⟩
abbrev cX6_street : ByteArray := prog_1_method_7_code
def yX6_street : MethodName := ⟨RX6, "street", "()I"⟩
abbrev cX6_told : ByteArray := prog_1_method_8_code
def yX6_told : MethodName := ⟨RX6, "told", "(I)I"⟩
abbrev cX6_year : ByteArray := prog_1_method_9_code
def yX6_year : MethodName := ⟨RX6, "year", "()I"⟩
abbrev cX6_at : ByteArray := prog_1_method_10_code
def yX6_at : MethodName := ⟨RX6, "at", "(II)I"⟩
abbrev cX6_stays : ByteArray := prog_1_method_11_code
def yX6_stays : MethodName := ⟨RX6, "stays", "()I"⟩
abbrev cX6_swings : ByteArray := prog_1_method_12_code
def yX6_swings : MethodName := ⟨RX6, "swings", "()I"⟩
abbrev cX6_gift : ByteArray := prog_1_method_13_code
def yX6_gift : MethodName := ⟨RX6, "gift", "(III)I"⟩
abbrev cX6_best : ByteArray := prog_1_method_14_code
def yX6_best : MethodName := ⟨RX6, "best", "(I)I"⟩
abbrev cX6_lots : ByteArray := prog_1_method_15_code
def yX6_lots : MethodName := ⟨RX6, "lots", "()I"⟩
abbrev cX6_build : ByteArray := prog_1_method_16_code
def yX6_build : MethodName := ⟨RX6, "build", "(IIII)I"⟩
abbrev cX6_down : ByteArray := prog_1_method_17_code
def yX6_down : MethodName := ⟨RX6, "down", "(I)I"⟩
abbrev cX6_before : ByteArray := prog_1_method_18_code
def yX6_before : MethodName := ⟨RX6, "before", "(I)I"⟩
abbrev cX6_see : ByteArray := prog_1_method_19_code
def yX6_see : MethodName := ⟨RX6, "see", "(II)I"⟩
abbrev cX6_lied : ByteArray := prog_1_method_20_code
def yX6_lied : MethodName := ⟨RX6, "lied", "(I)I"⟩
abbrev cX6_wed : ByteArray := prog_1_method_21_code
def yX6_wed : MethodName := ⟨RX6, "wed", "(II)I"⟩
abbrev cX6_odds : ByteArray := prog_1_method_22_code
def yX6_odds : MethodName := ⟨RX6, "odds", "(III)J"⟩
abbrev cX6_mean : ByteArray := prog_1_method_23_code
def yX6_mean : MethodName := ⟨RX6, "mean", "(II)J"⟩
abbrev cX6_book : ByteArray := prog_1_method_24_code
def yX6_book : MethodName := ⟨RX6, "book", "(I)I"⟩
abbrev cX6_looked : ByteArray := prog_1_method_25_code
def yX6_looked : MethodName := ⟨RX6, "looked", "()I"⟩
abbrev cX6_judge : ByteArray := prog_1_method_26_code
def yX6_judge : MethodName := ⟨RX6, "judge", "(II)I"⟩
abbrev cX6_image : ByteArray := prog_1_method_27_code
def yX6_image : MethodName := ⟨RX6, "image", "()I"⟩
abbrev cX6_undo : ByteArray := prog_1_method_28_code
def yX6_undo : MethodName := ⟨RX6, "undo", "()I"⟩
abbrev cX6_act : ByteArray := prog_1_method_29_code
def yX6_act : MethodName := ⟨RX6, "act", "(III)I"⟩
abbrev cX6_trace : ByteArray := prog_1_method_30_code
def yX6_trace : MethodName := ⟨RX6, "trace", "(I)I"⟩
abbrev cX6_taken : ByteArray := prog_1_method_31_code
def yX6_taken : MethodName := ⟨RX6, "taken", "(II)I"⟩
abbrev cX6_count : ByteArray := prog_1_method_32_code
def yX6_count : MethodName := ⟨RX6, "count", "(I)I"⟩
abbrev cX6_tape : ByteArray := prog_1_method_33_code
def yX6_tape : MethodName := ⟨RX6, "tape", "(III)I"⟩
abbrev cX6_item : ByteArray := prog_1_method_34_code
def yX6_item : MethodName := ⟨RX6, "item", "(IIJ)I"⟩
abbrev cX6_read : ByteArray := prog_1_method_35_code
def yX6_read : MethodName := ⟨RX6, "read", "(II)J"⟩
abbrev cX6_shift : ByteArray := prog_1_method_36_code
def yX6_shift : MethodName := ⟨RX6, "shift", "(IIIII)I"⟩
abbrev cX6_isHouse : ByteArray := prog_1_method_37_code
def yX6_isHouse : MethodName := ⟨RX6, "isHouse", "(I)Z"⟩
abbrev cX6_isKind : ByteArray := prog_1_method_38_code
def yX6_isKind : MethodName := ⟨RX6, "isKind", "(I)Z"⟩
abbrev cX6_isV : ByteArray := prog_1_method_39_code
def yX6_isV : MethodName := ⟨RX6, "isV", "(I)Z"⟩
abbrev cX6_isEarned : ByteArray := prog_1_method_40_code
def yX6_isEarned : MethodName := ⟨RX6, "isEarned", "(I)Z"⟩
abbrev cX6_isWhich : ByteArray := prog_1_method_41_code
def yX6_isWhich : MethodName := ⟨RX6, "isWhich", "(I)Z"⟩
abbrev cX6_isTape : ByteArray := prog_1_method_42_code
def yX6_isTape : MethodName := ⟨RX6, "isTape", "(I)Z"⟩
abbrev cX6_isUnder : ByteArray := prog_1_method_43_code
def yX6_isUnder : MethodName := ⟨RX6, "isUnder", "(II)Z"⟩
abbrev cX6_keepLater : ByteArray := prog_1_method_44_code
def yX6_keepLater : MethodName := ⟨RX6, "keepLater", "()V"⟩
abbrev cX6_laterOtherwise : ByteArray := prog_1_method_45_code
def yX6_laterOtherwise : MethodName := ⟨RX6, "laterOtherwise", "()I"⟩
abbrev cX6_laterAsNow : ByteArray := prog_1_method_46_code
def yX6_laterAsNow : MethodName := ⟨RX6, "laterAsNow", "()Z"⟩
abbrev cX6_listValues : ByteArray := prog_1_method_47_code
def yX6_listValues : MethodName := ⟨RX6, "listValues", "()I"⟩
abbrev cX6_setLaterRow : ByteArray := prog_1_method_48_code
def yX6_setLaterRow : MethodName := ⟨RX6, "setLaterRow", "(II)V"⟩
abbrev cX6_allSeenIfLies : ByteArray := prog_1_method_49_code
def yX6_allSeenIfLies : MethodName := ⟨RX6, "allSeenIfLies", "(I)Z"⟩
abbrev cX6_lowest : ByteArray := prog_1_method_50_code
def yX6_lowest : MethodName := ⟨RX6, "lowest", "(III)J"⟩
def RX7 : String := "MiddleThreeModel"
def TX7 : u_T := fun k => match k with
  | 0 => ("MiddleThreeModel", "houses", "I", false)
  | 1 => ("MiddleThreeModel", "years", "I", false)
  | 2 => ("MiddleThreeModel", "kind", "[I", true)
  | 3 => ("MiddleThreeModel", "v", "[I", true)
  | 4 => ("MiddleThreeModel", "earns", "[I", true)
  | 5 => ("MiddleThreeModel", "rows", "[I", true)
  | 6 => ("MiddleThreeModel", "streets", "I", false)
  | 7 => ("MiddleThreeModel", "the", "I", false)
  | 8 => ("MiddleThreeModel", "fed", "I", false)
  | 9 => ("MiddleThreeModel", "at", "I", false)
  | 10 => ("MiddleThreeModel", "digits", "I", false)
  | 11 => ("MiddleThreeModel", "text", "[I", true)
  | 12 => ("MiddleThreeModel", "clauses", "[I", true)
  | 13 => ("MiddleThreeModel", "word", "[I", true)
  | 14 => ("MiddleThreeModel", "number", "[I", true)
  | 15 => ("MiddleThreeModel", "from", "[I", true)
  | 16 => ("MiddleThreeModel", "to", "[I", true)
  | 17 => ("MiddleThreeModel", "sign", "[I", true)
  | 18 => ("MiddleThreeModel", "waits", "[I", true)
  | 19 => ("MiddleThreeModel", "signs", "I", false)
  | 20 => ("MiddleThreeModel", "waiting", "I", false)
  | 21 => ("MiddleThreeModel", "open", "I", false)
  | 22 => ("MiddleThreeModel", "letters", "[I", true)
  | 23 => ("MiddleThreeModel", "pile", "[Z", true)
  | 24 => ("MiddleThreeModel", "liar", "I", false)
  | 25 => ("MiddleThreeModel", "some", "[I", true)
  | 26 => ("MiddleThreeModel", "someMany", "I", false)
  | 27 => ("MiddleThreeModel", "then", "[I", true)
  | 28 => ("MiddleThreeModel", "kept", "[I", true)
  | 29 => ("MiddleThreeModel", "keptYears", "I", false)
  | 30 => ("MiddleThreeModel", "before1", "[I", true)
  | 31 => ("MiddleThreeModel", "old", "[I", true)
  | 32 => ("MiddleThreeModel", "values", "[I", true)
  | 33 => ("MiddleThreeModel", "now", "[I", true)
  | 34 => ("MiddleThreeModel", "first", "[I", true)
  | 35 => ("MiddleThreeModel", "digit", "[I", true)
  | 36 => ("MiddleThreeModel", "valueMany", "I", false)
  | 37 => ("MiddleThreeModel", "seen", "I", false)
  | 38 => ("MiddleThreeModel", "seenHouse", "[I", true)
  | 39 => ("MiddleThreeModel", "seenEarns", "[I", true)
  | 40 => ("MiddleThreeModel", "books", "I", false)
  | 41 => ("MiddleThreeModel", "book", "[I", true)
  | 42 => ("MiddleThreeModel", "hasImage", "Z", false)
  | 43 => ("MiddleThreeModel", "imageThe", "I", false)
  | 44 => ("MiddleThreeModel", "imageHouses", "I", false)
  | 45 => ("MiddleThreeModel", "imageYears", "I", false)
  | 46 => ("MiddleThreeModel", "imageSeen", "I", false)
  | 47 => ("MiddleThreeModel", "imageBooks", "I", false)
  | 48 => ("MiddleThreeModel", "imageKind", "[I", true)
  | 49 => ("MiddleThreeModel", "imageV", "[I", true)
  | 50 => ("MiddleThreeModel", "imageEarns", "[I", true)
  | 51 => ("MiddleThreeModel", "imageRows", "[I", true)
  | 52 => ("MiddleThreeModel", "imageHouse", "[I", true)
  | 53 => ("MiddleThreeModel", "imageSaw", "[I", true)
  | 54 => ("MiddleThreeModel", "imageBook", "[I", true)
  | 55 => ("MiddleThreeModel", "ran", "I", false)
  | 56 => ("MiddleThreeModel", "bodies", "[I", true)
  | 57 => ("MiddleThreeModel", "sort", "[I", true)
  | 58 => ("MiddleThreeModel", "length", "[I", true)
  | 59 => ("MiddleThreeModel", "item", "[J", true)
  | _ => ("MiddleThreeModel", "aside", "[J", true)
def tyX7 : Nat → FieldType := fun k => match k with
  | 0 => .int
  | 1 => .int
  | 2 => .array .int
  | 3 => .array .int
  | 4 => .array .int
  | 5 => .array .int
  | 6 => .int
  | 7 => .int
  | 8 => .int
  | 9 => .int
  | 10 => .int
  | 11 => .array .int
  | 12 => .array .int
  | 13 => .array .int
  | 14 => .array .int
  | 15 => .array .int
  | 16 => .array .int
  | 17 => .array .int
  | 18 => .array .int
  | 19 => .int
  | 20 => .int
  | 21 => .int
  | 22 => .array .int
  | 23 => .array .boolean
  | 24 => .int
  | 25 => .array .int
  | 26 => .int
  | 27 => .array .int
  | 28 => .array .int
  | 29 => .int
  | 30 => .array .int
  | 31 => .array .int
  | 32 => .array .int
  | 33 => .array .int
  | 34 => .array .int
  | 35 => .array .int
  | 36 => .int
  | 37 => .int
  | 38 => .array .int
  | 39 => .array .int
  | 40 => .int
  | 41 => .array .int
  | 42 => .boolean
  | 43 => .int
  | 44 => .int
  | 45 => .int
  | 46 => .int
  | 47 => .int
  | 48 => .array .int
  | 49 => .array .int
  | 50 => .array .int
  | 51 => .array .int
  | 52 => .array .int
  | 53 => .array .int
  | 54 => .array .int
  | 55 => .int
  | 56 => .array .int
  | 57 => .array .int
  | 58 => .array .int
  | 59 => .array .long
  | _ => .array .long
abbrev wsX70 : List Cond := u_ws RX7 TX7 61
theorem nmX7 : ∀ a, a < 61 → ∀ b, b < 61 → a ≠ b → (TX7 a).2.1 ≠ (TX7 b).2.1 := by decide +kernel
theorem tyX7_ok : ∀ k, k < 61 → parseFieldDescriptor (TX7 k).2.2.1 = some (tyX7 k) := by decide +kernel
abbrev cX7_init : ByteArray := prog_9_method_1_code
def yX7_init : MethodName := ⟨RX7, "<init>", "()V"⟩
abbrev cX7_in : ByteArray := prog_9_method_2_code
def yX7_in : MethodName := ⟨RX7, "in", "(III)Z"⟩
abbrev cX7_isHouse : ByteArray := prog_9_method_3_code
def yX7_isHouse : MethodName := ⟨RX7, "isHouse", "(I)Z"⟩
abbrev cX7_lay : ByteArray := prog_9_method_4_code
def yX7_lay : MethodName := ⟨RX7, "lay", "(IIII)V"⟩
abbrev cX7_copy : ByteArray := prog_9_method_5_code
def yX7_copy : MethodName := ⟨RX7, "copy", "(II)V"⟩
abbrev cX7_house : ByteArray := prog_9_method_6_code
def yX7_house : MethodName := ⟨RX7, "house", "(III)I"⟩
abbrev cX7_earn : ByteArray := prog_9_method_7_code
def yX7_earn : MethodName := ⟨RX7, "earn", "(II)I"⟩
abbrev cX7_row : ByteArray := prog_9_method_8_code
def yX7_row : MethodName := ⟨RX7, "row", "(III)I"⟩
abbrev cX7_feed : ByteArray := prog_9_method_9_code
def yX7_feed : MethodName := ⟨RX7, "feed", "(I)I"⟩
abbrev cX7_next : ByteArray := prog_9_method_10_code
def yX7_next : MethodName := ⟨RX7, "next", "()I"⟩
abbrev cX7_second : ByteArray := prog_9_method_11_code
def yX7_second : MethodName := ⟨RX7, "second", "()I"⟩
abbrev cX7_takes : ByteArray := prog_9_method_12_code
def yX7_takes : MethodName := ⟨RX7, "takes", "(I)Z"⟩
abbrev cX7_takesAlone : ByteArray := prog_9_method_13_code
def yX7_takesAlone : MethodName := ⟨RX7, "takesAlone", "(II)Z"⟩
abbrev cX7_takesWord : ByteArray := prog_9_method_14_code
def yX7_takesWord : MethodName := ⟨RX7, "takesWord", "(II)Z"⟩
abbrev cX7_isDigit : ByteArray := prog_9_method_15_code
def yX7_isDigit : MethodName := ⟨RX7, "isDigit", "()Z"⟩
abbrev cX7_takesNumber : ByteArray := prog_9_method_16_code
def yX7_takesNumber : MethodName := ⟨RX7, "takesNumber", "()Z"⟩
abbrev cX7_emits : ByteArray := prog_9_method_17_code
def yX7_emits : MethodName := ⟨RX7, "emits", "(I)V"⟩
abbrev cX7_whole : ByteArray := prog_9_method_18_code
def yX7_whole : MethodName := ⟨RX7, "whole", "()V"⟩
abbrev cX7_settle : ByteArray := prog_9_method_19_code
def yX7_settle : MethodName := ⟨RX7, "settle", "(I)V"⟩
abbrev cX7_place : ByteArray := prog_9_method_20_code
def yX7_place : MethodName := ⟨RX7, "place", "(I)I"⟩
abbrev cX7_takesTest : ByteArray := prog_9_method_21_code
def yX7_takesTest : MethodName := ⟨RX7, "takesTest", "()Z"⟩
abbrev cX7_takesE : ByteArray := prog_9_method_22_code
def yX7_takesE : MethodName := ⟨RX7, "takesE", "(I)Z"⟩
abbrev cX7_takesHead : ByteArray := prog_9_method_23_code
def yX7_takesHead : MethodName := ⟨RX7, "takesHead", "(I)Z"⟩
abbrev cX7_takesClause : ByteArray := prog_9_method_24_code
def yX7_takesClause : MethodName := ⟨RX7, "takesClause", "(I)Z"⟩
abbrev cX7_goesText : ByteArray := prog_9_method_25_code
def yX7_goesText : MethodName := ⟨RX7, "goesText", "(I)Z"⟩
abbrev cX7_street : ByteArray := prog_9_method_26_code
def yX7_street : MethodName := ⟨RX7, "street", "()I"⟩
abbrev cX7_begin : ByteArray := prog_9_method_27_code
def yX7_begin : MethodName := ⟨RX7, "begin", "()I"⟩
abbrev cX7_behind : ByteArray := prog_9_method_28_code
def yX7_behind : MethodName := ⟨RX7, "behind", "()I"⟩
abbrev cX7_isRing : ByteArray := prog_9_method_29_code
def yX7_isRing : MethodName := ⟨RX7, "isRing", "()Z"⟩
abbrev cX7_manyMore : ByteArray := prog_9_method_30_code
def yX7_manyMore : MethodName := ⟨RX7, "manyMore", "(I)I"⟩
abbrev cX7_factOf : ByteArray := prog_9_method_31_code
def yX7_factOf : MethodName := ⟨RX7, "factOf", "(II)I"⟩
abbrev cX7_holds : ByteArray := prog_9_method_32_code
def yX7_holds : MethodName := ⟨RX7, "holds", "(II)Z"⟩
abbrev cX7_adds : ByteArray := prog_9_method_33_code
def yX7_adds : MethodName := ⟨RX7, "adds", "(I)I"⟩
abbrev cX7_saysOf : ByteArray := prog_9_method_34_code
def yX7_saysOf : MethodName := ⟨RX7, "saysOf", "(I)I"⟩
abbrev cX7_sortIn : ByteArray := prog_9_method_35_code
def yX7_sortIn : MethodName := ⟨RX7, "sortIn", "(I)V"⟩
abbrev cX7_away : ByteArray := prog_9_method_36_code
def yX7_away : MethodName := ⟨RX7, "away", "(IIZ)I"⟩
abbrev cX7_laySome : ByteArray := prog_9_method_37_code
def yX7_laySome : MethodName := ⟨RX7, "laySome", "(II)V"⟩
abbrev cX7_middle : ByteArray := prog_9_method_38_code
def yX7_middle : MethodName := ⟨RX7, "middle", "(I)I"⟩
abbrev cX7_least : ByteArray := prog_9_method_39_code
def yX7_least : MethodName := ⟨RX7, "least", "(II)I"⟩
abbrev cX7_most : ByteArray := prog_9_method_40_code
def yX7_most : MethodName := ⟨RX7, "most", "(II)I"⟩
abbrev cX7_plainNext : ByteArray := prog_9_method_41_code
def yX7_plainNext : MethodName := ⟨RX7, "plainNext", "(I)I"⟩
abbrev cX7_nextOf : ByteArray := prog_9_method_42_code
def yX7_nextOf : MethodName := ⟨RX7, "nextOf", "(I)I"⟩
abbrev cX7_layNext : ByteArray := prog_9_method_43_code
def yX7_layNext : MethodName := ⟨RX7, "layNext", "()V"⟩
abbrev cX7_goYear : ByteArray := prog_9_method_44_code
def yX7_goYear : MethodName := ⟨RX7, "goYear", "()V"⟩
abbrev cX7_goYears : ByteArray := prog_9_method_45_code
def yX7_goYears : MethodName := ⟨RX7, "goYears", "(I)V"⟩
abbrev cX7_allEarn : ByteArray := prog_9_method_46_code
def yX7_allEarn : MethodName := ⟨RX7, "allEarn", "()I"⟩
abbrev cX7_of : ByteArray := prog_9_method_47_code
def yX7_of : MethodName := ⟨RX7, "of", "(II)I"⟩
abbrev cX7_told : ByteArray := prog_9_method_48_code
def yX7_told : MethodName := ⟨RX7, "told", "(I)I"⟩
abbrev cX7_year : ByteArray := prog_9_method_49_code
def yX7_year : MethodName := ⟨RX7, "year", "()I"⟩
abbrev cX7_keep : ByteArray := prog_9_method_50_code
def yX7_keep : MethodName := ⟨RX7, "keep", "()V"⟩
abbrev cX7_putBack : ByteArray := prog_9_method_51_code
def yX7_putBack : MethodName := ⟨RX7, "putBack", "()V"⟩
abbrev cX7_earnsThen : ByteArray := prog_9_method_52_code
def yX7_earnsThen : MethodName := ⟨RX7, "earnsThen", "(II)I"⟩
abbrev cX7_at : ByteArray := prog_9_method_53_code
def yX7_at : MethodName := ⟨RX7, "at", "(II)I"⟩
abbrev cX7_isCalm : ByteArray := prog_9_method_54_code
def yX7_isCalm : MethodName := ⟨RX7, "isCalm", "()Z"⟩
abbrev cX7_stays : ByteArray := prog_9_method_55_code
def yX7_stays : MethodName := ⟨RX7, "stays", "()I"⟩
abbrev cX7_isAsOld : ByteArray := prog_9_method_56_code
def yX7_isAsOld : MethodName := ⟨RX7, "isAsOld", "()Z"⟩
abbrev cX7_swings : ByteArray := prog_9_method_57_code
def yX7_swings : MethodName := ⟨RX7, "swings", "()I"⟩
abbrev cX7_withGift : ByteArray := prog_9_method_58_code
def yX7_withGift : MethodName := ⟨RX7, "withGift", "(III)I"⟩
abbrev cX7_gift : ByteArray := prog_9_method_59_code
def yX7_gift : MethodName := ⟨RX7, "gift", "(III)I"⟩
abbrev cX7_best : ByteArray := prog_9_method_60_code
def yX7_best : MethodName := ⟨RX7, "best", "(I)I"⟩
abbrev cX7_change : ByteArray := prog_9_method_61_code
def yX7_change : MethodName := ⟨RX7, "change", "(II)V"⟩
abbrev cX7_lots : ByteArray := prog_9_method_62_code
def yX7_lots : MethodName := ⟨RX7, "lots", "()I"⟩
abbrev cX7_opens : ByteArray := prog_9_method_63_code
def yX7_opens : MethodName := ⟨RX7, "opens", "(I)V"⟩
abbrev cX7_closes : ByteArray := prog_9_method_64_code
def yX7_closes : MethodName := ⟨RX7, "closes", "(I)V"⟩
abbrev cX7_build : ByteArray := prog_9_method_65_code
def yX7_build : MethodName := ⟨RX7, "build", "(IIII)I"⟩
abbrev cX7_down : ByteArray := prog_9_method_66_code
def yX7_down : MethodName := ⟨RX7, "down", "(I)I"⟩
abbrev cX7_opensWith : ByteArray := prog_9_method_67_code
def yX7_opensWith : MethodName := ⟨RX7, "opensWith", "(I)V"⟩
abbrev cX7_layValues : ByteArray := prog_9_method_68_code
def yX7_layValues : MethodName := ⟨RX7, "layValues", "()V"⟩
abbrev cX7_nextRow : ByteArray := prog_9_method_69_code
def yX7_nextRow : MethodName := ⟨RX7, "nextRow", "()Z"⟩
abbrev cX7_bringsNow : ByteArray := prog_9_method_70_code
def yX7_bringsNow : MethodName := ⟨RX7, "bringsNow", "()Z"⟩
abbrev cX7_before : ByteArray := prog_9_method_71_code
def yX7_before : MethodName := ⟨RX7, "before", "(I)I"⟩
abbrev cX7_see : ByteArray := prog_9_method_72_code
def yX7_see : MethodName := ⟨RX7, "see", "(II)I"⟩
abbrev cX7_isSeen : ByteArray := prog_9_method_73_code
def yX7_isSeen : MethodName := ⟨RX7, "isSeen", "(I)Z"⟩
abbrev cX7_lied : ByteArray := prog_9_method_74_code
def yX7_lied : MethodName := ⟨RX7, "lied", "(I)I"⟩
abbrev cX7_wed : ByteArray := prog_9_method_75_code
def yX7_wed : MethodName := ⟨RX7, "wed", "(II)I"⟩
abbrev cX7_divisor : ByteArray := prog_9_method_76_code
def yX7_divisor : MethodName := ⟨RX7, "divisor", "(II)I"⟩
abbrev cX7_lowest : ByteArray := prog_9_method_77_code
def yX7_lowest : MethodName := ⟨RX7, "lowest", "(III)J"⟩
abbrev cX7_odds : ByteArray := prog_9_method_78_code
def yX7_odds : MethodName := ⟨RX7, "odds", "(III)J"⟩
abbrev cX7_mean : ByteArray := prog_9_method_79_code
def yX7_mean : MethodName := ⟨RX7, "mean", "(II)J"⟩
abbrev cX7_book : ByteArray := prog_9_method_80_code
def yX7_book : MethodName := ⟨RX7, "book", "(I)I"⟩
abbrev cX7_looked : ByteArray := prog_9_method_81_code
def yX7_looked : MethodName := ⟨RX7, "looked", "()I"⟩
abbrev cX7_judge : ByteArray := prog_9_method_82_code
def yX7_judge : MethodName := ⟨RX7, "judge", "(II)I"⟩
abbrev cX7_image : ByteArray := prog_9_method_83_code
def yX7_image : MethodName := ⟨RX7, "image", "()I"⟩
abbrev cX7_undo : ByteArray := prog_9_method_84_code
def yX7_undo : MethodName := ⟨RX7, "undo", "()I"⟩
abbrev cX7_body : ByteArray := prog_9_method_85_code
def yX7_body : MethodName := ⟨RX7, "body", "(I)V"⟩
abbrev cX7_houseEarns : ByteArray := prog_9_method_86_code
def yX7_houseEarns : MethodName := ⟨RX7, "houseEarns", "(II)I"⟩
abbrev cX7_earnsAct : ByteArray := prog_9_method_87_code
def yX7_earnsAct : MethodName := ⟨RX7, "earnsAct", "(II)I"⟩
abbrev cX7_houseSays : ByteArray := prog_9_method_88_code
def yX7_houseSays : MethodName := ⟨RX7, "houseSays", "(II)I"⟩
abbrev cX7_proudSays : ByteArray := prog_9_method_89_code
def yX7_proudSays : MethodName := ⟨RX7, "proudSays", "(II)I"⟩
abbrev cX7_saysAct : ByteArray := prog_9_method_90_code
def yX7_saysAct : MethodName := ⟨RX7, "saysAct", "(II)I"⟩
abbrev cX7_houseTells : ByteArray := prog_9_method_91_code
def yX7_houseTells : MethodName := ⟨RX7, "houseTells", "(II)I"⟩
abbrev cX7_tellsAct : ByteArray := prog_9_method_92_code
def yX7_tellsAct : MethodName := ⟨RX7, "tellsAct", "(II)I"⟩
abbrev cX7_act : ByteArray := prog_9_method_93_code
def yX7_act : MethodName := ⟨RX7, "act", "(III)I"⟩
abbrev cX7_trace : ByteArray := prog_9_method_94_code
def yX7_trace : MethodName := ⟨RX7, "trace", "(I)I"⟩
abbrev cX7_taken : ByteArray := prog_9_method_95_code
def yX7_taken : MethodName := ⟨RX7, "taken", "(II)I"⟩
abbrev cX7_count : ByteArray := prog_9_method_96_code
def yX7_count : MethodName := ⟨RX7, "count", "(I)I"⟩
abbrev cX7_isTape : ByteArray := prog_9_method_97_code
def yX7_isTape : MethodName := ⟨RX7, "isTape", "(I)Z"⟩
abbrev cX7_tape : ByteArray := prog_9_method_98_code
def yX7_tape : MethodName := ⟨RX7, "tape", "(III)I"⟩
abbrev cX7_narrow : ByteArray := prog_9_method_99_code
def yX7_narrow : MethodName := ⟨RX7, "narrow", "(IJ)J"⟩
abbrev cX7_item : ByteArray := prog_9_method_100_code
def yX7_item : MethodName := ⟨RX7, "item", "(IIJ)I"⟩
abbrev cX7_read : ByteArray := prog_9_method_101_code
def yX7_read : MethodName := ⟨RX7, "read", "(II)J"⟩
abbrev cX7_shift : ByteArray := prog_9_method_102_code
def yX7_shift : MethodName := ⟨RX7, "shift", "(IIIII)I"⟩
def RJ11 : String := "java/lang/Character"
def TJ11 : u_T := fun k => match k with
  | _ => ("", "", "", false)
def tyJ11 : Nat → FieldType := fun k => match k with
  | _ => .int
abbrev wsJ110 : List Cond := u_ws RJ11 TJ11 0
theorem nmJ11 : ∀ a, a < 0 → ∀ b, b < 0 → a ≠ b → (TJ11 a).2.1 ≠ (TJ11 b).2.1 := by decide +kernel
theorem tyJ11_ok : ∀ k, k < 0 → parseFieldDescriptor (TJ11 k).2.2.1 = some (tyJ11 k) := by decide +kernel
abbrev cJ11_isValidCodePoint_9a6ad : ByteArray := prog_10_method_11_code
def yJ11_isValidCodePoint_9a6ad : MethodName := ⟨RJ11, "isValidCodePoint", "(I)Z"⟩
abbrev cJ11_highSurrogate_5068e : ByteArray := prog_10_method_28_code
def yJ11_highSurrogate_5068e : MethodName := ⟨RJ11, "highSurrogate", "(I)C"⟩
abbrev cJ11_lowSurrogate_5068e : ByteArray := prog_10_method_29_code
def yJ11_lowSurrogate_5068e : MethodName := ⟨RJ11, "lowSurrogate", "(I)C"⟩
def RJ9 : String := "java/lang/Math"
def TJ9 : u_T := fun k => match k with
  | _ => ("", "", "", false)
def tyJ9 : Nat → FieldType := fun k => match k with
  | _ => .int
abbrev wsJ90 : List Cond := u_ws RJ9 TJ9 0
theorem nmJ9 : ∀ a, a < 0 → ∀ b, b < 0 → a ≠ b → (TJ9 a).2.1 ≠ (TJ9 b).2.1 := by decide +kernel
theorem tyJ9_ok : ∀ k, k < 0 → parseFieldDescriptor (TJ9 k).2.2.1 = some (tyJ9 k) := by decide +kernel
abbrev cJ9_abs_0f7a4 : ByteArray := prog_11_method_59_code
def yJ9_abs_0f7a4 : MethodName := ⟨RJ9, "abs", "(I)I"⟩
abbrev cJ9_max_7cf53 : ByteArray := prog_11_method_65_code
def yJ9_max_7cf53 : MethodName := ⟨RJ9, "max", "(II)I"⟩
abbrev cJ9_min_7cf53 : ByteArray := prog_11_method_69_code
def yJ9_min_7cf53 : MethodName := ⟨RJ9, "min", "(II)I"⟩
def RJ0 : String := "java/lang/String"
def TJ0 : u_T := fun k => match k with
  | _ => ("", "", "", false)
def tyJ0 : Nat → FieldType := fun k => match k with
  | _ => .int
abbrev wsJ00 : List Cond := u_ws RJ0 TJ0 0
theorem nmJ0 : ∀ a, a < 0 → ∀ b, b < 0 → a ≠ b → (TJ0 a).2.1 ≠ (TJ0 b).2.1 := by decide +kernel
theorem tyJ0_ok : ∀ k, k < 0 → parseFieldDescriptor (TJ0 k).2.2.1 = some (tyJ0 k) := by decide +kernel
abbrev cJ0_length_8abf5 : ByteArray := prog_12_method_54_code
def yJ0_length_8abf5 : MethodName := ⟨RJ0, "length", "()I"⟩
abbrev cJ0_charAt_5068e : ByteArray := prog_12_method_56_code
def yJ0_charAt_5068e : MethodName := ⟨RJ0, "charAt", "(I)C"⟩
abbrev cJ0_indexOf_0f7a4 : ByteArray := prog_12_method_79_code
def yJ0_indexOf_0f7a4 : MethodName := ⟨RJ0, "indexOf", "(I)I"⟩
abbrev cJ0_indexOf_7cf53 : ByteArray := prog_12_method_80_code
def yJ0_indexOf_7cf53 : MethodName := ⟨RJ0, "indexOf", "(II)I"⟩
abbrev cJ0_coder_7d493 : ByteArray := prog_12_method_152_code
def yJ0_coder_7d493 : MethodName := ⟨RJ0, "coder", "()B"⟩
abbrev cJ0_isLatin1_aae02 : ByteArray := prog_12_method_154_code
def yJ0_isLatin1_aae02 : MethodName := ⟨RJ0, "isLatin1", "()Z"⟩
abbrev cJ0_checkIndex_df160 : ByteArray := prog_12_method_155_code
def yJ0_checkIndex_df160 : MethodName := ⟨RJ0, "checkIndex", "(II)V"⟩
abbrev cJ0_checkBoundsBeginEnd_23922 : ByteArray := prog_12_method_158_code
def yJ0_checkBoundsBeginEnd_23922 : MethodName := ⟨RJ0, "checkBoundsBeginEnd", "(III)V"⟩
def RJ1 : String := "java/lang/StringLatin1"
def TJ1 : u_T := fun k => match k with
  | _ => ("", "", "", false)
def tyJ1 : Nat → FieldType := fun k => match k with
  | _ => .int
abbrev wsJ10 : List Cond := u_ws RJ1 TJ1 0
theorem nmJ1 : ∀ a, a < 0 → ∀ b, b < 0 → a ≠ b → (TJ1 a).2.1 ≠ (TJ1 b).2.1 := by decide +kernel
theorem tyJ1_ok : ∀ k, k < 0 → parseFieldDescriptor (TJ1 k).2.2.1 = some (tyJ1 k) := by decide +kernel
abbrev cJ1_charAt_3b067 : ByteArray := prog_13_method_2_code
def yJ1_charAt_3b067 : MethodName := ⟨RJ1, "charAt", "([BI)C"⟩
abbrev cJ1_canEncode_9a6ad : ByteArray := prog_13_method_4_code
def yJ1_canEncode_9a6ad : MethodName := ⟨RJ1, "canEncode", "(I)Z"⟩
abbrev cJ1_indexOf_4cfef : ByteArray := prog_13_method_22_code
def yJ1_indexOf_4cfef : MethodName := ⟨RJ1, "indexOf", "([BIII)I"⟩
abbrev cJ1_indexOfChar_4cfef : ByteArray := prog_13_method_23_code
def yJ1_indexOfChar_4cfef : MethodName := ⟨RJ1, "indexOfChar", "([BIII)I"⟩
def RJ2 : String := "java/lang/StringUTF16"
def TJ2 : u_T := fun k => match k with
  | _ => ("", "", "", false)
def tyJ2 : Nat → FieldType := fun k => match k with
  | _ => .int
abbrev wsJ20 : List Cond := u_ws RJ2 TJ2 0
theorem nmJ2 : ∀ a, a < 0 → ∀ b, b < 0 → a ≠ b → (TJ2 a).2.1 ≠ (TJ2 b).2.1 := by decide +kernel
theorem tyJ2_ok : ∀ k, k < 0 → parseFieldDescriptor (TJ2 k).2.2.1 = some (tyJ2 k) := by decide +kernel
abbrev cJ2_getChar_3b067 : ByteArray := prog_14_method_5_code
def yJ2_getChar_3b067 : MethodName := ⟨RJ2, "getChar", "([BI)C"⟩
abbrev cJ2_length_9d52b : ByteArray := prog_14_method_6_code
def yJ2_length_9d52b : MethodName := ⟨RJ2, "length", "([B)I"⟩
abbrev cJ2_indexOf_4cfef : ByteArray := prog_14_method_40_code
def yJ2_indexOf_4cfef : MethodName := ⟨RJ2, "indexOf", "([BIII)I"⟩
abbrev cJ2_indexOfChar_4cfef : ByteArray := prog_14_method_47_code
def yJ2_indexOfChar_4cfef : MethodName := ⟨RJ2, "indexOfChar", "([BIII)I"⟩
abbrev cJ2_indexOfCharUnsafe_4cfef : ByteArray := prog_14_method_48_code
def yJ2_indexOfCharUnsafe_4cfef : MethodName := ⟨RJ2, "indexOfCharUnsafe", "([BIII)I"⟩
abbrev cJ2_indexOfSupplementary_4cfef : ByteArray := prog_14_method_49_code
def yJ2_indexOfSupplementary_4cfef : MethodName := ⟨RJ2, "indexOfSupplementary", "([BIII)I"⟩
abbrev cJ2_charAt_3b067 : ByteArray := prog_14_method_83_code
def yJ2_charAt_3b067 : MethodName := ⟨RJ2, "charAt", "([BI)C"⟩
abbrev cJ2_checkIndex_2214a : ByteArray := prog_14_method_91_code
def yJ2_checkIndex_2214a : MethodName := ⟨RJ2, "checkIndex", "(I[B)V"⟩
abbrev cJ2_checkBoundsBeginEnd_d044e : ByteArray := prog_14_method_93_code
def yJ2_checkBoundsBeginEnd_d044e : MethodName := ⟨RJ2, "checkBoundsBeginEnd", "(II[B)V"⟩
def RJ10 : String := "java/lang/System"
def TJ10 : u_T := fun k => match k with
  | _ => ("", "", "", false)
def tyJ10 : Nat → FieldType := fun k => match k with
  | _ => .int
abbrev wsJ100 : List Cond := u_ws RJ10 TJ10 0
theorem nmJ10 : ∀ a, a < 0 → ∀ b, b < 0 → a ≠ b → (TJ10 a).2.1 ≠ (TJ10 b).2.1 := by decide +kernel
theorem tyJ10_ok : ∀ k, k < 0 → parseFieldDescriptor (TJ10 k).2.2.1 = some (tyJ10 k) := by decide +kernel
def RJ3 : String := "jdk/internal/util/Preconditions"
def TJ3 : u_T := fun k => match k with
  | _ => ("", "", "", false)
def tyJ3 : Nat → FieldType := fun k => match k with
  | _ => .int
abbrev wsJ30 : List Cond := u_ws RJ3 TJ3 0
theorem nmJ3 : ∀ a, a < 0 → ∀ b, b < 0 → a ≠ b → (TJ3 a).2.1 ≠ (TJ3 b).2.1 := by decide +kernel
theorem tyJ3_ok : ∀ k, k < 0 → parseFieldDescriptor (TJ3 k).2.2.1 = some (tyJ3 k) := by decide +kernel
abbrev cJ3_checkIndex_8e157 : ByteArray := prog_16_method_11_code
def yJ3_checkIndex_8e157 : MethodName := ⟨RJ3, "checkIndex", "(IILjava/util/function/BiFunction;)I"⟩
abbrev cJ3_checkFromToIndex_8c36e : ByteArray := prog_16_method_12_code
def yJ3_checkFromToIndex_8c36e : MethodName := ⟨RJ3, "checkFromToIndex", "(IIILjava/util/function/BiFunction;)I"⟩
def RL : String := "MiddleThreeLaw"
abbrev cL_law : ByteArray := code
def yL_law : MethodName := ⟨RL, "law", "([I)Z"⟩
end
section
theorem dX0_init_0 : decode cX0_init 0 = .ok (.aload_n 0, 1) := by decide +kernel
theorem dX0_init_1 : decode cX0_init 1 = .ok (.invokespecial 3, 3) := by decide +kernel
theorem dX0_init_4 : decode cX0_init 4 = .ok (.aload_n 0, 1) := by decide +kernel
theorem dX0_init_5 : decode cX0_init 5 = .ok (.bipush 20, 2) := by decide +kernel
theorem dX0_init_7 : decode cX0_init 7 = .ok (.newarray .int, 2) := by decide +kernel
theorem dX0_init_9 : decode cX0_init 9 = .ok (.putfield 9, 3) := by decide +kernel
theorem dX0_init_12 : decode cX0_init 12 = .ok (.return_, 1) := by decide +kernel
theorem dX0_clear_0 : decode cX0_clear 0 = .ok (.aload_n 0, 1) := by decide +kernel
theorem dX0_clear_1 : decode cX0_clear 1 = .ok (.iconst 0, 1) := by decide +kernel
theorem dX0_clear_2 : decode cX0_clear 2 = .ok (.putfield 15, 3) := by decide +kernel
theorem dX0_clear_5 : decode cX0_clear 5 = .ok (.return_, 1) := by decide +kernel
theorem dX0_choose_0 : decode cX0_choose 0 = .ok (.aload_n 0, 1) := by decide +kernel
theorem dX0_choose_1 : decode cX0_choose 1 = .ok (.iload_n 1, 1) := by decide +kernel
theorem dX0_choose_2 : decode cX0_choose 2 = .ok (.putfield 19, 3) := by decide +kernel
theorem dX0_choose_5 : decode cX0_choose 5 = .ok (.aload_n 0, 1) := by decide +kernel
theorem dX0_choose_6 : decode cX0_choose 6 = .ok (.iload_n 2, 1) := by decide +kernel
theorem dX0_choose_7 : decode cX0_choose 7 = .ok (.putfield 22, 3) := by decide +kernel
theorem dX0_choose_10 : decode cX0_choose 10 = .ok (.aload_n 0, 1) := by decide +kernel
theorem dX0_choose_11 : decode cX0_choose 11 = .ok (.iload_n 3, 1) := by decide +kernel
theorem dX0_choose_12 : decode cX0_choose 12 = .ok (.putfield 25, 3) := by decide +kernel
theorem dX0_choose_15 : decode cX0_choose 15 = .ok (.return_, 1) := by decide +kernel
theorem dX0_perform_0 : decode cX0_perform 0 = .ok (.iload_n 1, 1) := by decide +kernel
theorem dX0_perform_1 : decode cX0_perform 1 = .ok (.tableswitch 60 0 2 #[27, 38, 49], 27) := by decide +kernel
theorem dX0_perform_28 : decode cX0_perform 28 = .ok (.aload_n 0, 1) := by decide +kernel
theorem dX0_perform_29 : decode cX0_perform 29 = .ok (.aload_n 0, 1) := by decide +kernel
theorem dX0_perform_30 : decode cX0_perform 30 = .ok (.getfield 19, 3) := by decide +kernel
theorem dX0_perform_33 : decode cX0_perform 33 = .ok (.iload_n 2, 1) := by decide +kernel
theorem dX0_perform_34 : decode cX0_perform 34 = .ok (.iconst 0, 1) := by decide +kernel
theorem dX0_perform_35 : decode cX0_perform 35 = .ok (.invokevirtual 28, 3) := by decide +kernel
theorem dX0_perform_38 : decode cX0_perform 38 = .ok (.ireturn, 1) := by decide +kernel
theorem dX0_perform_39 : decode cX0_perform 39 = .ok (.aload_n 0, 1) := by decide +kernel
theorem dX0_perform_40 : decode cX0_perform 40 = .ok (.aload_n 0, 1) := by decide +kernel
theorem dX0_perform_41 : decode cX0_perform 41 = .ok (.getfield 19, 3) := by decide +kernel
theorem dX0_perform_44 : decode cX0_perform 44 = .ok (.iload_n 2, 1) := by decide +kernel
theorem dX0_perform_45 : decode cX0_perform 45 = .ok (.iconst 0, 1) := by decide +kernel
theorem dX0_perform_46 : decode cX0_perform 46 = .ok (.invokevirtual 32, 3) := by decide +kernel
theorem dX0_perform_49 : decode cX0_perform 49 = .ok (.ireturn, 1) := by decide +kernel
theorem dX0_perform_50 : decode cX0_perform 50 = .ok (.aload_n 0, 1) := by decide +kernel
theorem dX0_perform_51 : decode cX0_perform 51 = .ok (.aload_n 0, 1) := by decide +kernel
theorem dX0_perform_52 : decode cX0_perform 52 = .ok (.getfield 19, 3) := by decide +kernel
theorem dX0_perform_55 : decode cX0_perform 55 = .ok (.iload_n 2, 1) := by decide +kernel
theorem dX0_perform_56 : decode cX0_perform 56 = .ok (.iconst 0, 1) := by decide +kernel
theorem dX0_perform_57 : decode cX0_perform 57 = .ok (.invokevirtual 35, 3) := by decide +kernel
theorem dX0_perform_60 : decode cX0_perform 60 = .ok (.ireturn, 1) := by decide +kernel
theorem dX0_perform_61 : decode cX0_perform 61 = .ok (.iconst 0, 1) := by decide +kernel
theorem dX0_perform_62 : decode cX0_perform 62 = .ok (.ireturn, 1) := by decide +kernel
theorem dX0_begin_0 : decode cX0_begin 0 = .ok (.aload_n 0, 1) := by decide +kernel
theorem dX0_begin_1 : decode cX0_begin 1 = .ok (.getfield 15, 3) := by decide +kernel
theorem dX0_begin_4 : decode cX0_begin 4 = .ok (.bipush 20, 2) := by decide +kernel
theorem dX0_begin_6 : decode cX0_begin 6 = .ok (.if_icmp .ge 13, 3) := by decide +kernel
theorem dX0_begin_9 : decode cX0_begin 9 = .ok (.aload_n 0, 1) := by decide +kernel
theorem dX0_begin_10 : decode cX0_begin 10 = .ok (.getfield 9, 3) := by decide +kernel
theorem dX0_begin_13 : decode cX0_begin 13 = .ok (.aload_n 0, 1) := by decide +kernel
theorem dX0_begin_14 : decode cX0_begin 14 = .ok (.getfield 15, 3) := by decide +kernel
theorem dX0_begin_17 : decode cX0_begin 17 = .ok (.iload_n 1, 1) := by decide +kernel
theorem dX0_begin_18 : decode cX0_begin 18 = .ok (.iastore, 1) := by decide +kernel
theorem dX0_begin_19 : decode cX0_begin 19 = .ok (.aload_n 0, 1) := by decide +kernel
theorem dX0_begin_20 : decode cX0_begin 20 = .ok (.dup, 1) := by decide +kernel
theorem dX0_begin_21 : decode cX0_begin 21 = .ok (.getfield 15, 3) := by decide +kernel
theorem dX0_begin_24 : decode cX0_begin 24 = .ok (.iconst 1, 1) := by decide +kernel
theorem dX0_begin_25 : decode cX0_begin 25 = .ok (.iadd, 1) := by decide +kernel
theorem dX0_begin_26 : decode cX0_begin 26 = .ok (.putfield 15, 3) := by decide +kernel
theorem dX0_begin_29 : decode cX0_begin 29 = .ok (.return_, 1) := by decide +kernel
theorem dX0_runEarns_0 : decode cX0_runEarns 0 = .ok (.iload_n 3, 1) := by decide +kernel
theorem dX0_runEarns_1 : decode cX0_runEarns 1 = .ok (.bipush 40, 2) := by decide +kernel
theorem dX0_runEarns_3 : decode cX0_runEarns 3 = .ok (.if_icmp .le 5, 3) := by decide +kernel
theorem dX0_runEarns_6 : decode cX0_runEarns 6 = .ok (.iconst 0, 1) := by decide +kernel
theorem dX0_runEarns_7 : decode cX0_runEarns 7 = .ok (.ireturn, 1) := by decide +kernel
theorem dX0_runEarns_8 : decode cX0_runEarns 8 = .ok (.iload_n 1, 1) := by decide +kernel
theorem dX0_runEarns_9 : decode cX0_runEarns 9 = .ok (.tableswitch 115 1 6 #[95, 39, 95, 57, 105, 74], 39) := by decide +kernel
theorem dX0_runEarns_48 : decode cX0_runEarns 48 = .ok (.aload_n 0, 1) := by decide +kernel
theorem dX0_runEarns_49 : decode cX0_runEarns 49 = .ok (.bipush 30, 2) := by decide +kernel
theorem dX0_runEarns_51 : decode cX0_runEarns 51 = .ok (.invokevirtual 38, 3) := by decide +kernel
theorem dX0_runEarns_54 : decode cX0_runEarns 54 = .ok (.aload_n 0, 1) := by decide +kernel
theorem dX0_runEarns_55 : decode cX0_runEarns 55 = .ok (.iconst 0, 1) := by decide +kernel
theorem dX0_runEarns_56 : decode cX0_runEarns 56 = .ok (.iload_n 2, 1) := by decide +kernel
theorem dX0_runEarns_57 : decode cX0_runEarns 57 = .ok (.iconst 3, 1) := by decide +kernel
theorem dX0_runEarns_58 : decode cX0_runEarns 58 = .ok (.imul, 1) := by decide +kernel
theorem dX0_runEarns_59 : decode cX0_runEarns 59 = .ok (.iload_n 3, 1) := by decide +kernel
theorem dX0_runEarns_60 : decode cX0_runEarns 60 = .ok (.iconst 1, 1) := by decide +kernel
theorem dX0_runEarns_61 : decode cX0_runEarns 61 = .ok (.iadd, 1) := by decide +kernel
theorem dX0_runEarns_62 : decode cX0_runEarns 62 = .ok (.invokevirtual 28, 3) := by decide +kernel
theorem dX0_runEarns_65 : decode cX0_runEarns 65 = .ok (.ireturn, 1) := by decide +kernel
theorem dX0_runEarns_66 : decode cX0_runEarns 66 = .ok (.aload_n 0, 1) := by decide +kernel
theorem dX0_runEarns_67 : decode cX0_runEarns 67 = .ok (.bipush 50, 2) := by decide +kernel
theorem dX0_runEarns_69 : decode cX0_runEarns 69 = .ok (.invokevirtual 38, 3) := by decide +kernel
theorem dX0_runEarns_72 : decode cX0_runEarns 72 = .ok (.aload_n 0, 1) := by decide +kernel
theorem dX0_runEarns_73 : decode cX0_runEarns 73 = .ok (.iconst 1, 1) := by decide +kernel
theorem dX0_runEarns_74 : decode cX0_runEarns 74 = .ok (.iload_n 2, 1) := by decide +kernel
theorem dX0_runEarns_75 : decode cX0_runEarns 75 = .ok (.iload_n 3, 1) := by decide +kernel
theorem dX0_runEarns_76 : decode cX0_runEarns 76 = .ok (.iconst 1, 1) := by decide +kernel
theorem dX0_runEarns_77 : decode cX0_runEarns 77 = .ok (.iadd, 1) := by decide +kernel
theorem dX0_runEarns_78 : decode cX0_runEarns 78 = .ok (.invokevirtual 28, 3) := by decide +kernel
theorem dX0_runEarns_81 : decode cX0_runEarns 81 = .ok (.ineg, 1) := by decide +kernel
theorem dX0_runEarns_82 : decode cX0_runEarns 82 = .ok (.ireturn, 1) := by decide +kernel
theorem dX0_runEarns_83 : decode cX0_runEarns 83 = .ok (.aload_n 0, 1) := by decide +kernel
theorem dX0_runEarns_84 : decode cX0_runEarns 84 = .ok (.bipush 71, 2) := by decide +kernel
theorem dX0_runEarns_86 : decode cX0_runEarns 86 = .ok (.invokevirtual 38, 3) := by decide +kernel
theorem dX0_runEarns_89 : decode cX0_runEarns 89 = .ok (.aload_n 0, 1) := by decide +kernel
theorem dX0_runEarns_90 : decode cX0_runEarns 90 = .ok (.iconst 3, 1) := by decide +kernel
theorem dX0_runEarns_91 : decode cX0_runEarns 91 = .ok (.iload_n 2, 1) := by decide +kernel
theorem dX0_runEarns_92 : decode cX0_runEarns 92 = .ok (.iload_n 3, 1) := by decide +kernel
theorem dX0_runEarns_93 : decode cX0_runEarns 93 = .ok (.iconst 1, 1) := by decide +kernel
theorem dX0_runEarns_94 : decode cX0_runEarns 94 = .ok (.iadd, 1) := by decide +kernel
theorem dX0_runEarns_95 : decode cX0_runEarns 95 = .ok (.invokevirtual 28, 3) := by decide +kernel
theorem dX0_runEarns_98 : decode cX0_runEarns 98 = .ok (.aload_n 0, 1) := by decide +kernel
theorem dX0_runEarns_99 : decode cX0_runEarns 99 = .ok (.getfield 22, 3) := by decide +kernel
theorem dX0_runEarns_102 : decode cX0_runEarns 102 = .ok (.ixor, 1) := by decide +kernel
theorem dX0_runEarns_103 : decode cX0_runEarns 103 = .ok (.ireturn, 1) := by decide +kernel
theorem dX0_runEarns_104 : decode cX0_runEarns 104 = .ok (.aload_n 0, 1) := by decide +kernel
theorem dX0_runEarns_105 : decode cX0_runEarns 105 = .ok (.iconst 0, 1) := by decide +kernel
theorem dX0_runEarns_106 : decode cX0_runEarns 106 = .ok (.iload_n 2, 1) := by decide +kernel
theorem dX0_runEarns_107 : decode cX0_runEarns 107 = .ok (.iload_n 3, 1) := by decide +kernel
theorem dX0_runEarns_108 : decode cX0_runEarns 108 = .ok (.iconst 1, 1) := by decide +kernel
theorem dX0_runEarns_109 : decode cX0_runEarns 109 = .ok (.iadd, 1) := by decide +kernel
theorem dX0_runEarns_110 : decode cX0_runEarns 110 = .ok (.invokevirtual 28, 3) := by decide +kernel
theorem dX0_runEarns_113 : decode cX0_runEarns 113 = .ok (.ireturn, 1) := by decide +kernel
theorem dX0_runEarns_114 : decode cX0_runEarns 114 = .ok (.aload_n 0, 1) := by decide +kernel
theorem dX0_runEarns_115 : decode cX0_runEarns 115 = .ok (.iconst 2, 1) := by decide +kernel
theorem dX0_runEarns_116 : decode cX0_runEarns 116 = .ok (.iload_n 2, 1) := by decide +kernel
theorem dX0_runEarns_117 : decode cX0_runEarns 117 = .ok (.iload_n 3, 1) := by decide +kernel
theorem dX0_runEarns_118 : decode cX0_runEarns 118 = .ok (.iconst 1, 1) := by decide +kernel
theorem dX0_runEarns_119 : decode cX0_runEarns 119 = .ok (.iadd, 1) := by decide +kernel
theorem dX0_runEarns_120 : decode cX0_runEarns 120 = .ok (.invokevirtual 28, 3) := by decide +kernel
theorem dX0_runEarns_123 : decode cX0_runEarns 123 = .ok (.ireturn, 1) := by decide +kernel
theorem dX0_runEarns_124 : decode cX0_runEarns 124 = .ok (.aload_n 0, 1) := by decide +kernel
theorem dX0_runEarns_125 : decode cX0_runEarns 125 = .ok (.bipush 10, 2) := by decide +kernel
theorem dX0_runEarns_127 : decode cX0_runEarns 127 = .ok (.invokevirtual 38, 3) := by decide +kernel
theorem dX0_runEarns_130 : decode cX0_runEarns 130 = .ok (.iload_n 2, 1) := by decide +kernel
theorem dX0_runEarns_131 : decode cX0_runEarns 131 = .ok (.aload_n 0, 1) := by decide +kernel
theorem dX0_runEarns_132 : decode cX0_runEarns 132 = .ok (.getfield 25, 3) := by decide +kernel
theorem dX0_runEarns_135 : decode cX0_runEarns 135 = .ok (.iadd, 1) := by decide +kernel
theorem dX0_runEarns_136 : decode cX0_runEarns 136 = .ok (.ireturn, 1) := by decide +kernel
theorem dX0_runSays_0 : decode cX0_runSays 0 = .ok (.iload_n 3, 1) := by decide +kernel
theorem dX0_runSays_1 : decode cX0_runSays 1 = .ok (.bipush 40, 2) := by decide +kernel
theorem dX0_runSays_3 : decode cX0_runSays 3 = .ok (.if_icmp .le 5, 3) := by decide +kernel
theorem dX0_runSays_6 : decode cX0_runSays 6 = .ok (.iconst 0, 1) := by decide +kernel
theorem dX0_runSays_7 : decode cX0_runSays 7 = .ok (.ireturn, 1) := by decide +kernel
theorem dX0_runSays_8 : decode cX0_runSays 8 = .ok (.iload_n 1, 1) := by decide +kernel
theorem dX0_runSays_9 : decode cX0_runSays 9 = .ok (.tableswitch 122 1 6 #[39, 102, 102, 58, 112, 76], 39) := by decide +kernel
theorem dX0_runSays_48 : decode cX0_runSays 48 = .ok (.aload_n 0, 1) := by decide +kernel
theorem dX0_runSays_49 : decode cX0_runSays 49 = .ok (.bipush 20, 2) := by decide +kernel
theorem dX0_runSays_51 : decode cX0_runSays 51 = .ok (.invokevirtual 38, 3) := by decide +kernel
theorem dX0_runSays_54 : decode cX0_runSays 54 = .ok (.aload_n 0, 1) := by decide +kernel
theorem dX0_runSays_55 : decode cX0_runSays 55 = .ok (.iconst 0, 1) := by decide +kernel
theorem dX0_runSays_56 : decode cX0_runSays 56 = .ok (.iload_n 2, 1) := by decide +kernel
theorem dX0_runSays_57 : decode cX0_runSays 57 = .ok (.iload_n 3, 1) := by decide +kernel
theorem dX0_runSays_58 : decode cX0_runSays 58 = .ok (.iconst 1, 1) := by decide +kernel
theorem dX0_runSays_59 : decode cX0_runSays 59 = .ok (.iadd, 1) := by decide +kernel
theorem dX0_runSays_60 : decode cX0_runSays 60 = .ok (.invokevirtual 32, 3) := by decide +kernel
theorem dX0_runSays_63 : decode cX0_runSays 63 = .ok (.bipush 6, 2) := by decide +kernel
theorem dX0_runSays_65 : decode cX0_runSays 65 = .ok (.ixor, 1) := by decide +kernel
theorem dX0_runSays_66 : decode cX0_runSays 66 = .ok (.ireturn, 1) := by decide +kernel
theorem dX0_runSays_67 : decode cX0_runSays 67 = .ok (.aload_n 0, 1) := by decide +kernel
theorem dX0_runSays_68 : decode cX0_runSays 68 = .ok (.bipush 51, 2) := by decide +kernel
theorem dX0_runSays_70 : decode cX0_runSays 70 = .ok (.invokevirtual 38, 3) := by decide +kernel
theorem dX0_runSays_73 : decode cX0_runSays 73 = .ok (.aload_n 0, 1) := by decide +kernel
theorem dX0_runSays_74 : decode cX0_runSays 74 = .ok (.iconst 1, 1) := by decide +kernel
theorem dX0_runSays_75 : decode cX0_runSays 75 = .ok (.iload_n 2, 1) := by decide +kernel
theorem dX0_runSays_76 : decode cX0_runSays 76 = .ok (.iconst 1, 1) := by decide +kernel
theorem dX0_runSays_77 : decode cX0_runSays 77 = .ok (.iadd, 1) := by decide +kernel
theorem dX0_runSays_78 : decode cX0_runSays 78 = .ok (.iload_n 3, 1) := by decide +kernel
theorem dX0_runSays_79 : decode cX0_runSays 79 = .ok (.iconst 1, 1) := by decide +kernel
theorem dX0_runSays_80 : decode cX0_runSays 80 = .ok (.iadd, 1) := by decide +kernel
theorem dX0_runSays_81 : decode cX0_runSays 81 = .ok (.invokevirtual 32, 3) := by decide +kernel
theorem dX0_runSays_84 : decode cX0_runSays 84 = .ok (.ireturn, 1) := by decide +kernel
theorem dX0_runSays_85 : decode cX0_runSays 85 = .ok (.aload_n 0, 1) := by decide +kernel
theorem dX0_runSays_86 : decode cX0_runSays 86 = .ok (.bipush 70, 2) := by decide +kernel
theorem dX0_runSays_88 : decode cX0_runSays 88 = .ok (.invokevirtual 38, 3) := by decide +kernel
theorem dX0_runSays_91 : decode cX0_runSays 91 = .ok (.aload_n 0, 1) := by decide +kernel
theorem dX0_runSays_92 : decode cX0_runSays 92 = .ok (.iconst 3, 1) := by decide +kernel
theorem dX0_runSays_93 : decode cX0_runSays 93 = .ok (.iload_n 2, 1) := by decide +kernel
theorem dX0_runSays_94 : decode cX0_runSays 94 = .ok (.iload_n 3, 1) := by decide +kernel
theorem dX0_runSays_95 : decode cX0_runSays 95 = .ok (.iconst 1, 1) := by decide +kernel
theorem dX0_runSays_96 : decode cX0_runSays 96 = .ok (.iadd, 1) := by decide +kernel
theorem dX0_runSays_97 : decode cX0_runSays 97 = .ok (.invokevirtual 32, 3) := by decide +kernel
theorem dX0_runSays_100 : decode cX0_runSays 100 = .ok (.aload_n 0, 1) := by decide +kernel
theorem dX0_runSays_101 : decode cX0_runSays 101 = .ok (.iconst 3, 1) := by decide +kernel
theorem dX0_runSays_102 : decode cX0_runSays 102 = .ok (.iconst 2, 1) := by decide +kernel
theorem dX0_runSays_103 : decode cX0_runSays 103 = .ok (.iload_n 3, 1) := by decide +kernel
theorem dX0_runSays_104 : decode cX0_runSays 104 = .ok (.iconst 1, 1) := by decide +kernel
theorem dX0_runSays_105 : decode cX0_runSays 105 = .ok (.iadd, 1) := by decide +kernel
theorem dX0_runSays_106 : decode cX0_runSays 106 = .ok (.invokevirtual 28, 3) := by decide +kernel
theorem dX0_runSays_109 : decode cX0_runSays 109 = .ok (.iadd, 1) := by decide +kernel
theorem dX0_runSays_110 : decode cX0_runSays 110 = .ok (.ireturn, 1) := by decide +kernel
theorem dX0_runSays_111 : decode cX0_runSays 111 = .ok (.aload_n 0, 1) := by decide +kernel
theorem dX0_runSays_112 : decode cX0_runSays 112 = .ok (.iconst 0, 1) := by decide +kernel
theorem dX0_runSays_113 : decode cX0_runSays 113 = .ok (.iload_n 2, 1) := by decide +kernel
theorem dX0_runSays_114 : decode cX0_runSays 114 = .ok (.iload_n 3, 1) := by decide +kernel
theorem dX0_runSays_115 : decode cX0_runSays 115 = .ok (.iconst 1, 1) := by decide +kernel
theorem dX0_runSays_116 : decode cX0_runSays 116 = .ok (.iadd, 1) := by decide +kernel
theorem dX0_runSays_117 : decode cX0_runSays 117 = .ok (.invokevirtual 32, 3) := by decide +kernel
theorem dX0_runSays_120 : decode cX0_runSays 120 = .ok (.ireturn, 1) := by decide +kernel
theorem dX0_runSays_121 : decode cX0_runSays 121 = .ok (.aload_n 0, 1) := by decide +kernel
theorem dX0_runSays_122 : decode cX0_runSays 122 = .ok (.iconst 2, 1) := by decide +kernel
theorem dX0_runSays_123 : decode cX0_runSays 123 = .ok (.iload_n 2, 1) := by decide +kernel
theorem dX0_runSays_124 : decode cX0_runSays 124 = .ok (.iload_n 3, 1) := by decide +kernel
theorem dX0_runSays_125 : decode cX0_runSays 125 = .ok (.iconst 1, 1) := by decide +kernel
theorem dX0_runSays_126 : decode cX0_runSays 126 = .ok (.iadd, 1) := by decide +kernel
theorem dX0_runSays_127 : decode cX0_runSays 127 = .ok (.invokevirtual 32, 3) := by decide +kernel
theorem dX0_runSays_130 : decode cX0_runSays 130 = .ok (.ireturn, 1) := by decide +kernel
theorem dX0_runSays_131 : decode cX0_runSays 131 = .ok (.aload_n 0, 1) := by decide +kernel
theorem dX0_runSays_132 : decode cX0_runSays 132 = .ok (.bipush 11, 2) := by decide +kernel
theorem dX0_runSays_134 : decode cX0_runSays 134 = .ok (.invokevirtual 38, 3) := by decide +kernel
theorem dX0_runSays_137 : decode cX0_runSays 137 = .ok (.aload_n 0, 1) := by decide +kernel
theorem dX0_runSays_138 : decode cX0_runSays 138 = .ok (.aload_n 0, 1) := by decide +kernel
theorem dX0_runSays_139 : decode cX0_runSays 139 = .ok (.getfield 19, 3) := by decide +kernel
theorem dX0_runSays_142 : decode cX0_runSays 142 = .ok (.iload_n 2, 1) := by decide +kernel
theorem dX0_runSays_143 : decode cX0_runSays 143 = .ok (.iload_n 3, 1) := by decide +kernel
theorem dX0_runSays_144 : decode cX0_runSays 144 = .ok (.iconst 1, 1) := by decide +kernel
theorem dX0_runSays_145 : decode cX0_runSays 145 = .ok (.iadd, 1) := by decide +kernel
theorem dX0_runSays_146 : decode cX0_runSays 146 = .ok (.invokevirtual 28, 3) := by decide +kernel
theorem dX0_runSays_149 : decode cX0_runSays 149 = .ok (.aload_n 0, 1) := by decide +kernel
theorem dX0_runSays_150 : decode cX0_runSays 150 = .ok (.getfield 22, 3) := by decide +kernel
theorem dX0_runSays_153 : decode cX0_runSays 153 = .ok (.isub, 1) := by decide +kernel
theorem dX0_runSays_154 : decode cX0_runSays 154 = .ok (.ireturn, 1) := by decide +kernel
theorem dX0_runTells_0 : decode cX0_runTells 0 = .ok (.iload_n 3, 1) := by decide +kernel
theorem dX0_runTells_1 : decode cX0_runTells 1 = .ok (.bipush 40, 2) := by decide +kernel
theorem dX0_runTells_3 : decode cX0_runTells 3 = .ok (.if_icmp .le 5, 3) := by decide +kernel
theorem dX0_runTells_6 : decode cX0_runTells 6 = .ok (.iconst 0, 1) := by decide +kernel
theorem dX0_runTells_7 : decode cX0_runTells 7 = .ok (.ireturn, 1) := by decide +kernel
theorem dX0_runTells_8 : decode cX0_runTells 8 = .ok (.iload_n 1, 1) := by decide +kernel
theorem dX0_runTells_9 : decode cX0_runTells 9 = .ok (.tableswitch 119 1 6 #[89, 89, 39, 99, 68, 109], 39) := by decide +kernel
theorem dX0_runTells_48 : decode cX0_runTells 48 = .ok (.aload_n 0, 1) := by decide +kernel
theorem dX0_runTells_49 : decode cX0_runTells 49 = .ok (.bipush 40, 2) := by decide +kernel
theorem dX0_runTells_51 : decode cX0_runTells 51 = .ok (.invokevirtual 38, 3) := by decide +kernel
theorem dX0_runTells_54 : decode cX0_runTells 54 = .ok (.aload_n 0, 1) := by decide +kernel
theorem dX0_runTells_55 : decode cX0_runTells 55 = .ok (.iconst 0, 1) := by decide +kernel
theorem dX0_runTells_56 : decode cX0_runTells 56 = .ok (.iload_n 2, 1) := by decide +kernel
theorem dX0_runTells_57 : decode cX0_runTells 57 = .ok (.iload_n 3, 1) := by decide +kernel
theorem dX0_runTells_58 : decode cX0_runTells 58 = .ok (.iconst 1, 1) := by decide +kernel
theorem dX0_runTells_59 : decode cX0_runTells 59 = .ok (.iadd, 1) := by decide +kernel
theorem dX0_runTells_60 : decode cX0_runTells 60 = .ok (.invokevirtual 35, 3) := by decide +kernel
theorem dX0_runTells_63 : decode cX0_runTells 63 = .ok (.aload_n 0, 1) := by decide +kernel
theorem dX0_runTells_64 : decode cX0_runTells 64 = .ok (.aload_n 0, 1) := by decide +kernel
theorem dX0_runTells_65 : decode cX0_runTells 65 = .ok (.getfield 19, 3) := by decide +kernel
theorem dX0_runTells_68 : decode cX0_runTells 68 = .ok (.iconst 1, 1) := by decide +kernel
theorem dX0_runTells_69 : decode cX0_runTells 69 = .ok (.iload_n 3, 1) := by decide +kernel
theorem dX0_runTells_70 : decode cX0_runTells 70 = .ok (.iconst 1, 1) := by decide +kernel
theorem dX0_runTells_71 : decode cX0_runTells 71 = .ok (.iadd, 1) := by decide +kernel
theorem dX0_runTells_72 : decode cX0_runTells 72 = .ok (.invokevirtual 32, 3) := by decide +kernel
theorem dX0_runTells_75 : decode cX0_runTells 75 = .ok (.iadd, 1) := by decide +kernel
theorem dX0_runTells_76 : decode cX0_runTells 76 = .ok (.ireturn, 1) := by decide +kernel
theorem dX0_runTells_77 : decode cX0_runTells 77 = .ok (.aload_n 0, 1) := by decide +kernel
theorem dX0_runTells_78 : decode cX0_runTells 78 = .ok (.bipush 60, 2) := by decide +kernel
theorem dX0_runTells_80 : decode cX0_runTells 80 = .ok (.invokevirtual 38, 3) := by decide +kernel
theorem dX0_runTells_83 : decode cX0_runTells 83 = .ok (.aload_n 0, 1) := by decide +kernel
theorem dX0_runTells_84 : decode cX0_runTells 84 = .ok (.iconst 2, 1) := by decide +kernel
theorem dX0_runTells_85 : decode cX0_runTells 85 = .ok (.iload_n 2, 1) := by decide +kernel
theorem dX0_runTells_86 : decode cX0_runTells 86 = .ok (.aload_n 0, 1) := by decide +kernel
theorem dX0_runTells_87 : decode cX0_runTells 87 = .ok (.getfield 25, 3) := by decide +kernel
theorem dX0_runTells_90 : decode cX0_runTells 90 = .ok (.isub, 1) := by decide +kernel
theorem dX0_runTells_91 : decode cX0_runTells 91 = .ok (.iload_n 3, 1) := by decide +kernel
theorem dX0_runTells_92 : decode cX0_runTells 92 = .ok (.iconst 1, 1) := by decide +kernel
theorem dX0_runTells_93 : decode cX0_runTells 93 = .ok (.iadd, 1) := by decide +kernel
theorem dX0_runTells_94 : decode cX0_runTells 94 = .ok (.invokevirtual 35, 3) := by decide +kernel
theorem dX0_runTells_97 : decode cX0_runTells 97 = .ok (.ireturn, 1) := by decide +kernel
theorem dX0_runTells_98 : decode cX0_runTells 98 = .ok (.aload_n 0, 1) := by decide +kernel
theorem dX0_runTells_99 : decode cX0_runTells 99 = .ok (.iconst 0, 1) := by decide +kernel
theorem dX0_runTells_100 : decode cX0_runTells 100 = .ok (.iload_n 2, 1) := by decide +kernel
theorem dX0_runTells_101 : decode cX0_runTells 101 = .ok (.iload_n 3, 1) := by decide +kernel
theorem dX0_runTells_102 : decode cX0_runTells 102 = .ok (.iconst 1, 1) := by decide +kernel
theorem dX0_runTells_103 : decode cX0_runTells 103 = .ok (.iadd, 1) := by decide +kernel
theorem dX0_runTells_104 : decode cX0_runTells 104 = .ok (.invokevirtual 35, 3) := by decide +kernel
theorem dX0_runTells_107 : decode cX0_runTells 107 = .ok (.ireturn, 1) := by decide +kernel
theorem dX0_runTells_108 : decode cX0_runTells 108 = .ok (.aload_n 0, 1) := by decide +kernel
theorem dX0_runTells_109 : decode cX0_runTells 109 = .ok (.iconst 1, 1) := by decide +kernel
theorem dX0_runTells_110 : decode cX0_runTells 110 = .ok (.iload_n 2, 1) := by decide +kernel
theorem dX0_runTells_111 : decode cX0_runTells 111 = .ok (.iload_n 3, 1) := by decide +kernel
theorem dX0_runTells_112 : decode cX0_runTells 112 = .ok (.iconst 1, 1) := by decide +kernel
theorem dX0_runTells_113 : decode cX0_runTells 113 = .ok (.iadd, 1) := by decide +kernel
theorem dX0_runTells_114 : decode cX0_runTells 114 = .ok (.invokevirtual 35, 3) := by decide +kernel
theorem dX0_runTells_117 : decode cX0_runTells 117 = .ok (.ireturn, 1) := by decide +kernel
theorem dX0_runTells_118 : decode cX0_runTells 118 = .ok (.aload_n 0, 1) := by decide +kernel
theorem dX0_runTells_119 : decode cX0_runTells 119 = .ok (.iconst 3, 1) := by decide +kernel
theorem dX0_runTells_120 : decode cX0_runTells 120 = .ok (.iload_n 2, 1) := by decide +kernel
theorem dX0_runTells_121 : decode cX0_runTells 121 = .ok (.iload_n 3, 1) := by decide +kernel
theorem dX0_runTells_122 : decode cX0_runTells 122 = .ok (.iconst 1, 1) := by decide +kernel
theorem dX0_runTells_123 : decode cX0_runTells 123 = .ok (.iadd, 1) := by decide +kernel
theorem dX0_runTells_124 : decode cX0_runTells 124 = .ok (.invokevirtual 35, 3) := by decide +kernel
theorem dX0_runTells_127 : decode cX0_runTells 127 = .ok (.ireturn, 1) := by decide +kernel
theorem dX0_runTells_128 : decode cX0_runTells 128 = .ok (.aload_n 0, 1) := by decide +kernel
theorem dX0_runTells_129 : decode cX0_runTells 129 = .ok (.bipush 12, 2) := by decide +kernel
theorem dX0_runTells_131 : decode cX0_runTells 131 = .ok (.invokevirtual 38, 3) := by decide +kernel
theorem dX0_runTells_134 : decode cX0_runTells 134 = .ok (.aload_n 0, 1) := by decide +kernel
theorem dX0_runTells_135 : decode cX0_runTells 135 = .ok (.aload_n 0, 1) := by decide +kernel
theorem dX0_runTells_136 : decode cX0_runTells 136 = .ok (.getfield 19, 3) := by decide +kernel
theorem dX0_runTells_139 : decode cX0_runTells 139 = .ok (.iload_n 2, 1) := by decide +kernel
theorem dX0_runTells_140 : decode cX0_runTells 140 = .ok (.iload_n 3, 1) := by decide +kernel
theorem dX0_runTells_141 : decode cX0_runTells 141 = .ok (.iconst 1, 1) := by decide +kernel
theorem dX0_runTells_142 : decode cX0_runTells 142 = .ok (.iadd, 1) := by decide +kernel
theorem dX0_runTells_143 : decode cX0_runTells 143 = .ok (.invokevirtual 32, 3) := by decide +kernel
theorem dX0_runTells_146 : decode cX0_runTells 146 = .ok (.iconst 2, 1) := by decide +kernel
theorem dX0_runTells_147 : decode cX0_runTells 147 = .ok (.imul, 1) := by decide +kernel
theorem dX0_runTells_148 : decode cX0_runTells 148 = .ok (.ireturn, 1) := by decide +kernel
theorem dX1_init_0 : decode cX1_init 0 = .ok (.aload_n 0, 1) := by decide +kernel
theorem dX1_init_1 : decode cX1_init 1 = .ok (.invokespecial 3, 3) := by decide +kernel
theorem dX1_init_4 : decode cX1_init 4 = .ok (.aload_n 0, 1) := by decide +kernel
theorem dX1_init_5 : decode cX1_init 5 = .ok (.bipush 8, 2) := by decide +kernel
theorem dX1_init_7 : decode cX1_init 7 = .ok (.newarray .int, 2) := by decide +kernel
theorem dX1_init_9 : decode cX1_init 9 = .ok (.putfield 9, 3) := by decide +kernel
theorem dX1_init_12 : decode cX1_init 12 = .ok (.aload_n 0, 1) := by decide +kernel
theorem dX1_init_13 : decode cX1_init 13 = .ok (.bipush 8, 2) := by decide +kernel
theorem dX1_init_15 : decode cX1_init 15 = .ok (.newarray .int, 2) := by decide +kernel
theorem dX1_init_17 : decode cX1_init 17 = .ok (.putfield 15, 3) := by decide +kernel
theorem dX1_init_20 : decode cX1_init 20 = .ok (.aload_n 0, 1) := by decide +kernel
theorem dX1_init_21 : decode cX1_init 21 = .ok (.bipush 12, 2) := by decide +kernel
theorem dX1_init_23 : decode cX1_init 23 = .ok (.newarray .int, 2) := by decide +kernel
theorem dX1_init_25 : decode cX1_init 25 = .ok (.putfield 18, 3) := by decide +kernel
theorem dX1_init_28 : decode cX1_init 28 = .ok (.return_, 1) := by decide +kernel
theorem dX1_takeFrom_0 : decode cX1_takeFrom 0 = .ok (.aload_n 0, 1) := by decide +kernel
theorem dX1_takeFrom_1 : decode cX1_takeFrom 1 = .ok (.aload_n 1, 1) := by decide +kernel
theorem dX1_takeFrom_2 : decode cX1_takeFrom 2 = .ok (.getfield 21, 3) := by decide +kernel
theorem dX1_takeFrom_5 : decode cX1_takeFrom 5 = .ok (.putfield 21, 3) := by decide +kernel
theorem dX1_takeFrom_8 : decode cX1_takeFrom 8 = .ok (.aload_n 1, 1) := by decide +kernel
theorem dX1_takeFrom_9 : decode cX1_takeFrom 9 = .ok (.getfield 9, 3) := by decide +kernel
theorem dX1_takeFrom_12 : decode cX1_takeFrom 12 = .ok (.iconst 0, 1) := by decide +kernel
theorem dX1_takeFrom_13 : decode cX1_takeFrom 13 = .ok (.aload_n 0, 1) := by decide +kernel
theorem dX1_takeFrom_14 : decode cX1_takeFrom 14 = .ok (.getfield 9, 3) := by decide +kernel
theorem dX1_takeFrom_17 : decode cX1_takeFrom 17 = .ok (.iconst 0, 1) := by decide +kernel
theorem dX1_takeFrom_18 : decode cX1_takeFrom 18 = .ok (.bipush 8, 2) := by decide +kernel
theorem dX1_takeFrom_20 : decode cX1_takeFrom 20 = .ok (.invokestatic 25, 3) := by decide +kernel
theorem dX1_takeFrom_23 : decode cX1_takeFrom 23 = .ok (.aload_n 1, 1) := by decide +kernel
theorem dX1_takeFrom_24 : decode cX1_takeFrom 24 = .ok (.getfield 15, 3) := by decide +kernel
theorem dX1_takeFrom_27 : decode cX1_takeFrom 27 = .ok (.iconst 0, 1) := by decide +kernel
theorem dX1_takeFrom_28 : decode cX1_takeFrom 28 = .ok (.aload_n 0, 1) := by decide +kernel
theorem dX1_takeFrom_29 : decode cX1_takeFrom 29 = .ok (.getfield 15, 3) := by decide +kernel
theorem dX1_takeFrom_32 : decode cX1_takeFrom 32 = .ok (.iconst 0, 1) := by decide +kernel
theorem dX1_takeFrom_33 : decode cX1_takeFrom 33 = .ok (.bipush 8, 2) := by decide +kernel
theorem dX1_takeFrom_35 : decode cX1_takeFrom 35 = .ok (.invokestatic 25, 3) := by decide +kernel
theorem dX1_takeFrom_38 : decode cX1_takeFrom 38 = .ok (.aload_n 0, 1) := by decide +kernel
theorem dX1_takeFrom_39 : decode cX1_takeFrom 39 = .ok (.aload_n 1, 1) := by decide +kernel
theorem dX1_takeFrom_40 : decode cX1_takeFrom 40 = .ok (.getfield 31, 3) := by decide +kernel
theorem dX1_takeFrom_43 : decode cX1_takeFrom 43 = .ok (.putfield 31, 3) := by decide +kernel
theorem dX1_takeFrom_46 : decode cX1_takeFrom 46 = .ok (.aload_n 1, 1) := by decide +kernel
theorem dX1_takeFrom_47 : decode cX1_takeFrom 47 = .ok (.getfield 18, 3) := by decide +kernel
theorem dX1_takeFrom_50 : decode cX1_takeFrom 50 = .ok (.iconst 0, 1) := by decide +kernel
theorem dX1_takeFrom_51 : decode cX1_takeFrom 51 = .ok (.aload_n 0, 1) := by decide +kernel
theorem dX1_takeFrom_52 : decode cX1_takeFrom 52 = .ok (.getfield 18, 3) := by decide +kernel
theorem dX1_takeFrom_55 : decode cX1_takeFrom 55 = .ok (.iconst 0, 1) := by decide +kernel
theorem dX1_takeFrom_56 : decode cX1_takeFrom 56 = .ok (.bipush 12, 2) := by decide +kernel
theorem dX1_takeFrom_58 : decode cX1_takeFrom 58 = .ok (.invokestatic 25, 3) := by decide +kernel
theorem dX1_takeFrom_61 : decode cX1_takeFrom 61 = .ok (.return_, 1) := by decide +kernel
theorem dX1_addSeen_0 : decode cX1_addSeen 0 = .ok (.aload_n 0, 1) := by decide +kernel
theorem dX1_addSeen_1 : decode cX1_addSeen 1 = .ok (.getfield 21, 3) := by decide +kernel
theorem dX1_addSeen_4 : decode cX1_addSeen 4 = .ok (.bipush 8, 2) := by decide +kernel
theorem dX1_addSeen_6 : decode cX1_addSeen 6 = .ok (.if_icmp .lt 6, 3) := by decide +kernel
theorem dX1_addSeen_9 : decode cX1_addSeen 9 = .ok (.bipush (-4), 2) := by decide +kernel
theorem dX1_addSeen_11 : decode cX1_addSeen 11 = .ok (.ireturn, 1) := by decide +kernel
theorem dX1_addSeen_12 : decode cX1_addSeen 12 = .ok (.aload_n 0, 1) := by decide +kernel
theorem dX1_addSeen_13 : decode cX1_addSeen 13 = .ok (.getfield 9, 3) := by decide +kernel
theorem dX1_addSeen_16 : decode cX1_addSeen 16 = .ok (.aload_n 0, 1) := by decide +kernel
theorem dX1_addSeen_17 : decode cX1_addSeen 17 = .ok (.getfield 21, 3) := by decide +kernel
theorem dX1_addSeen_20 : decode cX1_addSeen 20 = .ok (.iload_n 1, 1) := by decide +kernel
theorem dX1_addSeen_21 : decode cX1_addSeen 21 = .ok (.iastore, 1) := by decide +kernel
theorem dX1_addSeen_22 : decode cX1_addSeen 22 = .ok (.aload_n 0, 1) := by decide +kernel
theorem dX1_addSeen_23 : decode cX1_addSeen 23 = .ok (.getfield 15, 3) := by decide +kernel
theorem dX1_addSeen_26 : decode cX1_addSeen 26 = .ok (.aload_n 0, 1) := by decide +kernel
theorem dX1_addSeen_27 : decode cX1_addSeen 27 = .ok (.getfield 21, 3) := by decide +kernel
theorem dX1_addSeen_30 : decode cX1_addSeen 30 = .ok (.iload_n 2, 1) := by decide +kernel
theorem dX1_addSeen_31 : decode cX1_addSeen 31 = .ok (.iastore, 1) := by decide +kernel
theorem dX1_addSeen_32 : decode cX1_addSeen 32 = .ok (.aload_n 0, 1) := by decide +kernel
theorem dX1_addSeen_33 : decode cX1_addSeen 33 = .ok (.dup, 1) := by decide +kernel
theorem dX1_addSeen_34 : decode cX1_addSeen 34 = .ok (.getfield 21, 3) := by decide +kernel
theorem dX1_addSeen_37 : decode cX1_addSeen 37 = .ok (.iconst 1, 1) := by decide +kernel
theorem dX1_addSeen_38 : decode cX1_addSeen 38 = .ok (.iadd, 1) := by decide +kernel
theorem dX1_addSeen_39 : decode cX1_addSeen 39 = .ok (.putfield 21, 3) := by decide +kernel
theorem dX1_addSeen_42 : decode cX1_addSeen 42 = .ok (.aload_n 0, 1) := by decide +kernel
theorem dX1_addSeen_43 : decode cX1_addSeen 43 = .ok (.getfield 21, 3) := by decide +kernel
theorem dX1_addSeen_46 : decode cX1_addSeen 46 = .ok (.ireturn, 1) := by decide +kernel
theorem dX1_addBook_0 : decode cX1_addBook 0 = .ok (.aload_n 0, 1) := by decide +kernel
theorem dX1_addBook_1 : decode cX1_addBook 1 = .ok (.getfield 31, 3) := by decide +kernel
theorem dX1_addBook_4 : decode cX1_addBook 4 = .ok (.bipush 12, 2) := by decide +kernel
theorem dX1_addBook_6 : decode cX1_addBook 6 = .ok (.if_icmp .lt 6, 3) := by decide +kernel
theorem dX1_addBook_9 : decode cX1_addBook 9 = .ok (.bipush (-4), 2) := by decide +kernel
theorem dX1_addBook_11 : decode cX1_addBook 11 = .ok (.ireturn, 1) := by decide +kernel
theorem dX1_addBook_12 : decode cX1_addBook 12 = .ok (.aload_n 0, 1) := by decide +kernel
theorem dX1_addBook_13 : decode cX1_addBook 13 = .ok (.getfield 18, 3) := by decide +kernel
theorem dX1_addBook_16 : decode cX1_addBook 16 = .ok (.aload_n 0, 1) := by decide +kernel
theorem dX1_addBook_17 : decode cX1_addBook 17 = .ok (.getfield 31, 3) := by decide +kernel
theorem dX1_addBook_20 : decode cX1_addBook 20 = .ok (.iload_n 1, 1) := by decide +kernel
theorem dX1_addBook_21 : decode cX1_addBook 21 = .ok (.iastore, 1) := by decide +kernel
theorem dX1_addBook_22 : decode cX1_addBook 22 = .ok (.aload_n 0, 1) := by decide +kernel
theorem dX1_addBook_23 : decode cX1_addBook 23 = .ok (.dup, 1) := by decide +kernel
theorem dX1_addBook_24 : decode cX1_addBook 24 = .ok (.getfield 31, 3) := by decide +kernel
theorem dX1_addBook_27 : decode cX1_addBook 27 = .ok (.iconst 1, 1) := by decide +kernel
theorem dX1_addBook_28 : decode cX1_addBook 28 = .ok (.iadd, 1) := by decide +kernel
theorem dX1_addBook_29 : decode cX1_addBook 29 = .ok (.putfield 31, 3) := by decide +kernel
theorem dX1_addBook_32 : decode cX1_addBook 32 = .ok (.aload_n 0, 1) := by decide +kernel
theorem dX1_addBook_33 : decode cX1_addBook 33 = .ok (.getfield 31, 3) := by decide +kernel
theorem dX1_addBook_36 : decode cX1_addBook 36 = .ok (.ireturn, 1) := by decide +kernel
theorem dX2_init_0 : decode cX2_init 0 = .ok (.aload_n 0, 1) := by decide +kernel
theorem dX2_init_1 : decode cX2_init 1 = .ok (.invokespecial 3, 3) := by decide +kernel
theorem dX2_init_4 : decode cX2_init 4 = .ok (.aload_n 0, 1) := by decide +kernel
theorem dX2_init_5 : decode cX2_init 5 = .ok (.bipush 10, 2) := by decide +kernel
theorem dX2_init_7 : decode cX2_init 7 = .ok (.newarray .int, 2) := by decide +kernel
theorem dX2_init_9 : decode cX2_init 9 = .ok (.putfield 9, 3) := by decide +kernel
theorem dX2_init_12 : decode cX2_init 12 = .ok (.aload_n 0, 1) := by decide +kernel
theorem dX2_init_13 : decode cX2_init 13 = .ok (.bipush 10, 2) := by decide +kernel
theorem dX2_init_15 : decode cX2_init 15 = .ok (.newarray .int, 2) := by decide +kernel
theorem dX2_init_17 : decode cX2_init 17 = .ok (.putfield 15, 3) := by decide +kernel
theorem dX2_init_20 : decode cX2_init 20 = .ok (.aload_n 0, 1) := by decide +kernel
theorem dX2_init_21 : decode cX2_init 21 = .ok (.bipush 100, 2) := by decide +kernel
theorem dX2_init_23 : decode cX2_init 23 = .ok (.newarray .int, 2) := by decide +kernel
theorem dX2_init_25 : decode cX2_init 25 = .ok (.putfield 18, 3) := by decide +kernel
theorem dX2_init_28 : decode cX2_init 28 = .ok (.aload_n 0, 1) := by decide +kernel
theorem dX2_init_29 : decode cX2_init 29 = .ok (.bipush 100, 2) := by decide +kernel
theorem dX2_init_31 : decode cX2_init 31 = .ok (.newarray .int, 2) := by decide +kernel
theorem dX2_init_33 : decode cX2_init 33 = .ok (.putfield 21, 3) := by decide +kernel
theorem dX2_init_36 : decode cX2_init 36 = .ok (.aload_n 0, 1) := by decide +kernel
theorem dX2_init_37 : decode cX2_init 37 = .ok (.bipush 100, 2) := by decide +kernel
theorem dX2_init_39 : decode cX2_init 39 = .ok (.newarray .int, 2) := by decide +kernel
theorem dX2_init_41 : decode cX2_init 41 = .ok (.putfield 24, 3) := by decide +kernel
theorem dX2_init_44 : decode cX2_init 44 = .ok (.return_, 1) := by decide +kernel
theorem dX2_clear_0 : decode cX2_clear 0 = .ok (.aload_n 0, 1) := by decide +kernel
theorem dX2_clear_1 : decode cX2_clear 1 = .ok (.iconst 0, 1) := by decide +kernel
theorem dX2_clear_2 : decode cX2_clear 2 = .ok (.putfield 27, 3) := by decide +kernel
theorem dX2_clear_5 : decode cX2_clear 5 = .ok (.aload_n 0, 1) := by decide +kernel
theorem dX2_clear_6 : decode cX2_clear 6 = .ok (.iconst 0, 1) := by decide +kernel
theorem dX2_clear_7 : decode cX2_clear 7 = .ok (.putfield 31, 3) := by decide +kernel
theorem dX2_clear_10 : decode cX2_clear 10 = .ok (.aload_n 0, 1) := by decide +kernel
theorem dX2_clear_11 : decode cX2_clear 11 = .ok (.iconst 0, 1) := by decide +kernel
theorem dX2_clear_12 : decode cX2_clear 12 = .ok (.putfield 35, 3) := by decide +kernel
theorem dX2_clear_15 : decode cX2_clear 15 = .ok (.return_, 1) := by decide +kernel
theorem dX2_takeFrom_0 : decode cX2_takeFrom 0 = .ok (.aload_n 0, 1) := by decide +kernel
theorem dX2_takeFrom_1 : decode cX2_takeFrom 1 = .ok (.aload_n 1, 1) := by decide +kernel
theorem dX2_takeFrom_2 : decode cX2_takeFrom 2 = .ok (.getfield 27, 3) := by decide +kernel
theorem dX2_takeFrom_5 : decode cX2_takeFrom 5 = .ok (.putfield 27, 3) := by decide +kernel
theorem dX2_takeFrom_8 : decode cX2_takeFrom 8 = .ok (.aload_n 0, 1) := by decide +kernel
theorem dX2_takeFrom_9 : decode cX2_takeFrom 9 = .ok (.aload_n 1, 1) := by decide +kernel
theorem dX2_takeFrom_10 : decode cX2_takeFrom 10 = .ok (.getfield 31, 3) := by decide +kernel
theorem dX2_takeFrom_13 : decode cX2_takeFrom 13 = .ok (.putfield 31, 3) := by decide +kernel
theorem dX2_takeFrom_16 : decode cX2_takeFrom 16 = .ok (.aload_n 0, 1) := by decide +kernel
theorem dX2_takeFrom_17 : decode cX2_takeFrom 17 = .ok (.aload_n 1, 1) := by decide +kernel
theorem dX2_takeFrom_18 : decode cX2_takeFrom 18 = .ok (.getfield 35, 3) := by decide +kernel
theorem dX2_takeFrom_21 : decode cX2_takeFrom 21 = .ok (.putfield 35, 3) := by decide +kernel
theorem dX2_takeFrom_24 : decode cX2_takeFrom 24 = .ok (.aload_n 1, 1) := by decide +kernel
theorem dX2_takeFrom_25 : decode cX2_takeFrom 25 = .ok (.getfield 9, 3) := by decide +kernel
theorem dX2_takeFrom_28 : decode cX2_takeFrom 28 = .ok (.iconst 0, 1) := by decide +kernel
theorem dX2_takeFrom_29 : decode cX2_takeFrom 29 = .ok (.aload_n 0, 1) := by decide +kernel
theorem dX2_takeFrom_30 : decode cX2_takeFrom 30 = .ok (.getfield 9, 3) := by decide +kernel
theorem dX2_takeFrom_33 : decode cX2_takeFrom 33 = .ok (.iconst 0, 1) := by decide +kernel
theorem dX2_takeFrom_34 : decode cX2_takeFrom 34 = .ok (.bipush 10, 2) := by decide +kernel
theorem dX2_takeFrom_36 : decode cX2_takeFrom 36 = .ok (.invokestatic 38, 3) := by decide +kernel
theorem dX2_takeFrom_39 : decode cX2_takeFrom 39 = .ok (.aload_n 1, 1) := by decide +kernel
theorem dX2_takeFrom_40 : decode cX2_takeFrom 40 = .ok (.getfield 15, 3) := by decide +kernel
theorem dX2_takeFrom_43 : decode cX2_takeFrom 43 = .ok (.iconst 0, 1) := by decide +kernel
theorem dX2_takeFrom_44 : decode cX2_takeFrom 44 = .ok (.aload_n 0, 1) := by decide +kernel
theorem dX2_takeFrom_45 : decode cX2_takeFrom 45 = .ok (.getfield 15, 3) := by decide +kernel
theorem dX2_takeFrom_48 : decode cX2_takeFrom 48 = .ok (.iconst 0, 1) := by decide +kernel
theorem dX2_takeFrom_49 : decode cX2_takeFrom 49 = .ok (.bipush 10, 2) := by decide +kernel
theorem dX2_takeFrom_51 : decode cX2_takeFrom 51 = .ok (.invokestatic 38, 3) := by decide +kernel
theorem dX2_takeFrom_54 : decode cX2_takeFrom 54 = .ok (.aload_n 1, 1) := by decide +kernel
theorem dX2_takeFrom_55 : decode cX2_takeFrom 55 = .ok (.getfield 18, 3) := by decide +kernel
theorem dX2_takeFrom_58 : decode cX2_takeFrom 58 = .ok (.iconst 0, 1) := by decide +kernel
theorem dX2_takeFrom_59 : decode cX2_takeFrom 59 = .ok (.aload_n 0, 1) := by decide +kernel
theorem dX2_takeFrom_60 : decode cX2_takeFrom 60 = .ok (.getfield 18, 3) := by decide +kernel
theorem dX2_takeFrom_63 : decode cX2_takeFrom 63 = .ok (.iconst 0, 1) := by decide +kernel
theorem dX2_takeFrom_64 : decode cX2_takeFrom 64 = .ok (.bipush 100, 2) := by decide +kernel
theorem dX2_takeFrom_66 : decode cX2_takeFrom 66 = .ok (.invokestatic 38, 3) := by decide +kernel
theorem dX2_takeFrom_69 : decode cX2_takeFrom 69 = .ok (.aload_n 1, 1) := by decide +kernel
theorem dX2_takeFrom_70 : decode cX2_takeFrom 70 = .ok (.getfield 21, 3) := by decide +kernel
theorem dX2_takeFrom_73 : decode cX2_takeFrom 73 = .ok (.iconst 0, 1) := by decide +kernel
theorem dX2_takeFrom_74 : decode cX2_takeFrom 74 = .ok (.aload_n 0, 1) := by decide +kernel
theorem dX2_takeFrom_75 : decode cX2_takeFrom 75 = .ok (.getfield 21, 3) := by decide +kernel
theorem dX2_takeFrom_78 : decode cX2_takeFrom 78 = .ok (.iconst 0, 1) := by decide +kernel
theorem dX2_takeFrom_79 : decode cX2_takeFrom 79 = .ok (.bipush 100, 2) := by decide +kernel
theorem dX2_takeFrom_81 : decode cX2_takeFrom 81 = .ok (.invokestatic 38, 3) := by decide +kernel
theorem dX2_takeFrom_84 : decode cX2_takeFrom 84 = .ok (.aload_n 1, 1) := by decide +kernel
theorem dX2_takeFrom_85 : decode cX2_takeFrom 85 = .ok (.getfield 24, 3) := by decide +kernel
theorem dX2_takeFrom_88 : decode cX2_takeFrom 88 = .ok (.iconst 0, 1) := by decide +kernel
theorem dX2_takeFrom_89 : decode cX2_takeFrom 89 = .ok (.aload_n 0, 1) := by decide +kernel
theorem dX2_takeFrom_90 : decode cX2_takeFrom 90 = .ok (.getfield 24, 3) := by decide +kernel
theorem dX2_takeFrom_93 : decode cX2_takeFrom 93 = .ok (.iconst 0, 1) := by decide +kernel
theorem dX2_takeFrom_94 : decode cX2_takeFrom 94 = .ok (.bipush 100, 2) := by decide +kernel
theorem dX2_takeFrom_96 : decode cX2_takeFrom 96 = .ok (.invokestatic 38, 3) := by decide +kernel
theorem dX2_takeFrom_99 : decode cX2_takeFrom 99 = .ok (.return_, 1) := by decide +kernel
theorem dX2_put_0 : decode cX2_put 0 = .ok (.aload_n 0, 1) := by decide +kernel
theorem dX2_put_1 : decode cX2_put 1 = .ok (.getfield 35, 3) := by decide +kernel
theorem dX2_put_4 : decode cX2_put 4 = .ok (.bipush 100, 2) := by decide +kernel
theorem dX2_put_6 : decode cX2_put 6 = .ok (.if_icmp .ge 43, 3) := by decide +kernel
theorem dX2_put_9 : decode cX2_put 9 = .ok (.aload_n 0, 1) := by decide +kernel
theorem dX2_put_10 : decode cX2_put 10 = .ok (.getfield 18, 3) := by decide +kernel
theorem dX2_put_13 : decode cX2_put 13 = .ok (.aload_n 0, 1) := by decide +kernel
theorem dX2_put_14 : decode cX2_put 14 = .ok (.getfield 35, 3) := by decide +kernel
theorem dX2_put_17 : decode cX2_put 17 = .ok (.iload_n 1, 1) := by decide +kernel
theorem dX2_put_18 : decode cX2_put 18 = .ok (.iastore, 1) := by decide +kernel
theorem dX2_put_19 : decode cX2_put 19 = .ok (.aload_n 0, 1) := by decide +kernel
theorem dX2_put_20 : decode cX2_put 20 = .ok (.getfield 21, 3) := by decide +kernel
theorem dX2_put_23 : decode cX2_put 23 = .ok (.aload_n 0, 1) := by decide +kernel
theorem dX2_put_24 : decode cX2_put 24 = .ok (.getfield 35, 3) := by decide +kernel
theorem dX2_put_27 : decode cX2_put 27 = .ok (.iload_n 2, 1) := by decide +kernel
theorem dX2_put_28 : decode cX2_put 28 = .ok (.iastore, 1) := by decide +kernel
theorem dX2_put_29 : decode cX2_put 29 = .ok (.aload_n 0, 1) := by decide +kernel
theorem dX2_put_30 : decode cX2_put 30 = .ok (.getfield 24, 3) := by decide +kernel
theorem dX2_put_33 : decode cX2_put 33 = .ok (.aload_n 0, 1) := by decide +kernel
theorem dX2_put_34 : decode cX2_put 34 = .ok (.getfield 35, 3) := by decide +kernel
theorem dX2_put_37 : decode cX2_put 37 = .ok (.iload_n 3, 1) := by decide +kernel
theorem dX2_put_38 : decode cX2_put 38 = .ok (.iastore, 1) := by decide +kernel
theorem dX2_put_39 : decode cX2_put 39 = .ok (.aload_n 0, 1) := by decide +kernel
theorem dX2_put_40 : decode cX2_put 40 = .ok (.dup, 1) := by decide +kernel
theorem dX2_put_41 : decode cX2_put 41 = .ok (.getfield 35, 3) := by decide +kernel
theorem dX2_put_44 : decode cX2_put 44 = .ok (.iconst 1, 1) := by decide +kernel
theorem dX2_put_45 : decode cX2_put 45 = .ok (.iadd, 1) := by decide +kernel
theorem dX2_put_46 : decode cX2_put 46 = .ok (.putfield 35, 3) := by decide +kernel
theorem dX2_put_49 : decode cX2_put 49 = .ok (.return_, 1) := by decide +kernel
theorem dX2_close_0 : decode cX2_close 0 = .ok (.aload_n 0, 1) := by decide +kernel
theorem dX2_close_1 : decode cX2_close 1 = .ok (.getfield 31, 3) := by decide +kernel
theorem dX2_close_4 : decode cX2_close 4 = .ok (.bipush 10, 2) := by decide +kernel
theorem dX2_close_6 : decode cX2_close 6 = .ok (.if_icmp .lt 5, 3) := by decide +kernel
theorem dX2_close_9 : decode cX2_close 9 = .ok (.iconst 0, 1) := by decide +kernel
theorem dX2_close_10 : decode cX2_close 10 = .ok (.ireturn, 1) := by decide +kernel
theorem dX2_close_11 : decode cX2_close 11 = .ok (.aload_n 0, 1) := by decide +kernel
theorem dX2_close_12 : decode cX2_close 12 = .ok (.getfield 9, 3) := by decide +kernel
theorem dX2_close_15 : decode cX2_close 15 = .ok (.aload_n 0, 1) := by decide +kernel
theorem dX2_close_16 : decode cX2_close 16 = .ok (.getfield 31, 3) := by decide +kernel
theorem dX2_close_19 : decode cX2_close 19 = .ok (.iload_n 1, 1) := by decide +kernel
theorem dX2_close_20 : decode cX2_close 20 = .ok (.iastore, 1) := by decide +kernel
theorem dX2_close_21 : decode cX2_close 21 = .ok (.aload_n 0, 1) := by decide +kernel
theorem dX2_close_22 : decode cX2_close 22 = .ok (.getfield 15, 3) := by decide +kernel
theorem dX2_close_25 : decode cX2_close 25 = .ok (.aload_n 0, 1) := by decide +kernel
theorem dX2_close_26 : decode cX2_close 26 = .ok (.getfield 31, 3) := by decide +kernel
theorem dX2_close_29 : decode cX2_close 29 = .ok (.aload_n 0, 1) := by decide +kernel
theorem dX2_close_30 : decode cX2_close 30 = .ok (.getfield 35, 3) := by decide +kernel
theorem dX2_close_33 : decode cX2_close 33 = .ok (.iastore, 1) := by decide +kernel
theorem dX2_close_34 : decode cX2_close 34 = .ok (.aload_n 0, 1) := by decide +kernel
theorem dX2_close_35 : decode cX2_close 35 = .ok (.dup, 1) := by decide +kernel
theorem dX2_close_36 : decode cX2_close 36 = .ok (.getfield 31, 3) := by decide +kernel
theorem dX2_close_39 : decode cX2_close 39 = .ok (.iconst 1, 1) := by decide +kernel
theorem dX2_close_40 : decode cX2_close 40 = .ok (.iadd, 1) := by decide +kernel
theorem dX2_close_41 : decode cX2_close 41 = .ok (.putfield 31, 3) := by decide +kernel
theorem dX2_close_44 : decode cX2_close 44 = .ok (.iconst 1, 1) := by decide +kernel
theorem dX2_close_45 : decode cX2_close 45 = .ok (.ireturn, 1) := by decide +kernel
theorem dX2_addsBy_0 : decode cX2_addsBy 0 = .ok (.iconst 0, 1) := by decide +kernel
theorem dX2_addsBy_1 : decode cX2_addsBy 1 = .ok (.istore_n 2, 1) := by decide +kernel
theorem dX2_addsBy_2 : decode cX2_addsBy 2 = .ok (.iconst 0, 1) := by decide +kernel
theorem dX2_addsBy_3 : decode cX2_addsBy 3 = .ok (.istore_n 3, 1) := by decide +kernel
theorem dX2_addsBy_4 : decode cX2_addsBy 4 = .ok (.iconst 0, 1) := by decide +kernel
theorem dX2_addsBy_5 : decode cX2_addsBy 5 = .ok (.istore 4, 2) := by decide +kernel
theorem dX2_addsBy_7 : decode cX2_addsBy 7 = .ok (.iload 4, 2) := by decide +kernel
theorem dX2_addsBy_9 : decode cX2_addsBy 9 = .ok (.aload_n 0, 1) := by decide +kernel
theorem dX2_addsBy_10 : decode cX2_addsBy 10 = .ok (.getfield 31, 3) := by decide +kernel
theorem dX2_addsBy_13 : decode cX2_addsBy 13 = .ok (.if_icmp .ge 43, 3) := by decide +kernel
theorem dX2_addsBy_16 : decode cX2_addsBy 16 = .ok (.aload_n 0, 1) := by decide +kernel
theorem dX2_addsBy_17 : decode cX2_addsBy 17 = .ok (.iload_n 3, 1) := by decide +kernel
theorem dX2_addsBy_18 : decode cX2_addsBy 18 = .ok (.aload_n 0, 1) := by decide +kernel
theorem dX2_addsBy_19 : decode cX2_addsBy 19 = .ok (.getfield 15, 3) := by decide +kernel
theorem dX2_addsBy_22 : decode cX2_addsBy 22 = .ok (.iload 4, 2) := by decide +kernel
theorem dX2_addsBy_24 : decode cX2_addsBy 24 = .ok (.iaload, 1) := by decide +kernel
theorem dX2_addsBy_25 : decode cX2_addsBy 25 = .ok (.aload_n 1, 1) := by decide +kernel
theorem dX2_addsBy_26 : decode cX2_addsBy 26 = .ok (.invokevirtual 44, 3) := by decide +kernel
theorem dX2_addsBy_29 : decode cX2_addsBy 29 = .ok (.ifCond .eq 13, 3) := by decide +kernel
theorem dX2_addsBy_32 : decode cX2_addsBy 32 = .ok (.iload_n 2, 1) := by decide +kernel
theorem dX2_addsBy_33 : decode cX2_addsBy 33 = .ok (.aload_n 0, 1) := by decide +kernel
theorem dX2_addsBy_34 : decode cX2_addsBy 34 = .ok (.getfield 9, 3) := by decide +kernel
theorem dX2_addsBy_37 : decode cX2_addsBy 37 = .ok (.iload 4, 2) := by decide +kernel
theorem dX2_addsBy_39 : decode cX2_addsBy 39 = .ok (.iaload, 1) := by decide +kernel
theorem dX2_addsBy_40 : decode cX2_addsBy 40 = .ok (.iadd, 1) := by decide +kernel
theorem dX2_addsBy_41 : decode cX2_addsBy 41 = .ok (.istore_n 2, 1) := by decide +kernel
theorem dX2_addsBy_42 : decode cX2_addsBy 42 = .ok (.aload_n 0, 1) := by decide +kernel
theorem dX2_addsBy_43 : decode cX2_addsBy 43 = .ok (.getfield 15, 3) := by decide +kernel
theorem dX2_addsBy_46 : decode cX2_addsBy 46 = .ok (.iload 4, 2) := by decide +kernel
theorem dX2_addsBy_48 : decode cX2_addsBy 48 = .ok (.iaload, 1) := by decide +kernel
theorem dX2_addsBy_49 : decode cX2_addsBy 49 = .ok (.istore_n 3, 1) := by decide +kernel
theorem dX2_addsBy_50 : decode cX2_addsBy 50 = .ok (.iinc 4 1, 3) := by decide +kernel
theorem dX2_addsBy_53 : decode cX2_addsBy 53 = .ok (.goto (-46), 3) := by decide +kernel
theorem dX2_addsBy_56 : decode cX2_addsBy 56 = .ok (.iload_n 2, 1) := by decide +kernel
theorem dX2_addsBy_57 : decode cX2_addsBy 57 = .ok (.ireturn, 1) := by decide +kernel
theorem dX2_holds_0 : decode cX2_holds 0 = .ok (.iconst 0, 1) := by decide +kernel
theorem dX2_holds_1 : decode cX2_holds 1 = .ok (.istore 4, 2) := by decide +kernel
theorem dX2_holds_3 : decode cX2_holds 3 = .ok (.iload_n 1, 1) := by decide +kernel
theorem dX2_holds_4 : decode cX2_holds 4 = .ok (.istore 5, 2) := by decide +kernel
theorem dX2_holds_6 : decode cX2_holds 6 = .ok (.iload 5, 2) := by decide +kernel
theorem dX2_holds_8 : decode cX2_holds 8 = .ok (.iload_n 2, 1) := by decide +kernel
theorem dX2_holds_9 : decode cX2_holds 9 = .ok (.if_icmp .ge 107, 3) := by decide +kernel
theorem dX2_holds_12 : decode cX2_holds 12 = .ok (.iload 4, 2) := by decide +kernel
theorem dX2_holds_14 : decode cX2_holds 14 = .ok (.iconst 1, 1) := by decide +kernel
theorem dX2_holds_15 : decode cX2_holds 15 = .ok (.iand, 1) := by decide +kernel
theorem dX2_holds_16 : decode cX2_holds 16 = .ok (.istore 6, 2) := by decide +kernel
theorem dX2_holds_18 : decode cX2_holds 18 = .ok (.aload_n 0, 1) := by decide +kernel
theorem dX2_holds_19 : decode cX2_holds 19 = .ok (.getfield 18, 3) := by decide +kernel
theorem dX2_holds_22 : decode cX2_holds 22 = .ok (.iload 5, 2) := by decide +kernel
theorem dX2_holds_24 : decode cX2_holds 24 = .ok (.iaload, 1) := by decide +kernel
theorem dX2_holds_25 : decode cX2_holds 25 = .ok (.tableswitch 63 6 8 #[27, 36, 51], 27) := by decide +kernel
theorem dX2_holds_52 : decode cX2_holds 52 = .ok (.iload 4, 2) := by decide +kernel
theorem dX2_holds_54 : decode cX2_holds 54 = .ok (.iconst 1, 1) := by decide +kernel
theorem dX2_holds_55 : decode cX2_holds 55 = .ok (.ixor, 1) := by decide +kernel
theorem dX2_holds_56 : decode cX2_holds 56 = .ok (.istore 4, 2) := by decide +kernel
theorem dX2_holds_58 : decode cX2_holds 58 = .ok (.goto 52, 3) := by decide +kernel
theorem dX2_holds_61 : decode cX2_holds 61 = .ok (.iload 4, 2) := by decide +kernel
theorem dX2_holds_63 : decode cX2_holds 63 = .ok (.iconst 1, 1) := by decide +kernel
theorem dX2_holds_64 : decode cX2_holds 64 = .ok (.ishr, 1) := by decide +kernel
theorem dX2_holds_65 : decode cX2_holds 65 = .ok (.iload 6, 2) := by decide +kernel
theorem dX2_holds_67 : decode cX2_holds 67 = .ok (.bipush (-2), 2) := by decide +kernel
theorem dX2_holds_69 : decode cX2_holds 69 = .ok (.ior, 1) := by decide +kernel
theorem dX2_holds_70 : decode cX2_holds 70 = .ok (.iand, 1) := by decide +kernel
theorem dX2_holds_71 : decode cX2_holds 71 = .ok (.istore 4, 2) := by decide +kernel
theorem dX2_holds_73 : decode cX2_holds 73 = .ok (.goto 37, 3) := by decide +kernel
theorem dX2_holds_76 : decode cX2_holds 76 = .ok (.iload 4, 2) := by decide +kernel
theorem dX2_holds_78 : decode cX2_holds 78 = .ok (.iconst 1, 1) := by decide +kernel
theorem dX2_holds_79 : decode cX2_holds 79 = .ok (.ishr, 1) := by decide +kernel
theorem dX2_holds_80 : decode cX2_holds 80 = .ok (.iload 6, 2) := by decide +kernel
theorem dX2_holds_82 : decode cX2_holds 82 = .ok (.ior, 1) := by decide +kernel
theorem dX2_holds_83 : decode cX2_holds 83 = .ok (.istore 4, 2) := by decide +kernel
theorem dX2_holds_85 : decode cX2_holds 85 = .ok (.goto 25, 3) := by decide +kernel
theorem dX2_holds_88 : decode cX2_holds 88 = .ok (.iload 4, 2) := by decide +kernel
theorem dX2_holds_90 : decode cX2_holds 90 = .ok (.iconst 1, 1) := by decide +kernel
theorem dX2_holds_91 : decode cX2_holds 91 = .ok (.ishl, 1) := by decide +kernel
theorem dX2_holds_92 : decode cX2_holds 92 = .ok (.aload_n 0, 1) := by decide +kernel
theorem dX2_holds_93 : decode cX2_holds 93 = .ok (.iload 5, 2) := by decide +kernel
theorem dX2_holds_95 : decode cX2_holds 95 = .ok (.aload_n 3, 1) := by decide +kernel
theorem dX2_holds_96 : decode cX2_holds 96 = .ok (.invokevirtual 48, 3) := by decide +kernel
theorem dX2_holds_99 : decode cX2_holds 99 = .ok (.ifCond .eq 7, 3) := by decide +kernel
theorem dX2_holds_102 : decode cX2_holds 102 = .ok (.iconst 1, 1) := by decide +kernel
theorem dX2_holds_103 : decode cX2_holds 103 = .ok (.goto 4, 3) := by decide +kernel
theorem dX2_holds_106 : decode cX2_holds 106 = .ok (.iconst 0, 1) := by decide +kernel
theorem dX2_holds_107 : decode cX2_holds 107 = .ok (.ior, 1) := by decide +kernel
theorem dX2_holds_108 : decode cX2_holds 108 = .ok (.istore 4, 2) := by decide +kernel
theorem dX2_holds_110 : decode cX2_holds 110 = .ok (.iinc 5 1, 3) := by decide +kernel
theorem dX2_holds_113 : decode cX2_holds 113 = .ok (.goto (-107), 3) := by decide +kernel
theorem dX2_holds_116 : decode cX2_holds 116 = .ok (.iload 4, 2) := by decide +kernel
theorem dX2_holds_118 : decode cX2_holds 118 = .ok (.iconst 1, 1) := by decide +kernel
theorem dX2_holds_119 : decode cX2_holds 119 = .ok (.iand, 1) := by decide +kernel
theorem dX2_holds_120 : decode cX2_holds 120 = .ok (.iconst 1, 1) := by decide +kernel
theorem dX2_holds_121 : decode cX2_holds 121 = .ok (.if_icmp .ne 7, 3) := by decide +kernel
theorem dX2_holds_124 : decode cX2_holds 124 = .ok (.iconst 1, 1) := by decide +kernel
theorem dX2_holds_125 : decode cX2_holds 125 = .ok (.goto 4, 3) := by decide +kernel
theorem dX2_holds_128 : decode cX2_holds 128 = .ok (.iconst 0, 1) := by decide +kernel
theorem dX2_holds_129 : decode cX2_holds 129 = .ok (.ireturn, 1) := by decide +kernel
theorem dX2_passes_0 : decode cX2_passes 0 = .ok (.aload_n 0, 1) := by decide +kernel
theorem dX2_passes_1 : decode cX2_passes 1 = .ok (.getfield 18, 3) := by decide +kernel
theorem dX2_passes_4 : decode cX2_passes 4 = .ok (.iload_n 1, 1) := by decide +kernel
theorem dX2_passes_5 : decode cX2_passes 5 = .ok (.iaload, 1) := by decide +kernel
theorem dX2_passes_6 : decode cX2_passes 6 = .ok (.istore_n 3, 1) := by decide +kernel
theorem dX2_passes_7 : decode cX2_passes 7 = .ok (.iload_n 3, 1) := by decide +kernel
theorem dX2_passes_8 : decode cX2_passes 8 = .ok (.ifCond .lt 9, 3) := by decide +kernel
theorem dX2_passes_11 : decode cX2_passes 11 = .ok (.iload_n 3, 1) := by decide +kernel
theorem dX2_passes_12 : decode cX2_passes 12 = .ok (.aload_n 2, 1) := by decide +kernel
theorem dX2_passes_13 : decode cX2_passes 13 = .ok (.arraylength, 1) := by decide +kernel
theorem dX2_passes_14 : decode cX2_passes 14 = .ok (.if_icmp .lt 5, 3) := by decide +kernel
theorem dX2_passes_17 : decode cX2_passes 17 = .ok (.iconst 0, 1) := by decide +kernel
theorem dX2_passes_18 : decode cX2_passes 18 = .ok (.ireturn, 1) := by decide +kernel
theorem dX2_passes_19 : decode cX2_passes 19 = .ok (.aload_n 0, 1) := by decide +kernel
theorem dX2_passes_20 : decode cX2_passes 20 = .ok (.getfield 21, 3) := by decide +kernel
theorem dX2_passes_23 : decode cX2_passes 23 = .ok (.iload_n 1, 1) := by decide +kernel
theorem dX2_passes_24 : decode cX2_passes 24 = .ok (.iaload, 1) := by decide +kernel
theorem dX2_passes_25 : decode cX2_passes 25 = .ok (.lookupswitch 63 #[(60, 27), (62, 45)], 27) := by decide +kernel
theorem dX2_passes_52 : decode cX2_passes 52 = .ok (.aload_n 2, 1) := by decide +kernel
theorem dX2_passes_53 : decode cX2_passes 53 = .ok (.iload_n 3, 1) := by decide +kernel
theorem dX2_passes_54 : decode cX2_passes 54 = .ok (.iaload, 1) := by decide +kernel
theorem dX2_passes_55 : decode cX2_passes 55 = .ok (.aload_n 0, 1) := by decide +kernel
theorem dX2_passes_56 : decode cX2_passes 56 = .ok (.getfield 24, 3) := by decide +kernel
theorem dX2_passes_59 : decode cX2_passes 59 = .ok (.iload_n 1, 1) := by decide +kernel
theorem dX2_passes_60 : decode cX2_passes 60 = .ok (.iaload, 1) := by decide +kernel
theorem dX2_passes_61 : decode cX2_passes 61 = .ok (.if_icmp .ge 7, 3) := by decide +kernel
theorem dX2_passes_64 : decode cX2_passes 64 = .ok (.iconst 1, 1) := by decide +kernel
theorem dX2_passes_65 : decode cX2_passes 65 = .ok (.goto 4, 3) := by decide +kernel
theorem dX2_passes_68 : decode cX2_passes 68 = .ok (.iconst 0, 1) := by decide +kernel
theorem dX2_passes_69 : decode cX2_passes 69 = .ok (.ireturn, 1) := by decide +kernel
theorem dX2_passes_70 : decode cX2_passes 70 = .ok (.aload_n 2, 1) := by decide +kernel
theorem dX2_passes_71 : decode cX2_passes 71 = .ok (.iload_n 3, 1) := by decide +kernel
theorem dX2_passes_72 : decode cX2_passes 72 = .ok (.iaload, 1) := by decide +kernel
theorem dX2_passes_73 : decode cX2_passes 73 = .ok (.aload_n 0, 1) := by decide +kernel
theorem dX2_passes_74 : decode cX2_passes 74 = .ok (.getfield 24, 3) := by decide +kernel
theorem dX2_passes_77 : decode cX2_passes 77 = .ok (.iload_n 1, 1) := by decide +kernel
theorem dX2_passes_78 : decode cX2_passes 78 = .ok (.iaload, 1) := by decide +kernel
theorem dX2_passes_79 : decode cX2_passes 79 = .ok (.if_icmp .le 7, 3) := by decide +kernel
theorem dX2_passes_82 : decode cX2_passes 82 = .ok (.iconst 1, 1) := by decide +kernel
theorem dX2_passes_83 : decode cX2_passes 83 = .ok (.goto 4, 3) := by decide +kernel
theorem dX2_passes_86 : decode cX2_passes 86 = .ok (.iconst 0, 1) := by decide +kernel
theorem dX2_passes_87 : decode cX2_passes 87 = .ok (.ireturn, 1) := by decide +kernel
theorem dX2_passes_88 : decode cX2_passes 88 = .ok (.aload_n 2, 1) := by decide +kernel
theorem dX2_passes_89 : decode cX2_passes 89 = .ok (.iload_n 3, 1) := by decide +kernel
theorem dX2_passes_90 : decode cX2_passes 90 = .ok (.iaload, 1) := by decide +kernel
theorem dX2_passes_91 : decode cX2_passes 91 = .ok (.aload_n 0, 1) := by decide +kernel
theorem dX2_passes_92 : decode cX2_passes 92 = .ok (.getfield 24, 3) := by decide +kernel
theorem dX2_passes_95 : decode cX2_passes 95 = .ok (.iload_n 1, 1) := by decide +kernel
theorem dX2_passes_96 : decode cX2_passes 96 = .ok (.iaload, 1) := by decide +kernel
theorem dX2_passes_97 : decode cX2_passes 97 = .ok (.if_icmp .ne 7, 3) := by decide +kernel
theorem dX2_passes_100 : decode cX2_passes 100 = .ok (.iconst 1, 1) := by decide +kernel
theorem dX2_passes_101 : decode cX2_passes 101 = .ok (.goto 4, 3) := by decide +kernel
theorem dX2_passes_104 : decode cX2_passes 104 = .ok (.iconst 0, 1) := by decide +kernel
theorem dX2_passes_105 : decode cX2_passes 105 = .ok (.ireturn, 1) := by decide +kernel
theorem dX3_init_0 : decode cX3_init 0 = .ok (.aload_n 0, 1) := by decide +kernel
theorem dX3_init_1 : decode cX3_init 1 = .ok (.invokespecial 3, 3) := by decide +kernel
theorem dX3_init_4 : decode cX3_init 4 = .ok (.aload_n 0, 1) := by decide +kernel
theorem dX3_init_5 : decode cX3_init 5 = .ok (.new 9, 3) := by decide +kernel
theorem dX3_init_8 : decode cX3_init 8 = .ok (.dup, 1) := by decide +kernel
theorem dX3_init_9 : decode cX3_init 9 = .ok (.invokespecial 11, 3) := by decide +kernel
theorem dX3_init_12 : decode cX3_init 12 = .ok (.putfield 12, 3) := by decide +kernel
theorem dX3_init_15 : decode cX3_init 15 = .ok (.aload_n 0, 1) := by decide +kernel
theorem dX3_init_16 : decode cX3_init 16 = .ok (.bipush 100, 2) := by decide +kernel
theorem dX3_init_18 : decode cX3_init 18 = .ok (.newarray .byte, 2) := by decide +kernel
theorem dX3_init_20 : decode cX3_init 20 = .ok (.putfield 18, 3) := by decide +kernel
theorem dX3_init_23 : decode cX3_init 23 = .ok (.return_, 1) := by decide +kernel
theorem dX3_addSign_0 : decode cX3_addSign 0 = .ok (.aload_n 0, 1) := by decide +kernel
theorem dX3_addSign_1 : decode cX3_addSign 1 = .ok (.getfield 22, 3) := by decide +kernel
theorem dX3_addSign_4 : decode cX3_addSign 4 = .ok (.bipush 100, 2) := by decide +kernel
theorem dX3_addSign_6 : decode cX3_addSign 6 = .ok (.if_icmp .lt 6, 3) := by decide +kernel
theorem dX3_addSign_9 : decode cX3_addSign 9 = .ok (.bipush (-4), 2) := by decide +kernel
theorem dX3_addSign_11 : decode cX3_addSign 11 = .ok (.ireturn, 1) := by decide +kernel
theorem dX3_addSign_12 : decode cX3_addSign 12 = .ok (.aload_n 0, 1) := by decide +kernel
theorem dX3_addSign_13 : decode cX3_addSign 13 = .ok (.getfield 18, 3) := by decide +kernel
theorem dX3_addSign_16 : decode cX3_addSign 16 = .ok (.aload_n 0, 1) := by decide +kernel
theorem dX3_addSign_17 : decode cX3_addSign 17 = .ok (.getfield 22, 3) := by decide +kernel
theorem dX3_addSign_20 : decode cX3_addSign 20 = .ok (.iload_n 1, 1) := by decide +kernel
theorem dX3_addSign_21 : decode cX3_addSign 21 = .ok (.i2b, 1) := by decide +kernel
theorem dX3_addSign_22 : decode cX3_addSign 22 = .ok (.bastore, 1) := by decide +kernel
theorem dX3_addSign_23 : decode cX3_addSign 23 = .ok (.aload_n 0, 1) := by decide +kernel
theorem dX3_addSign_24 : decode cX3_addSign 24 = .ok (.dup, 1) := by decide +kernel
theorem dX3_addSign_25 : decode cX3_addSign 25 = .ok (.getfield 22, 3) := by decide +kernel
theorem dX3_addSign_28 : decode cX3_addSign 28 = .ok (.iconst 1, 1) := by decide +kernel
theorem dX3_addSign_29 : decode cX3_addSign 29 = .ok (.iadd, 1) := by decide +kernel
theorem dX3_addSign_30 : decode cX3_addSign 30 = .ok (.putfield 22, 3) := by decide +kernel
theorem dX3_addSign_33 : decode cX3_addSign 33 = .ok (.aload_n 0, 1) := by decide +kernel
theorem dX3_addSign_34 : decode cX3_addSign 34 = .ok (.getfield 22, 3) := by decide +kernel
theorem dX3_addSign_37 : decode cX3_addSign 37 = .ok (.ireturn, 1) := by decide +kernel
theorem dX3_clear_0 : decode cX3_clear 0 = .ok (.aload_n 0, 1) := by decide +kernel
theorem dX3_clear_1 : decode cX3_clear 1 = .ok (.iconst 0, 1) := by decide +kernel
theorem dX3_clear_2 : decode cX3_clear 2 = .ok (.putfield 22, 3) := by decide +kernel
theorem dX3_clear_5 : decode cX3_clear 5 = .ok (.return_, 1) := by decide +kernel
theorem dX3_readStreet_0 : decode cX3_readStreet 0 = .ok (.aload_n 0, 1) := by decide +kernel
theorem dX3_readStreet_1 : decode cX3_readStreet 1 = .ok (.iconst 0, 1) := by decide +kernel
theorem dX3_readStreet_2 : decode cX3_readStreet 2 = .ok (.putfield 26, 3) := by decide +kernel
theorem dX3_readStreet_5 : decode cX3_readStreet 5 = .ok (.aload_n 0, 1) := by decide +kernel
theorem dX3_readStreet_6 : decode cX3_readStreet 6 = .ok (.getfield 12, 3) := by decide +kernel
theorem dX3_readStreet_9 : decode cX3_readStreet 9 = .ok (.invokevirtual 29, 3) := by decide +kernel
theorem dX3_readStreet_12 : decode cX3_readStreet 12 = .ok (.iconst 1, 1) := by decide +kernel
theorem dX3_readStreet_13 : decode cX3_readStreet 13 = .ok (.istore_n 1, 1) := by decide +kernel
theorem dX3_readStreet_14 : decode cX3_readStreet 14 = .ok (.iload_n 1, 1) := by decide +kernel
theorem dX3_readStreet_15 : decode cX3_readStreet 15 = .ok (.bipush 10, 2) := by decide +kernel
theorem dX3_readStreet_17 : decode cX3_readStreet 17 = .ok (.if_icmp .gt 54, 3) := by decide +kernel
theorem dX3_readStreet_20 : decode cX3_readStreet 20 = .ok (.aload_n 0, 1) := by decide +kernel
theorem dX3_readStreet_21 : decode cX3_readStreet 21 = .ok (.invokevirtual 32, 3) := by decide +kernel
theorem dX3_readStreet_24 : decode cX3_readStreet 24 = .ok (.ifCond .ne 8, 3) := by decide +kernel
theorem dX3_readStreet_27 : decode cX3_readStreet 27 = .ok (.aload_n 0, 1) := by decide +kernel
theorem dX3_readStreet_28 : decode cX3_readStreet 28 = .ok (.getfield 26, 3) := by decide +kernel
theorem dX3_readStreet_31 : decode cX3_readStreet 31 = .ok (.ireturn, 1) := by decide +kernel
theorem dX3_readStreet_32 : decode cX3_readStreet 32 = .ok (.aload_n 0, 1) := by decide +kernel
theorem dX3_readStreet_33 : decode cX3_readStreet 33 = .ok (.getfield 26, 3) := by decide +kernel
theorem dX3_readStreet_36 : decode cX3_readStreet 36 = .ok (.aload_n 0, 1) := by decide +kernel
theorem dX3_readStreet_37 : decode cX3_readStreet 37 = .ok (.getfield 22, 3) := by decide +kernel
theorem dX3_readStreet_40 : decode cX3_readStreet 40 = .ok (.if_icmp .lt 5, 3) := by decide +kernel
theorem dX3_readStreet_43 : decode cX3_readStreet 43 = .ok (.iconst (-1), 1) := by decide +kernel
theorem dX3_readStreet_44 : decode cX3_readStreet 44 = .ok (.ireturn, 1) := by decide +kernel
theorem dX3_readStreet_45 : decode cX3_readStreet 45 = .ok (.iload_n 1, 1) := by decide +kernel
theorem dX3_readStreet_46 : decode cX3_readStreet 46 = .ok (.bipush 10, 2) := by decide +kernel
theorem dX3_readStreet_48 : decode cX3_readStreet 48 = .ok (.if_icmp .eq 12, 3) := by decide +kernel
theorem dX3_readStreet_51 : decode cX3_readStreet 51 = .ok (.aload_n 0, 1) := by decide +kernel
theorem dX3_readStreet_52 : decode cX3_readStreet 52 = .ok (.ldc 36, 2) := by decide +kernel
theorem dX3_readStreet_54 : decode cX3_readStreet 54 = .ok (.invokevirtual 38, 3) := by decide +kernel
theorem dX3_readStreet_57 : decode cX3_readStreet 57 = .ok (.ifCond .ne 8, 3) := by decide +kernel
theorem dX3_readStreet_60 : decode cX3_readStreet 60 = .ok (.aload_n 0, 1) := by decide +kernel
theorem dX3_readStreet_61 : decode cX3_readStreet 61 = .ok (.getfield 26, 3) := by decide +kernel
theorem dX3_readStreet_64 : decode cX3_readStreet 64 = .ok (.ireturn, 1) := by decide +kernel
theorem dX3_readStreet_65 : decode cX3_readStreet 65 = .ok (.iinc 1 1, 3) := by decide +kernel
theorem dX3_readStreet_68 : decode cX3_readStreet 68 = .ok (.goto (-54), 3) := by decide +kernel
theorem dX3_readStreet_71 : decode cX3_readStreet 71 = .ok (.aload_n 0, 1) := by decide +kernel
theorem dX3_readStreet_72 : decode cX3_readStreet 72 = .ok (.getfield 26, 3) := by decide +kernel
theorem dX3_readStreet_75 : decode cX3_readStreet 75 = .ok (.ireturn, 1) := by decide +kernel
theorem dX3_sign_0 : decode cX3_sign 0 = .ok (.aload_n 0, 1) := by decide +kernel
theorem dX3_sign_1 : decode cX3_sign 1 = .ok (.getfield 26, 3) := by decide +kernel
theorem dX3_sign_4 : decode cX3_sign 4 = .ok (.aload_n 0, 1) := by decide +kernel
theorem dX3_sign_5 : decode cX3_sign 5 = .ok (.getfield 22, 3) := by decide +kernel
theorem dX3_sign_8 : decode cX3_sign 8 = .ok (.if_icmp .ge 15, 3) := by decide +kernel
theorem dX3_sign_11 : decode cX3_sign 11 = .ok (.aload_n 0, 1) := by decide +kernel
theorem dX3_sign_12 : decode cX3_sign 12 = .ok (.getfield 18, 3) := by decide +kernel
theorem dX3_sign_15 : decode cX3_sign 15 = .ok (.aload_n 0, 1) := by decide +kernel
theorem dX3_sign_16 : decode cX3_sign 16 = .ok (.getfield 26, 3) := by decide +kernel
theorem dX3_sign_19 : decode cX3_sign 19 = .ok (.baload, 1) := by decide +kernel
theorem dX3_sign_20 : decode cX3_sign 20 = .ok (.goto 4, 3) := by decide +kernel
theorem dX3_sign_23 : decode cX3_sign 23 = .ok (.iconst (-1), 1) := by decide +kernel
theorem dX3_sign_24 : decode cX3_sign 24 = .ok (.ireturn, 1) := by decide +kernel
theorem dX3_clause_0 : decode cX3_clause 0 = .ok (.aload_n 0, 1) := by decide +kernel
theorem dX3_clause_1 : decode cX3_clause 1 = .ok (.invokevirtual 42, 3) := by decide +kernel
theorem dX3_clause_4 : decode cX3_clause 4 = .ok (.bipush 116, 2) := by decide +kernel
theorem dX3_clause_6 : decode cX3_clause 6 = .ok (.if_icmp .ne 7, 3) := by decide +kernel
theorem dX3_clause_9 : decode cX3_clause 9 = .ok (.iconst 1, 1) := by decide +kernel
theorem dX3_clause_10 : decode cX3_clause 10 = .ok (.goto 4, 3) := by decide +kernel
theorem dX3_clause_13 : decode cX3_clause 13 = .ok (.iconst 0, 1) := by decide +kernel
theorem dX3_clause_14 : decode cX3_clause 14 = .ok (.istore_n 1, 1) := by decide +kernel
theorem dX3_clause_15 : decode cX3_clause 15 = .ok (.aload_n 0, 1) := by decide +kernel
theorem dX3_clause_16 : decode cX3_clause 16 = .ok (.invokevirtual 42, 3) := by decide +kernel
theorem dX3_clause_19 : decode cX3_clause 19 = .ok (.bipush 114, 2) := by decide +kernel
theorem dX3_clause_21 : decode cX3_clause 21 = .ok (.if_icmp .ne 8, 3) := by decide +kernel
theorem dX3_clause_24 : decode cX3_clause 24 = .ok (.aload_n 0, 1) := by decide +kernel
theorem dX3_clause_25 : decode cX3_clause 25 = .ok (.invokevirtual 46, 3) := by decide +kernel
theorem dX3_clause_28 : decode cX3_clause 28 = .ok (.ireturn, 1) := by decide +kernel
theorem dX3_clause_29 : decode cX3_clause 29 = .ok (.aload_n 0, 1) := by decide +kernel
theorem dX3_clause_30 : decode cX3_clause 30 = .ok (.iload_n 1, 1) := by decide +kernel
theorem dX3_clause_31 : decode cX3_clause 31 = .ok (.ifCond .eq 8, 3) := by decide +kernel
theorem dX3_clause_34 : decode cX3_clause 34 = .ok (.ldc 49, 2) := by decide +kernel
theorem dX3_clause_36 : decode cX3_clause 36 = .ok (.goto 5, 3) := by decide +kernel
theorem dX3_clause_39 : decode cX3_clause 39 = .ok (.ldc 51, 2) := by decide +kernel
theorem dX3_clause_41 : decode cX3_clause 41 = .ok (.invokevirtual 38, 3) := by decide +kernel
theorem dX3_clause_44 : decode cX3_clause 44 = .ok (.ifCond .ne 5, 3) := by decide +kernel
theorem dX3_clause_47 : decode cX3_clause 47 = .ok (.iconst 0, 1) := by decide +kernel
theorem dX3_clause_48 : decode cX3_clause 48 = .ok (.ireturn, 1) := by decide +kernel
theorem dX3_clause_49 : decode cX3_clause 49 = .ok (.aload_n 0, 1) := by decide +kernel
theorem dX3_clause_50 : decode cX3_clause 50 = .ok (.invokevirtual 53, 3) := by decide +kernel
theorem dX3_clause_53 : decode cX3_clause 53 = .ok (.istore_n 2, 1) := by decide +kernel
theorem dX3_clause_54 : decode cX3_clause 54 = .ok (.iload_n 2, 1) := by decide +kernel
theorem dX3_clause_55 : decode cX3_clause 55 = .ok (.ifCond .lt 44, 3) := by decide +kernel
theorem dX3_clause_58 : decode cX3_clause 58 = .ok (.aload_n 0, 1) := by decide +kernel
theorem dX3_clause_59 : decode cX3_clause 59 = .ok (.ldc 56, 2) := by decide +kernel
theorem dX3_clause_61 : decode cX3_clause 61 = .ok (.invokevirtual 38, 3) := by decide +kernel
theorem dX3_clause_64 : decode cX3_clause 64 = .ok (.ifCond .eq 35, 3) := by decide +kernel
theorem dX3_clause_67 : decode cX3_clause 67 = .ok (.aload_n 0, 1) := by decide +kernel
theorem dX3_clause_68 : decode cX3_clause 68 = .ok (.iconst 0, 1) := by decide +kernel
theorem dX3_clause_69 : decode cX3_clause 69 = .ok (.invokevirtual 58, 3) := by decide +kernel
theorem dX3_clause_72 : decode cX3_clause 72 = .ok (.ifCond .eq 27, 3) := by decide +kernel
theorem dX3_clause_75 : decode cX3_clause 75 = .ok (.aload_n 0, 1) := by decide +kernel
theorem dX3_clause_76 : decode cX3_clause 76 = .ok (.getfield 12, 3) := by decide +kernel
theorem dX3_clause_79 : decode cX3_clause 79 = .ok (.iload_n 1, 1) := by decide +kernel
theorem dX3_clause_80 : decode cX3_clause 80 = .ok (.ifCond .eq 8, 3) := by decide +kernel
theorem dX3_clause_83 : decode cX3_clause 83 = .ok (.iload_n 2, 1) := by decide +kernel
theorem dX3_clause_84 : decode cX3_clause 84 = .ok (.ineg, 1) := by decide +kernel
theorem dX3_clause_85 : decode cX3_clause 85 = .ok (.goto 4, 3) := by decide +kernel
theorem dX3_clause_88 : decode cX3_clause 88 = .ok (.iload_n 2, 1) := by decide +kernel
theorem dX3_clause_89 : decode cX3_clause 89 = .ok (.invokevirtual 62, 3) := by decide +kernel
theorem dX3_clause_92 : decode cX3_clause 92 = .ok (.ifCond .eq 7, 3) := by decide +kernel
theorem dX3_clause_95 : decode cX3_clause 95 = .ok (.iconst 1, 1) := by decide +kernel
theorem dX3_clause_96 : decode cX3_clause 96 = .ok (.goto 4, 3) := by decide +kernel
theorem dX3_clause_99 : decode cX3_clause 99 = .ok (.iconst 0, 1) := by decide +kernel
theorem dX3_clause_100 : decode cX3_clause 100 = .ok (.ireturn, 1) := by decide +kernel
theorem dX3_shape_0 : decode cX3_shape 0 = .ok (.aload_n 0, 1) := by decide +kernel
theorem dX3_shape_1 : decode cX3_shape 1 = .ok (.dup, 1) := by decide +kernel
theorem dX3_shape_2 : decode cX3_shape 2 = .ok (.getfield 26, 3) := by decide +kernel
theorem dX3_shape_5 : decode cX3_shape 5 = .ok (.iconst 1, 1) := by decide +kernel
theorem dX3_shape_6 : decode cX3_shape 6 = .ok (.iadd, 1) := by decide +kernel
theorem dX3_shape_7 : decode cX3_shape 7 = .ok (.putfield 26, 3) := by decide +kernel
theorem dX3_shape_10 : decode cX3_shape 10 = .ok (.aload_n 0, 1) := by decide +kernel
theorem dX3_shape_11 : decode cX3_shape 11 = .ok (.getfield 12, 3) := by decide +kernel
theorem dX3_shape_14 : decode cX3_shape 14 = .ok (.aload_n 0, 1) := by decide +kernel
theorem dX3_shape_15 : decode cX3_shape 15 = .ok (.invokevirtual 42, 3) := by decide +kernel
theorem dX3_shape_18 : decode cX3_shape 18 = .ok (.bipush 105, 2) := by decide +kernel
theorem dX3_shape_20 : decode cX3_shape 20 = .ok (.if_icmp .ne 7, 3) := by decide +kernel
theorem dX3_shape_23 : decode cX3_shape 23 = .ok (.iconst 1, 1) := by decide +kernel
theorem dX3_shape_24 : decode cX3_shape 24 = .ok (.goto 4, 3) := by decide +kernel
theorem dX3_shape_27 : decode cX3_shape 27 = .ok (.iconst 0, 1) := by decide +kernel
theorem dX3_shape_28 : decode cX3_shape 28 = .ok (.putfield 65, 3) := by decide +kernel
theorem dX3_shape_31 : decode cX3_shape 31 = .ok (.aload_n 0, 1) := by decide +kernel
theorem dX3_shape_32 : decode cX3_shape 32 = .ok (.aload_n 0, 1) := by decide +kernel
theorem dX3_shape_33 : decode cX3_shape 33 = .ok (.getfield 12, 3) := by decide +kernel
theorem dX3_shape_36 : decode cX3_shape 36 = .ok (.getfield 65, 3) := by decide +kernel
theorem dX3_shape_39 : decode cX3_shape 39 = .ok (.ifCond .eq 8, 3) := by decide +kernel
theorem dX3_shape_42 : decode cX3_shape 42 = .ok (.ldc 69, 2) := by decide +kernel
theorem dX3_shape_44 : decode cX3_shape 44 = .ok (.goto 5, 3) := by decide +kernel
theorem dX3_shape_47 : decode cX3_shape 47 = .ok (.ldc 71, 2) := by decide +kernel
theorem dX3_shape_49 : decode cX3_shape 49 = .ok (.invokevirtual 38, 3) := by decide +kernel
theorem dX3_shape_52 : decode cX3_shape 52 = .ok (.ireturn, 1) := by decide +kernel
theorem dX3_word_0 : decode cX3_word 0 = .ok (.iconst 0, 1) := by decide +kernel
theorem dX3_word_1 : decode cX3_word 1 = .ok (.istore_n 2, 1) := by decide +kernel
theorem dX3_word_2 : decode cX3_word 2 = .ok (.iload_n 2, 1) := by decide +kernel
theorem dX3_word_3 : decode cX3_word 3 = .ok (.aload_n 1, 1) := by decide +kernel
theorem dX3_word_4 : decode cX3_word 4 = .ok (.invokevirtual 73, 3) := by decide +kernel
theorem dX3_word_7 : decode cX3_word 7 = .ok (.if_icmp .ge 33, 3) := by decide +kernel
theorem dX3_word_10 : decode cX3_word 10 = .ok (.aload_n 0, 1) := by decide +kernel
theorem dX3_word_11 : decode cX3_word 11 = .ok (.invokevirtual 42, 3) := by decide +kernel
theorem dX3_word_14 : decode cX3_word 14 = .ok (.aload_n 1, 1) := by decide +kernel
theorem dX3_word_15 : decode cX3_word 15 = .ok (.iload_n 2, 1) := by decide +kernel
theorem dX3_word_16 : decode cX3_word 16 = .ok (.invokevirtual 78, 3) := by decide +kernel
theorem dX3_word_19 : decode cX3_word 19 = .ok (.if_icmp .eq 5, 3) := by decide +kernel
theorem dX3_word_22 : decode cX3_word 22 = .ok (.iconst 0, 1) := by decide +kernel
theorem dX3_word_23 : decode cX3_word 23 = .ok (.ireturn, 1) := by decide +kernel
theorem dX3_word_24 : decode cX3_word 24 = .ok (.aload_n 0, 1) := by decide +kernel
theorem dX3_word_25 : decode cX3_word 25 = .ok (.dup, 1) := by decide +kernel
theorem dX3_word_26 : decode cX3_word 26 = .ok (.getfield 26, 3) := by decide +kernel
theorem dX3_word_29 : decode cX3_word 29 = .ok (.iconst 1, 1) := by decide +kernel
theorem dX3_word_30 : decode cX3_word 30 = .ok (.iadd, 1) := by decide +kernel
theorem dX3_word_31 : decode cX3_word 31 = .ok (.putfield 26, 3) := by decide +kernel
theorem dX3_word_34 : decode cX3_word 34 = .ok (.iinc 2 1, 3) := by decide +kernel
theorem dX3_word_37 : decode cX3_word 37 = .ok (.goto (-35), 3) := by decide +kernel
theorem dX3_word_40 : decode cX3_word 40 = .ok (.iconst 1, 1) := by decide +kernel
theorem dX3_word_41 : decode cX3_word 41 = .ok (.ireturn, 1) := by decide +kernel
theorem dX3_number_0 : decode cX3_number 0 = .ok (.iconst (-1), 1) := by decide +kernel
theorem dX3_number_1 : decode cX3_number 1 = .ok (.istore_n 1, 1) := by decide +kernel
theorem dX3_number_2 : decode cX3_number 2 = .ok (.iconst 0, 1) := by decide +kernel
theorem dX3_number_3 : decode cX3_number 3 = .ok (.istore_n 2, 1) := by decide +kernel
theorem dX3_number_4 : decode cX3_number 4 = .ok (.iload_n 2, 1) := by decide +kernel
theorem dX3_number_5 : decode cX3_number 5 = .ok (.iconst 2, 1) := by decide +kernel
theorem dX3_number_6 : decode cX3_number 6 = .ok (.if_icmp .ge 52, 3) := by decide +kernel
theorem dX3_number_9 : decode cX3_number 9 = .ok (.aload_n 0, 1) := by decide +kernel
theorem dX3_number_10 : decode cX3_number 10 = .ok (.invokevirtual 42, 3) := by decide +kernel
theorem dX3_number_13 : decode cX3_number 13 = .ok (.istore_n 3, 1) := by decide +kernel
theorem dX3_number_14 : decode cX3_number 14 = .ok (.iload_n 3, 1) := by decide +kernel
theorem dX3_number_15 : decode cX3_number 15 = .ok (.bipush 48, 2) := by decide +kernel
theorem dX3_number_17 : decode cX3_number 17 = .ok (.if_icmp .lt 9, 3) := by decide +kernel
theorem dX3_number_20 : decode cX3_number 20 = .ok (.iload_n 3, 1) := by decide +kernel
theorem dX3_number_21 : decode cX3_number 21 = .ok (.bipush 57, 2) := by decide +kernel
theorem dX3_number_23 : decode cX3_number 23 = .ok (.if_icmp .le 5, 3) := by decide +kernel
theorem dX3_number_26 : decode cX3_number 26 = .ok (.iload_n 1, 1) := by decide +kernel
theorem dX3_number_27 : decode cX3_number 27 = .ok (.ireturn, 1) := by decide +kernel
theorem dX3_number_28 : decode cX3_number 28 = .ok (.iload_n 1, 1) := by decide +kernel
theorem dX3_number_29 : decode cX3_number 29 = .ok (.iconst 0, 1) := by decide +kernel
theorem dX3_number_30 : decode cX3_number 30 = .ok (.invokestatic 82, 3) := by decide +kernel
theorem dX3_number_33 : decode cX3_number 33 = .ok (.bipush 10, 2) := by decide +kernel
theorem dX3_number_35 : decode cX3_number 35 = .ok (.imul, 1) := by decide +kernel
theorem dX3_number_36 : decode cX3_number 36 = .ok (.iload_n 3, 1) := by decide +kernel
theorem dX3_number_37 : decode cX3_number 37 = .ok (.iadd, 1) := by decide +kernel
theorem dX3_number_38 : decode cX3_number 38 = .ok (.bipush 48, 2) := by decide +kernel
theorem dX3_number_40 : decode cX3_number 40 = .ok (.isub, 1) := by decide +kernel
theorem dX3_number_41 : decode cX3_number 41 = .ok (.istore_n 1, 1) := by decide +kernel
theorem dX3_number_42 : decode cX3_number 42 = .ok (.aload_n 0, 1) := by decide +kernel
theorem dX3_number_43 : decode cX3_number 43 = .ok (.dup, 1) := by decide +kernel
theorem dX3_number_44 : decode cX3_number 44 = .ok (.getfield 26, 3) := by decide +kernel
theorem dX3_number_47 : decode cX3_number 47 = .ok (.iconst 1, 1) := by decide +kernel
theorem dX3_number_48 : decode cX3_number 48 = .ok (.iadd, 1) := by decide +kernel
theorem dX3_number_49 : decode cX3_number 49 = .ok (.putfield 26, 3) := by decide +kernel
theorem dX3_number_52 : decode cX3_number 52 = .ok (.iinc 2 1, 3) := by decide +kernel
theorem dX3_number_55 : decode cX3_number 55 = .ok (.goto (-51), 3) := by decide +kernel
theorem dX3_number_58 : decode cX3_number 58 = .ok (.iload_n 1, 1) := by decide +kernel
theorem dX3_number_59 : decode cX3_number 59 = .ok (.ireturn, 1) := by decide +kernel
theorem dX3_either_0 : decode cX3_either 0 = .ok (.iconst 0, 1) := by decide +kernel
theorem dX3_either_1 : decode cX3_either 1 = .ok (.istore_n 2, 1) := by decide +kernel
theorem dX3_either_2 : decode cX3_either 2 = .ok (.iconst 0, 1) := by decide +kernel
theorem dX3_either_3 : decode cX3_either 3 = .ok (.istore_n 3, 1) := by decide +kernel
theorem dX3_either_4 : decode cX3_either 4 = .ok (.iconst 0, 1) := by decide +kernel
theorem dX3_either_5 : decode cX3_either 5 = .ok (.istore 4, 2) := by decide +kernel
theorem dX3_either_7 : decode cX3_either 7 = .ok (.iload 4, 2) := by decide +kernel
theorem dX3_either_9 : decode cX3_either 9 = .ok (.bipush 100, 2) := by decide +kernel
theorem dX3_either_11 : decode cX3_either 11 = .ok (.if_icmp .ge 99, 3) := by decide +kernel
theorem dX3_either_14 : decode cX3_either 14 = .ok (.aload_n 0, 1) := by decide +kernel
theorem dX3_either_15 : decode cX3_either 15 = .ok (.iload_n 1, 1) := by decide +kernel
theorem dX3_either_16 : decode cX3_either 16 = .ok (.invokevirtual 88, 3) := by decide +kernel
theorem dX3_either_19 : decode cX3_either 19 = .ok (.ifCond .ne 5, 3) := by decide +kernel
theorem dX3_either_22 : decode cX3_either 22 = .ok (.iconst 0, 1) := by decide +kernel
theorem dX3_either_23 : decode cX3_either 23 = .ok (.ireturn, 1) := by decide +kernel
theorem dX3_either_24 : decode cX3_either 24 = .ok (.iload_n 3, 1) := by decide +kernel
theorem dX3_either_25 : decode cX3_either 25 = .ok (.ifCond .eq 14, 3) := by decide +kernel
theorem dX3_either_28 : decode cX3_either 28 = .ok (.aload_n 0, 1) := by decide +kernel
theorem dX3_either_29 : decode cX3_either 29 = .ok (.getfield 12, 3) := by decide +kernel
theorem dX3_either_32 : decode cX3_either 32 = .ok (.bipush 7, 2) := by decide +kernel
theorem dX3_either_34 : decode cX3_either 34 = .ok (.iconst 0, 1) := by decide +kernel
theorem dX3_either_35 : decode cX3_either 35 = .ok (.iconst 0, 1) := by decide +kernel
theorem dX3_either_36 : decode cX3_either 36 = .ok (.invokevirtual 91, 3) := by decide +kernel
theorem dX3_either_39 : decode cX3_either 39 = .ok (.aload_n 0, 1) := by decide +kernel
theorem dX3_either_40 : decode cX3_either 40 = .ok (.invokevirtual 42, 3) := by decide +kernel
theorem dX3_either_43 : decode cX3_either 43 = .ok (.bipush 38, 2) := by decide +kernel
theorem dX3_either_45 : decode cX3_either 45 = .ok (.if_icmp .ne 7, 3) := by decide +kernel
theorem dX3_either_48 : decode cX3_either 48 = .ok (.iconst 1, 1) := by decide +kernel
theorem dX3_either_49 : decode cX3_either 49 = .ok (.goto 4, 3) := by decide +kernel
theorem dX3_either_52 : decode cX3_either 52 = .ok (.iconst 0, 1) := by decide +kernel
theorem dX3_either_53 : decode cX3_either 53 = .ok (.istore_n 3, 1) := by decide +kernel
theorem dX3_either_54 : decode cX3_either 54 = .ok (.iload_n 3, 1) := by decide +kernel
theorem dX3_either_55 : decode cX3_either 55 = .ok (.ifCond .ne 39, 3) := by decide +kernel
theorem dX3_either_58 : decode cX3_either 58 = .ok (.iload_n 2, 1) := by decide +kernel
theorem dX3_either_59 : decode cX3_either 59 = .ok (.ifCond .eq 14, 3) := by decide +kernel
theorem dX3_either_62 : decode cX3_either 62 = .ok (.aload_n 0, 1) := by decide +kernel
theorem dX3_either_63 : decode cX3_either 63 = .ok (.getfield 12, 3) := by decide +kernel
theorem dX3_either_66 : decode cX3_either 66 = .ok (.bipush 8, 2) := by decide +kernel
theorem dX3_either_68 : decode cX3_either 68 = .ok (.iconst 0, 1) := by decide +kernel
theorem dX3_either_69 : decode cX3_either 69 = .ok (.iconst 0, 1) := by decide +kernel
theorem dX3_either_70 : decode cX3_either 70 = .ok (.invokevirtual 91, 3) := by decide +kernel
theorem dX3_either_73 : decode cX3_either 73 = .ok (.aload_n 0, 1) := by decide +kernel
theorem dX3_either_74 : decode cX3_either 74 = .ok (.invokevirtual 42, 3) := by decide +kernel
theorem dX3_either_77 : decode cX3_either 77 = .ok (.bipush 124, 2) := by decide +kernel
theorem dX3_either_79 : decode cX3_either 79 = .ok (.if_icmp .ne 7, 3) := by decide +kernel
theorem dX3_either_82 : decode cX3_either 82 = .ok (.iconst 1, 1) := by decide +kernel
theorem dX3_either_83 : decode cX3_either 83 = .ok (.goto 4, 3) := by decide +kernel
theorem dX3_either_86 : decode cX3_either 86 = .ok (.iconst 0, 1) := by decide +kernel
theorem dX3_either_87 : decode cX3_either 87 = .ok (.istore_n 2, 1) := by decide +kernel
theorem dX3_either_88 : decode cX3_either 88 = .ok (.iload_n 2, 1) := by decide +kernel
theorem dX3_either_89 : decode cX3_either 89 = .ok (.ifCond .ne 5, 3) := by decide +kernel
theorem dX3_either_92 : decode cX3_either 92 = .ok (.iconst 1, 1) := by decide +kernel
theorem dX3_either_93 : decode cX3_either 93 = .ok (.ireturn, 1) := by decide +kernel
theorem dX3_either_94 : decode cX3_either 94 = .ok (.aload_n 0, 1) := by decide +kernel
theorem dX3_either_95 : decode cX3_either 95 = .ok (.dup, 1) := by decide +kernel
theorem dX3_either_96 : decode cX3_either 96 = .ok (.getfield 26, 3) := by decide +kernel
theorem dX3_either_99 : decode cX3_either 99 = .ok (.iconst 1, 1) := by decide +kernel
theorem dX3_either_100 : decode cX3_either 100 = .ok (.iadd, 1) := by decide +kernel
theorem dX3_either_101 : decode cX3_either 101 = .ok (.putfield 26, 3) := by decide +kernel
theorem dX3_either_104 : decode cX3_either 104 = .ok (.iinc 4 1, 3) := by decide +kernel
theorem dX3_either_107 : decode cX3_either 107 = .ok (.goto (-100), 3) := by decide +kernel
theorem dX3_either_110 : decode cX3_either 110 = .ok (.iconst 0, 1) := by decide +kernel
theorem dX3_either_111 : decode cX3_either 111 = .ok (.ireturn, 1) := by decide +kernel
theorem dX3_factor_0 : decode cX3_factor 0 = .ok (.aload_n 0, 1) := by decide +kernel
theorem dX3_factor_1 : decode cX3_factor 1 = .ok (.invokevirtual 42, 3) := by decide +kernel
theorem dX3_factor_4 : decode cX3_factor 4 = .ok (.istore_n 2, 1) := by decide +kernel
theorem dX3_factor_5 : decode cX3_factor 5 = .ok (.iload_n 1, 1) := by decide +kernel
theorem dX3_factor_6 : decode cX3_factor 6 = .ok (.iconst 4, 1) := by decide +kernel
theorem dX3_factor_7 : decode cX3_factor 7 = .ok (.if_icmp .ge 15, 3) := by decide +kernel
theorem dX3_factor_10 : decode cX3_factor 10 = .ok (.iload_n 2, 1) := by decide +kernel
theorem dX3_factor_11 : decode cX3_factor 11 = .ok (.bipush 33, 2) := by decide +kernel
theorem dX3_factor_13 : decode cX3_factor 13 = .ok (.if_icmp .eq 14, 3) := by decide +kernel
theorem dX3_factor_16 : decode cX3_factor 16 = .ok (.iload_n 2, 1) := by decide +kernel
theorem dX3_factor_17 : decode cX3_factor 17 = .ok (.bipush 40, 2) := by decide +kernel
theorem dX3_factor_19 : decode cX3_factor 19 = .ok (.if_icmp .eq 8, 3) := by decide +kernel
theorem dX3_factor_22 : decode cX3_factor 22 = .ok (.aload_n 0, 1) := by decide +kernel
theorem dX3_factor_23 : decode cX3_factor 23 = .ok (.invokevirtual 95, 3) := by decide +kernel
theorem dX3_factor_26 : decode cX3_factor 26 = .ok (.ireturn, 1) := by decide +kernel
theorem dX3_factor_27 : decode cX3_factor 27 = .ok (.aload_n 0, 1) := by decide +kernel
theorem dX3_factor_28 : decode cX3_factor 28 = .ok (.dup, 1) := by decide +kernel
theorem dX3_factor_29 : decode cX3_factor 29 = .ok (.getfield 26, 3) := by decide +kernel
theorem dX3_factor_32 : decode cX3_factor 32 = .ok (.iconst 1, 1) := by decide +kernel
theorem dX3_factor_33 : decode cX3_factor 33 = .ok (.iadd, 1) := by decide +kernel
theorem dX3_factor_34 : decode cX3_factor 34 = .ok (.putfield 26, 3) := by decide +kernel
theorem dX3_factor_37 : decode cX3_factor 37 = .ok (.iload_n 2, 1) := by decide +kernel
theorem dX3_factor_38 : decode cX3_factor 38 = .ok (.bipush 40, 2) := by decide +kernel
theorem dX3_factor_40 : decode cX3_factor 40 = .ok (.if_icmp .ne 28, 3) := by decide +kernel
theorem dX3_factor_43 : decode cX3_factor 43 = .ok (.aload_n 0, 1) := by decide +kernel
theorem dX3_factor_44 : decode cX3_factor 44 = .ok (.iload_n 1, 1) := by decide +kernel
theorem dX3_factor_45 : decode cX3_factor 45 = .ok (.iconst 1, 1) := by decide +kernel
theorem dX3_factor_46 : decode cX3_factor 46 = .ok (.iadd, 1) := by decide +kernel
theorem dX3_factor_47 : decode cX3_factor 47 = .ok (.invokevirtual 58, 3) := by decide +kernel
theorem dX3_factor_50 : decode cX3_factor 50 = .ok (.ifCond .eq 16, 3) := by decide +kernel
theorem dX3_factor_53 : decode cX3_factor 53 = .ok (.aload_n 0, 1) := by decide +kernel
theorem dX3_factor_54 : decode cX3_factor 54 = .ok (.ldc 98, 2) := by decide +kernel
theorem dX3_factor_56 : decode cX3_factor 56 = .ok (.invokevirtual 38, 3) := by decide +kernel
theorem dX3_factor_59 : decode cX3_factor 59 = .ok (.ifCond .eq 7, 3) := by decide +kernel
theorem dX3_factor_62 : decode cX3_factor 62 = .ok (.iconst 1, 1) := by decide +kernel
theorem dX3_factor_63 : decode cX3_factor 63 = .ok (.goto 4, 3) := by decide +kernel
theorem dX3_factor_66 : decode cX3_factor 66 = .ok (.iconst 0, 1) := by decide +kernel
theorem dX3_factor_67 : decode cX3_factor 67 = .ok (.ireturn, 1) := by decide +kernel
theorem dX3_factor_68 : decode cX3_factor 68 = .ok (.aload_n 0, 1) := by decide +kernel
theorem dX3_factor_69 : decode cX3_factor 69 = .ok (.iload_n 1, 1) := by decide +kernel
theorem dX3_factor_70 : decode cX3_factor 70 = .ok (.iconst 1, 1) := by decide +kernel
theorem dX3_factor_71 : decode cX3_factor 71 = .ok (.iadd, 1) := by decide +kernel
theorem dX3_factor_72 : decode cX3_factor 72 = .ok (.invokevirtual 88, 3) := by decide +kernel
theorem dX3_factor_75 : decode cX3_factor 75 = .ok (.ifCond .ne 5, 3) := by decide +kernel
theorem dX3_factor_78 : decode cX3_factor 78 = .ok (.iconst 0, 1) := by decide +kernel
theorem dX3_factor_79 : decode cX3_factor 79 = .ok (.ireturn, 1) := by decide +kernel
theorem dX3_factor_80 : decode cX3_factor 80 = .ok (.aload_n 0, 1) := by decide +kernel
theorem dX3_factor_81 : decode cX3_factor 81 = .ok (.getfield 12, 3) := by decide +kernel
theorem dX3_factor_84 : decode cX3_factor 84 = .ok (.bipush 6, 2) := by decide +kernel
theorem dX3_factor_86 : decode cX3_factor 86 = .ok (.iconst 0, 1) := by decide +kernel
theorem dX3_factor_87 : decode cX3_factor 87 = .ok (.iconst 0, 1) := by decide +kernel
theorem dX3_factor_88 : decode cX3_factor 88 = .ok (.invokevirtual 91, 3) := by decide +kernel
theorem dX3_factor_91 : decode cX3_factor 91 = .ok (.iconst 1, 1) := by decide +kernel
theorem dX3_factor_92 : decode cX3_factor 92 = .ok (.ireturn, 1) := by decide +kernel
theorem dX3_test_0 : decode cX3_test 0 = .ok (.aload_n 0, 1) := by decide +kernel
theorem dX3_test_1 : decode cX3_test 1 = .ok (.invokevirtual 42, 3) := by decide +kernel
theorem dX3_test_4 : decode cX3_test 4 = .ok (.iconst (-1), 1) := by decide +kernel
theorem dX3_test_5 : decode cX3_test 5 = .ok (.if_icmp .ne 7, 3) := by decide +kernel
theorem dX3_test_8 : decode cX3_test 8 = .ok (.iconst (-1), 1) := by decide +kernel
theorem dX3_test_9 : decode cX3_test 9 = .ok (.goto 13, 3) := by decide +kernel
theorem dX3_test_12 : decode cX3_test 12 = .ok (.ldc 100, 2) := by decide +kernel
theorem dX3_test_14 : decode cX3_test 14 = .ok (.aload_n 0, 1) := by decide +kernel
theorem dX3_test_15 : decode cX3_test 15 = .ok (.invokevirtual 42, 3) := by decide +kernel
theorem dX3_test_18 : decode cX3_test 18 = .ok (.i2c, 1) := by decide +kernel
theorem dX3_test_19 : decode cX3_test 19 = .ok (.invokevirtual 102, 3) := by decide +kernel
theorem dX3_test_22 : decode cX3_test 22 = .ok (.istore_n 1, 1) := by decide +kernel
theorem dX3_test_23 : decode cX3_test 23 = .ok (.iload_n 1, 1) := by decide +kernel
theorem dX3_test_24 : decode cX3_test 24 = .ok (.ifCond .ge 5, 3) := by decide +kernel
theorem dX3_test_27 : decode cX3_test 27 = .ok (.iconst 0, 1) := by decide +kernel
theorem dX3_test_28 : decode cX3_test 28 = .ok (.ireturn, 1) := by decide +kernel
theorem dX3_test_29 : decode cX3_test 29 = .ok (.aload_n 0, 1) := by decide +kernel
theorem dX3_test_30 : decode cX3_test 30 = .ok (.dup, 1) := by decide +kernel
theorem dX3_test_31 : decode cX3_test 31 = .ok (.getfield 26, 3) := by decide +kernel
theorem dX3_test_34 : decode cX3_test 34 = .ok (.iconst 1, 1) := by decide +kernel
theorem dX3_test_35 : decode cX3_test 35 = .ok (.iadd, 1) := by decide +kernel
theorem dX3_test_36 : decode cX3_test 36 = .ok (.putfield 26, 3) := by decide +kernel
theorem dX3_test_39 : decode cX3_test 39 = .ok (.aload_n 0, 1) := by decide +kernel
theorem dX3_test_40 : decode cX3_test 40 = .ok (.invokevirtual 42, 3) := by decide +kernel
theorem dX3_test_43 : decode cX3_test 43 = .ok (.istore_n 2, 1) := by decide +kernel
theorem dX3_test_44 : decode cX3_test 44 = .ok (.iload_n 2, 1) := by decide +kernel
theorem dX3_test_45 : decode cX3_test 45 = .ok (.bipush 60, 2) := by decide +kernel
theorem dX3_test_47 : decode cX3_test 47 = .ok (.if_icmp .eq 17, 3) := by decide +kernel
theorem dX3_test_50 : decode cX3_test 50 = .ok (.iload_n 2, 1) := by decide +kernel
theorem dX3_test_51 : decode cX3_test 51 = .ok (.bipush 61, 2) := by decide +kernel
theorem dX3_test_53 : decode cX3_test 53 = .ok (.if_icmp .eq 11, 3) := by decide +kernel
theorem dX3_test_56 : decode cX3_test 56 = .ok (.iload_n 2, 1) := by decide +kernel
theorem dX3_test_57 : decode cX3_test 57 = .ok (.bipush 62, 2) := by decide +kernel
theorem dX3_test_59 : decode cX3_test 59 = .ok (.if_icmp .eq 5, 3) := by decide +kernel
theorem dX3_test_62 : decode cX3_test 62 = .ok (.iconst 0, 1) := by decide +kernel
theorem dX3_test_63 : decode cX3_test 63 = .ok (.ireturn, 1) := by decide +kernel
theorem dX3_test_64 : decode cX3_test 64 = .ok (.aload_n 0, 1) := by decide +kernel
theorem dX3_test_65 : decode cX3_test 65 = .ok (.dup, 1) := by decide +kernel
theorem dX3_test_66 : decode cX3_test 66 = .ok (.getfield 26, 3) := by decide +kernel
theorem dX3_test_69 : decode cX3_test 69 = .ok (.iconst 1, 1) := by decide +kernel
theorem dX3_test_70 : decode cX3_test 70 = .ok (.iadd, 1) := by decide +kernel
theorem dX3_test_71 : decode cX3_test 71 = .ok (.putfield 26, 3) := by decide +kernel
theorem dX3_test_74 : decode cX3_test 74 = .ok (.aload_n 0, 1) := by decide +kernel
theorem dX3_test_75 : decode cX3_test 75 = .ok (.invokevirtual 53, 3) := by decide +kernel
theorem dX3_test_78 : decode cX3_test 78 = .ok (.istore_n 3, 1) := by decide +kernel
theorem dX3_test_79 : decode cX3_test 79 = .ok (.iload_n 3, 1) := by decide +kernel
theorem dX3_test_80 : decode cX3_test 80 = .ok (.ifCond .ge 5, 3) := by decide +kernel
theorem dX3_test_83 : decode cX3_test 83 = .ok (.iconst 0, 1) := by decide +kernel
theorem dX3_test_84 : decode cX3_test 84 = .ok (.ireturn, 1) := by decide +kernel
theorem dX3_test_85 : decode cX3_test 85 = .ok (.aload_n 0, 1) := by decide +kernel
theorem dX3_test_86 : decode cX3_test 86 = .ok (.getfield 12, 3) := by decide +kernel
theorem dX3_test_89 : decode cX3_test 89 = .ok (.iload_n 1, 1) := by decide +kernel
theorem dX3_test_90 : decode cX3_test 90 = .ok (.iload_n 2, 1) := by decide +kernel
theorem dX3_test_91 : decode cX3_test 91 = .ok (.iload_n 3, 1) := by decide +kernel
theorem dX3_test_92 : decode cX3_test 92 = .ok (.invokevirtual 91, 3) := by decide +kernel
theorem dX3_test_95 : decode cX3_test 95 = .ok (.iconst 1, 1) := by decide +kernel
theorem dX3_test_96 : decode cX3_test 96 = .ok (.ireturn, 1) := by decide +kernel
theorem dX4_init_0 : decode cX4_init 0 = .ok (.aload_n 0, 1) := by decide +kernel
theorem dX4_init_1 : decode cX4_init 1 = .ok (.invokespecial 3, 3) := by decide +kernel
theorem dX4_init_4 : decode cX4_init 4 = .ok (.aload_n 0, 1) := by decide +kernel
theorem dX4_init_5 : decode cX4_init 5 = .ok (.iconst (-1), 1) := by decide +kernel
theorem dX4_init_6 : decode cX4_init 6 = .ok (.putfield 9, 3) := by decide +kernel
theorem dX4_init_9 : decode cX4_init 9 = .ok (.aload_n 0, 1) := by decide +kernel
theorem dX4_init_10 : decode cX4_init 10 = .ok (.bipush 60, 2) := by decide +kernel
theorem dX4_init_12 : decode cX4_init 12 = .ok (.newarray .long, 2) := by decide +kernel
theorem dX4_init_14 : decode cX4_init 14 = .ok (.putfield 15, 3) := by decide +kernel
theorem dX4_init_17 : decode cX4_init 17 = .ok (.return_, 1) := by decide +kernel
theorem dX4_become_0 : decode cX4_become 0 = .ok (.aload_n 0, 1) := by decide +kernel
theorem dX4_become_1 : decode cX4_become 1 = .ok (.iload_n 1, 1) := by decide +kernel
theorem dX4_become_2 : decode cX4_become 2 = .ok (.putfield 9, 3) := by decide +kernel
theorem dX4_become_5 : decode cX4_become 5 = .ok (.aload_n 0, 1) := by decide +kernel
theorem dX4_become_6 : decode cX4_become 6 = .ok (.iload_n 2, 1) := by decide +kernel
theorem dX4_become_7 : decode cX4_become 7 = .ok (.putfield 19, 3) := by decide +kernel
theorem dX4_become_10 : decode cX4_become 10 = .ok (.iconst 0, 1) := by decide +kernel
theorem dX4_become_11 : decode cX4_become 11 = .ok (.istore_n 3, 1) := by decide +kernel
theorem dX4_become_12 : decode cX4_become 12 = .ok (.iload_n 3, 1) := by decide +kernel
theorem dX4_become_13 : decode cX4_become 13 = .ok (.bipush 60, 2) := by decide +kernel
theorem dX4_become_15 : decode cX4_become 15 = .ok (.if_icmp .ge 16, 3) := by decide +kernel
theorem dX4_become_18 : decode cX4_become 18 = .ok (.aload_n 0, 1) := by decide +kernel
theorem dX4_become_19 : decode cX4_become 19 = .ok (.getfield 15, 3) := by decide +kernel
theorem dX4_become_22 : decode cX4_become 22 = .ok (.iload_n 3, 1) := by decide +kernel
theorem dX4_become_23 : decode cX4_become 23 = .ok (.lconst 0, 1) := by decide +kernel
theorem dX4_become_24 : decode cX4_become 24 = .ok (.lastore, 1) := by decide +kernel
theorem dX4_become_25 : decode cX4_become 25 = .ok (.iinc 3 1, 3) := by decide +kernel
theorem dX4_become_28 : decode cX4_become 28 = .ok (.goto (-16), 3) := by decide +kernel
theorem dX4_become_31 : decode cX4_become 31 = .ok (.return_, 1) := by decide +kernel
theorem dX4_reaches_0 : decode cX4_reaches 0 = .ok (.iload_n 1, 1) := by decide +kernel
theorem dX4_reaches_1 : decode cX4_reaches 1 = .ok (.ifCond .lt 29, 3) := by decide +kernel
theorem dX4_reaches_4 : decode cX4_reaches 4 = .ok (.iload_n 2, 1) := by decide +kernel
theorem dX4_reaches_5 : decode cX4_reaches 5 = .ok (.ifCond .lt 25, 3) := by decide +kernel
theorem dX4_reaches_8 : decode cX4_reaches 8 = .ok (.iload_n 2, 1) := by decide +kernel
theorem dX4_reaches_9 : decode cX4_reaches 9 = .ok (.aload_n 0, 1) := by decide +kernel
theorem dX4_reaches_10 : decode cX4_reaches 10 = .ok (.getfield 19, 3) := by decide +kernel
theorem dX4_reaches_13 : decode cX4_reaches 13 = .ok (.if_icmp .gt 17, 3) := by decide +kernel
theorem dX4_reaches_16 : decode cX4_reaches 16 = .ok (.iload_n 1, 1) := by decide +kernel
theorem dX4_reaches_17 : decode cX4_reaches 17 = .ok (.aload_n 0, 1) := by decide +kernel
theorem dX4_reaches_18 : decode cX4_reaches 18 = .ok (.getfield 19, 3) := by decide +kernel
theorem dX4_reaches_21 : decode cX4_reaches 21 = .ok (.iload_n 2, 1) := by decide +kernel
theorem dX4_reaches_22 : decode cX4_reaches 22 = .ok (.isub, 1) := by decide +kernel
theorem dX4_reaches_23 : decode cX4_reaches 23 = .ok (.if_icmp .gt 7, 3) := by decide +kernel
theorem dX4_reaches_26 : decode cX4_reaches 26 = .ok (.iconst 1, 1) := by decide +kernel
theorem dX4_reaches_27 : decode cX4_reaches 27 = .ok (.goto 4, 3) := by decide +kernel
theorem dX4_reaches_30 : decode cX4_reaches 30 = .ok (.iconst 0, 1) := by decide +kernel
theorem dX4_reaches_31 : decode cX4_reaches 31 = .ok (.ireturn, 1) := by decide +kernel
theorem dX4_fitted_0 : decode cX4_fitted 0 = .ok (.aload_n 0, 1) := by decide +kernel
theorem dX4_fitted_1 : decode cX4_fitted 1 = .ok (.getfield 9, 3) := by decide +kernel
theorem dX4_fitted_4 : decode cX4_fitted 4 = .ok (.tableswitch 62 0 4 #[36, 41, 46, 62, 50], 36) := by decide +kernel
theorem dX4_fitted_40 : decode cX4_fitted 40 = .ok (.lload_n 1, 1) := by decide +kernel
theorem dX4_fitted_41 : decode cX4_fitted 41 = .ok (.l2i, 1) := by decide +kernel
theorem dX4_fitted_42 : decode cX4_fitted 42 = .ok (.i2b, 1) := by decide +kernel
theorem dX4_fitted_43 : decode cX4_fitted 43 = .ok (.i2l, 1) := by decide +kernel
theorem dX4_fitted_44 : decode cX4_fitted 44 = .ok (.lreturn, 1) := by decide +kernel
theorem dX4_fitted_45 : decode cX4_fitted 45 = .ok (.lload_n 1, 1) := by decide +kernel
theorem dX4_fitted_46 : decode cX4_fitted 46 = .ok (.l2i, 1) := by decide +kernel
theorem dX4_fitted_47 : decode cX4_fitted 47 = .ok (.i2s, 1) := by decide +kernel
theorem dX4_fitted_48 : decode cX4_fitted 48 = .ok (.i2l, 1) := by decide +kernel
theorem dX4_fitted_49 : decode cX4_fitted 49 = .ok (.lreturn, 1) := by decide +kernel
theorem dX4_fitted_50 : decode cX4_fitted 50 = .ok (.lload_n 1, 1) := by decide +kernel
theorem dX4_fitted_51 : decode cX4_fitted 51 = .ok (.l2i, 1) := by decide +kernel
theorem dX4_fitted_52 : decode cX4_fitted 52 = .ok (.i2l, 1) := by decide +kernel
theorem dX4_fitted_53 : decode cX4_fitted 53 = .ok (.lreturn, 1) := by decide +kernel
theorem dX4_fitted_54 : decode cX4_fitted 54 = .ok (.lload_n 1, 1) := by decide +kernel
theorem dX4_fitted_55 : decode cX4_fitted 55 = .ok (.lconst 0, 1) := by decide +kernel
theorem dX4_fitted_56 : decode cX4_fitted 56 = .ok (.lcmp, 1) := by decide +kernel
theorem dX4_fitted_57 : decode cX4_fitted 57 = .ok (.ifCond .eq 7, 3) := by decide +kernel
theorem dX4_fitted_60 : decode cX4_fitted 60 = .ok (.lconst 1, 1) := by decide +kernel
theorem dX4_fitted_61 : decode cX4_fitted 61 = .ok (.goto 4, 3) := by decide +kernel
theorem dX4_fitted_64 : decode cX4_fitted 64 = .ok (.lconst 0, 1) := by decide +kernel
theorem dX4_fitted_65 : decode cX4_fitted 65 = .ok (.lreturn, 1) := by decide +kernel
theorem dX4_fitted_66 : decode cX4_fitted 66 = .ok (.lload_n 1, 1) := by decide +kernel
theorem dX4_fitted_67 : decode cX4_fitted 67 = .ok (.lreturn, 1) := by decide +kernel
theorem dJ11_isValidCodePoint_9a6ad_0 : decode cJ11_isValidCodePoint_9a6ad 0 = .ok (.iload_n 0, 1) := by decide +kernel
theorem dJ11_isValidCodePoint_9a6ad_1 : decode cJ11_isValidCodePoint_9a6ad 1 = .ok (.bipush 16, 2) := by decide +kernel
theorem dJ11_isValidCodePoint_9a6ad_3 : decode cJ11_isValidCodePoint_9a6ad 3 = .ok (.iushr, 1) := by decide +kernel
theorem dJ11_isValidCodePoint_9a6ad_4 : decode cJ11_isValidCodePoint_9a6ad 4 = .ok (.istore_n 1, 1) := by decide +kernel
theorem dJ11_isValidCodePoint_9a6ad_5 : decode cJ11_isValidCodePoint_9a6ad 5 = .ok (.iload_n 1, 1) := by decide +kernel
theorem dJ11_isValidCodePoint_9a6ad_6 : decode cJ11_isValidCodePoint_9a6ad 6 = .ok (.bipush 17, 2) := by decide +kernel
theorem dJ11_isValidCodePoint_9a6ad_8 : decode cJ11_isValidCodePoint_9a6ad 8 = .ok (.if_icmp .ge 7, 3) := by decide +kernel
theorem dJ11_isValidCodePoint_9a6ad_11 : decode cJ11_isValidCodePoint_9a6ad 11 = .ok (.iconst 1, 1) := by decide +kernel
theorem dJ11_isValidCodePoint_9a6ad_12 : decode cJ11_isValidCodePoint_9a6ad 12 = .ok (.goto 4, 3) := by decide +kernel
theorem dJ11_isValidCodePoint_9a6ad_15 : decode cJ11_isValidCodePoint_9a6ad 15 = .ok (.iconst 0, 1) := by decide +kernel
theorem dJ11_isValidCodePoint_9a6ad_16 : decode cJ11_isValidCodePoint_9a6ad 16 = .ok (.ireturn, 1) := by decide +kernel
theorem dJ11_highSurrogate_5068e_0 : decode cJ11_highSurrogate_5068e 0 = .ok (.iload_n 0, 1) := by decide +kernel
theorem dJ11_highSurrogate_5068e_1 : decode cJ11_highSurrogate_5068e 1 = .ok (.bipush 10, 2) := by decide +kernel
theorem dJ11_highSurrogate_5068e_3 : decode cJ11_highSurrogate_5068e 3 = .ok (.iushr, 1) := by decide +kernel
theorem dJ11_highSurrogate_5068e_4 : decode cJ11_highSurrogate_5068e 4 = .ok (.ldc 110, 2) := by decide +kernel
theorem dJ11_highSurrogate_5068e_6 : decode cJ11_highSurrogate_5068e 6 = .ok (.iadd, 1) := by decide +kernel
theorem dJ11_highSurrogate_5068e_7 : decode cJ11_highSurrogate_5068e 7 = .ok (.i2c, 1) := by decide +kernel
theorem dJ11_highSurrogate_5068e_8 : decode cJ11_highSurrogate_5068e 8 = .ok (.ireturn, 1) := by decide +kernel
theorem dJ11_lowSurrogate_5068e_0 : decode cJ11_lowSurrogate_5068e 0 = .ok (.iload_n 0, 1) := by decide +kernel
theorem dJ11_lowSurrogate_5068e_1 : decode cJ11_lowSurrogate_5068e 1 = .ok (.sipush 1023, 3) := by decide +kernel
theorem dJ11_lowSurrogate_5068e_4 : decode cJ11_lowSurrogate_5068e 4 = .ok (.iand, 1) := by decide +kernel
theorem dJ11_lowSurrogate_5068e_5 : decode cJ11_lowSurrogate_5068e 5 = .ok (.ldc 76, 2) := by decide +kernel
theorem dJ11_lowSurrogate_5068e_7 : decode cJ11_lowSurrogate_5068e 7 = .ok (.iadd, 1) := by decide +kernel
theorem dJ11_lowSurrogate_5068e_8 : decode cJ11_lowSurrogate_5068e 8 = .ok (.i2c, 1) := by decide +kernel
theorem dJ11_lowSurrogate_5068e_9 : decode cJ11_lowSurrogate_5068e 9 = .ok (.ireturn, 1) := by decide +kernel
theorem dJ9_abs_0f7a4_0 : decode cJ9_abs_0f7a4 0 = .ok (.iload_n 0, 1) := by decide +kernel
theorem dJ9_abs_0f7a4_1 : decode cJ9_abs_0f7a4 1 = .ok (.ifCond .ge 8, 3) := by decide +kernel
theorem dJ9_abs_0f7a4_4 : decode cJ9_abs_0f7a4 4 = .ok (.iload_n 0, 1) := by decide +kernel
theorem dJ9_abs_0f7a4_5 : decode cJ9_abs_0f7a4 5 = .ok (.ineg, 1) := by decide +kernel
theorem dJ9_abs_0f7a4_6 : decode cJ9_abs_0f7a4 6 = .ok (.goto 4, 3) := by decide +kernel
theorem dJ9_abs_0f7a4_9 : decode cJ9_abs_0f7a4 9 = .ok (.iload_n 0, 1) := by decide +kernel
theorem dJ9_abs_0f7a4_10 : decode cJ9_abs_0f7a4 10 = .ok (.ireturn, 1) := by decide +kernel
theorem dJ9_max_7cf53_0 : decode cJ9_max_7cf53 0 = .ok (.iload_n 0, 1) := by decide +kernel
theorem dJ9_max_7cf53_1 : decode cJ9_max_7cf53 1 = .ok (.iload_n 1, 1) := by decide +kernel
theorem dJ9_max_7cf53_2 : decode cJ9_max_7cf53 2 = .ok (.if_icmp .lt 7, 3) := by decide +kernel
theorem dJ9_max_7cf53_5 : decode cJ9_max_7cf53 5 = .ok (.iload_n 0, 1) := by decide +kernel
theorem dJ9_max_7cf53_6 : decode cJ9_max_7cf53 6 = .ok (.goto 4, 3) := by decide +kernel
theorem dJ9_max_7cf53_9 : decode cJ9_max_7cf53 9 = .ok (.iload_n 1, 1) := by decide +kernel
theorem dJ9_max_7cf53_10 : decode cJ9_max_7cf53 10 = .ok (.ireturn, 1) := by decide +kernel
theorem dJ9_min_7cf53_0 : decode cJ9_min_7cf53 0 = .ok (.iload_n 0, 1) := by decide +kernel
theorem dJ9_min_7cf53_1 : decode cJ9_min_7cf53 1 = .ok (.iload_n 1, 1) := by decide +kernel
theorem dJ9_min_7cf53_2 : decode cJ9_min_7cf53 2 = .ok (.if_icmp .gt 7, 3) := by decide +kernel
theorem dJ9_min_7cf53_5 : decode cJ9_min_7cf53 5 = .ok (.iload_n 0, 1) := by decide +kernel
theorem dJ9_min_7cf53_6 : decode cJ9_min_7cf53 6 = .ok (.goto 4, 3) := by decide +kernel
theorem dJ9_min_7cf53_9 : decode cJ9_min_7cf53 9 = .ok (.iload_n 1, 1) := by decide +kernel
theorem dJ9_min_7cf53_10 : decode cJ9_min_7cf53 10 = .ok (.ireturn, 1) := by decide +kernel
theorem dJ0_length_8abf5_0 : decode cJ0_length_8abf5 0 = .ok (.aload_n 0, 1) := by decide +kernel
theorem dJ0_length_8abf5_1 : decode cJ0_length_8abf5 1 = .ok (.getfield 9, 3) := by decide +kernel
theorem dJ0_length_8abf5_4 : decode cJ0_length_8abf5 4 = .ok (.arraylength, 1) := by decide +kernel
theorem dJ0_length_8abf5_5 : decode cJ0_length_8abf5 5 = .ok (.aload_n 0, 1) := by decide +kernel
theorem dJ0_length_8abf5_6 : decode cJ0_length_8abf5 6 = .ok (.invokevirtual 335, 3) := by decide +kernel
theorem dJ0_length_8abf5_9 : decode cJ0_length_8abf5 9 = .ok (.ishr, 1) := by decide +kernel
theorem dJ0_length_8abf5_10 : decode cJ0_length_8abf5 10 = .ok (.ireturn, 1) := by decide +kernel
theorem dJ0_charAt_5068e_0 : decode cJ0_charAt_5068e 0 = .ok (.aload_n 0, 1) := by decide +kernel
theorem dJ0_charAt_5068e_1 : decode cJ0_charAt_5068e 1 = .ok (.invokevirtual 492, 3) := by decide +kernel
theorem dJ0_charAt_5068e_4 : decode cJ0_charAt_5068e 4 = .ok (.ifCond .eq 12, 3) := by decide +kernel
theorem dJ0_charAt_5068e_7 : decode cJ0_charAt_5068e 7 = .ok (.aload_n 0, 1) := by decide +kernel
theorem dJ0_charAt_5068e_8 : decode cJ0_charAt_5068e 8 = .ok (.getfield 9, 3) := by decide +kernel
theorem dJ0_charAt_5068e_11 : decode cJ0_charAt_5068e 11 = .ok (.iload_n 1, 1) := by decide +kernel
theorem dJ0_charAt_5068e_12 : decode cJ0_charAt_5068e 12 = .ok (.invokestatic 495, 3) := by decide +kernel
theorem dJ0_charAt_5068e_15 : decode cJ0_charAt_5068e 15 = .ok (.ireturn, 1) := by decide +kernel
theorem dJ0_charAt_5068e_16 : decode cJ0_charAt_5068e 16 = .ok (.aload_n 0, 1) := by decide +kernel
theorem dJ0_charAt_5068e_17 : decode cJ0_charAt_5068e 17 = .ok (.getfield 9, 3) := by decide +kernel
theorem dJ0_charAt_5068e_20 : decode cJ0_charAt_5068e 20 = .ok (.iload_n 1, 1) := by decide +kernel
theorem dJ0_charAt_5068e_21 : decode cJ0_charAt_5068e 21 = .ok (.invokestatic 498, 3) := by decide +kernel
theorem dJ0_charAt_5068e_24 : decode cJ0_charAt_5068e 24 = .ok (.ireturn, 1) := by decide +kernel
theorem dJ0_indexOf_0f7a4_0 : decode cJ0_indexOf_0f7a4 0 = .ok (.aload_n 0, 1) := by decide +kernel
theorem dJ0_indexOf_0f7a4_1 : decode cJ0_indexOf_0f7a4 1 = .ok (.iload_n 1, 1) := by decide +kernel
theorem dJ0_indexOf_0f7a4_2 : decode cJ0_indexOf_0f7a4 2 = .ok (.iconst 0, 1) := by decide +kernel
theorem dJ0_indexOf_0f7a4_3 : decode cJ0_indexOf_0f7a4 3 = .ok (.invokevirtual 633, 3) := by decide +kernel
theorem dJ0_indexOf_0f7a4_6 : decode cJ0_indexOf_0f7a4 6 = .ok (.ireturn, 1) := by decide +kernel
theorem dJ0_indexOf_7cf53_0 : decode cJ0_indexOf_7cf53 0 = .ok (.aload_n 0, 1) := by decide +kernel
theorem dJ0_indexOf_7cf53_1 : decode cJ0_indexOf_7cf53 1 = .ok (.invokevirtual 492, 3) := by decide +kernel
theorem dJ0_indexOf_7cf53_4 : decode cJ0_indexOf_7cf53 4 = .ok (.ifCond .eq 19, 3) := by decide +kernel
theorem dJ0_indexOf_7cf53_7 : decode cJ0_indexOf_7cf53 7 = .ok (.aload_n 0, 1) := by decide +kernel
theorem dJ0_indexOf_7cf53_8 : decode cJ0_indexOf_7cf53 8 = .ok (.getfield 9, 3) := by decide +kernel
theorem dJ0_indexOf_7cf53_11 : decode cJ0_indexOf_7cf53 11 = .ok (.iload_n 1, 1) := by decide +kernel
theorem dJ0_indexOf_7cf53_12 : decode cJ0_indexOf_7cf53 12 = .ok (.iload_n 2, 1) := by decide +kernel
theorem dJ0_indexOf_7cf53_13 : decode cJ0_indexOf_7cf53 13 = .ok (.aload_n 0, 1) := by decide +kernel
theorem dJ0_indexOf_7cf53_14 : decode cJ0_indexOf_7cf53 14 = .ok (.invokevirtual 505, 3) := by decide +kernel
theorem dJ0_indexOf_7cf53_17 : decode cJ0_indexOf_7cf53 17 = .ok (.invokestatic 637, 3) := by decide +kernel
theorem dJ0_indexOf_7cf53_20 : decode cJ0_indexOf_7cf53 20 = .ok (.goto 16, 3) := by decide +kernel
theorem dJ0_indexOf_7cf53_23 : decode cJ0_indexOf_7cf53 23 = .ok (.aload_n 0, 1) := by decide +kernel
theorem dJ0_indexOf_7cf53_24 : decode cJ0_indexOf_7cf53 24 = .ok (.getfield 9, 3) := by decide +kernel
theorem dJ0_indexOf_7cf53_27 : decode cJ0_indexOf_7cf53 27 = .ok (.iload_n 1, 1) := by decide +kernel
theorem dJ0_indexOf_7cf53_28 : decode cJ0_indexOf_7cf53 28 = .ok (.iload_n 2, 1) := by decide +kernel
theorem dJ0_indexOf_7cf53_29 : decode cJ0_indexOf_7cf53 29 = .ok (.aload_n 0, 1) := by decide +kernel
theorem dJ0_indexOf_7cf53_30 : decode cJ0_indexOf_7cf53 30 = .ok (.invokevirtual 505, 3) := by decide +kernel
theorem dJ0_indexOf_7cf53_33 : decode cJ0_indexOf_7cf53 33 = .ok (.invokestatic 640, 3) := by decide +kernel
theorem dJ0_indexOf_7cf53_36 : decode cJ0_indexOf_7cf53 36 = .ok (.ireturn, 1) := by decide +kernel
theorem dJ0_coder_7d493_0 : decode cJ0_coder_7d493 0 = .ok (.getstatic 38, 3) := by decide +kernel
theorem dJ0_coder_7d493_3 : decode cJ0_coder_7d493 3 = .ok (.ifCond .eq 10, 3) := by decide +kernel
theorem dJ0_coder_7d493_6 : decode cJ0_coder_7d493 6 = .ok (.aload_n 0, 1) := by decide +kernel
theorem dJ0_coder_7d493_7 : decode cJ0_coder_7d493 7 = .ok (.getfield 15, 3) := by decide +kernel
theorem dJ0_coder_7d493_10 : decode cJ0_coder_7d493 10 = .ok (.goto 4, 3) := by decide +kernel
theorem dJ0_coder_7d493_13 : decode cJ0_coder_7d493 13 = .ok (.iconst 1, 1) := by decide +kernel
theorem dJ0_coder_7d493_14 : decode cJ0_coder_7d493 14 = .ok (.ireturn, 1) := by decide +kernel
theorem dJ0_isLatin1_aae02_0 : decode cJ0_isLatin1_aae02 0 = .ok (.getstatic 38, 3) := by decide +kernel
theorem dJ0_isLatin1_aae02_3 : decode cJ0_isLatin1_aae02 3 = .ok (.ifCond .eq 14, 3) := by decide +kernel
theorem dJ0_isLatin1_aae02_6 : decode cJ0_isLatin1_aae02 6 = .ok (.aload_n 0, 1) := by decide +kernel
theorem dJ0_isLatin1_aae02_7 : decode cJ0_isLatin1_aae02 7 = .ok (.getfield 15, 3) := by decide +kernel
theorem dJ0_isLatin1_aae02_10 : decode cJ0_isLatin1_aae02 10 = .ok (.ifCond .ne 7, 3) := by decide +kernel
theorem dJ0_isLatin1_aae02_13 : decode cJ0_isLatin1_aae02 13 = .ok (.iconst 1, 1) := by decide +kernel
theorem dJ0_isLatin1_aae02_14 : decode cJ0_isLatin1_aae02 14 = .ok (.goto 4, 3) := by decide +kernel
theorem dJ0_isLatin1_aae02_17 : decode cJ0_isLatin1_aae02 17 = .ok (.iconst 0, 1) := by decide +kernel
theorem dJ0_isLatin1_aae02_18 : decode cJ0_isLatin1_aae02 18 = .ok (.ireturn, 1) := by decide +kernel
theorem dJ0_checkIndex_df160_0 : decode cJ0_checkIndex_df160 0 = .ok (.iload_n 0, 1) := by decide +kernel
theorem dJ0_checkIndex_df160_1 : decode cJ0_checkIndex_df160 1 = .ok (.iload_n 1, 1) := by decide +kernel
theorem dJ0_checkIndex_df160_2 : decode cJ0_checkIndex_df160 2 = .ok (.getstatic 1053, 3) := by decide +kernel
theorem dJ0_checkIndex_df160_5 : decode cJ0_checkIndex_df160 5 = .ok (.invokestatic 1059, 3) := by decide +kernel
theorem dJ0_checkIndex_df160_8 : decode cJ0_checkIndex_df160 8 = .ok (.pop, 1) := by decide +kernel
theorem dJ0_checkIndex_df160_9 : decode cJ0_checkIndex_df160 9 = .ok (.return_, 1) := by decide +kernel
theorem dJ0_checkBoundsBeginEnd_23922_0 : decode cJ0_checkBoundsBeginEnd_23922 0 = .ok (.iload_n 0, 1) := by decide +kernel
theorem dJ0_checkBoundsBeginEnd_23922_1 : decode cJ0_checkBoundsBeginEnd_23922 1 = .ok (.iload_n 1, 1) := by decide +kernel
theorem dJ0_checkBoundsBeginEnd_23922_2 : decode cJ0_checkBoundsBeginEnd_23922 2 = .ok (.iload_n 2, 1) := by decide +kernel
theorem dJ0_checkBoundsBeginEnd_23922_3 : decode cJ0_checkBoundsBeginEnd_23922 3 = .ok (.getstatic 1053, 3) := by decide +kernel
theorem dJ0_checkBoundsBeginEnd_23922_6 : decode cJ0_checkBoundsBeginEnd_23922 6 = .ok (.invokestatic 1062, 3) := by decide +kernel
theorem dJ0_checkBoundsBeginEnd_23922_9 : decode cJ0_checkBoundsBeginEnd_23922 9 = .ok (.pop, 1) := by decide +kernel
theorem dJ0_checkBoundsBeginEnd_23922_10 : decode cJ0_checkBoundsBeginEnd_23922 10 = .ok (.return_, 1) := by decide +kernel
theorem dJ1_charAt_3b067_0 : decode cJ1_charAt_3b067 0 = .ok (.iload_n 1, 1) := by decide +kernel
theorem dJ1_charAt_3b067_1 : decode cJ1_charAt_3b067 1 = .ok (.aload_n 0, 1) := by decide +kernel
theorem dJ1_charAt_3b067_2 : decode cJ1_charAt_3b067 2 = .ok (.arraylength, 1) := by decide +kernel
theorem dJ1_charAt_3b067_3 : decode cJ1_charAt_3b067 3 = .ok (.invokestatic 9, 3) := by decide +kernel
theorem dJ1_charAt_3b067_6 : decode cJ1_charAt_3b067 6 = .ok (.aload_n 0, 1) := by decide +kernel
theorem dJ1_charAt_3b067_7 : decode cJ1_charAt_3b067 7 = .ok (.iload_n 1, 1) := by decide +kernel
theorem dJ1_charAt_3b067_8 : decode cJ1_charAt_3b067 8 = .ok (.baload, 1) := by decide +kernel
theorem dJ1_charAt_3b067_9 : decode cJ1_charAt_3b067 9 = .ok (.sipush 255, 3) := by decide +kernel
theorem dJ1_charAt_3b067_12 : decode cJ1_charAt_3b067 12 = .ok (.iand, 1) := by decide +kernel
theorem dJ1_charAt_3b067_13 : decode cJ1_charAt_3b067 13 = .ok (.i2c, 1) := by decide +kernel
theorem dJ1_charAt_3b067_14 : decode cJ1_charAt_3b067 14 = .ok (.ireturn, 1) := by decide +kernel
theorem dJ1_canEncode_9a6ad_0 : decode cJ1_canEncode_9a6ad 0 = .ok (.iload_n 0, 1) := by decide +kernel
theorem dJ1_canEncode_9a6ad_1 : decode cJ1_canEncode_9a6ad 1 = .ok (.ifCond .lt 14, 3) := by decide +kernel
theorem dJ1_canEncode_9a6ad_4 : decode cJ1_canEncode_9a6ad 4 = .ok (.iload_n 0, 1) := by decide +kernel
theorem dJ1_canEncode_9a6ad_5 : decode cJ1_canEncode_9a6ad 5 = .ok (.sipush 255, 3) := by decide +kernel
theorem dJ1_canEncode_9a6ad_8 : decode cJ1_canEncode_9a6ad 8 = .ok (.if_icmp .gt 7, 3) := by decide +kernel
theorem dJ1_canEncode_9a6ad_11 : decode cJ1_canEncode_9a6ad 11 = .ok (.iconst 1, 1) := by decide +kernel
theorem dJ1_canEncode_9a6ad_12 : decode cJ1_canEncode_9a6ad 12 = .ok (.goto 4, 3) := by decide +kernel
theorem dJ1_canEncode_9a6ad_15 : decode cJ1_canEncode_9a6ad 15 = .ok (.iconst 0, 1) := by decide +kernel
theorem dJ1_canEncode_9a6ad_16 : decode cJ1_canEncode_9a6ad 16 = .ok (.ireturn, 1) := by decide +kernel
theorem dJ1_indexOf_4cfef_0 : decode cJ1_indexOf_4cfef 0 = .ok (.iload_n 1, 1) := by decide +kernel
theorem dJ1_indexOf_4cfef_1 : decode cJ1_indexOf_4cfef 1 = .ok (.invokestatic 88, 3) := by decide +kernel
theorem dJ1_indexOf_4cfef_4 : decode cJ1_indexOf_4cfef 4 = .ok (.ifCond .ne 5, 3) := by decide +kernel
theorem dJ1_indexOf_4cfef_7 : decode cJ1_indexOf_4cfef 7 = .ok (.iconst (-1), 1) := by decide +kernel
theorem dJ1_indexOf_4cfef_8 : decode cJ1_indexOf_4cfef 8 = .ok (.ireturn, 1) := by decide +kernel
theorem dJ1_indexOf_4cfef_9 : decode cJ1_indexOf_4cfef 9 = .ok (.iload_n 2, 1) := by decide +kernel
theorem dJ1_indexOf_4cfef_10 : decode cJ1_indexOf_4cfef 10 = .ok (.iconst 0, 1) := by decide +kernel
theorem dJ1_indexOf_4cfef_11 : decode cJ1_indexOf_4cfef 11 = .ok (.invokestatic 92, 3) := by decide +kernel
theorem dJ1_indexOf_4cfef_14 : decode cJ1_indexOf_4cfef 14 = .ok (.istore_n 2, 1) := by decide +kernel
theorem dJ1_indexOf_4cfef_15 : decode cJ1_indexOf_4cfef 15 = .ok (.iload_n 3, 1) := by decide +kernel
theorem dJ1_indexOf_4cfef_16 : decode cJ1_indexOf_4cfef 16 = .ok (.aload_n 0, 1) := by decide +kernel
theorem dJ1_indexOf_4cfef_17 : decode cJ1_indexOf_4cfef 17 = .ok (.arraylength, 1) := by decide +kernel
theorem dJ1_indexOf_4cfef_18 : decode cJ1_indexOf_4cfef 18 = .ok (.invokestatic 38, 3) := by decide +kernel
theorem dJ1_indexOf_4cfef_21 : decode cJ1_indexOf_4cfef 21 = .ok (.istore_n 3, 1) := by decide +kernel
theorem dJ1_indexOf_4cfef_22 : decode cJ1_indexOf_4cfef 22 = .ok (.iload_n 2, 1) := by decide +kernel
theorem dJ1_indexOf_4cfef_23 : decode cJ1_indexOf_4cfef 23 = .ok (.iload_n 3, 1) := by decide +kernel
theorem dJ1_indexOf_4cfef_24 : decode cJ1_indexOf_4cfef 24 = .ok (.if_icmp .lt 5, 3) := by decide +kernel
theorem dJ1_indexOf_4cfef_27 : decode cJ1_indexOf_4cfef 27 = .ok (.iconst (-1), 1) := by decide +kernel
theorem dJ1_indexOf_4cfef_28 : decode cJ1_indexOf_4cfef 28 = .ok (.ireturn, 1) := by decide +kernel
theorem dJ1_indexOf_4cfef_29 : decode cJ1_indexOf_4cfef 29 = .ok (.aload_n 0, 1) := by decide +kernel
theorem dJ1_indexOf_4cfef_30 : decode cJ1_indexOf_4cfef 30 = .ok (.iload_n 1, 1) := by decide +kernel
theorem dJ1_indexOf_4cfef_31 : decode cJ1_indexOf_4cfef 31 = .ok (.iload_n 2, 1) := by decide +kernel
theorem dJ1_indexOf_4cfef_32 : decode cJ1_indexOf_4cfef 32 = .ok (.iload_n 3, 1) := by decide +kernel
theorem dJ1_indexOf_4cfef_33 : decode cJ1_indexOf_4cfef 33 = .ok (.invokestatic 95, 3) := by decide +kernel
theorem dJ1_indexOf_4cfef_36 : decode cJ1_indexOf_4cfef 36 = .ok (.ireturn, 1) := by decide +kernel
theorem dJ1_indexOfChar_4cfef_0 : decode cJ1_indexOfChar_4cfef 0 = .ok (.iload_n 1, 1) := by decide +kernel
theorem dJ1_indexOfChar_4cfef_1 : decode cJ1_indexOfChar_4cfef 1 = .ok (.i2b, 1) := by decide +kernel
theorem dJ1_indexOfChar_4cfef_2 : decode cJ1_indexOfChar_4cfef 2 = .ok (.istore 4, 2) := by decide +kernel
theorem dJ1_indexOfChar_4cfef_4 : decode cJ1_indexOfChar_4cfef 4 = .ok (.iload_n 2, 1) := by decide +kernel
theorem dJ1_indexOfChar_4cfef_5 : decode cJ1_indexOfChar_4cfef 5 = .ok (.istore 5, 2) := by decide +kernel
theorem dJ1_indexOfChar_4cfef_7 : decode cJ1_indexOfChar_4cfef 7 = .ok (.iload 5, 2) := by decide +kernel
theorem dJ1_indexOfChar_4cfef_9 : decode cJ1_indexOfChar_4cfef 9 = .ok (.iload_n 3, 1) := by decide +kernel
theorem dJ1_indexOfChar_4cfef_10 : decode cJ1_indexOfChar_4cfef 10 = .ok (.if_icmp .ge 21, 3) := by decide +kernel
theorem dJ1_indexOfChar_4cfef_13 : decode cJ1_indexOfChar_4cfef 13 = .ok (.aload_n 0, 1) := by decide +kernel
theorem dJ1_indexOfChar_4cfef_14 : decode cJ1_indexOfChar_4cfef 14 = .ok (.iload 5, 2) := by decide +kernel
theorem dJ1_indexOfChar_4cfef_16 : decode cJ1_indexOfChar_4cfef 16 = .ok (.baload, 1) := by decide +kernel
theorem dJ1_indexOfChar_4cfef_17 : decode cJ1_indexOfChar_4cfef 17 = .ok (.iload 4, 2) := by decide +kernel
theorem dJ1_indexOfChar_4cfef_19 : decode cJ1_indexOfChar_4cfef 19 = .ok (.if_icmp .ne 6, 3) := by decide +kernel
theorem dJ1_indexOfChar_4cfef_22 : decode cJ1_indexOfChar_4cfef 22 = .ok (.iload 5, 2) := by decide +kernel
theorem dJ1_indexOfChar_4cfef_24 : decode cJ1_indexOfChar_4cfef 24 = .ok (.ireturn, 1) := by decide +kernel
theorem dJ1_indexOfChar_4cfef_25 : decode cJ1_indexOfChar_4cfef 25 = .ok (.iinc 5 1, 3) := by decide +kernel
theorem dJ1_indexOfChar_4cfef_28 : decode cJ1_indexOfChar_4cfef 28 = .ok (.goto (-21), 3) := by decide +kernel
theorem dJ1_indexOfChar_4cfef_31 : decode cJ1_indexOfChar_4cfef 31 = .ok (.iconst (-1), 1) := by decide +kernel
theorem dJ1_indexOfChar_4cfef_32 : decode cJ1_indexOfChar_4cfef 32 = .ok (.ireturn, 1) := by decide +kernel
theorem dJ2_getChar_3b067_0 : decode cJ2_getChar_3b067 0 = .ok (.getstatic 44, 3) := by decide +kernel
theorem dJ2_getChar_3b067_3 : decode cJ2_getChar_3b067 3 = .ok (.ifCond .ne 25, 3) := by decide +kernel
theorem dJ2_getChar_3b067_6 : decode cJ2_getChar_3b067 6 = .ok (.iload_n 1, 1) := by decide +kernel
theorem dJ2_getChar_3b067_7 : decode cJ2_getChar_3b067 7 = .ok (.ifCond .lt 11, 3) := by decide +kernel
theorem dJ2_getChar_3b067_10 : decode cJ2_getChar_3b067 10 = .ok (.iload_n 1, 1) := by decide +kernel
theorem dJ2_getChar_3b067_11 : decode cJ2_getChar_3b067 11 = .ok (.aload_n 0, 1) := by decide +kernel
theorem dJ2_getChar_3b067_12 : decode cJ2_getChar_3b067 12 = .ok (.invokestatic 48, 3) := by decide +kernel
theorem dJ2_getChar_3b067_15 : decode cJ2_getChar_3b067 15 = .ok (.if_icmp .lt 13, 3) := by decide +kernel
theorem dJ2_getChar_3b067_18 : decode cJ2_getChar_3b067 18 = .ok (.new 52, 3) := by decide +kernel
theorem dJ2_getChar_3b067_21 : decode cJ2_getChar_3b067 21 = .ok (.dup, 1) := by decide +kernel
theorem dJ2_getChar_3b067_22 : decode cJ2_getChar_3b067 22 = .ok (.ldc 54, 2) := by decide +kernel
theorem dJ2_getChar_3b067_24 : decode cJ2_getChar_3b067 24 = .ok (.invokespecial 56, 3) := by decide +kernel
theorem dJ2_getChar_3b067_27 : decode cJ2_getChar_3b067 27 = .ok (.athrow, 1) := by decide +kernel
theorem dJ2_getChar_3b067_28 : decode cJ2_getChar_3b067 28 = .ok (.iload_n 1, 1) := by decide +kernel
theorem dJ2_getChar_3b067_29 : decode cJ2_getChar_3b067 29 = .ok (.iconst 1, 1) := by decide +kernel
theorem dJ2_getChar_3b067_30 : decode cJ2_getChar_3b067 30 = .ok (.ishl, 1) := by decide +kernel
theorem dJ2_getChar_3b067_31 : decode cJ2_getChar_3b067 31 = .ok (.istore_n 1, 1) := by decide +kernel
theorem dJ2_getChar_3b067_32 : decode cJ2_getChar_3b067 32 = .ok (.aload_n 0, 1) := by decide +kernel
theorem dJ2_getChar_3b067_33 : decode cJ2_getChar_3b067 33 = .ok (.iload_n 1, 1) := by decide +kernel
theorem dJ2_getChar_3b067_34 : decode cJ2_getChar_3b067 34 = .ok (.iinc 1 1, 3) := by decide +kernel
theorem dJ2_getChar_3b067_37 : decode cJ2_getChar_3b067 37 = .ok (.baload, 1) := by decide +kernel
theorem dJ2_getChar_3b067_38 : decode cJ2_getChar_3b067 38 = .ok (.sipush 255, 3) := by decide +kernel
theorem dJ2_getChar_3b067_41 : decode cJ2_getChar_3b067 41 = .ok (.iand, 1) := by decide +kernel
theorem dJ2_getChar_3b067_42 : decode cJ2_getChar_3b067 42 = .ok (.getstatic 59, 3) := by decide +kernel
theorem dJ2_getChar_3b067_45 : decode cJ2_getChar_3b067 45 = .ok (.ishl, 1) := by decide +kernel
theorem dJ2_getChar_3b067_46 : decode cJ2_getChar_3b067 46 = .ok (.aload_n 0, 1) := by decide +kernel
theorem dJ2_getChar_3b067_47 : decode cJ2_getChar_3b067 47 = .ok (.iload_n 1, 1) := by decide +kernel
theorem dJ2_getChar_3b067_48 : decode cJ2_getChar_3b067 48 = .ok (.baload, 1) := by decide +kernel
theorem dJ2_getChar_3b067_49 : decode cJ2_getChar_3b067 49 = .ok (.sipush 255, 3) := by decide +kernel
theorem dJ2_getChar_3b067_52 : decode cJ2_getChar_3b067 52 = .ok (.iand, 1) := by decide +kernel
theorem dJ2_getChar_3b067_53 : decode cJ2_getChar_3b067 53 = .ok (.getstatic 63, 3) := by decide +kernel
theorem dJ2_getChar_3b067_56 : decode cJ2_getChar_3b067 56 = .ok (.ishl, 1) := by decide +kernel
theorem dJ2_getChar_3b067_57 : decode cJ2_getChar_3b067 57 = .ok (.ior, 1) := by decide +kernel
theorem dJ2_getChar_3b067_58 : decode cJ2_getChar_3b067 58 = .ok (.i2c, 1) := by decide +kernel
theorem dJ2_getChar_3b067_59 : decode cJ2_getChar_3b067 59 = .ok (.ireturn, 1) := by decide +kernel
theorem dJ2_length_9d52b_0 : decode cJ2_length_9d52b 0 = .ok (.aload_n 0, 1) := by decide +kernel
theorem dJ2_length_9d52b_1 : decode cJ2_length_9d52b 1 = .ok (.arraylength, 1) := by decide +kernel
theorem dJ2_length_9d52b_2 : decode cJ2_length_9d52b 2 = .ok (.iconst 1, 1) := by decide +kernel
theorem dJ2_length_9d52b_3 : decode cJ2_length_9d52b 3 = .ok (.ishr, 1) := by decide +kernel
theorem dJ2_length_9d52b_4 : decode cJ2_length_9d52b 4 = .ok (.ireturn, 1) := by decide +kernel
theorem dJ2_indexOf_4cfef_0 : decode cJ2_indexOf_4cfef 0 = .ok (.iload_n 2, 1) := by decide +kernel
theorem dJ2_indexOf_4cfef_1 : decode cJ2_indexOf_4cfef 1 = .ok (.iconst 0, 1) := by decide +kernel
theorem dJ2_indexOf_4cfef_2 : decode cJ2_indexOf_4cfef 2 = .ok (.invokestatic 224, 3) := by decide +kernel
theorem dJ2_indexOf_4cfef_5 : decode cJ2_indexOf_4cfef 5 = .ok (.istore_n 2, 1) := by decide +kernel
theorem dJ2_indexOf_4cfef_6 : decode cJ2_indexOf_4cfef 6 = .ok (.iload_n 3, 1) := by decide +kernel
theorem dJ2_indexOf_4cfef_7 : decode cJ2_indexOf_4cfef 7 = .ok (.aload_n 0, 1) := by decide +kernel
theorem dJ2_indexOf_4cfef_8 : decode cJ2_indexOf_4cfef 8 = .ok (.arraylength, 1) := by decide +kernel
theorem dJ2_indexOf_4cfef_9 : decode cJ2_indexOf_4cfef 9 = .ok (.iconst 1, 1) := by decide +kernel
theorem dJ2_indexOf_4cfef_10 : decode cJ2_indexOf_4cfef 10 = .ok (.ishr, 1) := by decide +kernel
theorem dJ2_indexOf_4cfef_11 : decode cJ2_indexOf_4cfef 11 = .ok (.invokestatic 183, 3) := by decide +kernel
theorem dJ2_indexOf_4cfef_14 : decode cJ2_indexOf_4cfef 14 = .ok (.istore_n 3, 1) := by decide +kernel
theorem dJ2_indexOf_4cfef_15 : decode cJ2_indexOf_4cfef 15 = .ok (.iload_n 2, 1) := by decide +kernel
theorem dJ2_indexOf_4cfef_16 : decode cJ2_indexOf_4cfef 16 = .ok (.iload_n 3, 1) := by decide +kernel
theorem dJ2_indexOf_4cfef_17 : decode cJ2_indexOf_4cfef 17 = .ok (.if_icmp .lt 5, 3) := by decide +kernel
theorem dJ2_indexOf_4cfef_20 : decode cJ2_indexOf_4cfef 20 = .ok (.iconst (-1), 1) := by decide +kernel
theorem dJ2_indexOf_4cfef_21 : decode cJ2_indexOf_4cfef 21 = .ok (.ireturn, 1) := by decide +kernel
theorem dJ2_indexOf_4cfef_22 : decode cJ2_indexOf_4cfef 22 = .ok (.iload_n 1, 1) := by decide +kernel
theorem dJ2_indexOf_4cfef_23 : decode cJ2_indexOf_4cfef 23 = .ok (.ldc 227, 2) := by decide +kernel
theorem dJ2_indexOf_4cfef_25 : decode cJ2_indexOf_4cfef 25 = .ok (.if_icmp .ge 11, 3) := by decide +kernel
theorem dJ2_indexOf_4cfef_28 : decode cJ2_indexOf_4cfef 28 = .ok (.aload_n 0, 1) := by decide +kernel
theorem dJ2_indexOf_4cfef_29 : decode cJ2_indexOf_4cfef 29 = .ok (.iload_n 1, 1) := by decide +kernel
theorem dJ2_indexOf_4cfef_30 : decode cJ2_indexOf_4cfef 30 = .ok (.iload_n 2, 1) := by decide +kernel
theorem dJ2_indexOf_4cfef_31 : decode cJ2_indexOf_4cfef 31 = .ok (.iload_n 3, 1) := by decide +kernel
theorem dJ2_indexOf_4cfef_32 : decode cJ2_indexOf_4cfef 32 = .ok (.invokestatic 228, 3) := by decide +kernel
theorem dJ2_indexOf_4cfef_35 : decode cJ2_indexOf_4cfef 35 = .ok (.ireturn, 1) := by decide +kernel
theorem dJ2_indexOf_4cfef_36 : decode cJ2_indexOf_4cfef 36 = .ok (.aload_n 0, 1) := by decide +kernel
theorem dJ2_indexOf_4cfef_37 : decode cJ2_indexOf_4cfef 37 = .ok (.iload_n 1, 1) := by decide +kernel
theorem dJ2_indexOf_4cfef_38 : decode cJ2_indexOf_4cfef 38 = .ok (.iload_n 2, 1) := by decide +kernel
theorem dJ2_indexOf_4cfef_39 : decode cJ2_indexOf_4cfef 39 = .ok (.iload_n 3, 1) := by decide +kernel
theorem dJ2_indexOf_4cfef_40 : decode cJ2_indexOf_4cfef 40 = .ok (.invokestatic 232, 3) := by decide +kernel
theorem dJ2_indexOf_4cfef_43 : decode cJ2_indexOf_4cfef 43 = .ok (.ireturn, 1) := by decide +kernel
theorem dJ2_indexOfChar_4cfef_0 : decode cJ2_indexOfChar_4cfef 0 = .ok (.iload_n 2, 1) := by decide +kernel
theorem dJ2_indexOfChar_4cfef_1 : decode cJ2_indexOfChar_4cfef 1 = .ok (.iload_n 3, 1) := by decide +kernel
theorem dJ2_indexOfChar_4cfef_2 : decode cJ2_indexOfChar_4cfef 2 = .ok (.aload_n 0, 1) := by decide +kernel
theorem dJ2_indexOfChar_4cfef_3 : decode cJ2_indexOfChar_4cfef 3 = .ok (.invokestatic 96, 3) := by decide +kernel
theorem dJ2_indexOfChar_4cfef_6 : decode cJ2_indexOfChar_4cfef 6 = .ok (.aload_n 0, 1) := by decide +kernel
theorem dJ2_indexOfChar_4cfef_7 : decode cJ2_indexOfChar_4cfef 7 = .ok (.iload_n 1, 1) := by decide +kernel
theorem dJ2_indexOfChar_4cfef_8 : decode cJ2_indexOfChar_4cfef 8 = .ok (.iload_n 2, 1) := by decide +kernel
theorem dJ2_indexOfChar_4cfef_9 : decode cJ2_indexOfChar_4cfef 9 = .ok (.iload_n 3, 1) := by decide +kernel
theorem dJ2_indexOfChar_4cfef_10 : decode cJ2_indexOfChar_4cfef 10 = .ok (.invokestatic 244, 3) := by decide +kernel
theorem dJ2_indexOfChar_4cfef_13 : decode cJ2_indexOfChar_4cfef 13 = .ok (.ireturn, 1) := by decide +kernel
theorem dJ2_indexOfCharUnsafe_4cfef_0 : decode cJ2_indexOfCharUnsafe_4cfef 0 = .ok (.iload_n 2, 1) := by decide +kernel
theorem dJ2_indexOfCharUnsafe_4cfef_1 : decode cJ2_indexOfCharUnsafe_4cfef 1 = .ok (.istore 4, 2) := by decide +kernel
theorem dJ2_indexOfCharUnsafe_4cfef_3 : decode cJ2_indexOfCharUnsafe_4cfef 3 = .ok (.iload 4, 2) := by decide +kernel
theorem dJ2_indexOfCharUnsafe_4cfef_5 : decode cJ2_indexOfCharUnsafe_4cfef 5 = .ok (.iload_n 3, 1) := by decide +kernel
theorem dJ2_indexOfCharUnsafe_4cfef_6 : decode cJ2_indexOfCharUnsafe_4cfef 6 = .ok (.if_icmp .ge 22, 3) := by decide +kernel
theorem dJ2_indexOfCharUnsafe_4cfef_9 : decode cJ2_indexOfCharUnsafe_4cfef 9 = .ok (.aload_n 0, 1) := by decide +kernel
theorem dJ2_indexOfCharUnsafe_4cfef_10 : decode cJ2_indexOfCharUnsafe_4cfef 10 = .ok (.iload 4, 2) := by decide +kernel
theorem dJ2_indexOfCharUnsafe_4cfef_12 : decode cJ2_indexOfCharUnsafe_4cfef 12 = .ok (.invokestatic 71, 3) := by decide +kernel
theorem dJ2_indexOfCharUnsafe_4cfef_15 : decode cJ2_indexOfCharUnsafe_4cfef 15 = .ok (.iload_n 1, 1) := by decide +kernel
theorem dJ2_indexOfCharUnsafe_4cfef_16 : decode cJ2_indexOfCharUnsafe_4cfef 16 = .ok (.if_icmp .ne 6, 3) := by decide +kernel
theorem dJ2_indexOfCharUnsafe_4cfef_19 : decode cJ2_indexOfCharUnsafe_4cfef 19 = .ok (.iload 4, 2) := by decide +kernel
theorem dJ2_indexOfCharUnsafe_4cfef_21 : decode cJ2_indexOfCharUnsafe_4cfef 21 = .ok (.ireturn, 1) := by decide +kernel
theorem dJ2_indexOfCharUnsafe_4cfef_22 : decode cJ2_indexOfCharUnsafe_4cfef 22 = .ok (.iinc 4 1, 3) := by decide +kernel
theorem dJ2_indexOfCharUnsafe_4cfef_25 : decode cJ2_indexOfCharUnsafe_4cfef 25 = .ok (.goto (-22), 3) := by decide +kernel
theorem dJ2_indexOfCharUnsafe_4cfef_28 : decode cJ2_indexOfCharUnsafe_4cfef 28 = .ok (.iconst (-1), 1) := by decide +kernel
theorem dJ2_indexOfCharUnsafe_4cfef_29 : decode cJ2_indexOfCharUnsafe_4cfef 29 = .ok (.ireturn, 1) := by decide +kernel
theorem dJ2_indexOfSupplementary_4cfef_0 : decode cJ2_indexOfSupplementary_4cfef 0 = .ok (.iload_n 1, 1) := by decide +kernel
theorem dJ2_indexOfSupplementary_4cfef_1 : decode cJ2_indexOfSupplementary_4cfef 1 = .ok (.invokestatic 164, 3) := by decide +kernel
theorem dJ2_indexOfSupplementary_4cfef_4 : decode cJ2_indexOfSupplementary_4cfef 4 = .ok (.ifCond .eq 65, 3) := by decide +kernel
theorem dJ2_indexOfSupplementary_4cfef_7 : decode cJ2_indexOfSupplementary_4cfef 7 = .ok (.iload_n 1, 1) := by decide +kernel
theorem dJ2_indexOfSupplementary_4cfef_8 : decode cJ2_indexOfSupplementary_4cfef 8 = .ok (.invokestatic 157, 3) := by decide +kernel
theorem dJ2_indexOfSupplementary_4cfef_11 : decode cJ2_indexOfSupplementary_4cfef 11 = .ok (.istore 4, 2) := by decide +kernel
theorem dJ2_indexOfSupplementary_4cfef_13 : decode cJ2_indexOfSupplementary_4cfef 13 = .ok (.iload_n 1, 1) := by decide +kernel
theorem dJ2_indexOfSupplementary_4cfef_14 : decode cJ2_indexOfSupplementary_4cfef 14 = .ok (.invokestatic 161, 3) := by decide +kernel
theorem dJ2_indexOfSupplementary_4cfef_17 : decode cJ2_indexOfSupplementary_4cfef 17 = .ok (.istore 5, 2) := by decide +kernel
theorem dJ2_indexOfSupplementary_4cfef_19 : decode cJ2_indexOfSupplementary_4cfef 19 = .ok (.iload_n 2, 1) := by decide +kernel
theorem dJ2_indexOfSupplementary_4cfef_20 : decode cJ2_indexOfSupplementary_4cfef 20 = .ok (.iload_n 3, 1) := by decide +kernel
theorem dJ2_indexOfSupplementary_4cfef_21 : decode cJ2_indexOfSupplementary_4cfef 21 = .ok (.aload_n 0, 1) := by decide +kernel
theorem dJ2_indexOfSupplementary_4cfef_22 : decode cJ2_indexOfSupplementary_4cfef 22 = .ok (.invokestatic 96, 3) := by decide +kernel
theorem dJ2_indexOfSupplementary_4cfef_25 : decode cJ2_indexOfSupplementary_4cfef 25 = .ok (.iload_n 2, 1) := by decide +kernel
theorem dJ2_indexOfSupplementary_4cfef_26 : decode cJ2_indexOfSupplementary_4cfef 26 = .ok (.istore 6, 2) := by decide +kernel
theorem dJ2_indexOfSupplementary_4cfef_28 : decode cJ2_indexOfSupplementary_4cfef 28 = .ok (.iload 6, 2) := by decide +kernel
theorem dJ2_indexOfSupplementary_4cfef_30 : decode cJ2_indexOfSupplementary_4cfef 30 = .ok (.iload_n 3, 1) := by decide +kernel
theorem dJ2_indexOfSupplementary_4cfef_31 : decode cJ2_indexOfSupplementary_4cfef 31 = .ok (.iconst 1, 1) := by decide +kernel
theorem dJ2_indexOfSupplementary_4cfef_32 : decode cJ2_indexOfSupplementary_4cfef 32 = .ok (.isub, 1) := by decide +kernel
theorem dJ2_indexOfSupplementary_4cfef_33 : decode cJ2_indexOfSupplementary_4cfef 33 = .ok (.if_icmp .ge 36, 3) := by decide +kernel
theorem dJ2_indexOfSupplementary_4cfef_36 : decode cJ2_indexOfSupplementary_4cfef 36 = .ok (.aload_n 0, 1) := by decide +kernel
theorem dJ2_indexOfSupplementary_4cfef_37 : decode cJ2_indexOfSupplementary_4cfef 37 = .ok (.iload 6, 2) := by decide +kernel
theorem dJ2_indexOfSupplementary_4cfef_39 : decode cJ2_indexOfSupplementary_4cfef 39 = .ok (.invokestatic 71, 3) := by decide +kernel
theorem dJ2_indexOfSupplementary_4cfef_42 : decode cJ2_indexOfSupplementary_4cfef 42 = .ok (.iload 4, 2) := by decide +kernel
theorem dJ2_indexOfSupplementary_4cfef_44 : decode cJ2_indexOfSupplementary_4cfef 44 = .ok (.if_icmp .ne 19, 3) := by decide +kernel
theorem dJ2_indexOfSupplementary_4cfef_47 : decode cJ2_indexOfSupplementary_4cfef 47 = .ok (.aload_n 0, 1) := by decide +kernel
theorem dJ2_indexOfSupplementary_4cfef_48 : decode cJ2_indexOfSupplementary_4cfef 48 = .ok (.iload 6, 2) := by decide +kernel
theorem dJ2_indexOfSupplementary_4cfef_50 : decode cJ2_indexOfSupplementary_4cfef 50 = .ok (.iconst 1, 1) := by decide +kernel
theorem dJ2_indexOfSupplementary_4cfef_51 : decode cJ2_indexOfSupplementary_4cfef 51 = .ok (.iadd, 1) := by decide +kernel
theorem dJ2_indexOfSupplementary_4cfef_52 : decode cJ2_indexOfSupplementary_4cfef 52 = .ok (.invokestatic 71, 3) := by decide +kernel
theorem dJ2_indexOfSupplementary_4cfef_55 : decode cJ2_indexOfSupplementary_4cfef 55 = .ok (.iload 5, 2) := by decide +kernel
theorem dJ2_indexOfSupplementary_4cfef_57 : decode cJ2_indexOfSupplementary_4cfef 57 = .ok (.if_icmp .ne 6, 3) := by decide +kernel
theorem dJ2_indexOfSupplementary_4cfef_60 : decode cJ2_indexOfSupplementary_4cfef 60 = .ok (.iload 6, 2) := by decide +kernel
theorem dJ2_indexOfSupplementary_4cfef_62 : decode cJ2_indexOfSupplementary_4cfef 62 = .ok (.ireturn, 1) := by decide +kernel
theorem dJ2_indexOfSupplementary_4cfef_63 : decode cJ2_indexOfSupplementary_4cfef 63 = .ok (.iinc 6 1, 3) := by decide +kernel
theorem dJ2_indexOfSupplementary_4cfef_66 : decode cJ2_indexOfSupplementary_4cfef 66 = .ok (.goto (-38), 3) := by decide +kernel
theorem dJ2_indexOfSupplementary_4cfef_69 : decode cJ2_indexOfSupplementary_4cfef 69 = .ok (.iconst (-1), 1) := by decide +kernel
theorem dJ2_indexOfSupplementary_4cfef_70 : decode cJ2_indexOfSupplementary_4cfef 70 = .ok (.ireturn, 1) := by decide +kernel
theorem dJ2_charAt_3b067_0 : decode cJ2_charAt_3b067 0 = .ok (.iload_n 1, 1) := by decide +kernel
theorem dJ2_charAt_3b067_1 : decode cJ2_charAt_3b067 1 = .ok (.aload_n 0, 1) := by decide +kernel
theorem dJ2_charAt_3b067_2 : decode cJ2_charAt_3b067 2 = .ok (.invokestatic 67, 3) := by decide +kernel
theorem dJ2_charAt_3b067_5 : decode cJ2_charAt_3b067 5 = .ok (.aload_n 0, 1) := by decide +kernel
theorem dJ2_charAt_3b067_6 : decode cJ2_charAt_3b067 6 = .ok (.iload_n 1, 1) := by decide +kernel
theorem dJ2_charAt_3b067_7 : decode cJ2_charAt_3b067 7 = .ok (.invokestatic 71, 3) := by decide +kernel
theorem dJ2_charAt_3b067_10 : decode cJ2_charAt_3b067 10 = .ok (.ireturn, 1) := by decide +kernel
theorem dJ2_checkIndex_2214a_0 : decode cJ2_checkIndex_2214a 0 = .ok (.iload_n 0, 1) := by decide +kernel
theorem dJ2_checkIndex_2214a_1 : decode cJ2_checkIndex_2214a 1 = .ok (.aload_n 1, 1) := by decide +kernel
theorem dJ2_checkIndex_2214a_2 : decode cJ2_checkIndex_2214a 2 = .ok (.invokestatic 48, 3) := by decide +kernel
theorem dJ2_checkIndex_2214a_5 : decode cJ2_checkIndex_2214a 5 = .ok (.invokestatic 414, 3) := by decide +kernel
theorem dJ2_checkIndex_2214a_8 : decode cJ2_checkIndex_2214a 8 = .ok (.return_, 1) := by decide +kernel
theorem dJ2_checkBoundsBeginEnd_d044e_0 : decode cJ2_checkBoundsBeginEnd_d044e 0 = .ok (.iload_n 0, 1) := by decide +kernel
theorem dJ2_checkBoundsBeginEnd_d044e_1 : decode cJ2_checkBoundsBeginEnd_d044e 1 = .ok (.iload_n 1, 1) := by decide +kernel
theorem dJ2_checkBoundsBeginEnd_d044e_2 : decode cJ2_checkBoundsBeginEnd_d044e 2 = .ok (.aload_n 2, 1) := by decide +kernel
theorem dJ2_checkBoundsBeginEnd_d044e_3 : decode cJ2_checkBoundsBeginEnd_d044e 3 = .ok (.invokestatic 48, 3) := by decide +kernel
theorem dJ2_checkBoundsBeginEnd_d044e_6 : decode cJ2_checkBoundsBeginEnd_d044e 6 = .ok (.invokestatic 241, 3) := by decide +kernel
theorem dJ2_checkBoundsBeginEnd_d044e_9 : decode cJ2_checkBoundsBeginEnd_d044e 9 = .ok (.return_, 1) := by decide +kernel
theorem dJ3_checkIndex_8e157_0 : decode cJ3_checkIndex_8e157 0 = .ok (.iload_n 0, 1) := by decide +kernel
theorem dJ3_checkIndex_8e157_1 : decode cJ3_checkIndex_8e157 1 = .ok (.ifCond .lt 8, 3) := by decide +kernel
theorem dJ3_checkIndex_8e157_4 : decode cJ3_checkIndex_8e157 4 = .ok (.iload_n 0, 1) := by decide +kernel
theorem dJ3_checkIndex_8e157_5 : decode cJ3_checkIndex_8e157 5 = .ok (.iload_n 1, 1) := by decide +kernel
theorem dJ3_checkIndex_8e157_6 : decode cJ3_checkIndex_8e157 6 = .ok (.if_icmp .lt 10, 3) := by decide +kernel
theorem dJ3_checkIndex_8e157_9 : decode cJ3_checkIndex_8e157 9 = .ok (.aload_n 2, 1) := by decide +kernel
theorem dJ3_checkIndex_8e157_10 : decode cJ3_checkIndex_8e157 10 = .ok (.iload_n 0, 1) := by decide +kernel
theorem dJ3_checkIndex_8e157_11 : decode cJ3_checkIndex_8e157 11 = .ok (.iload_n 1, 1) := by decide +kernel
theorem dJ3_checkIndex_8e157_12 : decode cJ3_checkIndex_8e157 12 = .ok (.invokestatic 95, 3) := by decide +kernel
theorem dJ3_checkIndex_8e157_15 : decode cJ3_checkIndex_8e157 15 = .ok (.athrow, 1) := by decide +kernel
theorem dJ3_checkIndex_8e157_16 : decode cJ3_checkIndex_8e157 16 = .ok (.iload_n 0, 1) := by decide +kernel
theorem dJ3_checkIndex_8e157_17 : decode cJ3_checkIndex_8e157 17 = .ok (.ireturn, 1) := by decide +kernel
theorem dJ3_checkFromToIndex_8c36e_0 : decode cJ3_checkFromToIndex_8c36e 0 = .ok (.iload_n 0, 1) := by decide +kernel
theorem dJ3_checkFromToIndex_8c36e_1 : decode cJ3_checkFromToIndex_8c36e 1 = .ok (.ifCond .lt 13, 3) := by decide +kernel
theorem dJ3_checkFromToIndex_8c36e_4 : decode cJ3_checkFromToIndex_8c36e 4 = .ok (.iload_n 0, 1) := by decide +kernel
theorem dJ3_checkFromToIndex_8c36e_5 : decode cJ3_checkFromToIndex_8c36e 5 = .ok (.iload_n 1, 1) := by decide +kernel
theorem dJ3_checkFromToIndex_8c36e_6 : decode cJ3_checkFromToIndex_8c36e 6 = .ok (.if_icmp .gt 8, 3) := by decide +kernel
theorem dJ3_checkFromToIndex_8c36e_9 : decode cJ3_checkFromToIndex_8c36e 9 = .ok (.iload_n 1, 1) := by decide +kernel
theorem dJ3_checkFromToIndex_8c36e_10 : decode cJ3_checkFromToIndex_8c36e 10 = .ok (.iload_n 2, 1) := by decide +kernel
theorem dJ3_checkFromToIndex_8c36e_11 : decode cJ3_checkFromToIndex_8c36e 11 = .ok (.if_icmp .le 11, 3) := by decide +kernel
theorem dJ3_checkFromToIndex_8c36e_14 : decode cJ3_checkFromToIndex_8c36e 14 = .ok (.aload_n 3, 1) := by decide +kernel
theorem dJ3_checkFromToIndex_8c36e_15 : decode cJ3_checkFromToIndex_8c36e 15 = .ok (.iload_n 0, 1) := by decide +kernel
theorem dJ3_checkFromToIndex_8c36e_16 : decode cJ3_checkFromToIndex_8c36e 16 = .ok (.iload_n 1, 1) := by decide +kernel
theorem dJ3_checkFromToIndex_8c36e_17 : decode cJ3_checkFromToIndex_8c36e 17 = .ok (.iload_n 2, 1) := by decide +kernel
theorem dJ3_checkFromToIndex_8c36e_18 : decode cJ3_checkFromToIndex_8c36e 18 = .ok (.invokestatic 99, 3) := by decide +kernel
theorem dJ3_checkFromToIndex_8c36e_21 : decode cJ3_checkFromToIndex_8c36e 21 = .ok (.athrow, 1) := by decide +kernel
theorem dJ3_checkFromToIndex_8c36e_22 : decode cJ3_checkFromToIndex_8c36e 22 = .ok (.iload_n 0, 1) := by decide +kernel
theorem dJ3_checkFromToIndex_8c36e_23 : decode cJ3_checkFromToIndex_8c36e 23 = .ok (.ireturn, 1) := by decide +kernel
theorem dL_law_0 : decode cL_law 0 = .ok (.new 7, 3) := by decide +kernel
theorem dL_law_3 : decode cL_law 3 = .ok (.dup, 1) := by decide +kernel
theorem dL_law_4 : decode cL_law 4 = .ok (.invokespecial 9, 3) := by decide +kernel
theorem dL_law_7 : decode cL_law 7 = .ok (.astore_n 1, 1) := by decide +kernel
theorem dL_law_8 : decode cL_law 8 = .ok (.new 10, 3) := by decide +kernel
theorem dL_law_11 : decode cL_law 11 = .ok (.dup, 1) := by decide +kernel
theorem dL_law_12 : decode cL_law 12 = .ok (.invokespecial 12, 3) := by decide +kernel
theorem dL_law_15 : decode cL_law 15 = .ok (.astore_n 2, 1) := by decide +kernel
theorem dL_law_16 : decode cL_law 16 = .ok (.iconst 0, 1) := by decide +kernel
theorem dL_law_17 : decode cL_law 17 = .ok (.istore_n 3, 1) := by decide +kernel
theorem dL_law_18 : decode cL_law 18 = .ok (.iload_n 3, 1) := by decide +kernel
theorem dL_law_19 : decode cL_law 19 = .ok (.aload_n 0, 1) := by decide +kernel
theorem dL_law_20 : decode cL_law 20 = .ok (.arraylength, 1) := by decide +kernel
theorem dL_law_21 : decode cL_law 21 = .ok (.bipush 6, 2) := by decide +kernel
theorem dL_law_23 : decode cL_law 23 = .ok (.isub, 1) := by decide +kernel
theorem dL_law_24 : decode cL_law 24 = .ok (.if_icmp .gt 1228, 3) := by decide +kernel
theorem dL_law_27 : decode cL_law 27 = .ok (.aload_n 0, 1) := by decide +kernel
theorem dL_law_28 : decode cL_law 28 = .ok (.iload_n 3, 1) := by decide +kernel
theorem dL_law_29 : decode cL_law 29 = .ok (.iaload, 1) := by decide +kernel
theorem dL_law_30 : decode cL_law 30 = .ok (.bipush 63, 2) := by decide +kernel
theorem dL_law_32 : decode cL_law 32 = .ok (.iand, 1) := by decide +kernel
theorem dL_law_33 : decode cL_law 33 = .ok (.tableswitch 1213 0 34 #[155, 198, 231, 264, 307, 330, 343, 366, 379, 412, 425, 438, 481, 504, 517, 570, 593, 616, 649, 672, 705, 749, 783, 806, 819, 852, 865, 878, 921, 944, 977, 1000, 1043, 1116, 1150], 155) := by decide +kernel
theorem dL_law_188 : decode cL_law 188 = .ok (.aload_n 1, 1) := by decide +kernel
theorem dL_law_189 : decode cL_law 189 = .ok (.aload_n 0, 1) := by decide +kernel
theorem dL_law_190 : decode cL_law 190 = .ok (.iload_n 3, 1) := by decide +kernel
theorem dL_law_191 : decode cL_law 191 = .ok (.iconst 1, 1) := by decide +kernel
theorem dL_law_192 : decode cL_law 192 = .ok (.iadd, 1) := by decide +kernel
theorem dL_law_193 : decode cL_law 193 = .ok (.iaload, 1) := by decide +kernel
theorem dL_law_194 : decode cL_law 194 = .ok (.aload_n 0, 1) := by decide +kernel
theorem dL_law_195 : decode cL_law 195 = .ok (.iload_n 3, 1) := by decide +kernel
theorem dL_law_196 : decode cL_law 196 = .ok (.iconst 2, 1) := by decide +kernel
theorem dL_law_197 : decode cL_law 197 = .ok (.iadd, 1) := by decide +kernel
theorem dL_law_198 : decode cL_law 198 = .ok (.iaload, 1) := by decide +kernel
theorem dL_law_199 : decode cL_law 199 = .ok (.aload_n 0, 1) := by decide +kernel
theorem dL_law_200 : decode cL_law 200 = .ok (.iload_n 3, 1) := by decide +kernel
theorem dL_law_201 : decode cL_law 201 = .ok (.iconst 3, 1) := by decide +kernel
theorem dL_law_202 : decode cL_law 202 = .ok (.iadd, 1) := by decide +kernel
theorem dL_law_203 : decode cL_law 203 = .ok (.iaload, 1) := by decide +kernel
theorem dL_law_204 : decode cL_law 204 = .ok (.invokevirtual 13, 3) := by decide +kernel
theorem dL_law_207 : decode cL_law 207 = .ok (.aload_n 2, 1) := by decide +kernel
theorem dL_law_208 : decode cL_law 208 = .ok (.aload_n 0, 1) := by decide +kernel
theorem dL_law_209 : decode cL_law 209 = .ok (.iload_n 3, 1) := by decide +kernel
theorem dL_law_210 : decode cL_law 210 = .ok (.iconst 1, 1) := by decide +kernel
theorem dL_law_211 : decode cL_law 211 = .ok (.iadd, 1) := by decide +kernel
theorem dL_law_212 : decode cL_law 212 = .ok (.iaload, 1) := by decide +kernel
theorem dL_law_213 : decode cL_law 213 = .ok (.aload_n 0, 1) := by decide +kernel
theorem dL_law_214 : decode cL_law 214 = .ok (.iload_n 3, 1) := by decide +kernel
theorem dL_law_215 : decode cL_law 215 = .ok (.iconst 2, 1) := by decide +kernel
theorem dL_law_216 : decode cL_law 216 = .ok (.iadd, 1) := by decide +kernel
theorem dL_law_217 : decode cL_law 217 = .ok (.iaload, 1) := by decide +kernel
theorem dL_law_218 : decode cL_law 218 = .ok (.aload_n 0, 1) := by decide +kernel
theorem dL_law_219 : decode cL_law 219 = .ok (.iload_n 3, 1) := by decide +kernel
theorem dL_law_220 : decode cL_law 220 = .ok (.iconst 3, 1) := by decide +kernel
theorem dL_law_221 : decode cL_law 221 = .ok (.iadd, 1) := by decide +kernel
theorem dL_law_222 : decode cL_law 222 = .ok (.iaload, 1) := by decide +kernel
theorem dL_law_223 : decode cL_law 223 = .ok (.invokevirtual 17, 3) := by decide +kernel
theorem dL_law_226 : decode cL_law 226 = .ok (.if_icmp .eq 1020, 3) := by decide +kernel
theorem dL_law_229 : decode cL_law 229 = .ok (.iconst 0, 1) := by decide +kernel
theorem dL_law_230 : decode cL_law 230 = .ok (.ireturn, 1) := by decide +kernel
theorem dL_law_231 : decode cL_law 231 = .ok (.aload_n 1, 1) := by decide +kernel
theorem dL_law_232 : decode cL_law 232 = .ok (.aload_n 0, 1) := by decide +kernel
theorem dL_law_233 : decode cL_law 233 = .ok (.iload_n 3, 1) := by decide +kernel
theorem dL_law_234 : decode cL_law 234 = .ok (.iconst 1, 1) := by decide +kernel
theorem dL_law_235 : decode cL_law 235 = .ok (.iadd, 1) := by decide +kernel
theorem dL_law_236 : decode cL_law 236 = .ok (.iaload, 1) := by decide +kernel
theorem dL_law_237 : decode cL_law 237 = .ok (.aload_n 0, 1) := by decide +kernel
theorem dL_law_238 : decode cL_law 238 = .ok (.iload_n 3, 1) := by decide +kernel
theorem dL_law_239 : decode cL_law 239 = .ok (.iconst 2, 1) := by decide +kernel
theorem dL_law_240 : decode cL_law 240 = .ok (.iadd, 1) := by decide +kernel
theorem dL_law_241 : decode cL_law 241 = .ok (.iaload, 1) := by decide +kernel
theorem dL_law_242 : decode cL_law 242 = .ok (.invokevirtual 18, 3) := by decide +kernel
theorem dL_law_245 : decode cL_law 245 = .ok (.aload_n 2, 1) := by decide +kernel
theorem dL_law_246 : decode cL_law 246 = .ok (.aload_n 0, 1) := by decide +kernel
theorem dL_law_247 : decode cL_law 247 = .ok (.iload_n 3, 1) := by decide +kernel
theorem dL_law_248 : decode cL_law 248 = .ok (.iconst 1, 1) := by decide +kernel
theorem dL_law_249 : decode cL_law 249 = .ok (.iadd, 1) := by decide +kernel
theorem dL_law_250 : decode cL_law 250 = .ok (.iaload, 1) := by decide +kernel
theorem dL_law_251 : decode cL_law 251 = .ok (.aload_n 0, 1) := by decide +kernel
theorem dL_law_252 : decode cL_law 252 = .ok (.iload_n 3, 1) := by decide +kernel
theorem dL_law_253 : decode cL_law 253 = .ok (.iconst 2, 1) := by decide +kernel
theorem dL_law_254 : decode cL_law 254 = .ok (.iadd, 1) := by decide +kernel
theorem dL_law_255 : decode cL_law 255 = .ok (.iaload, 1) := by decide +kernel
theorem dL_law_256 : decode cL_law 256 = .ok (.invokevirtual 22, 3) := by decide +kernel
theorem dL_law_259 : decode cL_law 259 = .ok (.if_icmp .eq 987, 3) := by decide +kernel
theorem dL_law_262 : decode cL_law 262 = .ok (.iconst 0, 1) := by decide +kernel
theorem dL_law_263 : decode cL_law 263 = .ok (.ireturn, 1) := by decide +kernel
theorem dL_law_264 : decode cL_law 264 = .ok (.aload_n 1, 1) := by decide +kernel
theorem dL_law_265 : decode cL_law 265 = .ok (.aload_n 0, 1) := by decide +kernel
theorem dL_law_266 : decode cL_law 266 = .ok (.iload_n 3, 1) := by decide +kernel
theorem dL_law_267 : decode cL_law 267 = .ok (.iconst 1, 1) := by decide +kernel
theorem dL_law_268 : decode cL_law 268 = .ok (.iadd, 1) := by decide +kernel
theorem dL_law_269 : decode cL_law 269 = .ok (.iaload, 1) := by decide +kernel
theorem dL_law_270 : decode cL_law 270 = .ok (.aload_n 0, 1) := by decide +kernel
theorem dL_law_271 : decode cL_law 271 = .ok (.iload_n 3, 1) := by decide +kernel
theorem dL_law_272 : decode cL_law 272 = .ok (.iconst 2, 1) := by decide +kernel
theorem dL_law_273 : decode cL_law 273 = .ok (.iadd, 1) := by decide +kernel
theorem dL_law_274 : decode cL_law 274 = .ok (.iaload, 1) := by decide +kernel
theorem dL_law_275 : decode cL_law 275 = .ok (.invokevirtual 23, 3) := by decide +kernel
theorem dL_law_278 : decode cL_law 278 = .ok (.aload_n 2, 1) := by decide +kernel
theorem dL_law_279 : decode cL_law 279 = .ok (.aload_n 0, 1) := by decide +kernel
theorem dL_law_280 : decode cL_law 280 = .ok (.iload_n 3, 1) := by decide +kernel
theorem dL_law_281 : decode cL_law 281 = .ok (.iconst 1, 1) := by decide +kernel
theorem dL_law_282 : decode cL_law 282 = .ok (.iadd, 1) := by decide +kernel
theorem dL_law_283 : decode cL_law 283 = .ok (.iaload, 1) := by decide +kernel
theorem dL_law_284 : decode cL_law 284 = .ok (.aload_n 0, 1) := by decide +kernel
theorem dL_law_285 : decode cL_law 285 = .ok (.iload_n 3, 1) := by decide +kernel
theorem dL_law_286 : decode cL_law 286 = .ok (.iconst 2, 1) := by decide +kernel
theorem dL_law_287 : decode cL_law 287 = .ok (.iadd, 1) := by decide +kernel
theorem dL_law_288 : decode cL_law 288 = .ok (.iaload, 1) := by decide +kernel
theorem dL_law_289 : decode cL_law 289 = .ok (.invokevirtual 26, 3) := by decide +kernel
theorem dL_law_292 : decode cL_law 292 = .ok (.if_icmp .eq 954, 3) := by decide +kernel
theorem dL_law_295 : decode cL_law 295 = .ok (.iconst 0, 1) := by decide +kernel
theorem dL_law_296 : decode cL_law 296 = .ok (.ireturn, 1) := by decide +kernel
theorem dL_law_297 : decode cL_law 297 = .ok (.aload_n 1, 1) := by decide +kernel
theorem dL_law_298 : decode cL_law 298 = .ok (.aload_n 0, 1) := by decide +kernel
theorem dL_law_299 : decode cL_law 299 = .ok (.iload_n 3, 1) := by decide +kernel
theorem dL_law_300 : decode cL_law 300 = .ok (.iconst 1, 1) := by decide +kernel
theorem dL_law_301 : decode cL_law 301 = .ok (.iadd, 1) := by decide +kernel
theorem dL_law_302 : decode cL_law 302 = .ok (.iaload, 1) := by decide +kernel
theorem dL_law_303 : decode cL_law 303 = .ok (.aload_n 0, 1) := by decide +kernel
theorem dL_law_304 : decode cL_law 304 = .ok (.iload_n 3, 1) := by decide +kernel
theorem dL_law_305 : decode cL_law 305 = .ok (.iconst 2, 1) := by decide +kernel
theorem dL_law_306 : decode cL_law 306 = .ok (.iadd, 1) := by decide +kernel
theorem dL_law_307 : decode cL_law 307 = .ok (.iaload, 1) := by decide +kernel
theorem dL_law_308 : decode cL_law 308 = .ok (.aload_n 0, 1) := by decide +kernel
theorem dL_law_309 : decode cL_law 309 = .ok (.iload_n 3, 1) := by decide +kernel
theorem dL_law_310 : decode cL_law 310 = .ok (.iconst 3, 1) := by decide +kernel
theorem dL_law_311 : decode cL_law 311 = .ok (.iadd, 1) := by decide +kernel
theorem dL_law_312 : decode cL_law 312 = .ok (.iaload, 1) := by decide +kernel
theorem dL_law_313 : decode cL_law 313 = .ok (.invokevirtual 27, 3) := by decide +kernel
theorem dL_law_316 : decode cL_law 316 = .ok (.aload_n 2, 1) := by decide +kernel
theorem dL_law_317 : decode cL_law 317 = .ok (.aload_n 0, 1) := by decide +kernel
theorem dL_law_318 : decode cL_law 318 = .ok (.iload_n 3, 1) := by decide +kernel
theorem dL_law_319 : decode cL_law 319 = .ok (.iconst 1, 1) := by decide +kernel
theorem dL_law_320 : decode cL_law 320 = .ok (.iadd, 1) := by decide +kernel
theorem dL_law_321 : decode cL_law 321 = .ok (.iaload, 1) := by decide +kernel
theorem dL_law_322 : decode cL_law 322 = .ok (.aload_n 0, 1) := by decide +kernel
theorem dL_law_323 : decode cL_law 323 = .ok (.iload_n 3, 1) := by decide +kernel
theorem dL_law_324 : decode cL_law 324 = .ok (.iconst 2, 1) := by decide +kernel
theorem dL_law_325 : decode cL_law 325 = .ok (.iadd, 1) := by decide +kernel
theorem dL_law_326 : decode cL_law 326 = .ok (.iaload, 1) := by decide +kernel
theorem dL_law_327 : decode cL_law 327 = .ok (.aload_n 0, 1) := by decide +kernel
theorem dL_law_328 : decode cL_law 328 = .ok (.iload_n 3, 1) := by decide +kernel
theorem dL_law_329 : decode cL_law 329 = .ok (.iconst 3, 1) := by decide +kernel
theorem dL_law_330 : decode cL_law 330 = .ok (.iadd, 1) := by decide +kernel
theorem dL_law_331 : decode cL_law 331 = .ok (.iaload, 1) := by decide +kernel
theorem dL_law_332 : decode cL_law 332 = .ok (.invokevirtual 30, 3) := by decide +kernel
theorem dL_law_335 : decode cL_law 335 = .ok (.if_icmp .eq 911, 3) := by decide +kernel
theorem dL_law_338 : decode cL_law 338 = .ok (.iconst 0, 1) := by decide +kernel
theorem dL_law_339 : decode cL_law 339 = .ok (.ireturn, 1) := by decide +kernel
theorem dL_law_340 : decode cL_law 340 = .ok (.aload_n 1, 1) := by decide +kernel
theorem dL_law_341 : decode cL_law 341 = .ok (.aload_n 0, 1) := by decide +kernel
theorem dL_law_342 : decode cL_law 342 = .ok (.iload_n 3, 1) := by decide +kernel
theorem dL_law_343 : decode cL_law 343 = .ok (.iconst 1, 1) := by decide +kernel
theorem dL_law_344 : decode cL_law 344 = .ok (.iadd, 1) := by decide +kernel
theorem dL_law_345 : decode cL_law 345 = .ok (.iaload, 1) := by decide +kernel
theorem dL_law_346 : decode cL_law 346 = .ok (.invokevirtual 31, 3) := by decide +kernel
theorem dL_law_349 : decode cL_law 349 = .ok (.aload_n 2, 1) := by decide +kernel
theorem dL_law_350 : decode cL_law 350 = .ok (.aload_n 0, 1) := by decide +kernel
theorem dL_law_351 : decode cL_law 351 = .ok (.iload_n 3, 1) := by decide +kernel
theorem dL_law_352 : decode cL_law 352 = .ok (.iconst 1, 1) := by decide +kernel
theorem dL_law_353 : decode cL_law 353 = .ok (.iadd, 1) := by decide +kernel
theorem dL_law_354 : decode cL_law 354 = .ok (.iaload, 1) := by decide +kernel
theorem dL_law_355 : decode cL_law 355 = .ok (.invokevirtual 35, 3) := by decide +kernel
theorem dL_law_358 : decode cL_law 358 = .ok (.if_icmp .eq 888, 3) := by decide +kernel
theorem dL_law_361 : decode cL_law 361 = .ok (.iconst 0, 1) := by decide +kernel
theorem dL_law_362 : decode cL_law 362 = .ok (.ireturn, 1) := by decide +kernel
theorem dL_law_363 : decode cL_law 363 = .ok (.aload_n 1, 1) := by decide +kernel
theorem dL_law_364 : decode cL_law 364 = .ok (.invokevirtual 36, 3) := by decide +kernel
theorem dL_law_367 : decode cL_law 367 = .ok (.aload_n 2, 1) := by decide +kernel
theorem dL_law_368 : decode cL_law 368 = .ok (.invokevirtual 40, 3) := by decide +kernel
theorem dL_law_371 : decode cL_law 371 = .ok (.if_icmp .eq 875, 3) := by decide +kernel
theorem dL_law_374 : decode cL_law 374 = .ok (.iconst 0, 1) := by decide +kernel
theorem dL_law_375 : decode cL_law 375 = .ok (.ireturn, 1) := by decide +kernel
theorem dL_law_376 : decode cL_law 376 = .ok (.aload_n 1, 1) := by decide +kernel
theorem dL_law_377 : decode cL_law 377 = .ok (.aload_n 0, 1) := by decide +kernel
theorem dL_law_378 : decode cL_law 378 = .ok (.iload_n 3, 1) := by decide +kernel
theorem dL_law_379 : decode cL_law 379 = .ok (.iconst 1, 1) := by decide +kernel
theorem dL_law_380 : decode cL_law 380 = .ok (.iadd, 1) := by decide +kernel
theorem dL_law_381 : decode cL_law 381 = .ok (.iaload, 1) := by decide +kernel
theorem dL_law_382 : decode cL_law 382 = .ok (.invokevirtual 41, 3) := by decide +kernel
theorem dL_law_385 : decode cL_law 385 = .ok (.aload_n 2, 1) := by decide +kernel
theorem dL_law_386 : decode cL_law 386 = .ok (.aload_n 0, 1) := by decide +kernel
theorem dL_law_387 : decode cL_law 387 = .ok (.iload_n 3, 1) := by decide +kernel
theorem dL_law_388 : decode cL_law 388 = .ok (.iconst 1, 1) := by decide +kernel
theorem dL_law_389 : decode cL_law 389 = .ok (.iadd, 1) := by decide +kernel
theorem dL_law_390 : decode cL_law 390 = .ok (.iaload, 1) := by decide +kernel
theorem dL_law_391 : decode cL_law 391 = .ok (.invokevirtual 44, 3) := by decide +kernel
theorem dL_law_394 : decode cL_law 394 = .ok (.if_icmp .eq 852, 3) := by decide +kernel
theorem dL_law_397 : decode cL_law 397 = .ok (.iconst 0, 1) := by decide +kernel
theorem dL_law_398 : decode cL_law 398 = .ok (.ireturn, 1) := by decide +kernel
theorem dL_law_399 : decode cL_law 399 = .ok (.aload_n 1, 1) := by decide +kernel
theorem dL_law_400 : decode cL_law 400 = .ok (.invokevirtual 45, 3) := by decide +kernel
theorem dL_law_403 : decode cL_law 403 = .ok (.aload_n 2, 1) := by decide +kernel
theorem dL_law_404 : decode cL_law 404 = .ok (.invokevirtual 48, 3) := by decide +kernel
theorem dL_law_407 : decode cL_law 407 = .ok (.if_icmp .eq 839, 3) := by decide +kernel
theorem dL_law_410 : decode cL_law 410 = .ok (.iconst 0, 1) := by decide +kernel
theorem dL_law_411 : decode cL_law 411 = .ok (.ireturn, 1) := by decide +kernel
theorem dL_law_412 : decode cL_law 412 = .ok (.aload_n 1, 1) := by decide +kernel
theorem dL_law_413 : decode cL_law 413 = .ok (.aload_n 0, 1) := by decide +kernel
theorem dL_law_414 : decode cL_law 414 = .ok (.iload_n 3, 1) := by decide +kernel
theorem dL_law_415 : decode cL_law 415 = .ok (.iconst 1, 1) := by decide +kernel
theorem dL_law_416 : decode cL_law 416 = .ok (.iadd, 1) := by decide +kernel
theorem dL_law_417 : decode cL_law 417 = .ok (.iaload, 1) := by decide +kernel
theorem dL_law_418 : decode cL_law 418 = .ok (.aload_n 0, 1) := by decide +kernel
theorem dL_law_419 : decode cL_law 419 = .ok (.iload_n 3, 1) := by decide +kernel
theorem dL_law_420 : decode cL_law 420 = .ok (.iconst 2, 1) := by decide +kernel
theorem dL_law_421 : decode cL_law 421 = .ok (.iadd, 1) := by decide +kernel
theorem dL_law_422 : decode cL_law 422 = .ok (.iaload, 1) := by decide +kernel
theorem dL_law_423 : decode cL_law 423 = .ok (.invokevirtual 49, 3) := by decide +kernel
theorem dL_law_426 : decode cL_law 426 = .ok (.aload_n 2, 1) := by decide +kernel
theorem dL_law_427 : decode cL_law 427 = .ok (.aload_n 0, 1) := by decide +kernel
theorem dL_law_428 : decode cL_law 428 = .ok (.iload_n 3, 1) := by decide +kernel
theorem dL_law_429 : decode cL_law 429 = .ok (.iconst 1, 1) := by decide +kernel
theorem dL_law_430 : decode cL_law 430 = .ok (.iadd, 1) := by decide +kernel
theorem dL_law_431 : decode cL_law 431 = .ok (.iaload, 1) := by decide +kernel
theorem dL_law_432 : decode cL_law 432 = .ok (.aload_n 0, 1) := by decide +kernel
theorem dL_law_433 : decode cL_law 433 = .ok (.iload_n 3, 1) := by decide +kernel
theorem dL_law_434 : decode cL_law 434 = .ok (.iconst 2, 1) := by decide +kernel
theorem dL_law_435 : decode cL_law 435 = .ok (.iadd, 1) := by decide +kernel
theorem dL_law_436 : decode cL_law 436 = .ok (.iaload, 1) := by decide +kernel
theorem dL_law_437 : decode cL_law 437 = .ok (.invokevirtual 52, 3) := by decide +kernel
theorem dL_law_440 : decode cL_law 440 = .ok (.if_icmp .eq 806, 3) := by decide +kernel
theorem dL_law_443 : decode cL_law 443 = .ok (.iconst 0, 1) := by decide +kernel
theorem dL_law_444 : decode cL_law 444 = .ok (.ireturn, 1) := by decide +kernel
theorem dL_law_445 : decode cL_law 445 = .ok (.aload_n 1, 1) := by decide +kernel
theorem dL_law_446 : decode cL_law 446 = .ok (.invokevirtual 53, 3) := by decide +kernel
theorem dL_law_449 : decode cL_law 449 = .ok (.aload_n 2, 1) := by decide +kernel
theorem dL_law_450 : decode cL_law 450 = .ok (.invokevirtual 56, 3) := by decide +kernel
theorem dL_law_453 : decode cL_law 453 = .ok (.if_icmp .eq 793, 3) := by decide +kernel
theorem dL_law_456 : decode cL_law 456 = .ok (.iconst 0, 1) := by decide +kernel
theorem dL_law_457 : decode cL_law 457 = .ok (.ireturn, 1) := by decide +kernel
theorem dL_law_458 : decode cL_law 458 = .ok (.aload_n 1, 1) := by decide +kernel
theorem dL_law_459 : decode cL_law 459 = .ok (.invokevirtual 57, 3) := by decide +kernel
theorem dL_law_462 : decode cL_law 462 = .ok (.aload_n 2, 1) := by decide +kernel
theorem dL_law_463 : decode cL_law 463 = .ok (.invokevirtual 60, 3) := by decide +kernel
theorem dL_law_466 : decode cL_law 466 = .ok (.if_icmp .eq 780, 3) := by decide +kernel
theorem dL_law_469 : decode cL_law 469 = .ok (.iconst 0, 1) := by decide +kernel
theorem dL_law_470 : decode cL_law 470 = .ok (.ireturn, 1) := by decide +kernel
theorem dL_law_471 : decode cL_law 471 = .ok (.aload_n 1, 1) := by decide +kernel
theorem dL_law_472 : decode cL_law 472 = .ok (.aload_n 0, 1) := by decide +kernel
theorem dL_law_473 : decode cL_law 473 = .ok (.iload_n 3, 1) := by decide +kernel
theorem dL_law_474 : decode cL_law 474 = .ok (.iconst 1, 1) := by decide +kernel
theorem dL_law_475 : decode cL_law 475 = .ok (.iadd, 1) := by decide +kernel
theorem dL_law_476 : decode cL_law 476 = .ok (.iaload, 1) := by decide +kernel
theorem dL_law_477 : decode cL_law 477 = .ok (.aload_n 0, 1) := by decide +kernel
theorem dL_law_478 : decode cL_law 478 = .ok (.iload_n 3, 1) := by decide +kernel
theorem dL_law_479 : decode cL_law 479 = .ok (.iconst 2, 1) := by decide +kernel
theorem dL_law_480 : decode cL_law 480 = .ok (.iadd, 1) := by decide +kernel
theorem dL_law_481 : decode cL_law 481 = .ok (.iaload, 1) := by decide +kernel
theorem dL_law_482 : decode cL_law 482 = .ok (.aload_n 0, 1) := by decide +kernel
theorem dL_law_483 : decode cL_law 483 = .ok (.iload_n 3, 1) := by decide +kernel
theorem dL_law_484 : decode cL_law 484 = .ok (.iconst 3, 1) := by decide +kernel
theorem dL_law_485 : decode cL_law 485 = .ok (.iadd, 1) := by decide +kernel
theorem dL_law_486 : decode cL_law 486 = .ok (.iaload, 1) := by decide +kernel
theorem dL_law_487 : decode cL_law 487 = .ok (.invokevirtual 61, 3) := by decide +kernel
theorem dL_law_490 : decode cL_law 490 = .ok (.aload_n 2, 1) := by decide +kernel
theorem dL_law_491 : decode cL_law 491 = .ok (.aload_n 0, 1) := by decide +kernel
theorem dL_law_492 : decode cL_law 492 = .ok (.iload_n 3, 1) := by decide +kernel
theorem dL_law_493 : decode cL_law 493 = .ok (.iconst 1, 1) := by decide +kernel
theorem dL_law_494 : decode cL_law 494 = .ok (.iadd, 1) := by decide +kernel
theorem dL_law_495 : decode cL_law 495 = .ok (.iaload, 1) := by decide +kernel
theorem dL_law_496 : decode cL_law 496 = .ok (.aload_n 0, 1) := by decide +kernel
theorem dL_law_497 : decode cL_law 497 = .ok (.iload_n 3, 1) := by decide +kernel
theorem dL_law_498 : decode cL_law 498 = .ok (.iconst 2, 1) := by decide +kernel
theorem dL_law_499 : decode cL_law 499 = .ok (.iadd, 1) := by decide +kernel
theorem dL_law_500 : decode cL_law 500 = .ok (.iaload, 1) := by decide +kernel
theorem dL_law_501 : decode cL_law 501 = .ok (.aload_n 0, 1) := by decide +kernel
theorem dL_law_502 : decode cL_law 502 = .ok (.iload_n 3, 1) := by decide +kernel
theorem dL_law_503 : decode cL_law 503 = .ok (.iconst 3, 1) := by decide +kernel
theorem dL_law_504 : decode cL_law 504 = .ok (.iadd, 1) := by decide +kernel
theorem dL_law_505 : decode cL_law 505 = .ok (.iaload, 1) := by decide +kernel
theorem dL_law_506 : decode cL_law 506 = .ok (.invokevirtual 64, 3) := by decide +kernel
theorem dL_law_509 : decode cL_law 509 = .ok (.if_icmp .eq 737, 3) := by decide +kernel
theorem dL_law_512 : decode cL_law 512 = .ok (.iconst 0, 1) := by decide +kernel
theorem dL_law_513 : decode cL_law 513 = .ok (.ireturn, 1) := by decide +kernel
theorem dL_law_514 : decode cL_law 514 = .ok (.aload_n 1, 1) := by decide +kernel
theorem dL_law_515 : decode cL_law 515 = .ok (.aload_n 0, 1) := by decide +kernel
theorem dL_law_516 : decode cL_law 516 = .ok (.iload_n 3, 1) := by decide +kernel
theorem dL_law_517 : decode cL_law 517 = .ok (.iconst 1, 1) := by decide +kernel
theorem dL_law_518 : decode cL_law 518 = .ok (.iadd, 1) := by decide +kernel
theorem dL_law_519 : decode cL_law 519 = .ok (.iaload, 1) := by decide +kernel
theorem dL_law_520 : decode cL_law 520 = .ok (.invokevirtual 65, 3) := by decide +kernel
theorem dL_law_523 : decode cL_law 523 = .ok (.aload_n 2, 1) := by decide +kernel
theorem dL_law_524 : decode cL_law 524 = .ok (.aload_n 0, 1) := by decide +kernel
theorem dL_law_525 : decode cL_law 525 = .ok (.iload_n 3, 1) := by decide +kernel
theorem dL_law_526 : decode cL_law 526 = .ok (.iconst 1, 1) := by decide +kernel
theorem dL_law_527 : decode cL_law 527 = .ok (.iadd, 1) := by decide +kernel
theorem dL_law_528 : decode cL_law 528 = .ok (.iaload, 1) := by decide +kernel
theorem dL_law_529 : decode cL_law 529 = .ok (.invokevirtual 68, 3) := by decide +kernel
theorem dL_law_532 : decode cL_law 532 = .ok (.if_icmp .eq 714, 3) := by decide +kernel
theorem dL_law_535 : decode cL_law 535 = .ok (.iconst 0, 1) := by decide +kernel
theorem dL_law_536 : decode cL_law 536 = .ok (.ireturn, 1) := by decide +kernel
theorem dL_law_537 : decode cL_law 537 = .ok (.aload_n 1, 1) := by decide +kernel
theorem dL_law_538 : decode cL_law 538 = .ok (.invokevirtual 69, 3) := by decide +kernel
theorem dL_law_541 : decode cL_law 541 = .ok (.aload_n 2, 1) := by decide +kernel
theorem dL_law_542 : decode cL_law 542 = .ok (.invokevirtual 72, 3) := by decide +kernel
theorem dL_law_545 : decode cL_law 545 = .ok (.if_icmp .eq 701, 3) := by decide +kernel
theorem dL_law_548 : decode cL_law 548 = .ok (.iconst 0, 1) := by decide +kernel
theorem dL_law_549 : decode cL_law 549 = .ok (.ireturn, 1) := by decide +kernel
theorem dL_law_550 : decode cL_law 550 = .ok (.aload_n 1, 1) := by decide +kernel
theorem dL_law_551 : decode cL_law 551 = .ok (.aload_n 0, 1) := by decide +kernel
theorem dL_law_552 : decode cL_law 552 = .ok (.iload_n 3, 1) := by decide +kernel
theorem dL_law_553 : decode cL_law 553 = .ok (.iconst 1, 1) := by decide +kernel
theorem dL_law_554 : decode cL_law 554 = .ok (.iadd, 1) := by decide +kernel
theorem dL_law_555 : decode cL_law 555 = .ok (.iaload, 1) := by decide +kernel
theorem dL_law_556 : decode cL_law 556 = .ok (.aload_n 0, 1) := by decide +kernel
theorem dL_law_557 : decode cL_law 557 = .ok (.iload_n 3, 1) := by decide +kernel
theorem dL_law_558 : decode cL_law 558 = .ok (.iconst 2, 1) := by decide +kernel
theorem dL_law_559 : decode cL_law 559 = .ok (.iadd, 1) := by decide +kernel
theorem dL_law_560 : decode cL_law 560 = .ok (.iaload, 1) := by decide +kernel
theorem dL_law_561 : decode cL_law 561 = .ok (.aload_n 0, 1) := by decide +kernel
theorem dL_law_562 : decode cL_law 562 = .ok (.iload_n 3, 1) := by decide +kernel
theorem dL_law_563 : decode cL_law 563 = .ok (.iconst 3, 1) := by decide +kernel
theorem dL_law_564 : decode cL_law 564 = .ok (.iadd, 1) := by decide +kernel
theorem dL_law_565 : decode cL_law 565 = .ok (.iaload, 1) := by decide +kernel
theorem dL_law_566 : decode cL_law 566 = .ok (.aload_n 0, 1) := by decide +kernel
theorem dL_law_567 : decode cL_law 567 = .ok (.iload_n 3, 1) := by decide +kernel
theorem dL_law_568 : decode cL_law 568 = .ok (.iconst 4, 1) := by decide +kernel
theorem dL_law_569 : decode cL_law 569 = .ok (.iadd, 1) := by decide +kernel
theorem dL_law_570 : decode cL_law 570 = .ok (.iaload, 1) := by decide +kernel
theorem dL_law_571 : decode cL_law 571 = .ok (.invokevirtual 73, 3) := by decide +kernel
theorem dL_law_574 : decode cL_law 574 = .ok (.aload_n 2, 1) := by decide +kernel
theorem dL_law_575 : decode cL_law 575 = .ok (.aload_n 0, 1) := by decide +kernel
theorem dL_law_576 : decode cL_law 576 = .ok (.iload_n 3, 1) := by decide +kernel
theorem dL_law_577 : decode cL_law 577 = .ok (.iconst 1, 1) := by decide +kernel
theorem dL_law_578 : decode cL_law 578 = .ok (.iadd, 1) := by decide +kernel
theorem dL_law_579 : decode cL_law 579 = .ok (.iaload, 1) := by decide +kernel
theorem dL_law_580 : decode cL_law 580 = .ok (.aload_n 0, 1) := by decide +kernel
theorem dL_law_581 : decode cL_law 581 = .ok (.iload_n 3, 1) := by decide +kernel
theorem dL_law_582 : decode cL_law 582 = .ok (.iconst 2, 1) := by decide +kernel
theorem dL_law_583 : decode cL_law 583 = .ok (.iadd, 1) := by decide +kernel
theorem dL_law_584 : decode cL_law 584 = .ok (.iaload, 1) := by decide +kernel
theorem dL_law_585 : decode cL_law 585 = .ok (.aload_n 0, 1) := by decide +kernel
theorem dL_law_586 : decode cL_law 586 = .ok (.iload_n 3, 1) := by decide +kernel
theorem dL_law_587 : decode cL_law 587 = .ok (.iconst 3, 1) := by decide +kernel
theorem dL_law_588 : decode cL_law 588 = .ok (.iadd, 1) := by decide +kernel
theorem dL_law_589 : decode cL_law 589 = .ok (.iaload, 1) := by decide +kernel
theorem dL_law_590 : decode cL_law 590 = .ok (.aload_n 0, 1) := by decide +kernel
theorem dL_law_591 : decode cL_law 591 = .ok (.iload_n 3, 1) := by decide +kernel
theorem dL_law_592 : decode cL_law 592 = .ok (.iconst 4, 1) := by decide +kernel
theorem dL_law_593 : decode cL_law 593 = .ok (.iadd, 1) := by decide +kernel
theorem dL_law_594 : decode cL_law 594 = .ok (.iaload, 1) := by decide +kernel
theorem dL_law_595 : decode cL_law 595 = .ok (.invokevirtual 77, 3) := by decide +kernel
theorem dL_law_598 : decode cL_law 598 = .ok (.if_icmp .eq 648, 3) := by decide +kernel
theorem dL_law_601 : decode cL_law 601 = .ok (.iconst 0, 1) := by decide +kernel
theorem dL_law_602 : decode cL_law 602 = .ok (.ireturn, 1) := by decide +kernel
theorem dL_law_603 : decode cL_law 603 = .ok (.aload_n 1, 1) := by decide +kernel
theorem dL_law_604 : decode cL_law 604 = .ok (.aload_n 0, 1) := by decide +kernel
theorem dL_law_605 : decode cL_law 605 = .ok (.iload_n 3, 1) := by decide +kernel
theorem dL_law_606 : decode cL_law 606 = .ok (.iconst 1, 1) := by decide +kernel
theorem dL_law_607 : decode cL_law 607 = .ok (.iadd, 1) := by decide +kernel
theorem dL_law_608 : decode cL_law 608 = .ok (.iaload, 1) := by decide +kernel
theorem dL_law_609 : decode cL_law 609 = .ok (.invokevirtual 78, 3) := by decide +kernel
theorem dL_law_612 : decode cL_law 612 = .ok (.aload_n 2, 1) := by decide +kernel
theorem dL_law_613 : decode cL_law 613 = .ok (.aload_n 0, 1) := by decide +kernel
theorem dL_law_614 : decode cL_law 614 = .ok (.iload_n 3, 1) := by decide +kernel
theorem dL_law_615 : decode cL_law 615 = .ok (.iconst 1, 1) := by decide +kernel
theorem dL_law_616 : decode cL_law 616 = .ok (.iadd, 1) := by decide +kernel
theorem dL_law_617 : decode cL_law 617 = .ok (.iaload, 1) := by decide +kernel
theorem dL_law_618 : decode cL_law 618 = .ok (.invokevirtual 81, 3) := by decide +kernel
theorem dL_law_621 : decode cL_law 621 = .ok (.if_icmp .eq 625, 3) := by decide +kernel
theorem dL_law_624 : decode cL_law 624 = .ok (.iconst 0, 1) := by decide +kernel
theorem dL_law_625 : decode cL_law 625 = .ok (.ireturn, 1) := by decide +kernel
theorem dL_law_626 : decode cL_law 626 = .ok (.aload_n 1, 1) := by decide +kernel
theorem dL_law_627 : decode cL_law 627 = .ok (.aload_n 0, 1) := by decide +kernel
theorem dL_law_628 : decode cL_law 628 = .ok (.iload_n 3, 1) := by decide +kernel
theorem dL_law_629 : decode cL_law 629 = .ok (.iconst 1, 1) := by decide +kernel
theorem dL_law_630 : decode cL_law 630 = .ok (.iadd, 1) := by decide +kernel
theorem dL_law_631 : decode cL_law 631 = .ok (.iaload, 1) := by decide +kernel
theorem dL_law_632 : decode cL_law 632 = .ok (.invokevirtual 82, 3) := by decide +kernel
theorem dL_law_635 : decode cL_law 635 = .ok (.aload_n 2, 1) := by decide +kernel
theorem dL_law_636 : decode cL_law 636 = .ok (.aload_n 0, 1) := by decide +kernel
theorem dL_law_637 : decode cL_law 637 = .ok (.iload_n 3, 1) := by decide +kernel
theorem dL_law_638 : decode cL_law 638 = .ok (.iconst 1, 1) := by decide +kernel
theorem dL_law_639 : decode cL_law 639 = .ok (.iadd, 1) := by decide +kernel
theorem dL_law_640 : decode cL_law 640 = .ok (.iaload, 1) := by decide +kernel
theorem dL_law_641 : decode cL_law 641 = .ok (.invokevirtual 85, 3) := by decide +kernel
theorem dL_law_644 : decode cL_law 644 = .ok (.if_icmp .eq 602, 3) := by decide +kernel
theorem dL_law_647 : decode cL_law 647 = .ok (.iconst 0, 1) := by decide +kernel
theorem dL_law_648 : decode cL_law 648 = .ok (.ireturn, 1) := by decide +kernel
theorem dL_law_649 : decode cL_law 649 = .ok (.aload_n 1, 1) := by decide +kernel
theorem dL_law_650 : decode cL_law 650 = .ok (.aload_n 0, 1) := by decide +kernel
theorem dL_law_651 : decode cL_law 651 = .ok (.iload_n 3, 1) := by decide +kernel
theorem dL_law_652 : decode cL_law 652 = .ok (.iconst 1, 1) := by decide +kernel
theorem dL_law_653 : decode cL_law 653 = .ok (.iadd, 1) := by decide +kernel
theorem dL_law_654 : decode cL_law 654 = .ok (.iaload, 1) := by decide +kernel
theorem dL_law_655 : decode cL_law 655 = .ok (.aload_n 0, 1) := by decide +kernel
theorem dL_law_656 : decode cL_law 656 = .ok (.iload_n 3, 1) := by decide +kernel
theorem dL_law_657 : decode cL_law 657 = .ok (.iconst 2, 1) := by decide +kernel
theorem dL_law_658 : decode cL_law 658 = .ok (.iadd, 1) := by decide +kernel
theorem dL_law_659 : decode cL_law 659 = .ok (.iaload, 1) := by decide +kernel
theorem dL_law_660 : decode cL_law 660 = .ok (.invokevirtual 86, 3) := by decide +kernel
theorem dL_law_663 : decode cL_law 663 = .ok (.aload_n 2, 1) := by decide +kernel
theorem dL_law_664 : decode cL_law 664 = .ok (.aload_n 0, 1) := by decide +kernel
theorem dL_law_665 : decode cL_law 665 = .ok (.iload_n 3, 1) := by decide +kernel
theorem dL_law_666 : decode cL_law 666 = .ok (.iconst 1, 1) := by decide +kernel
theorem dL_law_667 : decode cL_law 667 = .ok (.iadd, 1) := by decide +kernel
theorem dL_law_668 : decode cL_law 668 = .ok (.iaload, 1) := by decide +kernel
theorem dL_law_669 : decode cL_law 669 = .ok (.aload_n 0, 1) := by decide +kernel
theorem dL_law_670 : decode cL_law 670 = .ok (.iload_n 3, 1) := by decide +kernel
theorem dL_law_671 : decode cL_law 671 = .ok (.iconst 2, 1) := by decide +kernel
theorem dL_law_672 : decode cL_law 672 = .ok (.iadd, 1) := by decide +kernel
theorem dL_law_673 : decode cL_law 673 = .ok (.iaload, 1) := by decide +kernel
theorem dL_law_674 : decode cL_law 674 = .ok (.invokevirtual 89, 3) := by decide +kernel
theorem dL_law_677 : decode cL_law 677 = .ok (.if_icmp .eq 569, 3) := by decide +kernel
theorem dL_law_680 : decode cL_law 680 = .ok (.iconst 0, 1) := by decide +kernel
theorem dL_law_681 : decode cL_law 681 = .ok (.ireturn, 1) := by decide +kernel
theorem dL_law_682 : decode cL_law 682 = .ok (.aload_n 1, 1) := by decide +kernel
theorem dL_law_683 : decode cL_law 683 = .ok (.aload_n 0, 1) := by decide +kernel
theorem dL_law_684 : decode cL_law 684 = .ok (.iload_n 3, 1) := by decide +kernel
theorem dL_law_685 : decode cL_law 685 = .ok (.iconst 1, 1) := by decide +kernel
theorem dL_law_686 : decode cL_law 686 = .ok (.iadd, 1) := by decide +kernel
theorem dL_law_687 : decode cL_law 687 = .ok (.iaload, 1) := by decide +kernel
theorem dL_law_688 : decode cL_law 688 = .ok (.invokevirtual 90, 3) := by decide +kernel
theorem dL_law_691 : decode cL_law 691 = .ok (.aload_n 2, 1) := by decide +kernel
theorem dL_law_692 : decode cL_law 692 = .ok (.aload_n 0, 1) := by decide +kernel
theorem dL_law_693 : decode cL_law 693 = .ok (.iload_n 3, 1) := by decide +kernel
theorem dL_law_694 : decode cL_law 694 = .ok (.iconst 1, 1) := by decide +kernel
theorem dL_law_695 : decode cL_law 695 = .ok (.iadd, 1) := by decide +kernel
theorem dL_law_696 : decode cL_law 696 = .ok (.iaload, 1) := by decide +kernel
theorem dL_law_697 : decode cL_law 697 = .ok (.invokevirtual 93, 3) := by decide +kernel
theorem dL_law_700 : decode cL_law 700 = .ok (.if_icmp .eq 546, 3) := by decide +kernel
theorem dL_law_703 : decode cL_law 703 = .ok (.iconst 0, 1) := by decide +kernel
theorem dL_law_704 : decode cL_law 704 = .ok (.ireturn, 1) := by decide +kernel
theorem dL_law_705 : decode cL_law 705 = .ok (.aload_n 1, 1) := by decide +kernel
theorem dL_law_706 : decode cL_law 706 = .ok (.aload_n 0, 1) := by decide +kernel
theorem dL_law_707 : decode cL_law 707 = .ok (.iload_n 3, 1) := by decide +kernel
theorem dL_law_708 : decode cL_law 708 = .ok (.iconst 1, 1) := by decide +kernel
theorem dL_law_709 : decode cL_law 709 = .ok (.iadd, 1) := by decide +kernel
theorem dL_law_710 : decode cL_law 710 = .ok (.iaload, 1) := by decide +kernel
theorem dL_law_711 : decode cL_law 711 = .ok (.aload_n 0, 1) := by decide +kernel
theorem dL_law_712 : decode cL_law 712 = .ok (.iload_n 3, 1) := by decide +kernel
theorem dL_law_713 : decode cL_law 713 = .ok (.iconst 2, 1) := by decide +kernel
theorem dL_law_714 : decode cL_law 714 = .ok (.iadd, 1) := by decide +kernel
theorem dL_law_715 : decode cL_law 715 = .ok (.iaload, 1) := by decide +kernel
theorem dL_law_716 : decode cL_law 716 = .ok (.invokevirtual 94, 3) := by decide +kernel
theorem dL_law_719 : decode cL_law 719 = .ok (.aload_n 2, 1) := by decide +kernel
theorem dL_law_720 : decode cL_law 720 = .ok (.aload_n 0, 1) := by decide +kernel
theorem dL_law_721 : decode cL_law 721 = .ok (.iload_n 3, 1) := by decide +kernel
theorem dL_law_722 : decode cL_law 722 = .ok (.iconst 1, 1) := by decide +kernel
theorem dL_law_723 : decode cL_law 723 = .ok (.iadd, 1) := by decide +kernel
theorem dL_law_724 : decode cL_law 724 = .ok (.iaload, 1) := by decide +kernel
theorem dL_law_725 : decode cL_law 725 = .ok (.aload_n 0, 1) := by decide +kernel
theorem dL_law_726 : decode cL_law 726 = .ok (.iload_n 3, 1) := by decide +kernel
theorem dL_law_727 : decode cL_law 727 = .ok (.iconst 2, 1) := by decide +kernel
theorem dL_law_728 : decode cL_law 728 = .ok (.iadd, 1) := by decide +kernel
theorem dL_law_729 : decode cL_law 729 = .ok (.iaload, 1) := by decide +kernel
theorem dL_law_730 : decode cL_law 730 = .ok (.invokevirtual 97, 3) := by decide +kernel
theorem dL_law_733 : decode cL_law 733 = .ok (.if_icmp .eq 513, 3) := by decide +kernel
theorem dL_law_736 : decode cL_law 736 = .ok (.iconst 0, 1) := by decide +kernel
theorem dL_law_737 : decode cL_law 737 = .ok (.ireturn, 1) := by decide +kernel
theorem dL_law_738 : decode cL_law 738 = .ok (.aload_n 1, 1) := by decide +kernel
theorem dL_law_739 : decode cL_law 739 = .ok (.aload_n 0, 1) := by decide +kernel
theorem dL_law_740 : decode cL_law 740 = .ok (.iload_n 3, 1) := by decide +kernel
theorem dL_law_741 : decode cL_law 741 = .ok (.iconst 1, 1) := by decide +kernel
theorem dL_law_742 : decode cL_law 742 = .ok (.iadd, 1) := by decide +kernel
theorem dL_law_743 : decode cL_law 743 = .ok (.iaload, 1) := by decide +kernel
theorem dL_law_744 : decode cL_law 744 = .ok (.aload_n 0, 1) := by decide +kernel
theorem dL_law_745 : decode cL_law 745 = .ok (.iload_n 3, 1) := by decide +kernel
theorem dL_law_746 : decode cL_law 746 = .ok (.iconst 2, 1) := by decide +kernel
theorem dL_law_747 : decode cL_law 747 = .ok (.iadd, 1) := by decide +kernel
theorem dL_law_748 : decode cL_law 748 = .ok (.iaload, 1) := by decide +kernel
theorem dL_law_749 : decode cL_law 749 = .ok (.aload_n 0, 1) := by decide +kernel
theorem dL_law_750 : decode cL_law 750 = .ok (.iload_n 3, 1) := by decide +kernel
theorem dL_law_751 : decode cL_law 751 = .ok (.iconst 3, 1) := by decide +kernel
theorem dL_law_752 : decode cL_law 752 = .ok (.iadd, 1) := by decide +kernel
theorem dL_law_753 : decode cL_law 753 = .ok (.iaload, 1) := by decide +kernel
theorem dL_law_754 : decode cL_law 754 = .ok (.invokevirtual 98, 3) := by decide +kernel
theorem dL_law_757 : decode cL_law 757 = .ok (.aload_n 2, 1) := by decide +kernel
theorem dL_law_758 : decode cL_law 758 = .ok (.aload_n 0, 1) := by decide +kernel
theorem dL_law_759 : decode cL_law 759 = .ok (.iload_n 3, 1) := by decide +kernel
theorem dL_law_760 : decode cL_law 760 = .ok (.iconst 1, 1) := by decide +kernel
theorem dL_law_761 : decode cL_law 761 = .ok (.iadd, 1) := by decide +kernel
theorem dL_law_762 : decode cL_law 762 = .ok (.iaload, 1) := by decide +kernel
theorem dL_law_763 : decode cL_law 763 = .ok (.aload_n 0, 1) := by decide +kernel
theorem dL_law_764 : decode cL_law 764 = .ok (.iload_n 3, 1) := by decide +kernel
theorem dL_law_765 : decode cL_law 765 = .ok (.iconst 2, 1) := by decide +kernel
theorem dL_law_766 : decode cL_law 766 = .ok (.iadd, 1) := by decide +kernel
theorem dL_law_767 : decode cL_law 767 = .ok (.iaload, 1) := by decide +kernel
theorem dL_law_768 : decode cL_law 768 = .ok (.aload_n 0, 1) := by decide +kernel
theorem dL_law_769 : decode cL_law 769 = .ok (.iload_n 3, 1) := by decide +kernel
theorem dL_law_770 : decode cL_law 770 = .ok (.iconst 3, 1) := by decide +kernel
theorem dL_law_771 : decode cL_law 771 = .ok (.iadd, 1) := by decide +kernel
theorem dL_law_772 : decode cL_law 772 = .ok (.iaload, 1) := by decide +kernel
theorem dL_law_773 : decode cL_law 773 = .ok (.invokevirtual 102, 3) := by decide +kernel
theorem dL_law_776 : decode cL_law 776 = .ok (.lcmp, 1) := by decide +kernel
theorem dL_law_777 : decode cL_law 777 = .ok (.ifCond .eq 469, 3) := by decide +kernel
theorem dL_law_780 : decode cL_law 780 = .ok (.iconst 0, 1) := by decide +kernel
theorem dL_law_781 : decode cL_law 781 = .ok (.ireturn, 1) := by decide +kernel
theorem dL_law_782 : decode cL_law 782 = .ok (.aload_n 1, 1) := by decide +kernel
theorem dL_law_783 : decode cL_law 783 = .ok (.aload_n 0, 1) := by decide +kernel
theorem dL_law_784 : decode cL_law 784 = .ok (.iload_n 3, 1) := by decide +kernel
theorem dL_law_785 : decode cL_law 785 = .ok (.iconst 1, 1) := by decide +kernel
theorem dL_law_786 : decode cL_law 786 = .ok (.iadd, 1) := by decide +kernel
theorem dL_law_787 : decode cL_law 787 = .ok (.iaload, 1) := by decide +kernel
theorem dL_law_788 : decode cL_law 788 = .ok (.aload_n 0, 1) := by decide +kernel
theorem dL_law_789 : decode cL_law 789 = .ok (.iload_n 3, 1) := by decide +kernel
theorem dL_law_790 : decode cL_law 790 = .ok (.iconst 2, 1) := by decide +kernel
theorem dL_law_791 : decode cL_law 791 = .ok (.iadd, 1) := by decide +kernel
theorem dL_law_792 : decode cL_law 792 = .ok (.iaload, 1) := by decide +kernel
theorem dL_law_793 : decode cL_law 793 = .ok (.invokevirtual 103, 3) := by decide +kernel
theorem dL_law_796 : decode cL_law 796 = .ok (.aload_n 2, 1) := by decide +kernel
theorem dL_law_797 : decode cL_law 797 = .ok (.aload_n 0, 1) := by decide +kernel
theorem dL_law_798 : decode cL_law 798 = .ok (.iload_n 3, 1) := by decide +kernel
theorem dL_law_799 : decode cL_law 799 = .ok (.iconst 1, 1) := by decide +kernel
theorem dL_law_800 : decode cL_law 800 = .ok (.iadd, 1) := by decide +kernel
theorem dL_law_801 : decode cL_law 801 = .ok (.iaload, 1) := by decide +kernel
theorem dL_law_802 : decode cL_law 802 = .ok (.aload_n 0, 1) := by decide +kernel
theorem dL_law_803 : decode cL_law 803 = .ok (.iload_n 3, 1) := by decide +kernel
theorem dL_law_804 : decode cL_law 804 = .ok (.iconst 2, 1) := by decide +kernel
theorem dL_law_805 : decode cL_law 805 = .ok (.iadd, 1) := by decide +kernel
theorem dL_law_806 : decode cL_law 806 = .ok (.iaload, 1) := by decide +kernel
theorem dL_law_807 : decode cL_law 807 = .ok (.invokevirtual 107, 3) := by decide +kernel
theorem dL_law_810 : decode cL_law 810 = .ok (.lcmp, 1) := by decide +kernel
theorem dL_law_811 : decode cL_law 811 = .ok (.ifCond .eq 435, 3) := by decide +kernel
theorem dL_law_814 : decode cL_law 814 = .ok (.iconst 0, 1) := by decide +kernel
theorem dL_law_815 : decode cL_law 815 = .ok (.ireturn, 1) := by decide +kernel
theorem dL_law_816 : decode cL_law 816 = .ok (.aload_n 1, 1) := by decide +kernel
theorem dL_law_817 : decode cL_law 817 = .ok (.aload_n 0, 1) := by decide +kernel
theorem dL_law_818 : decode cL_law 818 = .ok (.iload_n 3, 1) := by decide +kernel
theorem dL_law_819 : decode cL_law 819 = .ok (.iconst 1, 1) := by decide +kernel
theorem dL_law_820 : decode cL_law 820 = .ok (.iadd, 1) := by decide +kernel
theorem dL_law_821 : decode cL_law 821 = .ok (.iaload, 1) := by decide +kernel
theorem dL_law_822 : decode cL_law 822 = .ok (.invokevirtual 108, 3) := by decide +kernel
theorem dL_law_825 : decode cL_law 825 = .ok (.aload_n 2, 1) := by decide +kernel
theorem dL_law_826 : decode cL_law 826 = .ok (.aload_n 0, 1) := by decide +kernel
theorem dL_law_827 : decode cL_law 827 = .ok (.iload_n 3, 1) := by decide +kernel
theorem dL_law_828 : decode cL_law 828 = .ok (.iconst 1, 1) := by decide +kernel
theorem dL_law_829 : decode cL_law 829 = .ok (.iadd, 1) := by decide +kernel
theorem dL_law_830 : decode cL_law 830 = .ok (.iaload, 1) := by decide +kernel
theorem dL_law_831 : decode cL_law 831 = .ok (.invokevirtual 111, 3) := by decide +kernel
theorem dL_law_834 : decode cL_law 834 = .ok (.if_icmp .eq 412, 3) := by decide +kernel
theorem dL_law_837 : decode cL_law 837 = .ok (.iconst 0, 1) := by decide +kernel
theorem dL_law_838 : decode cL_law 838 = .ok (.ireturn, 1) := by decide +kernel
theorem dL_law_839 : decode cL_law 839 = .ok (.aload_n 1, 1) := by decide +kernel
theorem dL_law_840 : decode cL_law 840 = .ok (.invokevirtual 112, 3) := by decide +kernel
theorem dL_law_843 : decode cL_law 843 = .ok (.aload_n 2, 1) := by decide +kernel
theorem dL_law_844 : decode cL_law 844 = .ok (.invokevirtual 115, 3) := by decide +kernel
theorem dL_law_847 : decode cL_law 847 = .ok (.if_icmp .eq 399, 3) := by decide +kernel
theorem dL_law_850 : decode cL_law 850 = .ok (.iconst 0, 1) := by decide +kernel
theorem dL_law_851 : decode cL_law 851 = .ok (.ireturn, 1) := by decide +kernel
theorem dL_law_852 : decode cL_law 852 = .ok (.aload_n 1, 1) := by decide +kernel
theorem dL_law_853 : decode cL_law 853 = .ok (.aload_n 0, 1) := by decide +kernel
theorem dL_law_854 : decode cL_law 854 = .ok (.iload_n 3, 1) := by decide +kernel
theorem dL_law_855 : decode cL_law 855 = .ok (.iconst 1, 1) := by decide +kernel
theorem dL_law_856 : decode cL_law 856 = .ok (.iadd, 1) := by decide +kernel
theorem dL_law_857 : decode cL_law 857 = .ok (.iaload, 1) := by decide +kernel
theorem dL_law_858 : decode cL_law 858 = .ok (.aload_n 0, 1) := by decide +kernel
theorem dL_law_859 : decode cL_law 859 = .ok (.iload_n 3, 1) := by decide +kernel
theorem dL_law_860 : decode cL_law 860 = .ok (.iconst 2, 1) := by decide +kernel
theorem dL_law_861 : decode cL_law 861 = .ok (.iadd, 1) := by decide +kernel
theorem dL_law_862 : decode cL_law 862 = .ok (.iaload, 1) := by decide +kernel
theorem dL_law_863 : decode cL_law 863 = .ok (.invokevirtual 116, 3) := by decide +kernel
theorem dL_law_866 : decode cL_law 866 = .ok (.aload_n 2, 1) := by decide +kernel
theorem dL_law_867 : decode cL_law 867 = .ok (.aload_n 0, 1) := by decide +kernel
theorem dL_law_868 : decode cL_law 868 = .ok (.iload_n 3, 1) := by decide +kernel
theorem dL_law_869 : decode cL_law 869 = .ok (.iconst 1, 1) := by decide +kernel
theorem dL_law_870 : decode cL_law 870 = .ok (.iadd, 1) := by decide +kernel
theorem dL_law_871 : decode cL_law 871 = .ok (.iaload, 1) := by decide +kernel
theorem dL_law_872 : decode cL_law 872 = .ok (.aload_n 0, 1) := by decide +kernel
theorem dL_law_873 : decode cL_law 873 = .ok (.iload_n 3, 1) := by decide +kernel
theorem dL_law_874 : decode cL_law 874 = .ok (.iconst 2, 1) := by decide +kernel
theorem dL_law_875 : decode cL_law 875 = .ok (.iadd, 1) := by decide +kernel
theorem dL_law_876 : decode cL_law 876 = .ok (.iaload, 1) := by decide +kernel
theorem dL_law_877 : decode cL_law 877 = .ok (.invokevirtual 119, 3) := by decide +kernel
theorem dL_law_880 : decode cL_law 880 = .ok (.if_icmp .eq 366, 3) := by decide +kernel
theorem dL_law_883 : decode cL_law 883 = .ok (.iconst 0, 1) := by decide +kernel
theorem dL_law_884 : decode cL_law 884 = .ok (.ireturn, 1) := by decide +kernel
theorem dL_law_885 : decode cL_law 885 = .ok (.aload_n 1, 1) := by decide +kernel
theorem dL_law_886 : decode cL_law 886 = .ok (.invokevirtual 120, 3) := by decide +kernel
theorem dL_law_889 : decode cL_law 889 = .ok (.aload_n 2, 1) := by decide +kernel
theorem dL_law_890 : decode cL_law 890 = .ok (.invokevirtual 123, 3) := by decide +kernel
theorem dL_law_893 : decode cL_law 893 = .ok (.if_icmp .eq 353, 3) := by decide +kernel
theorem dL_law_896 : decode cL_law 896 = .ok (.iconst 0, 1) := by decide +kernel
theorem dL_law_897 : decode cL_law 897 = .ok (.ireturn, 1) := by decide +kernel
theorem dL_law_898 : decode cL_law 898 = .ok (.aload_n 1, 1) := by decide +kernel
theorem dL_law_899 : decode cL_law 899 = .ok (.invokevirtual 124, 3) := by decide +kernel
theorem dL_law_902 : decode cL_law 902 = .ok (.aload_n 2, 1) := by decide +kernel
theorem dL_law_903 : decode cL_law 903 = .ok (.invokevirtual 127, 3) := by decide +kernel
theorem dL_law_906 : decode cL_law 906 = .ok (.if_icmp .eq 340, 3) := by decide +kernel
theorem dL_law_909 : decode cL_law 909 = .ok (.iconst 0, 1) := by decide +kernel
theorem dL_law_910 : decode cL_law 910 = .ok (.ireturn, 1) := by decide +kernel
theorem dL_law_911 : decode cL_law 911 = .ok (.aload_n 1, 1) := by decide +kernel
theorem dL_law_912 : decode cL_law 912 = .ok (.aload_n 0, 1) := by decide +kernel
theorem dL_law_913 : decode cL_law 913 = .ok (.iload_n 3, 1) := by decide +kernel
theorem dL_law_914 : decode cL_law 914 = .ok (.iconst 1, 1) := by decide +kernel
theorem dL_law_915 : decode cL_law 915 = .ok (.iadd, 1) := by decide +kernel
theorem dL_law_916 : decode cL_law 916 = .ok (.iaload, 1) := by decide +kernel
theorem dL_law_917 : decode cL_law 917 = .ok (.aload_n 0, 1) := by decide +kernel
theorem dL_law_918 : decode cL_law 918 = .ok (.iload_n 3, 1) := by decide +kernel
theorem dL_law_919 : decode cL_law 919 = .ok (.iconst 2, 1) := by decide +kernel
theorem dL_law_920 : decode cL_law 920 = .ok (.iadd, 1) := by decide +kernel
theorem dL_law_921 : decode cL_law 921 = .ok (.iaload, 1) := by decide +kernel
theorem dL_law_922 : decode cL_law 922 = .ok (.aload_n 0, 1) := by decide +kernel
theorem dL_law_923 : decode cL_law 923 = .ok (.iload_n 3, 1) := by decide +kernel
theorem dL_law_924 : decode cL_law 924 = .ok (.iconst 3, 1) := by decide +kernel
theorem dL_law_925 : decode cL_law 925 = .ok (.iadd, 1) := by decide +kernel
theorem dL_law_926 : decode cL_law 926 = .ok (.iaload, 1) := by decide +kernel
theorem dL_law_927 : decode cL_law 927 = .ok (.invokevirtual 128, 3) := by decide +kernel
theorem dL_law_930 : decode cL_law 930 = .ok (.aload_n 2, 1) := by decide +kernel
theorem dL_law_931 : decode cL_law 931 = .ok (.aload_n 0, 1) := by decide +kernel
theorem dL_law_932 : decode cL_law 932 = .ok (.iload_n 3, 1) := by decide +kernel
theorem dL_law_933 : decode cL_law 933 = .ok (.iconst 1, 1) := by decide +kernel
theorem dL_law_934 : decode cL_law 934 = .ok (.iadd, 1) := by decide +kernel
theorem dL_law_935 : decode cL_law 935 = .ok (.iaload, 1) := by decide +kernel
theorem dL_law_936 : decode cL_law 936 = .ok (.aload_n 0, 1) := by decide +kernel
theorem dL_law_937 : decode cL_law 937 = .ok (.iload_n 3, 1) := by decide +kernel
theorem dL_law_938 : decode cL_law 938 = .ok (.iconst 2, 1) := by decide +kernel
theorem dL_law_939 : decode cL_law 939 = .ok (.iadd, 1) := by decide +kernel
theorem dL_law_940 : decode cL_law 940 = .ok (.iaload, 1) := by decide +kernel
theorem dL_law_941 : decode cL_law 941 = .ok (.aload_n 0, 1) := by decide +kernel
theorem dL_law_942 : decode cL_law 942 = .ok (.iload_n 3, 1) := by decide +kernel
theorem dL_law_943 : decode cL_law 943 = .ok (.iconst 3, 1) := by decide +kernel
theorem dL_law_944 : decode cL_law 944 = .ok (.iadd, 1) := by decide +kernel
theorem dL_law_945 : decode cL_law 945 = .ok (.iaload, 1) := by decide +kernel
theorem dL_law_946 : decode cL_law 946 = .ok (.invokevirtual 131, 3) := by decide +kernel
theorem dL_law_949 : decode cL_law 949 = .ok (.if_icmp .eq 297, 3) := by decide +kernel
theorem dL_law_952 : decode cL_law 952 = .ok (.iconst 0, 1) := by decide +kernel
theorem dL_law_953 : decode cL_law 953 = .ok (.ireturn, 1) := by decide +kernel
theorem dL_law_954 : decode cL_law 954 = .ok (.aload_n 1, 1) := by decide +kernel
theorem dL_law_955 : decode cL_law 955 = .ok (.aload_n 0, 1) := by decide +kernel
theorem dL_law_956 : decode cL_law 956 = .ok (.iload_n 3, 1) := by decide +kernel
theorem dL_law_957 : decode cL_law 957 = .ok (.iconst 1, 1) := by decide +kernel
theorem dL_law_958 : decode cL_law 958 = .ok (.iadd, 1) := by decide +kernel
theorem dL_law_959 : decode cL_law 959 = .ok (.iaload, 1) := by decide +kernel
theorem dL_law_960 : decode cL_law 960 = .ok (.invokevirtual 132, 3) := by decide +kernel
theorem dL_law_963 : decode cL_law 963 = .ok (.aload_n 2, 1) := by decide +kernel
theorem dL_law_964 : decode cL_law 964 = .ok (.aload_n 0, 1) := by decide +kernel
theorem dL_law_965 : decode cL_law 965 = .ok (.iload_n 3, 1) := by decide +kernel
theorem dL_law_966 : decode cL_law 966 = .ok (.iconst 1, 1) := by decide +kernel
theorem dL_law_967 : decode cL_law 967 = .ok (.iadd, 1) := by decide +kernel
theorem dL_law_968 : decode cL_law 968 = .ok (.iaload, 1) := by decide +kernel
theorem dL_law_969 : decode cL_law 969 = .ok (.invokevirtual 135, 3) := by decide +kernel
theorem dL_law_972 : decode cL_law 972 = .ok (.if_icmp .eq 274, 3) := by decide +kernel
theorem dL_law_975 : decode cL_law 975 = .ok (.iconst 0, 1) := by decide +kernel
theorem dL_law_976 : decode cL_law 976 = .ok (.ireturn, 1) := by decide +kernel
theorem dL_law_977 : decode cL_law 977 = .ok (.aload_n 1, 1) := by decide +kernel
theorem dL_law_978 : decode cL_law 978 = .ok (.aload_n 0, 1) := by decide +kernel
theorem dL_law_979 : decode cL_law 979 = .ok (.iload_n 3, 1) := by decide +kernel
theorem dL_law_980 : decode cL_law 980 = .ok (.iconst 1, 1) := by decide +kernel
theorem dL_law_981 : decode cL_law 981 = .ok (.iadd, 1) := by decide +kernel
theorem dL_law_982 : decode cL_law 982 = .ok (.iaload, 1) := by decide +kernel
theorem dL_law_983 : decode cL_law 983 = .ok (.aload_n 0, 1) := by decide +kernel
theorem dL_law_984 : decode cL_law 984 = .ok (.iload_n 3, 1) := by decide +kernel
theorem dL_law_985 : decode cL_law 985 = .ok (.iconst 2, 1) := by decide +kernel
theorem dL_law_986 : decode cL_law 986 = .ok (.iadd, 1) := by decide +kernel
theorem dL_law_987 : decode cL_law 987 = .ok (.iaload, 1) := by decide +kernel
theorem dL_law_988 : decode cL_law 988 = .ok (.invokevirtual 136, 3) := by decide +kernel
theorem dL_law_991 : decode cL_law 991 = .ok (.aload_n 2, 1) := by decide +kernel
theorem dL_law_992 : decode cL_law 992 = .ok (.aload_n 0, 1) := by decide +kernel
theorem dL_law_993 : decode cL_law 993 = .ok (.iload_n 3, 1) := by decide +kernel
theorem dL_law_994 : decode cL_law 994 = .ok (.iconst 1, 1) := by decide +kernel
theorem dL_law_995 : decode cL_law 995 = .ok (.iadd, 1) := by decide +kernel
theorem dL_law_996 : decode cL_law 996 = .ok (.iaload, 1) := by decide +kernel
theorem dL_law_997 : decode cL_law 997 = .ok (.aload_n 0, 1) := by decide +kernel
theorem dL_law_998 : decode cL_law 998 = .ok (.iload_n 3, 1) := by decide +kernel
theorem dL_law_999 : decode cL_law 999 = .ok (.iconst 2, 1) := by decide +kernel
theorem dL_law_1000 : decode cL_law 1000 = .ok (.iadd, 1) := by decide +kernel
theorem dL_law_1001 : decode cL_law 1001 = .ok (.iaload, 1) := by decide +kernel
theorem dL_law_1002 : decode cL_law 1002 = .ok (.invokevirtual 139, 3) := by decide +kernel
theorem dL_law_1005 : decode cL_law 1005 = .ok (.if_icmp .eq 241, 3) := by decide +kernel
theorem dL_law_1008 : decode cL_law 1008 = .ok (.iconst 0, 1) := by decide +kernel
theorem dL_law_1009 : decode cL_law 1009 = .ok (.ireturn, 1) := by decide +kernel
theorem dL_law_1010 : decode cL_law 1010 = .ok (.aload_n 1, 1) := by decide +kernel
theorem dL_law_1011 : decode cL_law 1011 = .ok (.aload_n 0, 1) := by decide +kernel
theorem dL_law_1012 : decode cL_law 1012 = .ok (.iload_n 3, 1) := by decide +kernel
theorem dL_law_1013 : decode cL_law 1013 = .ok (.iconst 1, 1) := by decide +kernel
theorem dL_law_1014 : decode cL_law 1014 = .ok (.iadd, 1) := by decide +kernel
theorem dL_law_1015 : decode cL_law 1015 = .ok (.iaload, 1) := by decide +kernel
theorem dL_law_1016 : decode cL_law 1016 = .ok (.invokevirtual 140, 3) := by decide +kernel
theorem dL_law_1019 : decode cL_law 1019 = .ok (.aload_n 2, 1) := by decide +kernel
theorem dL_law_1020 : decode cL_law 1020 = .ok (.aload_n 0, 1) := by decide +kernel
theorem dL_law_1021 : decode cL_law 1021 = .ok (.iload_n 3, 1) := by decide +kernel
theorem dL_law_1022 : decode cL_law 1022 = .ok (.iconst 1, 1) := by decide +kernel
theorem dL_law_1023 : decode cL_law 1023 = .ok (.iadd, 1) := by decide +kernel
theorem dL_law_1024 : decode cL_law 1024 = .ok (.iaload, 1) := by decide +kernel
theorem dL_law_1025 : decode cL_law 1025 = .ok (.invokevirtual 143, 3) := by decide +kernel
theorem dL_law_1028 : decode cL_law 1028 = .ok (.if_icmp .eq 218, 3) := by decide +kernel
theorem dL_law_1031 : decode cL_law 1031 = .ok (.iconst 0, 1) := by decide +kernel
theorem dL_law_1032 : decode cL_law 1032 = .ok (.ireturn, 1) := by decide +kernel
theorem dL_law_1033 : decode cL_law 1033 = .ok (.aload_n 1, 1) := by decide +kernel
theorem dL_law_1034 : decode cL_law 1034 = .ok (.aload_n 0, 1) := by decide +kernel
theorem dL_law_1035 : decode cL_law 1035 = .ok (.iload_n 3, 1) := by decide +kernel
theorem dL_law_1036 : decode cL_law 1036 = .ok (.iconst 1, 1) := by decide +kernel
theorem dL_law_1037 : decode cL_law 1037 = .ok (.iadd, 1) := by decide +kernel
theorem dL_law_1038 : decode cL_law 1038 = .ok (.iaload, 1) := by decide +kernel
theorem dL_law_1039 : decode cL_law 1039 = .ok (.aload_n 0, 1) := by decide +kernel
theorem dL_law_1040 : decode cL_law 1040 = .ok (.iload_n 3, 1) := by decide +kernel
theorem dL_law_1041 : decode cL_law 1041 = .ok (.iconst 2, 1) := by decide +kernel
theorem dL_law_1042 : decode cL_law 1042 = .ok (.iadd, 1) := by decide +kernel
theorem dL_law_1043 : decode cL_law 1043 = .ok (.iaload, 1) := by decide +kernel
theorem dL_law_1044 : decode cL_law 1044 = .ok (.aload_n 0, 1) := by decide +kernel
theorem dL_law_1045 : decode cL_law 1045 = .ok (.iload_n 3, 1) := by decide +kernel
theorem dL_law_1046 : decode cL_law 1046 = .ok (.iconst 3, 1) := by decide +kernel
theorem dL_law_1047 : decode cL_law 1047 = .ok (.iadd, 1) := by decide +kernel
theorem dL_law_1048 : decode cL_law 1048 = .ok (.iaload, 1) := by decide +kernel
theorem dL_law_1049 : decode cL_law 1049 = .ok (.invokevirtual 144, 3) := by decide +kernel
theorem dL_law_1052 : decode cL_law 1052 = .ok (.aload_n 2, 1) := by decide +kernel
theorem dL_law_1053 : decode cL_law 1053 = .ok (.aload_n 0, 1) := by decide +kernel
theorem dL_law_1054 : decode cL_law 1054 = .ok (.iload_n 3, 1) := by decide +kernel
theorem dL_law_1055 : decode cL_law 1055 = .ok (.iconst 1, 1) := by decide +kernel
theorem dL_law_1056 : decode cL_law 1056 = .ok (.iadd, 1) := by decide +kernel
theorem dL_law_1057 : decode cL_law 1057 = .ok (.iaload, 1) := by decide +kernel
theorem dL_law_1058 : decode cL_law 1058 = .ok (.aload_n 0, 1) := by decide +kernel
theorem dL_law_1059 : decode cL_law 1059 = .ok (.iload_n 3, 1) := by decide +kernel
theorem dL_law_1060 : decode cL_law 1060 = .ok (.iconst 2, 1) := by decide +kernel
theorem dL_law_1061 : decode cL_law 1061 = .ok (.iadd, 1) := by decide +kernel
theorem dL_law_1062 : decode cL_law 1062 = .ok (.iaload, 1) := by decide +kernel
theorem dL_law_1063 : decode cL_law 1063 = .ok (.aload_n 0, 1) := by decide +kernel
theorem dL_law_1064 : decode cL_law 1064 = .ok (.iload_n 3, 1) := by decide +kernel
theorem dL_law_1065 : decode cL_law 1065 = .ok (.iconst 3, 1) := by decide +kernel
theorem dL_law_1066 : decode cL_law 1066 = .ok (.iadd, 1) := by decide +kernel
theorem dL_law_1067 : decode cL_law 1067 = .ok (.iaload, 1) := by decide +kernel
theorem dL_law_1068 : decode cL_law 1068 = .ok (.invokevirtual 147, 3) := by decide +kernel
theorem dL_law_1071 : decode cL_law 1071 = .ok (.if_icmp .eq 175, 3) := by decide +kernel
theorem dL_law_1074 : decode cL_law 1074 = .ok (.iconst 0, 1) := by decide +kernel
theorem dL_law_1075 : decode cL_law 1075 = .ok (.ireturn, 1) := by decide +kernel
theorem dL_law_1076 : decode cL_law 1076 = .ok (.aload_n 1, 1) := by decide +kernel
theorem dL_law_1077 : decode cL_law 1077 = .ok (.aload_n 0, 1) := by decide +kernel
theorem dL_law_1078 : decode cL_law 1078 = .ok (.iload_n 3, 1) := by decide +kernel
theorem dL_law_1079 : decode cL_law 1079 = .ok (.iconst 1, 1) := by decide +kernel
theorem dL_law_1080 : decode cL_law 1080 = .ok (.iadd, 1) := by decide +kernel
theorem dL_law_1081 : decode cL_law 1081 = .ok (.iaload, 1) := by decide +kernel
theorem dL_law_1082 : decode cL_law 1082 = .ok (.aload_n 0, 1) := by decide +kernel
theorem dL_law_1083 : decode cL_law 1083 = .ok (.iload_n 3, 1) := by decide +kernel
theorem dL_law_1084 : decode cL_law 1084 = .ok (.iconst 2, 1) := by decide +kernel
theorem dL_law_1085 : decode cL_law 1085 = .ok (.iadd, 1) := by decide +kernel
theorem dL_law_1086 : decode cL_law 1086 = .ok (.iaload, 1) := by decide +kernel
theorem dL_law_1087 : decode cL_law 1087 = .ok (.aload_n 0, 1) := by decide +kernel
theorem dL_law_1088 : decode cL_law 1088 = .ok (.iload_n 3, 1) := by decide +kernel
theorem dL_law_1089 : decode cL_law 1089 = .ok (.iconst 3, 1) := by decide +kernel
theorem dL_law_1090 : decode cL_law 1090 = .ok (.iadd, 1) := by decide +kernel
theorem dL_law_1091 : decode cL_law 1091 = .ok (.iaload, 1) := by decide +kernel
theorem dL_law_1092 : decode cL_law 1092 = .ok (.i2l, 1) := by decide +kernel
theorem dL_law_1093 : decode cL_law 1093 = .ok (.bipush 32, 2) := by decide +kernel
theorem dL_law_1095 : decode cL_law 1095 = .ok (.lshl, 1) := by decide +kernel
theorem dL_law_1096 : decode cL_law 1096 = .ok (.aload_n 0, 1) := by decide +kernel
theorem dL_law_1097 : decode cL_law 1097 = .ok (.iload_n 3, 1) := by decide +kernel
theorem dL_law_1098 : decode cL_law 1098 = .ok (.iconst 4, 1) := by decide +kernel
theorem dL_law_1099 : decode cL_law 1099 = .ok (.iadd, 1) := by decide +kernel
theorem dL_law_1100 : decode cL_law 1100 = .ok (.iaload, 1) := by decide +kernel
theorem dL_law_1101 : decode cL_law 1101 = .ok (.i2l, 1) := by decide +kernel
theorem dL_law_1102 : decode cL_law 1102 = .ok (.ldc2_w 148, 3) := by decide +kernel
theorem dL_law_1105 : decode cL_law 1105 = .ok (.land, 1) := by decide +kernel
theorem dL_law_1106 : decode cL_law 1106 = .ok (.lor, 1) := by decide +kernel
theorem dL_law_1107 : decode cL_law 1107 = .ok (.invokevirtual 150, 3) := by decide +kernel
theorem dL_law_1110 : decode cL_law 1110 = .ok (.aload_n 2, 1) := by decide +kernel
theorem dL_law_1111 : decode cL_law 1111 = .ok (.aload_n 0, 1) := by decide +kernel
theorem dL_law_1112 : decode cL_law 1112 = .ok (.iload_n 3, 1) := by decide +kernel
theorem dL_law_1113 : decode cL_law 1113 = .ok (.iconst 1, 1) := by decide +kernel
theorem dL_law_1114 : decode cL_law 1114 = .ok (.iadd, 1) := by decide +kernel
theorem dL_law_1115 : decode cL_law 1115 = .ok (.iaload, 1) := by decide +kernel
theorem dL_law_1116 : decode cL_law 1116 = .ok (.aload_n 0, 1) := by decide +kernel
theorem dL_law_1117 : decode cL_law 1117 = .ok (.iload_n 3, 1) := by decide +kernel
theorem dL_law_1118 : decode cL_law 1118 = .ok (.iconst 2, 1) := by decide +kernel
theorem dL_law_1119 : decode cL_law 1119 = .ok (.iadd, 1) := by decide +kernel
theorem dL_law_1120 : decode cL_law 1120 = .ok (.iaload, 1) := by decide +kernel
theorem dL_law_1121 : decode cL_law 1121 = .ok (.aload_n 0, 1) := by decide +kernel
theorem dL_law_1122 : decode cL_law 1122 = .ok (.iload_n 3, 1) := by decide +kernel
theorem dL_law_1123 : decode cL_law 1123 = .ok (.iconst 3, 1) := by decide +kernel
theorem dL_law_1124 : decode cL_law 1124 = .ok (.iadd, 1) := by decide +kernel
theorem dL_law_1125 : decode cL_law 1125 = .ok (.iaload, 1) := by decide +kernel
theorem dL_law_1126 : decode cL_law 1126 = .ok (.i2l, 1) := by decide +kernel
theorem dL_law_1127 : decode cL_law 1127 = .ok (.bipush 32, 2) := by decide +kernel
theorem dL_law_1129 : decode cL_law 1129 = .ok (.lshl, 1) := by decide +kernel
theorem dL_law_1130 : decode cL_law 1130 = .ok (.aload_n 0, 1) := by decide +kernel
theorem dL_law_1131 : decode cL_law 1131 = .ok (.iload_n 3, 1) := by decide +kernel
theorem dL_law_1132 : decode cL_law 1132 = .ok (.iconst 4, 1) := by decide +kernel
theorem dL_law_1133 : decode cL_law 1133 = .ok (.iadd, 1) := by decide +kernel
theorem dL_law_1134 : decode cL_law 1134 = .ok (.iaload, 1) := by decide +kernel
theorem dL_law_1135 : decode cL_law 1135 = .ok (.i2l, 1) := by decide +kernel
theorem dL_law_1136 : decode cL_law 1136 = .ok (.ldc2_w 148, 3) := by decide +kernel
theorem dL_law_1139 : decode cL_law 1139 = .ok (.land, 1) := by decide +kernel
theorem dL_law_1140 : decode cL_law 1140 = .ok (.lor, 1) := by decide +kernel
theorem dL_law_1141 : decode cL_law 1141 = .ok (.invokevirtual 154, 3) := by decide +kernel
theorem dL_law_1144 : decode cL_law 1144 = .ok (.if_icmp .eq 102, 3) := by decide +kernel
theorem dL_law_1147 : decode cL_law 1147 = .ok (.iconst 0, 1) := by decide +kernel
theorem dL_law_1148 : decode cL_law 1148 = .ok (.ireturn, 1) := by decide +kernel
theorem dL_law_1149 : decode cL_law 1149 = .ok (.aload_n 1, 1) := by decide +kernel
theorem dL_law_1150 : decode cL_law 1150 = .ok (.aload_n 0, 1) := by decide +kernel
theorem dL_law_1151 : decode cL_law 1151 = .ok (.iload_n 3, 1) := by decide +kernel
theorem dL_law_1152 : decode cL_law 1152 = .ok (.iconst 1, 1) := by decide +kernel
theorem dL_law_1153 : decode cL_law 1153 = .ok (.iadd, 1) := by decide +kernel
theorem dL_law_1154 : decode cL_law 1154 = .ok (.iaload, 1) := by decide +kernel
theorem dL_law_1155 : decode cL_law 1155 = .ok (.aload_n 0, 1) := by decide +kernel
theorem dL_law_1156 : decode cL_law 1156 = .ok (.iload_n 3, 1) := by decide +kernel
theorem dL_law_1157 : decode cL_law 1157 = .ok (.iconst 2, 1) := by decide +kernel
theorem dL_law_1158 : decode cL_law 1158 = .ok (.iadd, 1) := by decide +kernel
theorem dL_law_1159 : decode cL_law 1159 = .ok (.iaload, 1) := by decide +kernel
theorem dL_law_1160 : decode cL_law 1160 = .ok (.invokevirtual 155, 3) := by decide +kernel
theorem dL_law_1163 : decode cL_law 1163 = .ok (.aload_n 2, 1) := by decide +kernel
theorem dL_law_1164 : decode cL_law 1164 = .ok (.aload_n 0, 1) := by decide +kernel
theorem dL_law_1165 : decode cL_law 1165 = .ok (.iload_n 3, 1) := by decide +kernel
theorem dL_law_1166 : decode cL_law 1166 = .ok (.iconst 1, 1) := by decide +kernel
theorem dL_law_1167 : decode cL_law 1167 = .ok (.iadd, 1) := by decide +kernel
theorem dL_law_1168 : decode cL_law 1168 = .ok (.iaload, 1) := by decide +kernel
theorem dL_law_1169 : decode cL_law 1169 = .ok (.aload_n 0, 1) := by decide +kernel
theorem dL_law_1170 : decode cL_law 1170 = .ok (.iload_n 3, 1) := by decide +kernel
theorem dL_law_1171 : decode cL_law 1171 = .ok (.iconst 2, 1) := by decide +kernel
theorem dL_law_1172 : decode cL_law 1172 = .ok (.iadd, 1) := by decide +kernel
theorem dL_law_1173 : decode cL_law 1173 = .ok (.iaload, 1) := by decide +kernel
theorem dL_law_1174 : decode cL_law 1174 = .ok (.invokevirtual 158, 3) := by decide +kernel
theorem dL_law_1177 : decode cL_law 1177 = .ok (.lcmp, 1) := by decide +kernel
theorem dL_law_1178 : decode cL_law 1178 = .ok (.ifCond .eq 68, 3) := by decide +kernel
theorem dL_law_1181 : decode cL_law 1181 = .ok (.iconst 0, 1) := by decide +kernel
theorem dL_law_1182 : decode cL_law 1182 = .ok (.ireturn, 1) := by decide +kernel
theorem dL_law_1183 : decode cL_law 1183 = .ok (.aload_n 1, 1) := by decide +kernel
theorem dL_law_1184 : decode cL_law 1184 = .ok (.aload_n 0, 1) := by decide +kernel
theorem dL_law_1185 : decode cL_law 1185 = .ok (.iload_n 3, 1) := by decide +kernel
theorem dL_law_1186 : decode cL_law 1186 = .ok (.iconst 1, 1) := by decide +kernel
theorem dL_law_1187 : decode cL_law 1187 = .ok (.iadd, 1) := by decide +kernel
theorem dL_law_1188 : decode cL_law 1188 = .ok (.iaload, 1) := by decide +kernel
theorem dL_law_1189 : decode cL_law 1189 = .ok (.aload_n 0, 1) := by decide +kernel
theorem dL_law_1190 : decode cL_law 1190 = .ok (.iload_n 3, 1) := by decide +kernel
theorem dL_law_1191 : decode cL_law 1191 = .ok (.iconst 2, 1) := by decide +kernel
theorem dL_law_1192 : decode cL_law 1192 = .ok (.iadd, 1) := by decide +kernel
theorem dL_law_1193 : decode cL_law 1193 = .ok (.iaload, 1) := by decide +kernel
theorem dL_law_1194 : decode cL_law 1194 = .ok (.aload_n 0, 1) := by decide +kernel
theorem dL_law_1195 : decode cL_law 1195 = .ok (.iload_n 3, 1) := by decide +kernel
theorem dL_law_1196 : decode cL_law 1196 = .ok (.iconst 3, 1) := by decide +kernel
theorem dL_law_1197 : decode cL_law 1197 = .ok (.iadd, 1) := by decide +kernel
theorem dL_law_1198 : decode cL_law 1198 = .ok (.iaload, 1) := by decide +kernel
theorem dL_law_1199 : decode cL_law 1199 = .ok (.aload_n 0, 1) := by decide +kernel
theorem dL_law_1200 : decode cL_law 1200 = .ok (.iload_n 3, 1) := by decide +kernel
theorem dL_law_1201 : decode cL_law 1201 = .ok (.iconst 4, 1) := by decide +kernel
theorem dL_law_1202 : decode cL_law 1202 = .ok (.iadd, 1) := by decide +kernel
theorem dL_law_1203 : decode cL_law 1203 = .ok (.iaload, 1) := by decide +kernel
theorem dL_law_1204 : decode cL_law 1204 = .ok (.aload_n 0, 1) := by decide +kernel
theorem dL_law_1205 : decode cL_law 1205 = .ok (.iload_n 3, 1) := by decide +kernel
theorem dL_law_1206 : decode cL_law 1206 = .ok (.iconst 5, 1) := by decide +kernel
theorem dL_law_1207 : decode cL_law 1207 = .ok (.iadd, 1) := by decide +kernel
theorem dL_law_1208 : decode cL_law 1208 = .ok (.iaload, 1) := by decide +kernel
theorem dL_law_1209 : decode cL_law 1209 = .ok (.invokevirtual 159, 3) := by decide +kernel
theorem dL_law_1212 : decode cL_law 1212 = .ok (.aload_n 2, 1) := by decide +kernel
theorem dL_law_1213 : decode cL_law 1213 = .ok (.aload_n 0, 1) := by decide +kernel
theorem dL_law_1214 : decode cL_law 1214 = .ok (.iload_n 3, 1) := by decide +kernel
theorem dL_law_1215 : decode cL_law 1215 = .ok (.iconst 1, 1) := by decide +kernel
theorem dL_law_1216 : decode cL_law 1216 = .ok (.iadd, 1) := by decide +kernel
theorem dL_law_1217 : decode cL_law 1217 = .ok (.iaload, 1) := by decide +kernel
theorem dL_law_1218 : decode cL_law 1218 = .ok (.aload_n 0, 1) := by decide +kernel
theorem dL_law_1219 : decode cL_law 1219 = .ok (.iload_n 3, 1) := by decide +kernel
theorem dL_law_1220 : decode cL_law 1220 = .ok (.iconst 2, 1) := by decide +kernel
theorem dL_law_1221 : decode cL_law 1221 = .ok (.iadd, 1) := by decide +kernel
theorem dL_law_1222 : decode cL_law 1222 = .ok (.iaload, 1) := by decide +kernel
theorem dL_law_1223 : decode cL_law 1223 = .ok (.aload_n 0, 1) := by decide +kernel
theorem dL_law_1224 : decode cL_law 1224 = .ok (.iload_n 3, 1) := by decide +kernel
theorem dL_law_1225 : decode cL_law 1225 = .ok (.iconst 3, 1) := by decide +kernel
theorem dL_law_1226 : decode cL_law 1226 = .ok (.iadd, 1) := by decide +kernel
theorem dL_law_1227 : decode cL_law 1227 = .ok (.iaload, 1) := by decide +kernel
theorem dL_law_1228 : decode cL_law 1228 = .ok (.aload_n 0, 1) := by decide +kernel
theorem dL_law_1229 : decode cL_law 1229 = .ok (.iload_n 3, 1) := by decide +kernel
theorem dL_law_1230 : decode cL_law 1230 = .ok (.iconst 4, 1) := by decide +kernel
theorem dL_law_1231 : decode cL_law 1231 = .ok (.iadd, 1) := by decide +kernel
theorem dL_law_1232 : decode cL_law 1232 = .ok (.iaload, 1) := by decide +kernel
theorem dL_law_1233 : decode cL_law 1233 = .ok (.aload_n 0, 1) := by decide +kernel
theorem dL_law_1234 : decode cL_law 1234 = .ok (.iload_n 3, 1) := by decide +kernel
theorem dL_law_1235 : decode cL_law 1235 = .ok (.iconst 5, 1) := by decide +kernel
theorem dL_law_1236 : decode cL_law 1236 = .ok (.iadd, 1) := by decide +kernel
theorem dL_law_1237 : decode cL_law 1237 = .ok (.iaload, 1) := by decide +kernel
theorem dL_law_1238 : decode cL_law 1238 = .ok (.invokevirtual 163, 3) := by decide +kernel
theorem dL_law_1241 : decode cL_law 1241 = .ok (.if_icmp .eq 5, 3) := by decide +kernel
theorem dL_law_1244 : decode cL_law 1244 = .ok (.iconst 0, 1) := by decide +kernel
theorem dL_law_1245 : decode cL_law 1245 = .ok (.ireturn, 1) := by decide +kernel
theorem dL_law_1246 : decode cL_law 1246 = .ok (.iinc 3 6, 3) := by decide +kernel
theorem dL_law_1249 : decode cL_law 1249 = .ok (.goto (-1231), 3) := by decide +kernel
theorem dL_law_1252 : decode cL_law 1252 = .ok (.iconst 1, 1) := by decide +kernel
theorem dL_law_1253 : decode cL_law 1253 = .ok (.ireturn, 1) := by decide +kernel
end
section
theorem dX5_init_0 : decode cX5_init 0 = .ok (.aload_n 0, 1) := by decide +kernel
theorem dX5_init_1 : decode cX5_init 1 = .ok (.invokespecial 3, 3) := by decide +kernel
theorem dX5_init_4 : decode cX5_init 4 = .ok (.aload_n 0, 1) := by decide +kernel
theorem dX5_init_5 : decode cX5_init 5 = .ok (.bipush 7, 2) := by decide +kernel
theorem dX5_init_7 : decode cX5_init 7 = .ok (.newarray .int, 2) := by decide +kernel
theorem dX5_init_9 : decode cX5_init 9 = .ok (.putfield 9, 3) := by decide +kernel
theorem dX5_init_12 : decode cX5_init 12 = .ok (.aload_n 0, 1) := by decide +kernel
theorem dX5_init_13 : decode cX5_init 13 = .ok (.bipush 7, 2) := by decide +kernel
theorem dX5_init_15 : decode cX5_init 15 = .ok (.newarray .int, 2) := by decide +kernel
theorem dX5_init_17 : decode cX5_init 17 = .ok (.putfield 15, 3) := by decide +kernel
theorem dX5_init_20 : decode cX5_init 20 = .ok (.aload_n 0, 1) := by decide +kernel
theorem dX5_init_21 : decode cX5_init 21 = .ok (.bipush 7, 2) := by decide +kernel
theorem dX5_init_23 : decode cX5_init 23 = .ok (.newarray .int, 2) := by decide +kernel
theorem dX5_init_25 : decode cX5_init 25 = .ok (.putfield 18, 3) := by decide +kernel
theorem dX5_init_28 : decode cX5_init 28 = .ok (.aload_n 0, 1) := by decide +kernel
theorem dX5_init_29 : decode cX5_init 29 = .ok (.bipush 28, 2) := by decide +kernel
theorem dX5_init_31 : decode cX5_init 31 = .ok (.newarray .int, 2) := by decide +kernel
theorem dX5_init_33 : decode cX5_init 33 = .ok (.putfield 21, 3) := by decide +kernel
theorem dX5_init_36 : decode cX5_init 36 = .ok (.aload_n 0, 1) := by decide +kernel
theorem dX5_init_37 : decode cX5_init 37 = .ok (.bipush 7, 2) := by decide +kernel
theorem dX5_init_39 : decode cX5_init 39 = .ok (.newarray .int, 2) := by decide +kernel
theorem dX5_init_41 : decode cX5_init 41 = .ok (.putfield 24, 3) := by decide +kernel
theorem dX5_init_44 : decode cX5_init 44 = .ok (.aload_n 0, 1) := by decide +kernel
theorem dX5_init_45 : decode cX5_init 45 = .ok (.bipush 7, 2) := by decide +kernel
theorem dX5_init_47 : decode cX5_init 47 = .ok (.newarray .int, 2) := by decide +kernel
theorem dX5_init_49 : decode cX5_init 49 = .ok (.putfield 27, 3) := by decide +kernel
theorem dX5_init_52 : decode cX5_init 52 = .ok (.aload_n 0, 1) := by decide +kernel
theorem dX5_init_53 : decode cX5_init 53 = .ok (.iconst 5, 1) := by decide +kernel
theorem dX5_init_54 : decode cX5_init 54 = .ok (.newarray .int, 2) := by decide +kernel
theorem dX5_init_56 : decode cX5_init 56 = .ok (.putfield 30, 3) := by decide +kernel
theorem dX5_init_59 : decode cX5_init 59 = .ok (.aload_n 0, 1) := by decide +kernel
theorem dX5_init_60 : decode cX5_init 60 = .ok (.ldc 33, 2) := by decide +kernel
theorem dX5_init_62 : decode cX5_init 62 = .ok (.invokevirtual 35, 3) := by decide +kernel
theorem dX5_init_65 : decode cX5_init 65 = .ok (.newarray .int, 2) := by decide +kernel
theorem dX5_init_67 : decode cX5_init 67 = .ok (.putfield 41, 3) := by decide +kernel
theorem dX5_init_70 : decode cX5_init 70 = .ok (.return_, 1) := by decide +kernel
theorem dX5_takeFrom_0 : decode cX5_takeFrom 0 = .ok (.aload_n 0, 1) := by decide +kernel
theorem dX5_takeFrom_1 : decode cX5_takeFrom 1 = .ok (.aload_n 1, 1) := by decide +kernel
theorem dX5_takeFrom_2 : decode cX5_takeFrom 2 = .ok (.getfield 44, 3) := by decide +kernel
theorem dX5_takeFrom_5 : decode cX5_takeFrom 5 = .ok (.putfield 44, 3) := by decide +kernel
theorem dX5_takeFrom_8 : decode cX5_takeFrom 8 = .ok (.aload_n 0, 1) := by decide +kernel
theorem dX5_takeFrom_9 : decode cX5_takeFrom 9 = .ok (.aload_n 1, 1) := by decide +kernel
theorem dX5_takeFrom_10 : decode cX5_takeFrom 10 = .ok (.getfield 48, 3) := by decide +kernel
theorem dX5_takeFrom_13 : decode cX5_takeFrom 13 = .ok (.putfield 48, 3) := by decide +kernel
theorem dX5_takeFrom_16 : decode cX5_takeFrom 16 = .ok (.aload_n 0, 1) := by decide +kernel
theorem dX5_takeFrom_17 : decode cX5_takeFrom 17 = .ok (.aload_n 1, 1) := by decide +kernel
theorem dX5_takeFrom_18 : decode cX5_takeFrom 18 = .ok (.getfield 51, 3) := by decide +kernel
theorem dX5_takeFrom_21 : decode cX5_takeFrom 21 = .ok (.putfield 51, 3) := by decide +kernel
theorem dX5_takeFrom_24 : decode cX5_takeFrom 24 = .ok (.aload_n 1, 1) := by decide +kernel
theorem dX5_takeFrom_25 : decode cX5_takeFrom 25 = .ok (.getfield 9, 3) := by decide +kernel
theorem dX5_takeFrom_28 : decode cX5_takeFrom 28 = .ok (.iconst 0, 1) := by decide +kernel
theorem dX5_takeFrom_29 : decode cX5_takeFrom 29 = .ok (.aload_n 0, 1) := by decide +kernel
theorem dX5_takeFrom_30 : decode cX5_takeFrom 30 = .ok (.getfield 9, 3) := by decide +kernel
theorem dX5_takeFrom_33 : decode cX5_takeFrom 33 = .ok (.iconst 0, 1) := by decide +kernel
theorem dX5_takeFrom_34 : decode cX5_takeFrom 34 = .ok (.bipush 7, 2) := by decide +kernel
theorem dX5_takeFrom_36 : decode cX5_takeFrom 36 = .ok (.invokestatic 55, 3) := by decide +kernel
theorem dX5_takeFrom_39 : decode cX5_takeFrom 39 = .ok (.aload_n 1, 1) := by decide +kernel
theorem dX5_takeFrom_40 : decode cX5_takeFrom 40 = .ok (.getfield 15, 3) := by decide +kernel
theorem dX5_takeFrom_43 : decode cX5_takeFrom 43 = .ok (.iconst 0, 1) := by decide +kernel
theorem dX5_takeFrom_44 : decode cX5_takeFrom 44 = .ok (.aload_n 0, 1) := by decide +kernel
theorem dX5_takeFrom_45 : decode cX5_takeFrom 45 = .ok (.getfield 15, 3) := by decide +kernel
theorem dX5_takeFrom_48 : decode cX5_takeFrom 48 = .ok (.iconst 0, 1) := by decide +kernel
theorem dX5_takeFrom_49 : decode cX5_takeFrom 49 = .ok (.bipush 7, 2) := by decide +kernel
theorem dX5_takeFrom_51 : decode cX5_takeFrom 51 = .ok (.invokestatic 55, 3) := by decide +kernel
theorem dX5_takeFrom_54 : decode cX5_takeFrom 54 = .ok (.aload_n 1, 1) := by decide +kernel
theorem dX5_takeFrom_55 : decode cX5_takeFrom 55 = .ok (.getfield 18, 3) := by decide +kernel
theorem dX5_takeFrom_58 : decode cX5_takeFrom 58 = .ok (.iconst 0, 1) := by decide +kernel
theorem dX5_takeFrom_59 : decode cX5_takeFrom 59 = .ok (.aload_n 0, 1) := by decide +kernel
theorem dX5_takeFrom_60 : decode cX5_takeFrom 60 = .ok (.getfield 18, 3) := by decide +kernel
theorem dX5_takeFrom_63 : decode cX5_takeFrom 63 = .ok (.iconst 0, 1) := by decide +kernel
theorem dX5_takeFrom_64 : decode cX5_takeFrom 64 = .ok (.bipush 7, 2) := by decide +kernel
theorem dX5_takeFrom_66 : decode cX5_takeFrom 66 = .ok (.invokestatic 55, 3) := by decide +kernel
theorem dX5_takeFrom_69 : decode cX5_takeFrom 69 = .ok (.aload_n 1, 1) := by decide +kernel
theorem dX5_takeFrom_70 : decode cX5_takeFrom 70 = .ok (.getfield 21, 3) := by decide +kernel
theorem dX5_takeFrom_73 : decode cX5_takeFrom 73 = .ok (.iconst 0, 1) := by decide +kernel
theorem dX5_takeFrom_74 : decode cX5_takeFrom 74 = .ok (.aload_n 0, 1) := by decide +kernel
theorem dX5_takeFrom_75 : decode cX5_takeFrom 75 = .ok (.getfield 21, 3) := by decide +kernel
theorem dX5_takeFrom_78 : decode cX5_takeFrom 78 = .ok (.iconst 0, 1) := by decide +kernel
theorem dX5_takeFrom_79 : decode cX5_takeFrom 79 = .ok (.bipush 28, 2) := by decide +kernel
theorem dX5_takeFrom_81 : decode cX5_takeFrom 81 = .ok (.invokestatic 55, 3) := by decide +kernel
theorem dX5_takeFrom_84 : decode cX5_takeFrom 84 = .ok (.return_, 1) := by decide +kernel
theorem dX5_insert_0 : decode cX5_insert 0 = .ok (.iload_n 1, 1) := by decide +kernel
theorem dX5_insert_1 : decode cX5_insert 1 = .ok (.ifCond .lt 20, 3) := by decide +kernel
theorem dX5_insert_4 : decode cX5_insert 4 = .ok (.iload_n 1, 1) := by decide +kernel
theorem dX5_insert_5 : decode cX5_insert 5 = .ok (.aload_n 0, 1) := by decide +kernel
theorem dX5_insert_6 : decode cX5_insert 6 = .ok (.getfield 44, 3) := by decide +kernel
theorem dX5_insert_9 : decode cX5_insert 9 = .ok (.if_icmp .gt 12, 3) := by decide +kernel
theorem dX5_insert_12 : decode cX5_insert 12 = .ok (.aload_n 0, 1) := by decide +kernel
theorem dX5_insert_13 : decode cX5_insert 13 = .ok (.getfield 44, 3) := by decide +kernel
theorem dX5_insert_16 : decode cX5_insert 16 = .ok (.bipush 7, 2) := by decide +kernel
theorem dX5_insert_18 : decode cX5_insert 18 = .ok (.if_icmp .lt 4, 3) := by decide +kernel
theorem dX5_insert_21 : decode cX5_insert 21 = .ok (.return_, 1) := by decide +kernel
theorem dX5_insert_22 : decode cX5_insert 22 = .ok (.aload_n 0, 1) := by decide +kernel
theorem dX5_insert_23 : decode cX5_insert 23 = .ok (.getfield 44, 3) := by decide +kernel
theorem dX5_insert_26 : decode cX5_insert 26 = .ok (.istore 5, 2) := by decide +kernel
theorem dX5_insert_28 : decode cX5_insert 28 = .ok (.iload 5, 2) := by decide +kernel
theorem dX5_insert_30 : decode cX5_insert 30 = .ok (.iload_n 1, 1) := by decide +kernel
theorem dX5_insert_31 : decode cX5_insert 31 = .ok (.if_icmp .le 19, 3) := by decide +kernel
theorem dX5_insert_34 : decode cX5_insert 34 = .ok (.aload_n 0, 1) := by decide +kernel
theorem dX5_insert_35 : decode cX5_insert 35 = .ok (.iload 5, 2) := by decide +kernel
theorem dX5_insert_37 : decode cX5_insert 37 = .ok (.iconst 1, 1) := by decide +kernel
theorem dX5_insert_38 : decode cX5_insert 38 = .ok (.isub, 1) := by decide +kernel
theorem dX5_insert_39 : decode cX5_insert 39 = .ok (.iload 5, 2) := by decide +kernel
theorem dX5_insert_41 : decode cX5_insert 41 = .ok (.invokevirtual 61, 3) := by decide +kernel
theorem dX5_insert_44 : decode cX5_insert 44 = .ok (.iinc 5 (-1), 3) := by decide +kernel
theorem dX5_insert_47 : decode cX5_insert 47 = .ok (.goto (-19), 3) := by decide +kernel
theorem dX5_insert_50 : decode cX5_insert 50 = .ok (.aload_n 0, 1) := by decide +kernel
theorem dX5_insert_51 : decode cX5_insert 51 = .ok (.dup, 1) := by decide +kernel
theorem dX5_insert_52 : decode cX5_insert 52 = .ok (.getfield 44, 3) := by decide +kernel
theorem dX5_insert_55 : decode cX5_insert 55 = .ok (.iconst 1, 1) := by decide +kernel
theorem dX5_insert_56 : decode cX5_insert 56 = .ok (.iadd, 1) := by decide +kernel
theorem dX5_insert_57 : decode cX5_insert 57 = .ok (.putfield 44, 3) := by decide +kernel
theorem dX5_insert_60 : decode cX5_insert 60 = .ok (.aload_n 0, 1) := by decide +kernel
theorem dX5_insert_61 : decode cX5_insert 61 = .ok (.getfield 9, 3) := by decide +kernel
theorem dX5_insert_64 : decode cX5_insert 64 = .ok (.iload_n 1, 1) := by decide +kernel
theorem dX5_insert_65 : decode cX5_insert 65 = .ok (.iload_n 2, 1) := by decide +kernel
theorem dX5_insert_66 : decode cX5_insert 66 = .ok (.iastore, 1) := by decide +kernel
theorem dX5_insert_67 : decode cX5_insert 67 = .ok (.aload_n 0, 1) := by decide +kernel
theorem dX5_insert_68 : decode cX5_insert 68 = .ok (.getfield 15, 3) := by decide +kernel
theorem dX5_insert_71 : decode cX5_insert 71 = .ok (.iload_n 1, 1) := by decide +kernel
theorem dX5_insert_72 : decode cX5_insert 72 = .ok (.iload_n 3, 1) := by decide +kernel
theorem dX5_insert_73 : decode cX5_insert 73 = .ok (.iastore, 1) := by decide +kernel
theorem dX5_insert_74 : decode cX5_insert 74 = .ok (.aload_n 0, 1) := by decide +kernel
theorem dX5_insert_75 : decode cX5_insert 75 = .ok (.getfield 18, 3) := by decide +kernel
theorem dX5_insert_78 : decode cX5_insert 78 = .ok (.iload_n 1, 1) := by decide +kernel
theorem dX5_insert_79 : decode cX5_insert 79 = .ok (.iload 4, 2) := by decide +kernel
theorem dX5_insert_81 : decode cX5_insert 81 = .ok (.iastore, 1) := by decide +kernel
theorem dX5_insert_82 : decode cX5_insert 82 = .ok (.iconst 0, 1) := by decide +kernel
theorem dX5_insert_83 : decode cX5_insert 83 = .ok (.istore 5, 2) := by decide +kernel
theorem dX5_insert_85 : decode cX5_insert 85 = .ok (.iload 5, 2) := by decide +kernel
theorem dX5_insert_87 : decode cX5_insert 87 = .ok (.iconst 4, 1) := by decide +kernel
theorem dX5_insert_88 : decode cX5_insert 88 = .ok (.if_icmp .ge 21, 3) := by decide +kernel
theorem dX5_insert_91 : decode cX5_insert 91 = .ok (.aload_n 0, 1) := by decide +kernel
theorem dX5_insert_92 : decode cX5_insert 92 = .ok (.getfield 21, 3) := by decide +kernel
theorem dX5_insert_95 : decode cX5_insert 95 = .ok (.iload_n 1, 1) := by decide +kernel
theorem dX5_insert_96 : decode cX5_insert 96 = .ok (.iconst 4, 1) := by decide +kernel
theorem dX5_insert_97 : decode cX5_insert 97 = .ok (.imul, 1) := by decide +kernel
theorem dX5_insert_98 : decode cX5_insert 98 = .ok (.iload 5, 2) := by decide +kernel
theorem dX5_insert_100 : decode cX5_insert 100 = .ok (.iadd, 1) := by decide +kernel
theorem dX5_insert_101 : decode cX5_insert 101 = .ok (.iconst 0, 1) := by decide +kernel
theorem dX5_insert_102 : decode cX5_insert 102 = .ok (.iastore, 1) := by decide +kernel
theorem dX5_insert_103 : decode cX5_insert 103 = .ok (.iinc 5 1, 3) := by decide +kernel
theorem dX5_insert_106 : decode cX5_insert 106 = .ok (.goto (-21), 3) := by decide +kernel
theorem dX5_insert_109 : decode cX5_insert 109 = .ok (.return_, 1) := by decide +kernel
theorem dX5_remove_0 : decode cX5_remove 0 = .ok (.iload_n 1, 1) := by decide +kernel
theorem dX5_remove_1 : decode cX5_remove 1 = .ok (.ifCond .lt 11, 3) := by decide +kernel
theorem dX5_remove_4 : decode cX5_remove 4 = .ok (.iload_n 1, 1) := by decide +kernel
theorem dX5_remove_5 : decode cX5_remove 5 = .ok (.aload_n 0, 1) := by decide +kernel
theorem dX5_remove_6 : decode cX5_remove 6 = .ok (.getfield 44, 3) := by decide +kernel
theorem dX5_remove_9 : decode cX5_remove 9 = .ok (.if_icmp .lt 4, 3) := by decide +kernel
theorem dX5_remove_12 : decode cX5_remove 12 = .ok (.return_, 1) := by decide +kernel
theorem dX5_remove_13 : decode cX5_remove 13 = .ok (.aload_n 0, 1) := by decide +kernel
theorem dX5_remove_14 : decode cX5_remove 14 = .ok (.dup, 1) := by decide +kernel
theorem dX5_remove_15 : decode cX5_remove 15 = .ok (.getfield 44, 3) := by decide +kernel
theorem dX5_remove_18 : decode cX5_remove 18 = .ok (.iconst 1, 1) := by decide +kernel
theorem dX5_remove_19 : decode cX5_remove 19 = .ok (.isub, 1) := by decide +kernel
theorem dX5_remove_20 : decode cX5_remove 20 = .ok (.putfield 44, 3) := by decide +kernel
theorem dX5_remove_23 : decode cX5_remove 23 = .ok (.iload_n 1, 1) := by decide +kernel
theorem dX5_remove_24 : decode cX5_remove 24 = .ok (.istore_n 2, 1) := by decide +kernel
theorem dX5_remove_25 : decode cX5_remove 25 = .ok (.iload_n 2, 1) := by decide +kernel
theorem dX5_remove_26 : decode cX5_remove 26 = .ok (.aload_n 0, 1) := by decide +kernel
theorem dX5_remove_27 : decode cX5_remove 27 = .ok (.getfield 44, 3) := by decide +kernel
theorem dX5_remove_30 : decode cX5_remove 30 = .ok (.if_icmp .ge 17, 3) := by decide +kernel
theorem dX5_remove_33 : decode cX5_remove 33 = .ok (.aload_n 0, 1) := by decide +kernel
theorem dX5_remove_34 : decode cX5_remove 34 = .ok (.iload_n 2, 1) := by decide +kernel
theorem dX5_remove_35 : decode cX5_remove 35 = .ok (.iconst 1, 1) := by decide +kernel
theorem dX5_remove_36 : decode cX5_remove 36 = .ok (.iadd, 1) := by decide +kernel
theorem dX5_remove_37 : decode cX5_remove 37 = .ok (.iload_n 2, 1) := by decide +kernel
theorem dX5_remove_38 : decode cX5_remove 38 = .ok (.invokevirtual 61, 3) := by decide +kernel
theorem dX5_remove_41 : decode cX5_remove 41 = .ok (.iinc 2 1, 3) := by decide +kernel
theorem dX5_remove_44 : decode cX5_remove 44 = .ok (.goto (-19), 3) := by decide +kernel
theorem dX5_remove_47 : decode cX5_remove 47 = .ok (.return_, 1) := by decide +kernel
theorem dX5_copyHouse_0 : decode cX5_copyHouse 0 = .ok (.aload_n 0, 1) := by decide +kernel
theorem dX5_copyHouse_1 : decode cX5_copyHouse 1 = .ok (.getfield 9, 3) := by decide +kernel
theorem dX5_copyHouse_4 : decode cX5_copyHouse 4 = .ok (.iload_n 2, 1) := by decide +kernel
theorem dX5_copyHouse_5 : decode cX5_copyHouse 5 = .ok (.aload_n 0, 1) := by decide +kernel
theorem dX5_copyHouse_6 : decode cX5_copyHouse 6 = .ok (.getfield 9, 3) := by decide +kernel
theorem dX5_copyHouse_9 : decode cX5_copyHouse 9 = .ok (.iload_n 1, 1) := by decide +kernel
theorem dX5_copyHouse_10 : decode cX5_copyHouse 10 = .ok (.iaload, 1) := by decide +kernel
theorem dX5_copyHouse_11 : decode cX5_copyHouse 11 = .ok (.iastore, 1) := by decide +kernel
theorem dX5_copyHouse_12 : decode cX5_copyHouse 12 = .ok (.aload_n 0, 1) := by decide +kernel
theorem dX5_copyHouse_13 : decode cX5_copyHouse 13 = .ok (.getfield 15, 3) := by decide +kernel
theorem dX5_copyHouse_16 : decode cX5_copyHouse 16 = .ok (.iload_n 2, 1) := by decide +kernel
theorem dX5_copyHouse_17 : decode cX5_copyHouse 17 = .ok (.aload_n 0, 1) := by decide +kernel
theorem dX5_copyHouse_18 : decode cX5_copyHouse 18 = .ok (.getfield 15, 3) := by decide +kernel
theorem dX5_copyHouse_21 : decode cX5_copyHouse 21 = .ok (.iload_n 1, 1) := by decide +kernel
theorem dX5_copyHouse_22 : decode cX5_copyHouse 22 = .ok (.iaload, 1) := by decide +kernel
theorem dX5_copyHouse_23 : decode cX5_copyHouse 23 = .ok (.iastore, 1) := by decide +kernel
theorem dX5_copyHouse_24 : decode cX5_copyHouse 24 = .ok (.aload_n 0, 1) := by decide +kernel
theorem dX5_copyHouse_25 : decode cX5_copyHouse 25 = .ok (.getfield 18, 3) := by decide +kernel
theorem dX5_copyHouse_28 : decode cX5_copyHouse 28 = .ok (.iload_n 2, 1) := by decide +kernel
theorem dX5_copyHouse_29 : decode cX5_copyHouse 29 = .ok (.aload_n 0, 1) := by decide +kernel
theorem dX5_copyHouse_30 : decode cX5_copyHouse 30 = .ok (.getfield 18, 3) := by decide +kernel
theorem dX5_copyHouse_33 : decode cX5_copyHouse 33 = .ok (.iload_n 1, 1) := by decide +kernel
theorem dX5_copyHouse_34 : decode cX5_copyHouse 34 = .ok (.iaload, 1) := by decide +kernel
theorem dX5_copyHouse_35 : decode cX5_copyHouse 35 = .ok (.iastore, 1) := by decide +kernel
theorem dX5_copyHouse_36 : decode cX5_copyHouse 36 = .ok (.aload_n 0, 1) := by decide +kernel
theorem dX5_copyHouse_37 : decode cX5_copyHouse 37 = .ok (.getfield 21, 3) := by decide +kernel
theorem dX5_copyHouse_40 : decode cX5_copyHouse 40 = .ok (.iload_n 1, 1) := by decide +kernel
theorem dX5_copyHouse_41 : decode cX5_copyHouse 41 = .ok (.iconst 4, 1) := by decide +kernel
theorem dX5_copyHouse_42 : decode cX5_copyHouse 42 = .ok (.imul, 1) := by decide +kernel
theorem dX5_copyHouse_43 : decode cX5_copyHouse 43 = .ok (.aload_n 0, 1) := by decide +kernel
theorem dX5_copyHouse_44 : decode cX5_copyHouse 44 = .ok (.getfield 21, 3) := by decide +kernel
theorem dX5_copyHouse_47 : decode cX5_copyHouse 47 = .ok (.iload_n 2, 1) := by decide +kernel
theorem dX5_copyHouse_48 : decode cX5_copyHouse 48 = .ok (.iconst 4, 1) := by decide +kernel
theorem dX5_copyHouse_49 : decode cX5_copyHouse 49 = .ok (.imul, 1) := by decide +kernel
theorem dX5_copyHouse_50 : decode cX5_copyHouse 50 = .ok (.iconst 4, 1) := by decide +kernel
theorem dX5_copyHouse_51 : decode cX5_copyHouse 51 = .ok (.invokestatic 55, 3) := by decide +kernel
theorem dX5_copyHouse_54 : decode cX5_copyHouse 54 = .ok (.return_, 1) := by decide +kernel
theorem dX5_give_0 : decode cX5_give 0 = .ok (.aload_n 0, 1) := by decide +kernel
theorem dX5_give_1 : decode cX5_give 1 = .ok (.getfield 18, 3) := by decide +kernel
theorem dX5_give_4 : decode cX5_give 4 = .ok (.iload_n 1, 1) := by decide +kernel
theorem dX5_give_5 : decode cX5_give 5 = .ok (.bipush 99, 2) := by decide +kernel
theorem dX5_give_7 : decode cX5_give 7 = .ok (.aload_n 0, 1) := by decide +kernel
theorem dX5_give_8 : decode cX5_give 8 = .ok (.getfield 18, 3) := by decide +kernel
theorem dX5_give_11 : decode cX5_give 11 = .ok (.iload_n 1, 1) := by decide +kernel
theorem dX5_give_12 : decode cX5_give 12 = .ok (.iaload, 1) := by decide +kernel
theorem dX5_give_13 : decode cX5_give 13 = .ok (.iload_n 2, 1) := by decide +kernel
theorem dX5_give_14 : decode cX5_give 14 = .ok (.iadd, 1) := by decide +kernel
theorem dX5_give_15 : decode cX5_give 15 = .ok (.invokestatic 65, 3) := by decide +kernel
theorem dX5_give_18 : decode cX5_give 18 = .ok (.iastore, 1) := by decide +kernel
theorem dX5_give_19 : decode cX5_give 19 = .ok (.return_, 1) := by decide +kernel
theorem dX5_isRing_0 : decode cX5_isRing 0 = .ok (.aload_n 0, 1) := by decide +kernel
theorem dX5_isRing_1 : decode cX5_isRing 1 = .ok (.getfield 51, 3) := by decide +kernel
theorem dX5_isRing_4 : decode cX5_isRing 4 = .ok (.ifnull 17, 3) := by decide +kernel
theorem dX5_isRing_7 : decode cX5_isRing 7 = .ok (.aload_n 0, 1) := by decide +kernel
theorem dX5_isRing_8 : decode cX5_isRing 8 = .ok (.getfield 51, 3) := by decide +kernel
theorem dX5_isRing_11 : decode cX5_isRing 11 = .ok (.getfield 71, 3) := by decide +kernel
theorem dX5_isRing_14 : decode cX5_isRing 14 = .ok (.ifCond .eq 7, 3) := by decide +kernel
theorem dX5_isRing_17 : decode cX5_isRing 17 = .ok (.iconst 1, 1) := by decide +kernel
theorem dX5_isRing_18 : decode cX5_isRing 18 = .ok (.goto 4, 3) := by decide +kernel
theorem dX5_isRing_21 : decode cX5_isRing 21 = .ok (.iconst 0, 1) := by decide +kernel
theorem dX5_isRing_22 : decode cX5_isRing 22 = .ok (.ireturn, 1) := by decide +kernel
theorem dX5_total_0 : decode cX5_total 0 = .ok (.iconst 0, 1) := by decide +kernel
theorem dX5_total_1 : decode cX5_total 1 = .ok (.istore_n 1, 1) := by decide +kernel
theorem dX5_total_2 : decode cX5_total 2 = .ok (.iconst 0, 1) := by decide +kernel
theorem dX5_total_3 : decode cX5_total 3 = .ok (.istore_n 2, 1) := by decide +kernel
theorem dX5_total_4 : decode cX5_total 4 = .ok (.iload_n 2, 1) := by decide +kernel
theorem dX5_total_5 : decode cX5_total 5 = .ok (.aload_n 0, 1) := by decide +kernel
theorem dX5_total_6 : decode cX5_total 6 = .ok (.getfield 44, 3) := by decide +kernel
theorem dX5_total_9 : decode cX5_total 9 = .ok (.if_icmp .ge 18, 3) := by decide +kernel
theorem dX5_total_12 : decode cX5_total 12 = .ok (.iload_n 1, 1) := by decide +kernel
theorem dX5_total_13 : decode cX5_total 13 = .ok (.aload_n 0, 1) := by decide +kernel
theorem dX5_total_14 : decode cX5_total 14 = .ok (.getfield 18, 3) := by decide +kernel
theorem dX5_total_17 : decode cX5_total 17 = .ok (.iload_n 2, 1) := by decide +kernel
theorem dX5_total_18 : decode cX5_total 18 = .ok (.iaload, 1) := by decide +kernel
theorem dX5_total_19 : decode cX5_total 19 = .ok (.iadd, 1) := by decide +kernel
theorem dX5_total_20 : decode cX5_total 20 = .ok (.istore_n 1, 1) := by decide +kernel
theorem dX5_total_21 : decode cX5_total 21 = .ok (.iinc 2 1, 3) := by decide +kernel
theorem dX5_total_24 : decode cX5_total 24 = .ok (.goto (-20), 3) := by decide +kernel
theorem dX5_total_27 : decode cX5_total 27 = .ok (.iload_n 1, 1) := by decide +kernel
theorem dX5_total_28 : decode cX5_total 28 = .ok (.ireturn, 1) := by decide +kernel
theorem dX5_someEarns_0 : decode cX5_someEarns 0 = .ok (.iconst 0, 1) := by decide +kernel
theorem dX5_someEarns_1 : decode cX5_someEarns 1 = .ok (.istore_n 2, 1) := by decide +kernel
theorem dX5_someEarns_2 : decode cX5_someEarns 2 = .ok (.iload_n 2, 1) := by decide +kernel
theorem dX5_someEarns_3 : decode cX5_someEarns 3 = .ok (.aload_n 0, 1) := by decide +kernel
theorem dX5_someEarns_4 : decode cX5_someEarns 4 = .ok (.getfield 44, 3) := by decide +kernel
theorem dX5_someEarns_7 : decode cX5_someEarns 7 = .ok (.if_icmp .ge 21, 3) := by decide +kernel
theorem dX5_someEarns_10 : decode cX5_someEarns 10 = .ok (.aload_n 0, 1) := by decide +kernel
theorem dX5_someEarns_11 : decode cX5_someEarns 11 = .ok (.getfield 18, 3) := by decide +kernel
theorem dX5_someEarns_14 : decode cX5_someEarns 14 = .ok (.iload_n 2, 1) := by decide +kernel
theorem dX5_someEarns_15 : decode cX5_someEarns 15 = .ok (.iaload, 1) := by decide +kernel
theorem dX5_someEarns_16 : decode cX5_someEarns 16 = .ok (.iload_n 1, 1) := by decide +kernel
theorem dX5_someEarns_17 : decode cX5_someEarns 17 = .ok (.if_icmp .ne 5, 3) := by decide +kernel
theorem dX5_someEarns_20 : decode cX5_someEarns 20 = .ok (.iconst 1, 1) := by decide +kernel
theorem dX5_someEarns_21 : decode cX5_someEarns 21 = .ok (.ireturn, 1) := by decide +kernel
theorem dX5_someEarns_22 : decode cX5_someEarns 22 = .ok (.iinc 2 1, 3) := by decide +kernel
theorem dX5_someEarns_25 : decode cX5_someEarns 25 = .ok (.goto (-23), 3) := by decide +kernel
theorem dX5_someEarns_28 : decode cX5_someEarns 28 = .ok (.iconst 0, 1) := by decide +kernel
theorem dX5_someEarns_29 : decode cX5_someEarns 29 = .ok (.ireturn, 1) := by decide +kernel
theorem dX5_go_0 : decode cX5_go 0 = .ok (.iconst 0, 1) := by decide +kernel
theorem dX5_go_1 : decode cX5_go 1 = .ok (.istore_n 2, 1) := by decide +kernel
theorem dX5_go_2 : decode cX5_go 2 = .ok (.iload_n 2, 1) := by decide +kernel
theorem dX5_go_3 : decode cX5_go 3 = .ok (.iload_n 1, 1) := by decide +kernel
theorem dX5_go_4 : decode cX5_go 4 = .ok (.if_icmp .ge 44, 3) := by decide +kernel
theorem dX5_go_7 : decode cX5_go 7 = .ok (.aload_n 0, 1) := by decide +kernel
theorem dX5_go_8 : decode cX5_go 8 = .ok (.invokevirtual 77, 3) := by decide +kernel
theorem dX5_go_11 : decode cX5_go 11 = .ok (.aload_n 0, 1) := by decide +kernel
theorem dX5_go_12 : decode cX5_go 12 = .ok (.invokevirtual 80, 3) := by decide +kernel
theorem dX5_go_15 : decode cX5_go 15 = .ok (.aload_n 0, 1) := by decide +kernel
theorem dX5_go_16 : decode cX5_go 16 = .ok (.getfield 27, 3) := by decide +kernel
theorem dX5_go_19 : decode cX5_go 19 = .ok (.iconst 0, 1) := by decide +kernel
theorem dX5_go_20 : decode cX5_go 20 = .ok (.aload_n 0, 1) := by decide +kernel
theorem dX5_go_21 : decode cX5_go 21 = .ok (.getfield 18, 3) := by decide +kernel
theorem dX5_go_24 : decode cX5_go 24 = .ok (.iconst 0, 1) := by decide +kernel
theorem dX5_go_25 : decode cX5_go 25 = .ok (.aload_n 0, 1) := by decide +kernel
theorem dX5_go_26 : decode cX5_go 26 = .ok (.getfield 44, 3) := by decide +kernel
theorem dX5_go_29 : decode cX5_go 29 = .ok (.invokestatic 55, 3) := by decide +kernel
theorem dX5_go_32 : decode cX5_go 32 = .ok (.aload_n 0, 1) := by decide +kernel
theorem dX5_go_33 : decode cX5_go 33 = .ok (.dup, 1) := by decide +kernel
theorem dX5_go_34 : decode cX5_go 34 = .ok (.getfield 48, 3) := by decide +kernel
theorem dX5_go_37 : decode cX5_go 37 = .ok (.iconst 1, 1) := by decide +kernel
theorem dX5_go_38 : decode cX5_go 38 = .ok (.iadd, 1) := by decide +kernel
theorem dX5_go_39 : decode cX5_go 39 = .ok (.putfield 48, 3) := by decide +kernel
theorem dX5_go_42 : decode cX5_go 42 = .ok (.iinc 2 1, 3) := by decide +kernel
theorem dX5_go_45 : decode cX5_go 45 = .ok (.goto (-43), 3) := by decide +kernel
theorem dX5_go_48 : decode cX5_go 48 = .ok (.return_, 1) := by decide +kernel
theorem dX5_sayByKind_0 : decode cX5_sayByKind 0 = .ok (.iconst 0, 1) := by decide +kernel
theorem dX5_sayByKind_1 : decode cX5_sayByKind 1 = .ok (.istore_n 1, 1) := by decide +kernel
theorem dX5_sayByKind_2 : decode cX5_sayByKind 2 = .ok (.iload_n 1, 1) := by decide +kernel
theorem dX5_sayByKind_3 : decode cX5_sayByKind 3 = .ok (.aload_n 0, 1) := by decide +kernel
theorem dX5_sayByKind_4 : decode cX5_sayByKind 4 = .ok (.getfield 44, 3) := by decide +kernel
theorem dX5_sayByKind_7 : decode cX5_sayByKind 7 = .ok (.if_icmp .ge 61, 3) := by decide +kernel
theorem dX5_sayByKind_10 : decode cX5_sayByKind 10 = .ok (.aload_n 0, 1) := by decide +kernel
theorem dX5_sayByKind_11 : decode cX5_sayByKind 11 = .ok (.getfield 9, 3) := by decide +kernel
theorem dX5_sayByKind_14 : decode cX5_sayByKind 14 = .ok (.iload_n 1, 1) := by decide +kernel
theorem dX5_sayByKind_15 : decode cX5_sayByKind 15 = .ok (.iaload, 1) := by decide +kernel
theorem dX5_sayByKind_16 : decode cX5_sayByKind 16 = .ok (.iconst 5, 1) := by decide +kernel
theorem dX5_sayByKind_17 : decode cX5_sayByKind 17 = .ok (.if_icmp .ne 23, 3) := by decide +kernel
theorem dX5_sayByKind_20 : decode cX5_sayByKind 20 = .ok (.aload_n 0, 1) := by decide +kernel
theorem dX5_sayByKind_21 : decode cX5_sayByKind 21 = .ok (.getfield 48, 3) := by decide +kernel
theorem dX5_sayByKind_24 : decode cX5_sayByKind 24 = .ok (.bipush 9, 2) := by decide +kernel
theorem dX5_sayByKind_26 : decode cX5_sayByKind 26 = .ok (.irem, 1) := by decide +kernel
theorem dX5_sayByKind_27 : decode cX5_sayByKind 27 = .ok (.aload_n 0, 1) := by decide +kernel
theorem dX5_sayByKind_28 : decode cX5_sayByKind 28 = .ok (.getfield 15, 3) := by decide +kernel
theorem dX5_sayByKind_31 : decode cX5_sayByKind 31 = .ok (.iload_n 1, 1) := by decide +kernel
theorem dX5_sayByKind_32 : decode cX5_sayByKind 32 = .ok (.iaload, 1) := by decide +kernel
theorem dX5_sayByKind_33 : decode cX5_sayByKind 33 = .ok (.if_icmp .ne 7, 3) := by decide +kernel
theorem dX5_sayByKind_36 : decode cX5_sayByKind 36 = .ok (.iconst 1, 1) := by decide +kernel
theorem dX5_sayByKind_37 : decode cX5_sayByKind 37 = .ok (.goto 4, 3) := by decide +kernel
theorem dX5_sayByKind_40 : decode cX5_sayByKind 40 = .ok (.iconst 0, 1) := by decide +kernel
theorem dX5_sayByKind_41 : decode cX5_sayByKind 41 = .ok (.istore_n 2, 1) := by decide +kernel
theorem dX5_sayByKind_42 : decode cX5_sayByKind 42 = .ok (.aload_n 0, 1) := by decide +kernel
theorem dX5_sayByKind_43 : decode cX5_sayByKind 43 = .ok (.getfield 24, 3) := by decide +kernel
theorem dX5_sayByKind_46 : decode cX5_sayByKind 46 = .ok (.iload_n 1, 1) := by decide +kernel
theorem dX5_sayByKind_47 : decode cX5_sayByKind 47 = .ok (.iload_n 2, 1) := by decide +kernel
theorem dX5_sayByKind_48 : decode cX5_sayByKind 48 = .ok (.ifCond .eq 7, 3) := by decide +kernel
theorem dX5_sayByKind_51 : decode cX5_sayByKind 51 = .ok (.iconst 0, 1) := by decide +kernel
theorem dX5_sayByKind_52 : decode cX5_sayByKind 52 = .ok (.goto 9, 3) := by decide +kernel
theorem dX5_sayByKind_55 : decode cX5_sayByKind 55 = .ok (.aload_n 0, 1) := by decide +kernel
theorem dX5_sayByKind_56 : decode cX5_sayByKind 56 = .ok (.getfield 18, 3) := by decide +kernel
theorem dX5_sayByKind_59 : decode cX5_sayByKind 59 = .ok (.iload_n 1, 1) := by decide +kernel
theorem dX5_sayByKind_60 : decode cX5_sayByKind 60 = .ok (.iaload, 1) := by decide +kernel
theorem dX5_sayByKind_61 : decode cX5_sayByKind 61 = .ok (.iastore, 1) := by decide +kernel
theorem dX5_sayByKind_62 : decode cX5_sayByKind 62 = .ok (.iinc 1 1, 3) := by decide +kernel
theorem dX5_sayByKind_65 : decode cX5_sayByKind 65 = .ok (.goto (-63), 3) := by decide +kernel
theorem dX5_sayByKind_68 : decode cX5_sayByKind 68 = .ok (.return_, 1) := by decide +kernel
theorem dX5_sayPlain_0 : decode cX5_sayPlain 0 = .ok (.iconst 0, 1) := by decide +kernel
theorem dX5_sayPlain_1 : decode cX5_sayPlain 1 = .ok (.istore_n 2, 1) := by decide +kernel
theorem dX5_sayPlain_2 : decode cX5_sayPlain 2 = .ok (.iload_n 2, 1) := by decide +kernel
theorem dX5_sayPlain_3 : decode cX5_sayPlain 3 = .ok (.aload_n 0, 1) := by decide +kernel
theorem dX5_sayPlain_4 : decode cX5_sayPlain 4 = .ok (.getfield 44, 3) := by decide +kernel
theorem dX5_sayPlain_7 : decode cX5_sayPlain 7 = .ok (.if_icmp .ge 30, 3) := by decide +kernel
theorem dX5_sayPlain_10 : decode cX5_sayPlain 10 = .ok (.aload_n 0, 1) := by decide +kernel
theorem dX5_sayPlain_11 : decode cX5_sayPlain 11 = .ok (.getfield 24, 3) := by decide +kernel
theorem dX5_sayPlain_14 : decode cX5_sayPlain 14 = .ok (.iload_n 2, 1) := by decide +kernel
theorem dX5_sayPlain_15 : decode cX5_sayPlain 15 = .ok (.iload_n 2, 1) := by decide +kernel
theorem dX5_sayPlain_16 : decode cX5_sayPlain 16 = .ok (.iload_n 1, 1) := by decide +kernel
theorem dX5_sayPlain_17 : decode cX5_sayPlain 17 = .ok (.if_icmp .ne 7, 3) := by decide +kernel
theorem dX5_sayPlain_20 : decode cX5_sayPlain 20 = .ok (.iconst 0, 1) := by decide +kernel
theorem dX5_sayPlain_21 : decode cX5_sayPlain 21 = .ok (.goto 9, 3) := by decide +kernel
theorem dX5_sayPlain_24 : decode cX5_sayPlain 24 = .ok (.aload_n 0, 1) := by decide +kernel
theorem dX5_sayPlain_25 : decode cX5_sayPlain 25 = .ok (.getfield 18, 3) := by decide +kernel
theorem dX5_sayPlain_28 : decode cX5_sayPlain 28 = .ok (.iload_n 2, 1) := by decide +kernel
theorem dX5_sayPlain_29 : decode cX5_sayPlain 29 = .ok (.iaload, 1) := by decide +kernel
theorem dX5_sayPlain_30 : decode cX5_sayPlain 30 = .ok (.iastore, 1) := by decide +kernel
theorem dX5_sayPlain_31 : decode cX5_sayPlain 31 = .ok (.iinc 2 1, 3) := by decide +kernel
theorem dX5_sayPlain_34 : decode cX5_sayPlain 34 = .ok (.goto (-32), 3) := by decide +kernel
theorem dX5_sayPlain_37 : decode cX5_sayPlain 37 = .ok (.return_, 1) := by decide +kernel
theorem dX5_reckon_0 : decode cX5_reckon 0 = .ok (.iconst 0, 1) := by decide +kernel
theorem dX5_reckon_1 : decode cX5_reckon 1 = .ok (.istore_n 1, 1) := by decide +kernel
theorem dX5_reckon_2 : decode cX5_reckon 2 = .ok (.iload_n 1, 1) := by decide +kernel
theorem dX5_reckon_3 : decode cX5_reckon 3 = .ok (.aload_n 0, 1) := by decide +kernel
theorem dX5_reckon_4 : decode cX5_reckon 4 = .ok (.getfield 44, 3) := by decide +kernel
theorem dX5_reckon_7 : decode cX5_reckon 7 = .ok (.if_icmp .ge 35, 3) := by decide +kernel
theorem dX5_reckon_10 : decode cX5_reckon 10 = .ok (.aload_n 0, 1) := by decide +kernel
theorem dX5_reckon_11 : decode cX5_reckon 11 = .ok (.getfield 27, 3) := by decide +kernel
theorem dX5_reckon_14 : decode cX5_reckon 14 = .ok (.iload_n 1, 1) := by decide +kernel
theorem dX5_reckon_15 : decode cX5_reckon 15 = .ok (.iconst 0, 1) := by decide +kernel
theorem dX5_reckon_16 : decode cX5_reckon 16 = .ok (.bipush 99, 2) := by decide +kernel
theorem dX5_reckon_18 : decode cX5_reckon 18 = .ok (.aload_n 0, 1) := by decide +kernel
theorem dX5_reckon_19 : decode cX5_reckon 19 = .ok (.iload_n 1, 1) := by decide +kernel
theorem dX5_reckon_20 : decode cX5_reckon 20 = .ok (.invokevirtual 83, 3) := by decide +kernel
theorem dX5_reckon_23 : decode cX5_reckon 23 = .ok (.aload_n 0, 1) := by decide +kernel
theorem dX5_reckon_24 : decode cX5_reckon 24 = .ok (.iload_n 1, 1) := by decide +kernel
theorem dX5_reckon_25 : decode cX5_reckon 25 = .ok (.invokevirtual 87, 3) := by decide +kernel
theorem dX5_reckon_28 : decode cX5_reckon 28 = .ok (.iadd, 1) := by decide +kernel
theorem dX5_reckon_29 : decode cX5_reckon 29 = .ok (.invokestatic 65, 3) := by decide +kernel
theorem dX5_reckon_32 : decode cX5_reckon 32 = .ok (.invokestatic 90, 3) := by decide +kernel
theorem dX5_reckon_35 : decode cX5_reckon 35 = .ok (.iastore, 1) := by decide +kernel
theorem dX5_reckon_36 : decode cX5_reckon 36 = .ok (.iinc 1 1, 3) := by decide +kernel
theorem dX5_reckon_39 : decode cX5_reckon 39 = .ok (.goto (-37), 3) := by decide +kernel
theorem dX5_reckon_42 : decode cX5_reckon 42 = .ok (.return_, 1) := by decide +kernel
theorem dX5_nextByKind_0 : decode cX5_nextByKind 0 = .ok (.aload_n 0, 1) := by decide +kernel
theorem dX5_nextByKind_1 : decode cX5_nextByKind 1 = .ok (.getfield 9, 3) := by decide +kernel
theorem dX5_nextByKind_4 : decode cX5_nextByKind 4 = .ok (.iload_n 1, 1) := by decide +kernel
theorem dX5_nextByKind_5 : decode cX5_nextByKind 5 = .ok (.iaload, 1) := by decide +kernel
theorem dX5_nextByKind_6 : decode cX5_nextByKind 6 = .ok (.tableswitch 137 1 6 #[38, 68, 83, 44, 68, 102], 38) := by decide +kernel
theorem dX5_nextByKind_44 : decode cX5_nextByKind 44 = .ok (.aload_n 0, 1) := by decide +kernel
theorem dX5_nextByKind_45 : decode cX5_nextByKind 45 = .ok (.iload_n 1, 1) := by decide +kernel
theorem dX5_nextByKind_46 : decode cX5_nextByKind 46 = .ok (.invokevirtual 93, 3) := by decide +kernel
theorem dX5_nextByKind_49 : decode cX5_nextByKind 49 = .ok (.ireturn, 1) := by decide +kernel
theorem dX5_nextByKind_50 : decode cX5_nextByKind 50 = .ok (.aload_n 0, 1) := by decide +kernel
theorem dX5_nextByKind_51 : decode cX5_nextByKind 51 = .ok (.iload_n 1, 1) := by decide +kernel
theorem dX5_nextByKind_52 : decode cX5_nextByKind 52 = .ok (.invokevirtual 96, 3) := by decide +kernel
theorem dX5_nextByKind_55 : decode cX5_nextByKind 55 = .ok (.ifCond .eq 13, 3) := by decide +kernel
theorem dX5_nextByKind_58 : decode cX5_nextByKind 58 = .ok (.aload_n 0, 1) := by decide +kernel
theorem dX5_nextByKind_59 : decode cX5_nextByKind 59 = .ok (.iload_n 1, 1) := by decide +kernel
theorem dX5_nextByKind_60 : decode cX5_nextByKind 60 = .ok (.invokevirtual 93, 3) := by decide +kernel
theorem dX5_nextByKind_63 : decode cX5_nextByKind 63 = .ok (.iconst 2, 1) := by decide +kernel
theorem dX5_nextByKind_64 : decode cX5_nextByKind 64 = .ok (.idiv, 1) := by decide +kernel
theorem dX5_nextByKind_65 : decode cX5_nextByKind 65 = .ok (.goto 8, 3) := by decide +kernel
theorem dX5_nextByKind_68 : decode cX5_nextByKind 68 = .ok (.aload_n 0, 1) := by decide +kernel
theorem dX5_nextByKind_69 : decode cX5_nextByKind 69 = .ok (.iload_n 1, 1) := by decide +kernel
theorem dX5_nextByKind_70 : decode cX5_nextByKind 70 = .ok (.invokevirtual 93, 3) := by decide +kernel
theorem dX5_nextByKind_73 : decode cX5_nextByKind 73 = .ok (.ireturn, 1) := by decide +kernel
theorem dX5_nextByKind_74 : decode cX5_nextByKind 74 = .ok (.aload_n 0, 1) := by decide +kernel
theorem dX5_nextByKind_75 : decode cX5_nextByKind 75 = .ok (.iload_n 1, 1) := by decide +kernel
theorem dX5_nextByKind_76 : decode cX5_nextByKind 76 = .ok (.invokevirtual 100, 3) := by decide +kernel
theorem dX5_nextByKind_79 : decode cX5_nextByKind 79 = .ok (.aload_n 0, 1) := by decide +kernel
theorem dX5_nextByKind_80 : decode cX5_nextByKind 80 = .ok (.getfield 18, 3) := by decide +kernel
theorem dX5_nextByKind_83 : decode cX5_nextByKind 83 = .ok (.iload_n 1, 1) := by decide +kernel
theorem dX5_nextByKind_84 : decode cX5_nextByKind 84 = .ok (.iaload, 1) := by decide +kernel
theorem dX5_nextByKind_85 : decode cX5_nextByKind 85 = .ok (.invokestatic 65, 3) := by decide +kernel
theorem dX5_nextByKind_88 : decode cX5_nextByKind 88 = .ok (.ireturn, 1) := by decide +kernel
theorem dX5_nextByKind_89 : decode cX5_nextByKind 89 = .ok (.aload_n 0, 1) := by decide +kernel
theorem dX5_nextByKind_90 : decode cX5_nextByKind 90 = .ok (.iload_n 1, 1) := by decide +kernel
theorem dX5_nextByKind_91 : decode cX5_nextByKind 91 = .ok (.invokevirtual 103, 3) := by decide +kernel
theorem dX5_nextByKind_94 : decode cX5_nextByKind 94 = .ok (.aload_n 0, 1) := by decide +kernel
theorem dX5_nextByKind_95 : decode cX5_nextByKind 95 = .ok (.getfield 30, 3) := by decide +kernel
theorem dX5_nextByKind_98 : decode cX5_nextByKind 98 = .ok (.aload_n 0, 1) := by decide +kernel
theorem dX5_nextByKind_99 : decode cX5_nextByKind 99 = .ok (.getfield 107, 3) := by decide +kernel
theorem dX5_nextByKind_102 : decode cX5_nextByKind 102 = .ok (.iconst 1, 1) := by decide +kernel
theorem dX5_nextByKind_103 : decode cX5_nextByKind 103 = .ok (.isub, 1) := by decide +kernel
theorem dX5_nextByKind_104 : decode cX5_nextByKind 104 = .ok (.iconst 2, 1) := by decide +kernel
theorem dX5_nextByKind_105 : decode cX5_nextByKind 105 = .ok (.idiv, 1) := by decide +kernel
theorem dX5_nextByKind_106 : decode cX5_nextByKind 106 = .ok (.iaload, 1) := by decide +kernel
theorem dX5_nextByKind_107 : decode cX5_nextByKind 107 = .ok (.ireturn, 1) := by decide +kernel
theorem dX5_nextByKind_108 : decode cX5_nextByKind 108 = .ok (.aload_n 0, 1) := by decide +kernel
theorem dX5_nextByKind_109 : decode cX5_nextByKind 109 = .ok (.iload_n 1, 1) := by decide +kernel
theorem dX5_nextByKind_110 : decode cX5_nextByKind 110 = .ok (.invokevirtual 103, 3) := by decide +kernel
theorem dX5_nextByKind_113 : decode cX5_nextByKind 113 = .ok (.aload_n 0, 1) := by decide +kernel
theorem dX5_nextByKind_114 : decode cX5_nextByKind 114 = .ok (.getfield 30, 3) := by decide +kernel
theorem dX5_nextByKind_117 : decode cX5_nextByKind 117 = .ok (.aload_n 0, 1) := by decide +kernel
theorem dX5_nextByKind_118 : decode cX5_nextByKind 118 = .ok (.getfield 21, 3) := by decide +kernel
theorem dX5_nextByKind_121 : decode cX5_nextByKind 121 = .ok (.iload_n 1, 1) := by decide +kernel
theorem dX5_nextByKind_122 : decode cX5_nextByKind 122 = .ok (.iconst 4, 1) := by decide +kernel
theorem dX5_nextByKind_123 : decode cX5_nextByKind 123 = .ok (.imul, 1) := by decide +kernel
theorem dX5_nextByKind_124 : decode cX5_nextByKind 124 = .ok (.aload_n 0, 1) := by decide +kernel
theorem dX5_nextByKind_125 : decode cX5_nextByKind 125 = .ok (.getfield 48, 3) := by decide +kernel
theorem dX5_nextByKind_128 : decode cX5_nextByKind 128 = .ok (.iconst 4, 1) := by decide +kernel
theorem dX5_nextByKind_129 : decode cX5_nextByKind 129 = .ok (.irem, 1) := by decide +kernel
theorem dX5_nextByKind_130 : decode cX5_nextByKind 130 = .ok (.iadd, 1) := by decide +kernel
theorem dX5_nextByKind_131 : decode cX5_nextByKind 131 = .ok (.iaload, 1) := by decide +kernel
theorem dX5_nextByKind_132 : decode cX5_nextByKind 132 = .ok (.aload_n 0, 1) := by decide +kernel
theorem dX5_nextByKind_133 : decode cX5_nextByKind 133 = .ok (.getfield 107, 3) := by decide +kernel
theorem dX5_nextByKind_136 : decode cX5_nextByKind 136 = .ok (.iconst 1, 1) := by decide +kernel
theorem dX5_nextByKind_137 : decode cX5_nextByKind 137 = .ok (.isub, 1) := by decide +kernel
theorem dX5_nextByKind_138 : decode cX5_nextByKind 138 = .ok (.invokestatic 65, 3) := by decide +kernel
theorem dX5_nextByKind_141 : decode cX5_nextByKind 141 = .ok (.iaload, 1) := by decide +kernel
theorem dX5_nextByKind_142 : decode cX5_nextByKind 142 = .ok (.ireturn, 1) := by decide +kernel
theorem dX5_nextByKind_143 : decode cX5_nextByKind 143 = .ok (.aload_n 0, 1) := by decide +kernel
theorem dX5_nextByKind_144 : decode cX5_nextByKind 144 = .ok (.iload_n 1, 1) := by decide +kernel
theorem dX5_nextByKind_145 : decode cX5_nextByKind 145 = .ok (.invokevirtual 100, 3) := by decide +kernel
theorem dX5_nextByKind_148 : decode cX5_nextByKind 148 = .ok (.ireturn, 1) := by decide +kernel
theorem dX5_proud_0 : decode cX5_proud 0 = .ok (.aload_n 0, 1) := by decide +kernel
theorem dX5_proud_1 : decode cX5_proud 1 = .ok (.iload_n 1, 1) := by decide +kernel
theorem dX5_proud_2 : decode cX5_proud 2 = .ok (.invokevirtual 100, 3) := by decide +kernel
theorem dX5_proud_5 : decode cX5_proud 5 = .ok (.iconst 5, 1) := by decide +kernel
theorem dX5_proud_6 : decode cX5_proud 6 = .ok (.aload_n 0, 1) := by decide +kernel
theorem dX5_proud_7 : decode cX5_proud 7 = .ok (.getfield 15, 3) := by decide +kernel
theorem dX5_proud_10 : decode cX5_proud 10 = .ok (.iload_n 1, 1) := by decide +kernel
theorem dX5_proud_11 : decode cX5_proud 11 = .ok (.iaload, 1) := by decide +kernel
theorem dX5_proud_12 : decode cX5_proud 12 = .ok (.imul, 1) := by decide +kernel
theorem dX5_proud_13 : decode cX5_proud 13 = .ok (.invokestatic 90, 3) := by decide +kernel
theorem dX5_proud_16 : decode cX5_proud 16 = .ok (.ireturn, 1) := by decide +kernel
theorem dX5_takesHalf_0 : decode cX5_takesHalf 0 = .ok (.aload_n 0, 1) := by decide +kernel
theorem dX5_takesHalf_1 : decode cX5_takesHalf 1 = .ok (.getfield 15, 3) := by decide +kernel
theorem dX5_takesHalf_4 : decode cX5_takesHalf 4 = .ok (.iload_n 1, 1) := by decide +kernel
theorem dX5_takesHalf_5 : decode cX5_takesHalf 5 = .ok (.iaload, 1) := by decide +kernel
theorem dX5_takesHalf_6 : decode cX5_takesHalf 6 = .ok (.iconst 2, 1) := by decide +kernel
theorem dX5_takesHalf_7 : decode cX5_takesHalf 7 = .ok (.iadd, 1) := by decide +kernel
theorem dX5_takesHalf_8 : decode cX5_takesHalf 8 = .ok (.istore_n 2, 1) := by decide +kernel
theorem dX5_takesHalf_9 : decode cX5_takesHalf 9 = .ok (.iload_n 2, 1) := by decide +kernel
theorem dX5_takesHalf_10 : decode cX5_takesHalf 10 = .ok (.ifCond .le 16, 3) := by decide +kernel
theorem dX5_takesHalf_13 : decode cX5_takesHalf 13 = .ok (.aload_n 0, 1) := by decide +kernel
theorem dX5_takesHalf_14 : decode cX5_takesHalf 14 = .ok (.getfield 48, 3) := by decide +kernel
theorem dX5_takesHalf_17 : decode cX5_takesHalf 17 = .ok (.iload_n 2, 1) := by decide +kernel
theorem dX5_takesHalf_18 : decode cX5_takesHalf 18 = .ok (.irem, 1) := by decide +kernel
theorem dX5_takesHalf_19 : decode cX5_takesHalf 19 = .ok (.ifCond .ne 7, 3) := by decide +kernel
theorem dX5_takesHalf_22 : decode cX5_takesHalf 22 = .ok (.iconst 1, 1) := by decide +kernel
theorem dX5_takesHalf_23 : decode cX5_takesHalf 23 = .ok (.goto 4, 3) := by decide +kernel
theorem dX5_takesHalf_26 : decode cX5_takesHalf 26 = .ok (.iconst 0, 1) := by decide +kernel
theorem dX5_takesHalf_27 : decode cX5_takesHalf 27 = .ok (.ireturn, 1) := by decide +kernel
theorem dX5_middle_0 : decode cX5_middle 0 = .ok (.iload_n 1, 1) := by decide +kernel
theorem dX5_middle_1 : decode cX5_middle 1 = .ok (.ifCond .eq 13, 3) := by decide +kernel
theorem dX5_middle_4 : decode cX5_middle 4 = .ok (.iload_n 1, 1) := by decide +kernel
theorem dX5_middle_5 : decode cX5_middle 5 = .ok (.aload_n 0, 1) := by decide +kernel
theorem dX5_middle_6 : decode cX5_middle 6 = .ok (.getfield 44, 3) := by decide +kernel
theorem dX5_middle_9 : decode cX5_middle 9 = .ok (.iconst 1, 1) := by decide +kernel
theorem dX5_middle_10 : decode cX5_middle 10 = .ok (.isub, 1) := by decide +kernel
theorem dX5_middle_11 : decode cX5_middle 11 = .ok (.if_icmp .ne 7, 3) := by decide +kernel
theorem dX5_middle_14 : decode cX5_middle 14 = .ok (.iconst 1, 1) := by decide +kernel
theorem dX5_middle_15 : decode cX5_middle 15 = .ok (.goto 4, 3) := by decide +kernel
theorem dX5_middle_18 : decode cX5_middle 18 = .ok (.iconst 0, 1) := by decide +kernel
theorem dX5_middle_19 : decode cX5_middle 19 = .ok (.istore_n 2, 1) := by decide +kernel
theorem dX5_middle_20 : decode cX5_middle 20 = .ok (.aload_n 0, 1) := by decide +kernel
theorem dX5_middle_21 : decode cX5_middle 21 = .ok (.getfield 44, 3) := by decide +kernel
theorem dX5_middle_24 : decode cX5_middle 24 = .ok (.iconst 3, 1) := by decide +kernel
theorem dX5_middle_25 : decode cX5_middle 25 = .ok (.if_icmp .lt 14, 3) := by decide +kernel
theorem dX5_middle_28 : decode cX5_middle 28 = .ok (.iload_n 2, 1) := by decide +kernel
theorem dX5_middle_29 : decode cX5_middle 29 = .ok (.ifCond .eq 17, 3) := by decide +kernel
theorem dX5_middle_32 : decode cX5_middle 32 = .ok (.aload_n 0, 1) := by decide +kernel
theorem dX5_middle_33 : decode cX5_middle 33 = .ok (.invokevirtual 110, 3) := by decide +kernel
theorem dX5_middle_36 : decode cX5_middle 36 = .ok (.ifCond .ne 10, 3) := by decide +kernel
theorem dX5_middle_39 : decode cX5_middle 39 = .ok (.aload_n 0, 1) := by decide +kernel
theorem dX5_middle_40 : decode cX5_middle 40 = .ok (.getfield 18, 3) := by decide +kernel
theorem dX5_middle_43 : decode cX5_middle 43 = .ok (.iload_n 1, 1) := by decide +kernel
theorem dX5_middle_44 : decode cX5_middle 44 = .ok (.iaload, 1) := by decide +kernel
theorem dX5_middle_45 : decode cX5_middle 45 = .ok (.ireturn, 1) := by decide +kernel
theorem dX5_middle_46 : decode cX5_middle 46 = .ok (.aload_n 0, 1) := by decide +kernel
theorem dX5_middle_47 : decode cX5_middle 47 = .ok (.getfield 24, 3) := by decide +kernel
theorem dX5_middle_50 : decode cX5_middle 50 = .ok (.iload_n 1, 1) := by decide +kernel
theorem dX5_middle_51 : decode cX5_middle 51 = .ok (.ifCond .ne 12, 3) := by decide +kernel
theorem dX5_middle_54 : decode cX5_middle 54 = .ok (.aload_n 0, 1) := by decide +kernel
theorem dX5_middle_55 : decode cX5_middle 55 = .ok (.getfield 44, 3) := by decide +kernel
theorem dX5_middle_58 : decode cX5_middle 58 = .ok (.iconst 1, 1) := by decide +kernel
theorem dX5_middle_59 : decode cX5_middle 59 = .ok (.isub, 1) := by decide +kernel
theorem dX5_middle_60 : decode cX5_middle 60 = .ok (.goto 6, 3) := by decide +kernel
theorem dX5_middle_63 : decode cX5_middle 63 = .ok (.iload_n 1, 1) := by decide +kernel
theorem dX5_middle_64 : decode cX5_middle 64 = .ok (.iconst 1, 1) := by decide +kernel
theorem dX5_middle_65 : decode cX5_middle 65 = .ok (.isub, 1) := by decide +kernel
theorem dX5_middle_66 : decode cX5_middle 66 = .ok (.iaload, 1) := by decide +kernel
theorem dX5_middle_67 : decode cX5_middle 67 = .ok (.istore_n 3, 1) := by decide +kernel
theorem dX5_middle_68 : decode cX5_middle 68 = .ok (.aload_n 0, 1) := by decide +kernel
theorem dX5_middle_69 : decode cX5_middle 69 = .ok (.getfield 24, 3) := by decide +kernel
theorem dX5_middle_72 : decode cX5_middle 72 = .ok (.iload_n 1, 1) := by decide +kernel
theorem dX5_middle_73 : decode cX5_middle 73 = .ok (.aload_n 0, 1) := by decide +kernel
theorem dX5_middle_74 : decode cX5_middle 74 = .ok (.getfield 44, 3) := by decide +kernel
theorem dX5_middle_77 : decode cX5_middle 77 = .ok (.iconst 1, 1) := by decide +kernel
theorem dX5_middle_78 : decode cX5_middle 78 = .ok (.isub, 1) := by decide +kernel
theorem dX5_middle_79 : decode cX5_middle 79 = .ok (.if_icmp .ne 7, 3) := by decide +kernel
theorem dX5_middle_82 : decode cX5_middle 82 = .ok (.iconst 0, 1) := by decide +kernel
theorem dX5_middle_83 : decode cX5_middle 83 = .ok (.goto 6, 3) := by decide +kernel
theorem dX5_middle_86 : decode cX5_middle 86 = .ok (.iload_n 1, 1) := by decide +kernel
theorem dX5_middle_87 : decode cX5_middle 87 = .ok (.iconst 1, 1) := by decide +kernel
theorem dX5_middle_88 : decode cX5_middle 88 = .ok (.iadd, 1) := by decide +kernel
theorem dX5_middle_89 : decode cX5_middle 89 = .ok (.iaload, 1) := by decide +kernel
theorem dX5_middle_90 : decode cX5_middle 90 = .ok (.istore 4, 2) := by decide +kernel
theorem dX5_middle_92 : decode cX5_middle 92 = .ok (.iload_n 3, 1) := by decide +kernel
theorem dX5_middle_93 : decode cX5_middle 93 = .ok (.iload 4, 2) := by decide +kernel
theorem dX5_middle_95 : decode cX5_middle 95 = .ok (.invokestatic 65, 3) := by decide +kernel
theorem dX5_middle_98 : decode cX5_middle 98 = .ok (.istore 5, 2) := by decide +kernel
theorem dX5_middle_100 : decode cX5_middle 100 = .ok (.iload_n 3, 1) := by decide +kernel
theorem dX5_middle_101 : decode cX5_middle 101 = .ok (.iload 4, 2) := by decide +kernel
theorem dX5_middle_103 : decode cX5_middle 103 = .ok (.invokestatic 90, 3) := by decide +kernel
theorem dX5_middle_106 : decode cX5_middle 106 = .ok (.istore 6, 2) := by decide +kernel
theorem dX5_middle_108 : decode cX5_middle 108 = .ok (.iload 5, 2) := by decide +kernel
theorem dX5_middle_110 : decode cX5_middle 110 = .ok (.iload 6, 2) := by decide +kernel
theorem dX5_middle_112 : decode cX5_middle 112 = .ok (.aload_n 0, 1) := by decide +kernel
theorem dX5_middle_113 : decode cX5_middle 113 = .ok (.getfield 18, 3) := by decide +kernel
theorem dX5_middle_116 : decode cX5_middle 116 = .ok (.iload_n 1, 1) := by decide +kernel
theorem dX5_middle_117 : decode cX5_middle 117 = .ok (.iaload, 1) := by decide +kernel
theorem dX5_middle_118 : decode cX5_middle 118 = .ok (.invokestatic 65, 3) := by decide +kernel
theorem dX5_middle_121 : decode cX5_middle 121 = .ok (.invokestatic 90, 3) := by decide +kernel
theorem dX5_middle_124 : decode cX5_middle 124 = .ok (.ireturn, 1) := by decide +kernel
theorem dX5_fillWide_0 : decode cX5_fillWide 0 = .ok (.aload_n 0, 1) := by decide +kernel
theorem dX5_fillWide_1 : decode cX5_fillWide 1 = .ok (.invokevirtual 110, 3) := by decide +kernel
theorem dX5_fillWide_4 : decode cX5_fillWide 4 = .ok (.istore_n 2, 1) := by decide +kernel
theorem dX5_fillWide_5 : decode cX5_fillWide 5 = .ok (.aload_n 0, 1) := by decide +kernel
theorem dX5_fillWide_6 : decode cX5_fillWide 6 = .ok (.iconst 0, 1) := by decide +kernel
theorem dX5_fillWide_7 : decode cX5_fillWide 7 = .ok (.putfield 107, 3) := by decide +kernel
theorem dX5_fillWide_10 : decode cX5_fillWide 10 = .ok (.aload_n 0, 1) := by decide +kernel
theorem dX5_fillWide_11 : decode cX5_fillWide 11 = .ok (.aload_n 0, 1) := by decide +kernel
theorem dX5_fillWide_12 : decode cX5_fillWide 12 = .ok (.getfield 18, 3) := by decide +kernel
theorem dX5_fillWide_15 : decode cX5_fillWide 15 = .ok (.iload_n 1, 1) := by decide +kernel
theorem dX5_fillWide_16 : decode cX5_fillWide 16 = .ok (.iaload, 1) := by decide +kernel
theorem dX5_fillWide_17 : decode cX5_fillWide 17 = .ok (.invokevirtual 114, 3) := by decide +kernel
theorem dX5_fillWide_20 : decode cX5_fillWide 20 = .ok (.iconst 0, 1) := by decide +kernel
theorem dX5_fillWide_21 : decode cX5_fillWide 21 = .ok (.istore_n 3, 1) := by decide +kernel
theorem dX5_fillWide_22 : decode cX5_fillWide 22 = .ok (.iload_n 3, 1) := by decide +kernel
theorem dX5_fillWide_23 : decode cX5_fillWide 23 = .ok (.aload_n 0, 1) := by decide +kernel
theorem dX5_fillWide_24 : decode cX5_fillWide 24 = .ok (.getfield 44, 3) := by decide +kernel
theorem dX5_fillWide_27 : decode cX5_fillWide 27 = .ok (.if_icmp .ge 57, 3) := by decide +kernel
theorem dX5_fillWide_30 : decode cX5_fillWide 30 = .ok (.iload_n 3, 1) := by decide +kernel
theorem dX5_fillWide_31 : decode cX5_fillWide 31 = .ok (.iload_n 1, 1) := by decide +kernel
theorem dX5_fillWide_32 : decode cX5_fillWide 32 = .ok (.isub, 1) := by decide +kernel
theorem dX5_fillWide_33 : decode cX5_fillWide 33 = .ok (.invokestatic 117, 3) := by decide +kernel
theorem dX5_fillWide_36 : decode cX5_fillWide 36 = .ok (.istore 4, 2) := by decide +kernel
theorem dX5_fillWide_38 : decode cX5_fillWide 38 = .ok (.iload_n 2, 1) := by decide +kernel
theorem dX5_fillWide_39 : decode cX5_fillWide 39 = .ok (.ifCond .eq 17, 3) := by decide +kernel
theorem dX5_fillWide_42 : decode cX5_fillWide 42 = .ok (.iload 4, 2) := by decide +kernel
theorem dX5_fillWide_44 : decode cX5_fillWide 44 = .ok (.aload_n 0, 1) := by decide +kernel
theorem dX5_fillWide_45 : decode cX5_fillWide 45 = .ok (.getfield 44, 3) := by decide +kernel
theorem dX5_fillWide_48 : decode cX5_fillWide 48 = .ok (.iload 4, 2) := by decide +kernel
theorem dX5_fillWide_50 : decode cX5_fillWide 50 = .ok (.isub, 1) := by decide +kernel
theorem dX5_fillWide_51 : decode cX5_fillWide 51 = .ok (.invokestatic 65, 3) := by decide +kernel
theorem dX5_fillWide_54 : decode cX5_fillWide 54 = .ok (.istore 4, 2) := by decide +kernel
theorem dX5_fillWide_56 : decode cX5_fillWide 56 = .ok (.iload 4, 2) := by decide +kernel
theorem dX5_fillWide_58 : decode cX5_fillWide 58 = .ok (.iconst 1, 1) := by decide +kernel
theorem dX5_fillWide_59 : decode cX5_fillWide 59 = .ok (.if_icmp .eq 9, 3) := by decide +kernel
theorem dX5_fillWide_62 : decode cX5_fillWide 62 = .ok (.iload 4, 2) := by decide +kernel
theorem dX5_fillWide_64 : decode cX5_fillWide 64 = .ok (.iconst 2, 1) := by decide +kernel
theorem dX5_fillWide_65 : decode cX5_fillWide 65 = .ok (.if_icmp .ne 13, 3) := by decide +kernel
theorem dX5_fillWide_68 : decode cX5_fillWide 68 = .ok (.aload_n 0, 1) := by decide +kernel
theorem dX5_fillWide_69 : decode cX5_fillWide 69 = .ok (.aload_n 0, 1) := by decide +kernel
theorem dX5_fillWide_70 : decode cX5_fillWide 70 = .ok (.getfield 24, 3) := by decide +kernel
theorem dX5_fillWide_73 : decode cX5_fillWide 73 = .ok (.iload_n 3, 1) := by decide +kernel
theorem dX5_fillWide_74 : decode cX5_fillWide 74 = .ok (.iaload, 1) := by decide +kernel
theorem dX5_fillWide_75 : decode cX5_fillWide 75 = .ok (.invokevirtual 114, 3) := by decide +kernel
theorem dX5_fillWide_78 : decode cX5_fillWide 78 = .ok (.iinc 3 1, 3) := by decide +kernel
theorem dX5_fillWide_81 : decode cX5_fillWide 81 = .ok (.goto (-59), 3) := by decide +kernel
theorem dX5_fillWide_84 : decode cX5_fillWide 84 = .ok (.return_, 1) := by decide +kernel
theorem dX5_addWide_0 : decode cX5_addWide 0 = .ok (.aload_n 0, 1) := by decide +kernel
theorem dX5_addWide_1 : decode cX5_addWide 1 = .ok (.getfield 107, 3) := by decide +kernel
theorem dX5_addWide_4 : decode cX5_addWide 4 = .ok (.iconst 5, 1) := by decide +kernel
theorem dX5_addWide_5 : decode cX5_addWide 5 = .ok (.if_icmp .lt 4, 3) := by decide +kernel
theorem dX5_addWide_8 : decode cX5_addWide 8 = .ok (.return_, 1) := by decide +kernel
theorem dX5_addWide_9 : decode cX5_addWide 9 = .ok (.aload_n 0, 1) := by decide +kernel
theorem dX5_addWide_10 : decode cX5_addWide 10 = .ok (.getfield 107, 3) := by decide +kernel
theorem dX5_addWide_13 : decode cX5_addWide 13 = .ok (.istore_n 2, 1) := by decide +kernel
theorem dX5_addWide_14 : decode cX5_addWide 14 = .ok (.iload_n 2, 1) := by decide +kernel
theorem dX5_addWide_15 : decode cX5_addWide 15 = .ok (.ifCond .le 35, 3) := by decide +kernel
theorem dX5_addWide_18 : decode cX5_addWide 18 = .ok (.aload_n 0, 1) := by decide +kernel
theorem dX5_addWide_19 : decode cX5_addWide 19 = .ok (.getfield 30, 3) := by decide +kernel
theorem dX5_addWide_22 : decode cX5_addWide 22 = .ok (.iload_n 2, 1) := by decide +kernel
theorem dX5_addWide_23 : decode cX5_addWide 23 = .ok (.iconst 1, 1) := by decide +kernel
theorem dX5_addWide_24 : decode cX5_addWide 24 = .ok (.isub, 1) := by decide +kernel
theorem dX5_addWide_25 : decode cX5_addWide 25 = .ok (.iaload, 1) := by decide +kernel
theorem dX5_addWide_26 : decode cX5_addWide 26 = .ok (.iload_n 1, 1) := by decide +kernel
theorem dX5_addWide_27 : decode cX5_addWide 27 = .ok (.if_icmp .le 23, 3) := by decide +kernel
theorem dX5_addWide_30 : decode cX5_addWide 30 = .ok (.aload_n 0, 1) := by decide +kernel
theorem dX5_addWide_31 : decode cX5_addWide 31 = .ok (.getfield 30, 3) := by decide +kernel
theorem dX5_addWide_34 : decode cX5_addWide 34 = .ok (.iload_n 2, 1) := by decide +kernel
theorem dX5_addWide_35 : decode cX5_addWide 35 = .ok (.aload_n 0, 1) := by decide +kernel
theorem dX5_addWide_36 : decode cX5_addWide 36 = .ok (.getfield 30, 3) := by decide +kernel
theorem dX5_addWide_39 : decode cX5_addWide 39 = .ok (.iload_n 2, 1) := by decide +kernel
theorem dX5_addWide_40 : decode cX5_addWide 40 = .ok (.iconst 1, 1) := by decide +kernel
theorem dX5_addWide_41 : decode cX5_addWide 41 = .ok (.isub, 1) := by decide +kernel
theorem dX5_addWide_42 : decode cX5_addWide 42 = .ok (.iaload, 1) := by decide +kernel
theorem dX5_addWide_43 : decode cX5_addWide 43 = .ok (.iastore, 1) := by decide +kernel
theorem dX5_addWide_44 : decode cX5_addWide 44 = .ok (.iinc 2 (-1), 3) := by decide +kernel
theorem dX5_addWide_47 : decode cX5_addWide 47 = .ok (.goto (-33), 3) := by decide +kernel
theorem dX5_addWide_50 : decode cX5_addWide 50 = .ok (.aload_n 0, 1) := by decide +kernel
theorem dX5_addWide_51 : decode cX5_addWide 51 = .ok (.getfield 30, 3) := by decide +kernel
theorem dX5_addWide_54 : decode cX5_addWide 54 = .ok (.iload_n 2, 1) := by decide +kernel
theorem dX5_addWide_55 : decode cX5_addWide 55 = .ok (.iload_n 1, 1) := by decide +kernel
theorem dX5_addWide_56 : decode cX5_addWide 56 = .ok (.iastore, 1) := by decide +kernel
theorem dX5_addWide_57 : decode cX5_addWide 57 = .ok (.aload_n 0, 1) := by decide +kernel
theorem dX5_addWide_58 : decode cX5_addWide 58 = .ok (.dup, 1) := by decide +kernel
theorem dX5_addWide_59 : decode cX5_addWide 59 = .ok (.getfield 107, 3) := by decide +kernel
theorem dX5_addWide_62 : decode cX5_addWide 62 = .ok (.iconst 1, 1) := by decide +kernel
theorem dX5_addWide_63 : decode cX5_addWide 63 = .ok (.iadd, 1) := by decide +kernel
theorem dX5_addWide_64 : decode cX5_addWide 64 = .ok (.putfield 107, 3) := by decide +kernel
theorem dX5_addWide_67 : decode cX5_addWide 67 = .ok (.return_, 1) := by decide +kernel
theorem dX5_adds_0 : decode cX5_adds 0 = .ok (.aload_n 0, 1) := by decide +kernel
theorem dX5_adds_1 : decode cX5_adds 1 = .ok (.getfield 51, 3) := by decide +kernel
theorem dX5_adds_4 : decode cX5_adds 4 = .ok (.ifnonnull 5, 3) := by decide +kernel
theorem dX5_adds_7 : decode cX5_adds 7 = .ok (.iconst 0, 1) := by decide +kernel
theorem dX5_adds_8 : decode cX5_adds 8 = .ok (.ireturn, 1) := by decide +kernel
theorem dX5_adds_9 : decode cX5_adds 9 = .ok (.iconst 0, 1) := by decide +kernel
theorem dX5_adds_10 : decode cX5_adds 10 = .ok (.istore_n 2, 1) := by decide +kernel
theorem dX5_adds_11 : decode cX5_adds 11 = .ok (.iconst 0, 1) := by decide +kernel
theorem dX5_adds_12 : decode cX5_adds 12 = .ok (.istore_n 3, 1) := by decide +kernel
theorem dX5_adds_13 : decode cX5_adds 13 = .ok (.iload_n 3, 1) := by decide +kernel
theorem dX5_adds_14 : decode cX5_adds 14 = .ok (.aload_n 0, 1) := by decide +kernel
theorem dX5_adds_15 : decode cX5_adds 15 = .ok (.getfield 44, 3) := by decide +kernel
theorem dX5_adds_18 : decode cX5_adds 18 = .ok (.if_icmp .ge 27, 3) := by decide +kernel
theorem dX5_adds_21 : decode cX5_adds 21 = .ok (.aload_n 0, 1) := by decide +kernel
theorem dX5_adds_22 : decode cX5_adds 22 = .ok (.getfield 18, 3) := by decide +kernel
theorem dX5_adds_25 : decode cX5_adds 25 = .ok (.iload_n 3, 1) := by decide +kernel
theorem dX5_adds_26 : decode cX5_adds 26 = .ok (.iaload, 1) := by decide +kernel
theorem dX5_adds_27 : decode cX5_adds 27 = .ok (.aload_n 0, 1) := by decide +kernel
theorem dX5_adds_28 : decode cX5_adds 28 = .ok (.getfield 18, 3) := by decide +kernel
theorem dX5_adds_31 : decode cX5_adds 31 = .ok (.iload_n 1, 1) := by decide +kernel
theorem dX5_adds_32 : decode cX5_adds 32 = .ok (.iaload, 1) := by decide +kernel
theorem dX5_adds_33 : decode cX5_adds 33 = .ok (.if_icmp .le 6, 3) := by decide +kernel
theorem dX5_adds_36 : decode cX5_adds 36 = .ok (.iinc 2 1, 3) := by decide +kernel
theorem dX5_adds_39 : decode cX5_adds 39 = .ok (.iinc 3 1, 3) := by decide +kernel
theorem dX5_adds_42 : decode cX5_adds 42 = .ok (.goto (-29), 3) := by decide +kernel
theorem dX5_adds_45 : decode cX5_adds 45 = .ok (.aload_n 0, 1) := by decide +kernel
theorem dX5_adds_46 : decode cX5_adds 46 = .ok (.getfield 41, 3) := by decide +kernel
theorem dX5_adds_49 : decode cX5_adds 49 = .ok (.iconst 0, 1) := by decide +kernel
theorem dX5_adds_50 : decode cX5_adds 50 = .ok (.iload_n 1, 1) := by decide +kernel
theorem dX5_adds_51 : decode cX5_adds 51 = .ok (.iastore, 1) := by decide +kernel
theorem dX5_adds_52 : decode cX5_adds 52 = .ok (.aload_n 0, 1) := by decide +kernel
theorem dX5_adds_53 : decode cX5_adds 53 = .ok (.getfield 41, 3) := by decide +kernel
theorem dX5_adds_56 : decode cX5_adds 56 = .ok (.iconst 1, 1) := by decide +kernel
theorem dX5_adds_57 : decode cX5_adds 57 = .ok (.aload_n 0, 1) := by decide +kernel
theorem dX5_adds_58 : decode cX5_adds 58 = .ok (.getfield 9, 3) := by decide +kernel
theorem dX5_adds_61 : decode cX5_adds 61 = .ok (.iload_n 1, 1) := by decide +kernel
theorem dX5_adds_62 : decode cX5_adds 62 = .ok (.iaload, 1) := by decide +kernel
theorem dX5_adds_63 : decode cX5_adds 63 = .ok (.iastore, 1) := by decide +kernel
theorem dX5_adds_64 : decode cX5_adds 64 = .ok (.aload_n 0, 1) := by decide +kernel
theorem dX5_adds_65 : decode cX5_adds 65 = .ok (.getfield 41, 3) := by decide +kernel
theorem dX5_adds_68 : decode cX5_adds 68 = .ok (.iconst 2, 1) := by decide +kernel
theorem dX5_adds_69 : decode cX5_adds 69 = .ok (.aload_n 0, 1) := by decide +kernel
theorem dX5_adds_70 : decode cX5_adds 70 = .ok (.getfield 15, 3) := by decide +kernel
theorem dX5_adds_73 : decode cX5_adds 73 = .ok (.iload_n 1, 1) := by decide +kernel
theorem dX5_adds_74 : decode cX5_adds 74 = .ok (.iaload, 1) := by decide +kernel
theorem dX5_adds_75 : decode cX5_adds 75 = .ok (.iastore, 1) := by decide +kernel
theorem dX5_adds_76 : decode cX5_adds 76 = .ok (.aload_n 0, 1) := by decide +kernel
theorem dX5_adds_77 : decode cX5_adds 77 = .ok (.getfield 41, 3) := by decide +kernel
theorem dX5_adds_80 : decode cX5_adds 80 = .ok (.iconst 3, 1) := by decide +kernel
theorem dX5_adds_81 : decode cX5_adds 81 = .ok (.aload_n 0, 1) := by decide +kernel
theorem dX5_adds_82 : decode cX5_adds 82 = .ok (.getfield 18, 3) := by decide +kernel
theorem dX5_adds_85 : decode cX5_adds 85 = .ok (.iload_n 1, 1) := by decide +kernel
theorem dX5_adds_86 : decode cX5_adds 86 = .ok (.iaload, 1) := by decide +kernel
theorem dX5_adds_87 : decode cX5_adds 87 = .ok (.bipush 10, 2) := by decide +kernel
theorem dX5_adds_89 : decode cX5_adds 89 = .ok (.idiv, 1) := by decide +kernel
theorem dX5_adds_90 : decode cX5_adds 90 = .ok (.iastore, 1) := by decide +kernel
theorem dX5_adds_91 : decode cX5_adds 91 = .ok (.aload_n 0, 1) := by decide +kernel
theorem dX5_adds_92 : decode cX5_adds 92 = .ok (.getfield 41, 3) := by decide +kernel
theorem dX5_adds_95 : decode cX5_adds 95 = .ok (.iconst 4, 1) := by decide +kernel
theorem dX5_adds_96 : decode cX5_adds 96 = .ok (.iload_n 2, 1) := by decide +kernel
theorem dX5_adds_97 : decode cX5_adds 97 = .ok (.iastore, 1) := by decide +kernel
theorem dX5_adds_98 : decode cX5_adds 98 = .ok (.aload_n 0, 1) := by decide +kernel
theorem dX5_adds_99 : decode cX5_adds 99 = .ok (.getfield 41, 3) := by decide +kernel
theorem dX5_adds_102 : decode cX5_adds 102 = .ok (.iconst 5, 1) := by decide +kernel
theorem dX5_adds_103 : decode cX5_adds 103 = .ok (.aload_n 0, 1) := by decide +kernel
theorem dX5_adds_104 : decode cX5_adds 104 = .ok (.getfield 48, 3) := by decide +kernel
theorem dX5_adds_107 : decode cX5_adds 107 = .ok (.bipush 10, 2) := by decide +kernel
theorem dX5_adds_109 : decode cX5_adds 109 = .ok (.irem, 1) := by decide +kernel
theorem dX5_adds_110 : decode cX5_adds 110 = .ok (.iastore, 1) := by decide +kernel
theorem dX5_adds_111 : decode cX5_adds 111 = .ok (.aload_n 0, 1) := by decide +kernel
theorem dX5_adds_112 : decode cX5_adds 112 = .ok (.getfield 51, 3) := by decide +kernel
theorem dX5_adds_115 : decode cX5_adds 115 = .ok (.aload_n 0, 1) := by decide +kernel
theorem dX5_adds_116 : decode cX5_adds 116 = .ok (.getfield 41, 3) := by decide +kernel
theorem dX5_adds_119 : decode cX5_adds 119 = .ok (.invokevirtual 120, 3) := by decide +kernel
theorem dX5_adds_122 : decode cX5_adds 122 = .ok (.ireturn, 1) := by decide +kernel
theorem dX6_init_0 : decode cX6_init 0 = .ok (.aload_n 0, 1) := by decide +kernel
theorem dX6_init_1 : decode cX6_init 1 = .ok (.invokespecial 3, 3) := by decide +kernel
theorem dX6_init_4 : decode cX6_init 4 = .ok (.aload_n 0, 1) := by decide +kernel
theorem dX6_init_5 : decode cX6_init 5 = .ok (.new 9, 3) := by decide +kernel
theorem dX6_init_8 : decode cX6_init 8 = .ok (.dup, 1) := by decide +kernel
theorem dX6_init_9 : decode cX6_init 9 = .ok (.invokespecial 11, 3) := by decide +kernel
theorem dX6_init_12 : decode cX6_init 12 = .ok (.putfield 12, 3) := by decide +kernel
theorem dX6_init_15 : decode cX6_init 15 = .ok (.aload_n 0, 1) := by decide +kernel
theorem dX6_init_16 : decode cX6_init 16 = .ok (.new 9, 3) := by decide +kernel
theorem dX6_init_19 : decode cX6_init 19 = .ok (.dup, 1) := by decide +kernel
theorem dX6_init_20 : decode cX6_init 20 = .ok (.invokespecial 11, 3) := by decide +kernel
theorem dX6_init_23 : decode cX6_init 23 = .ok (.putfield 18, 3) := by decide +kernel
theorem dX6_init_26 : decode cX6_init 26 = .ok (.aload_n 0, 1) := by decide +kernel
theorem dX6_init_27 : decode cX6_init 27 = .ok (.new 9, 3) := by decide +kernel
theorem dX6_init_30 : decode cX6_init 30 = .ok (.dup, 1) := by decide +kernel
theorem dX6_init_31 : decode cX6_init 31 = .ok (.invokespecial 11, 3) := by decide +kernel
theorem dX6_init_34 : decode cX6_init 34 = .ok (.putfield 21, 3) := by decide +kernel
theorem dX6_init_37 : decode cX6_init 37 = .ok (.aload_n 0, 1) := by decide +kernel
theorem dX6_init_38 : decode cX6_init 38 = .ok (.new 24, 3) := by decide +kernel
theorem dX6_init_41 : decode cX6_init 41 = .ok (.dup, 1) := by decide +kernel
theorem dX6_init_42 : decode cX6_init 42 = .ok (.invokespecial 26, 3) := by decide +kernel
theorem dX6_init_45 : decode cX6_init 45 = .ok (.putfield 27, 3) := by decide +kernel
theorem dX6_init_48 : decode cX6_init 48 = .ok (.aload_n 0, 1) := by decide +kernel
theorem dX6_init_49 : decode cX6_init 49 = .ok (.new 24, 3) := by decide +kernel
theorem dX6_init_52 : decode cX6_init 52 = .ok (.dup, 1) := by decide +kernel
theorem dX6_init_53 : decode cX6_init 53 = .ok (.invokespecial 26, 3) := by decide +kernel
theorem dX6_init_56 : decode cX6_init 56 = .ok (.putfield 31, 3) := by decide +kernel
theorem dX6_init_59 : decode cX6_init 59 = .ok (.aload_n 0, 1) := by decide +kernel
theorem dX6_init_60 : decode cX6_init 60 = .ok (.new 34, 3) := by decide +kernel
theorem dX6_init_63 : decode cX6_init 63 = .ok (.dup, 1) := by decide +kernel
theorem dX6_init_64 : decode cX6_init 64 = .ok (.invokespecial 36, 3) := by decide +kernel
theorem dX6_init_67 : decode cX6_init 67 = .ok (.putfield 37, 3) := by decide +kernel
theorem dX6_init_70 : decode cX6_init 70 = .ok (.aload_n 0, 1) := by decide +kernel
theorem dX6_init_71 : decode cX6_init 71 = .ok (.bipush 6, 2) := by decide +kernel
theorem dX6_init_73 : decode cX6_init 73 = .ok (.anewarray 41, 3) := by decide +kernel
theorem dX6_init_76 : decode cX6_init 76 = .ok (.putfield 43, 3) := by decide +kernel
theorem dX6_init_79 : decode cX6_init 79 = .ok (.aload_n 0, 1) := by decide +kernel
theorem dX6_init_80 : decode cX6_init 80 = .ok (.new 47, 3) := by decide +kernel
theorem dX6_init_83 : decode cX6_init 83 = .ok (.dup, 1) := by decide +kernel
theorem dX6_init_84 : decode cX6_init 84 = .ok (.invokespecial 49, 3) := by decide +kernel
theorem dX6_init_87 : decode cX6_init 87 = .ok (.putfield 50, 3) := by decide +kernel
theorem dX6_init_90 : decode cX6_init 90 = .ok (.aload_n 0, 1) := by decide +kernel
theorem dX6_init_91 : decode cX6_init 91 = .ok (.bipush 6, 2) := by decide +kernel
theorem dX6_init_93 : decode cX6_init 93 = .ok (.anewarray 54, 3) := by decide +kernel
theorem dX6_init_96 : decode cX6_init 96 = .ok (.putfield 56, 3) := by decide +kernel
theorem dX6_init_99 : decode cX6_init 99 = .ok (.aload_n 0, 1) := by decide +kernel
theorem dX6_init_100 : decode cX6_init 100 = .ok (.bipush 7, 2) := by decide +kernel
theorem dX6_init_102 : decode cX6_init 102 = .ok (.newarray .int, 2) := by decide +kernel
theorem dX6_init_104 : decode cX6_init 104 = .ok (.putfield 60, 3) := by decide +kernel
theorem dX6_init_107 : decode cX6_init 107 = .ok (.aload_n 0, 1) := by decide +kernel
theorem dX6_init_108 : decode cX6_init 108 = .ok (.bipush 7, 2) := by decide +kernel
theorem dX6_init_110 : decode cX6_init 110 = .ok (.newarray .int, 2) := by decide +kernel
theorem dX6_init_112 : decode cX6_init 112 = .ok (.putfield 64, 3) := by decide +kernel
theorem dX6_init_115 : decode cX6_init 115 = .ok (.iconst 0, 1) := by decide +kernel
theorem dX6_init_116 : decode cX6_init 116 = .ok (.istore_n 1, 1) := by decide +kernel
theorem dX6_init_117 : decode cX6_init 117 = .ok (.iload_n 1, 1) := by decide +kernel
theorem dX6_init_118 : decode cX6_init 118 = .ok (.bipush 6, 2) := by decide +kernel
theorem dX6_init_120 : decode cX6_init 120 = .ok (.if_icmp .ge 22, 3) := by decide +kernel
theorem dX6_init_123 : decode cX6_init 123 = .ok (.aload_n 0, 1) := by decide +kernel
theorem dX6_init_124 : decode cX6_init 124 = .ok (.getfield 43, 3) := by decide +kernel
theorem dX6_init_127 : decode cX6_init 127 = .ok (.iload_n 1, 1) := by decide +kernel
theorem dX6_init_128 : decode cX6_init 128 = .ok (.new 41, 3) := by decide +kernel
theorem dX6_init_131 : decode cX6_init 131 = .ok (.dup, 1) := by decide +kernel
theorem dX6_init_132 : decode cX6_init 132 = .ok (.invokespecial 67, 3) := by decide +kernel
theorem dX6_init_135 : decode cX6_init 135 = .ok (.aastore, 1) := by decide +kernel
theorem dX6_init_136 : decode cX6_init 136 = .ok (.iinc 1 1, 3) := by decide +kernel
theorem dX6_init_139 : decode cX6_init 139 = .ok (.goto (-22), 3) := by decide +kernel
theorem dX6_init_142 : decode cX6_init 142 = .ok (.iconst 0, 1) := by decide +kernel
theorem dX6_init_143 : decode cX6_init 143 = .ok (.istore_n 1, 1) := by decide +kernel
theorem dX6_init_144 : decode cX6_init 144 = .ok (.iload_n 1, 1) := by decide +kernel
theorem dX6_init_145 : decode cX6_init 145 = .ok (.bipush 6, 2) := by decide +kernel
theorem dX6_init_147 : decode cX6_init 147 = .ok (.if_icmp .ge 22, 3) := by decide +kernel
theorem dX6_init_150 : decode cX6_init 150 = .ok (.aload_n 0, 1) := by decide +kernel
theorem dX6_init_151 : decode cX6_init 151 = .ok (.getfield 56, 3) := by decide +kernel
theorem dX6_init_154 : decode cX6_init 154 = .ok (.iload_n 1, 1) := by decide +kernel
theorem dX6_init_155 : decode cX6_init 155 = .ok (.new 54, 3) := by decide +kernel
theorem dX6_init_158 : decode cX6_init 158 = .ok (.dup, 1) := by decide +kernel
theorem dX6_init_159 : decode cX6_init 159 = .ok (.invokespecial 68, 3) := by decide +kernel
theorem dX6_init_162 : decode cX6_init 162 = .ok (.aastore, 1) := by decide +kernel
theorem dX6_init_163 : decode cX6_init 163 = .ok (.iinc 1 1, 3) := by decide +kernel
theorem dX6_init_166 : decode cX6_init 166 = .ok (.goto (-22), 3) := by decide +kernel
theorem dX6_init_169 : decode cX6_init 169 = .ok (.return_, 1) := by decide +kernel
theorem dX6_house_0 : decode cX6_house 0 = .ok (.iload_n 1, 1) := by decide +kernel
theorem dX6_house_1 : decode cX6_house 1 = .ok (.invokestatic 69, 3) := by decide +kernel
theorem dX6_house_4 : decode cX6_house 4 = .ok (.ifCond .ne 5, 3) := by decide +kernel
theorem dX6_house_7 : decode cX6_house 7 = .ok (.iconst (-1), 1) := by decide +kernel
theorem dX6_house_8 : decode cX6_house 8 = .ok (.ireturn, 1) := by decide +kernel
theorem dX6_house_9 : decode cX6_house 9 = .ok (.iload_n 2, 1) := by decide +kernel
theorem dX6_house_10 : decode cX6_house 10 = .ok (.invokestatic 73, 3) := by decide +kernel
theorem dX6_house_13 : decode cX6_house 13 = .ok (.ifCond .eq 10, 3) := by decide +kernel
theorem dX6_house_16 : decode cX6_house 16 = .ok (.iload_n 3, 1) := by decide +kernel
theorem dX6_house_17 : decode cX6_house 17 = .ok (.invokestatic 76, 3) := by decide +kernel
theorem dX6_house_20 : decode cX6_house 20 = .ok (.ifCond .ne 6, 3) := by decide +kernel
theorem dX6_house_23 : decode cX6_house 23 = .ok (.bipush (-2), 2) := by decide +kernel
theorem dX6_house_25 : decode cX6_house 25 = .ok (.ireturn, 1) := by decide +kernel
theorem dX6_house_26 : decode cX6_house 26 = .ok (.aload_n 0, 1) := by decide +kernel
theorem dX6_house_27 : decode cX6_house 27 = .ok (.getfield 12, 3) := by decide +kernel
theorem dX6_house_30 : decode cX6_house 30 = .ok (.getfield 79, 3) := by decide +kernel
theorem dX6_house_33 : decode cX6_house 33 = .ok (.bipush 7, 2) := by decide +kernel
theorem dX6_house_35 : decode cX6_house 35 = .ok (.if_icmp .lt 6, 3) := by decide +kernel
theorem dX6_house_38 : decode cX6_house 38 = .ok (.bipush (-4), 2) := by decide +kernel
theorem dX6_house_40 : decode cX6_house 40 = .ok (.ireturn, 1) := by decide +kernel
theorem dX6_house_41 : decode cX6_house 41 = .ok (.aload_n 0, 1) := by decide +kernel
theorem dX6_house_42 : decode cX6_house 42 = .ok (.getfield 12, 3) := by decide +kernel
theorem dX6_house_45 : decode cX6_house 45 = .ok (.aload_n 0, 1) := by decide +kernel
theorem dX6_house_46 : decode cX6_house 46 = .ok (.getfield 12, 3) := by decide +kernel
theorem dX6_house_49 : decode cX6_house 49 = .ok (.getfield 79, 3) := by decide +kernel
theorem dX6_house_52 : decode cX6_house 52 = .ok (.iload_n 1, 1) := by decide +kernel
theorem dX6_house_53 : decode cX6_house 53 = .ok (.iload_n 2, 1) := by decide +kernel
theorem dX6_house_54 : decode cX6_house 54 = .ok (.iload_n 3, 1) := by decide +kernel
theorem dX6_house_55 : decode cX6_house 55 = .ok (.invokevirtual 83, 3) := by decide +kernel
theorem dX6_house_58 : decode cX6_house 58 = .ok (.aload_n 0, 1) := by decide +kernel
theorem dX6_house_59 : decode cX6_house 59 = .ok (.getfield 12, 3) := by decide +kernel
theorem dX6_house_62 : decode cX6_house 62 = .ok (.getfield 79, 3) := by decide +kernel
theorem dX6_house_65 : decode cX6_house 65 = .ok (.iconst 1, 1) := by decide +kernel
theorem dX6_house_66 : decode cX6_house 66 = .ok (.isub, 1) := by decide +kernel
theorem dX6_house_67 : decode cX6_house 67 = .ok (.ireturn, 1) := by decide +kernel
theorem dX6_of_0 : decode cX6_of 0 = .ok (.aload_n 0, 1) := by decide +kernel
theorem dX6_of_1 : decode cX6_of 1 = .ok (.iload_n 1, 1) := by decide +kernel
theorem dX6_of_2 : decode cX6_of 2 = .ok (.invokevirtual 87, 3) := by decide +kernel
theorem dX6_of_5 : decode cX6_of 5 = .ok (.ifCond .ne 5, 3) := by decide +kernel
theorem dX6_of_8 : decode cX6_of 8 = .ok (.iconst (-1), 1) := by decide +kernel
theorem dX6_of_9 : decode cX6_of 9 = .ok (.ireturn, 1) := by decide +kernel
theorem dX6_of_10 : decode cX6_of 10 = .ok (.iload_n 2, 1) := by decide +kernel
theorem dX6_of_11 : decode cX6_of 11 = .ok (.tableswitch 104 0 4 #[33, 43, 53, 63, 80], 33) := by decide +kernel
theorem dX6_of_44 : decode cX6_of 44 = .ok (.aload_n 0, 1) := by decide +kernel
theorem dX6_of_45 : decode cX6_of 45 = .ok (.getfield 12, 3) := by decide +kernel
theorem dX6_of_48 : decode cX6_of 48 = .ok (.getfield 90, 3) := by decide +kernel
theorem dX6_of_51 : decode cX6_of 51 = .ok (.iload_n 1, 1) := by decide +kernel
theorem dX6_of_52 : decode cX6_of 52 = .ok (.iaload, 1) := by decide +kernel
theorem dX6_of_53 : decode cX6_of 53 = .ok (.ireturn, 1) := by decide +kernel
theorem dX6_of_54 : decode cX6_of 54 = .ok (.aload_n 0, 1) := by decide +kernel
theorem dX6_of_55 : decode cX6_of 55 = .ok (.getfield 12, 3) := by decide +kernel
theorem dX6_of_58 : decode cX6_of 58 = .ok (.getfield 93, 3) := by decide +kernel
theorem dX6_of_61 : decode cX6_of 61 = .ok (.iload_n 1, 1) := by decide +kernel
theorem dX6_of_62 : decode cX6_of 62 = .ok (.iaload, 1) := by decide +kernel
theorem dX6_of_63 : decode cX6_of 63 = .ok (.ireturn, 1) := by decide +kernel
theorem dX6_of_64 : decode cX6_of 64 = .ok (.aload_n 0, 1) := by decide +kernel
theorem dX6_of_65 : decode cX6_of 65 = .ok (.getfield 12, 3) := by decide +kernel
theorem dX6_of_68 : decode cX6_of 68 = .ok (.getfield 96, 3) := by decide +kernel
theorem dX6_of_71 : decode cX6_of 71 = .ok (.iload_n 1, 1) := by decide +kernel
theorem dX6_of_72 : decode cX6_of 72 = .ok (.iaload, 1) := by decide +kernel
theorem dX6_of_73 : decode cX6_of 73 = .ok (.ireturn, 1) := by decide +kernel
theorem dX6_of_74 : decode cX6_of 74 = .ok (.aload_n 0, 1) := by decide +kernel
theorem dX6_of_75 : decode cX6_of 75 = .ok (.getfield 12, 3) := by decide +kernel
theorem dX6_of_78 : decode cX6_of 78 = .ok (.invokevirtual 99, 3) := by decide +kernel
theorem dX6_of_81 : decode cX6_of 81 = .ok (.aload_n 0, 1) := by decide +kernel
theorem dX6_of_82 : decode cX6_of 82 = .ok (.getfield 12, 3) := by decide +kernel
theorem dX6_of_85 : decode cX6_of 85 = .ok (.getfield 102, 3) := by decide +kernel
theorem dX6_of_88 : decode cX6_of 88 = .ok (.iload_n 1, 1) := by decide +kernel
theorem dX6_of_89 : decode cX6_of 89 = .ok (.iaload, 1) := by decide +kernel
theorem dX6_of_90 : decode cX6_of 90 = .ok (.ireturn, 1) := by decide +kernel
theorem dX6_of_91 : decode cX6_of 91 = .ok (.aload_n 0, 1) := by decide +kernel
theorem dX6_of_92 : decode cX6_of 92 = .ok (.getfield 12, 3) := by decide +kernel
theorem dX6_of_95 : decode cX6_of 95 = .ok (.invokevirtual 99, 3) := by decide +kernel
theorem dX6_of_98 : decode cX6_of 98 = .ok (.aload_n 0, 1) := by decide +kernel
theorem dX6_of_99 : decode cX6_of 99 = .ok (.getfield 12, 3) := by decide +kernel
theorem dX6_of_102 : decode cX6_of 102 = .ok (.invokevirtual 105, 3) := by decide +kernel
theorem dX6_of_105 : decode cX6_of 105 = .ok (.aload_n 0, 1) := by decide +kernel
theorem dX6_of_106 : decode cX6_of 106 = .ok (.getfield 12, 3) := by decide +kernel
theorem dX6_of_109 : decode cX6_of 109 = .ok (.getfield 108, 3) := by decide +kernel
theorem dX6_of_112 : decode cX6_of 112 = .ok (.iload_n 1, 1) := by decide +kernel
theorem dX6_of_113 : decode cX6_of 113 = .ok (.iaload, 1) := by decide +kernel
theorem dX6_of_114 : decode cX6_of 114 = .ok (.ireturn, 1) := by decide +kernel
theorem dX6_of_115 : decode cX6_of 115 = .ok (.iconst (-1), 1) := by decide +kernel
theorem dX6_of_116 : decode cX6_of 116 = .ok (.ireturn, 1) := by decide +kernel
theorem dX6_earn_0 : decode cX6_earn 0 = .ok (.aload_n 0, 1) := by decide +kernel
theorem dX6_earn_1 : decode cX6_earn 1 = .ok (.iload_n 1, 1) := by decide +kernel
theorem dX6_earn_2 : decode cX6_earn 2 = .ok (.invokevirtual 87, 3) := by decide +kernel
theorem dX6_earn_5 : decode cX6_earn 5 = .ok (.ifCond .ne 5, 3) := by decide +kernel
theorem dX6_earn_8 : decode cX6_earn 8 = .ok (.iconst (-1), 1) := by decide +kernel
theorem dX6_earn_9 : decode cX6_earn 9 = .ok (.ireturn, 1) := by decide +kernel
theorem dX6_earn_10 : decode cX6_earn 10 = .ok (.iload_n 2, 1) := by decide +kernel
theorem dX6_earn_11 : decode cX6_earn 11 = .ok (.invokestatic 76, 3) := by decide +kernel
theorem dX6_earn_14 : decode cX6_earn 14 = .ok (.ifCond .ne 6, 3) := by decide +kernel
theorem dX6_earn_17 : decode cX6_earn 17 = .ok (.bipush (-2), 2) := by decide +kernel
theorem dX6_earn_19 : decode cX6_earn 19 = .ok (.ireturn, 1) := by decide +kernel
theorem dX6_earn_20 : decode cX6_earn 20 = .ok (.aload_n 0, 1) := by decide +kernel
theorem dX6_earn_21 : decode cX6_earn 21 = .ok (.getfield 12, 3) := by decide +kernel
theorem dX6_earn_24 : decode cX6_earn 24 = .ok (.getfield 96, 3) := by decide +kernel
theorem dX6_earn_27 : decode cX6_earn 27 = .ok (.iload_n 1, 1) := by decide +kernel
theorem dX6_earn_28 : decode cX6_earn 28 = .ok (.iaload, 1) := by decide +kernel
theorem dX6_earn_29 : decode cX6_earn 29 = .ok (.istore_n 3, 1) := by decide +kernel
theorem dX6_earn_30 : decode cX6_earn 30 = .ok (.aload_n 0, 1) := by decide +kernel
theorem dX6_earn_31 : decode cX6_earn 31 = .ok (.getfield 12, 3) := by decide +kernel
theorem dX6_earn_34 : decode cX6_earn 34 = .ok (.getfield 96, 3) := by decide +kernel
theorem dX6_earn_37 : decode cX6_earn 37 = .ok (.iload_n 1, 1) := by decide +kernel
theorem dX6_earn_38 : decode cX6_earn 38 = .ok (.iload_n 2, 1) := by decide +kernel
theorem dX6_earn_39 : decode cX6_earn 39 = .ok (.iastore, 1) := by decide +kernel
theorem dX6_earn_40 : decode cX6_earn 40 = .ok (.iload_n 3, 1) := by decide +kernel
theorem dX6_earn_41 : decode cX6_earn 41 = .ok (.ireturn, 1) := by decide +kernel
theorem dX6_row_0 : decode cX6_row 0 = .ok (.aload_n 0, 1) := by decide +kernel
theorem dX6_row_1 : decode cX6_row 1 = .ok (.iload_n 1, 1) := by decide +kernel
theorem dX6_row_2 : decode cX6_row 2 = .ok (.invokevirtual 87, 3) := by decide +kernel
theorem dX6_row_5 : decode cX6_row 5 = .ok (.ifCond .eq 12, 3) := by decide +kernel
theorem dX6_row_8 : decode cX6_row 8 = .ok (.iload_n 2, 1) := by decide +kernel
theorem dX6_row_9 : decode cX6_row 9 = .ok (.ifCond .lt 8, 3) := by decide +kernel
theorem dX6_row_12 : decode cX6_row 12 = .ok (.iload_n 2, 1) := by decide +kernel
theorem dX6_row_13 : decode cX6_row 13 = .ok (.iconst 4, 1) := by decide +kernel
theorem dX6_row_14 : decode cX6_row 14 = .ok (.if_icmp .lt 5, 3) := by decide +kernel
theorem dX6_row_17 : decode cX6_row 17 = .ok (.iconst (-1), 1) := by decide +kernel
theorem dX6_row_18 : decode cX6_row 18 = .ok (.ireturn, 1) := by decide +kernel
theorem dX6_row_19 : decode cX6_row 19 = .ok (.iload_n 3, 1) := by decide +kernel
theorem dX6_row_20 : decode cX6_row 20 = .ok (.ifCond .lt 8, 3) := by decide +kernel
theorem dX6_row_23 : decode cX6_row 23 = .ok (.iload_n 3, 1) := by decide +kernel
theorem dX6_row_24 : decode cX6_row 24 = .ok (.iconst 5, 1) := by decide +kernel
theorem dX6_row_25 : decode cX6_row 25 = .ok (.if_icmp .lt 6, 3) := by decide +kernel
theorem dX6_row_28 : decode cX6_row 28 = .ok (.bipush (-2), 2) := by decide +kernel
theorem dX6_row_30 : decode cX6_row 30 = .ok (.ireturn, 1) := by decide +kernel
theorem dX6_row_31 : decode cX6_row 31 = .ok (.aload_n 0, 1) := by decide +kernel
theorem dX6_row_32 : decode cX6_row 32 = .ok (.getfield 12, 3) := by decide +kernel
theorem dX6_row_35 : decode cX6_row 35 = .ok (.getfield 90, 3) := by decide +kernel
theorem dX6_row_38 : decode cX6_row 38 = .ok (.iload_n 1, 1) := by decide +kernel
theorem dX6_row_39 : decode cX6_row 39 = .ok (.iaload, 1) := by decide +kernel
theorem dX6_row_40 : decode cX6_row 40 = .ok (.bipush 6, 2) := by decide +kernel
theorem dX6_row_42 : decode cX6_row 42 = .ok (.if_icmp .eq 6, 3) := by decide +kernel
theorem dX6_row_45 : decode cX6_row 45 = .ok (.bipush (-3), 2) := by decide +kernel
theorem dX6_row_47 : decode cX6_row 47 = .ok (.ireturn, 1) := by decide +kernel
theorem dX6_row_48 : decode cX6_row 48 = .ok (.aload_n 0, 1) := by decide +kernel
theorem dX6_row_49 : decode cX6_row 49 = .ok (.getfield 12, 3) := by decide +kernel
theorem dX6_row_52 : decode cX6_row 52 = .ok (.getfield 111, 3) := by decide +kernel
theorem dX6_row_55 : decode cX6_row 55 = .ok (.iload_n 1, 1) := by decide +kernel
theorem dX6_row_56 : decode cX6_row 56 = .ok (.iconst 4, 1) := by decide +kernel
theorem dX6_row_57 : decode cX6_row 57 = .ok (.imul, 1) := by decide +kernel
theorem dX6_row_58 : decode cX6_row 58 = .ok (.iload_n 2, 1) := by decide +kernel
theorem dX6_row_59 : decode cX6_row 59 = .ok (.iadd, 1) := by decide +kernel
theorem dX6_row_60 : decode cX6_row 60 = .ok (.iaload, 1) := by decide +kernel
theorem dX6_row_61 : decode cX6_row 61 = .ok (.istore 4, 2) := by decide +kernel
theorem dX6_row_63 : decode cX6_row 63 = .ok (.aload_n 0, 1) := by decide +kernel
theorem dX6_row_64 : decode cX6_row 64 = .ok (.getfield 12, 3) := by decide +kernel
theorem dX6_row_67 : decode cX6_row 67 = .ok (.getfield 111, 3) := by decide +kernel
theorem dX6_row_70 : decode cX6_row 70 = .ok (.iload_n 1, 1) := by decide +kernel
theorem dX6_row_71 : decode cX6_row 71 = .ok (.iconst 4, 1) := by decide +kernel
theorem dX6_row_72 : decode cX6_row 72 = .ok (.imul, 1) := by decide +kernel
theorem dX6_row_73 : decode cX6_row 73 = .ok (.iload_n 2, 1) := by decide +kernel
theorem dX6_row_74 : decode cX6_row 74 = .ok (.iadd, 1) := by decide +kernel
theorem dX6_row_75 : decode cX6_row 75 = .ok (.iload_n 3, 1) := by decide +kernel
theorem dX6_row_76 : decode cX6_row 76 = .ok (.iastore, 1) := by decide +kernel
theorem dX6_row_77 : decode cX6_row 77 = .ok (.iload 4, 2) := by decide +kernel
theorem dX6_row_79 : decode cX6_row 79 = .ok (.ireturn, 1) := by decide +kernel
theorem dX6_feed_0 : decode cX6_feed 0 = .ok (.iload_n 1, 1) := by decide +kernel
theorem dX6_feed_1 : decode cX6_feed 1 = .ok (.ifCond .lt 9, 3) := by decide +kernel
theorem dX6_feed_4 : decode cX6_feed 4 = .ok (.iload_n 1, 1) := by decide +kernel
theorem dX6_feed_5 : decode cX6_feed 5 = .ok (.bipush 127, 2) := by decide +kernel
theorem dX6_feed_7 : decode cX6_feed 7 = .ok (.if_icmp .le 6, 3) := by decide +kernel
theorem dX6_feed_10 : decode cX6_feed 10 = .ok (.bipush (-2), 2) := by decide +kernel
theorem dX6_feed_12 : decode cX6_feed 12 = .ok (.ireturn, 1) := by decide +kernel
theorem dX6_feed_13 : decode cX6_feed 13 = .ok (.aload_n 0, 1) := by decide +kernel
theorem dX6_feed_14 : decode cX6_feed 14 = .ok (.getfield 37, 3) := by decide +kernel
theorem dX6_feed_17 : decode cX6_feed 17 = .ok (.iload_n 1, 1) := by decide +kernel
theorem dX6_feed_18 : decode cX6_feed 18 = .ok (.invokevirtual 114, 3) := by decide +kernel
theorem dX6_feed_21 : decode cX6_feed 21 = .ok (.ireturn, 1) := by decide +kernel
theorem dX6_street_0 : decode cX6_street 0 = .ok (.aload_n 0, 1) := by decide +kernel
theorem dX6_street_1 : decode cX6_street 1 = .ok (.getfield 118, 3) := by decide +kernel
theorem dX6_street_4 : decode cX6_street 4 = .ok (.bipush 6, 2) := by decide +kernel
theorem dX6_street_6 : decode cX6_street 6 = .ok (.if_icmp .lt 6, 3) := by decide +kernel
theorem dX6_street_9 : decode cX6_street 9 = .ok (.bipush (-4), 2) := by decide +kernel
theorem dX6_street_11 : decode cX6_street 11 = .ok (.ireturn, 1) := by decide +kernel
theorem dX6_street_12 : decode cX6_street 12 = .ok (.aload_n 0, 1) := by decide +kernel
theorem dX6_street_13 : decode cX6_street 13 = .ok (.getfield 37, 3) := by decide +kernel
theorem dX6_street_16 : decode cX6_street 16 = .ok (.invokevirtual 121, 3) := by decide +kernel
theorem dX6_street_19 : decode cX6_street 19 = .ok (.istore_n 1, 1) := by decide +kernel
theorem dX6_street_20 : decode cX6_street 20 = .ok (.aload_n 0, 1) := by decide +kernel
theorem dX6_street_21 : decode cX6_street 21 = .ok (.getfield 37, 3) := by decide +kernel
theorem dX6_street_24 : decode cX6_street 24 = .ok (.invokevirtual 125, 3) := by decide +kernel
theorem dX6_street_27 : decode cX6_street 27 = .ok (.iload_n 1, 1) := by decide +kernel
theorem dX6_street_28 : decode cX6_street 28 = .ok (.iconst (-1), 1) := by decide +kernel
theorem dX6_street_29 : decode cX6_street 29 = .ok (.if_icmp .eq 8, 3) := by decide +kernel
theorem dX6_street_32 : decode cX6_street 32 = .ok (.bipush (-10), 2) := by decide +kernel
theorem dX6_street_34 : decode cX6_street 34 = .ok (.iload_n 1, 1) := by decide +kernel
theorem dX6_street_35 : decode cX6_street 35 = .ok (.isub, 1) := by decide +kernel
theorem dX6_street_36 : decode cX6_street 36 = .ok (.ireturn, 1) := by decide +kernel
theorem dX6_street_37 : decode cX6_street 37 = .ok (.aload_n 0, 1) := by decide +kernel
theorem dX6_street_38 : decode cX6_street 38 = .ok (.getfield 43, 3) := by decide +kernel
theorem dX6_street_41 : decode cX6_street 41 = .ok (.aload_n 0, 1) := by decide +kernel
theorem dX6_street_42 : decode cX6_street 42 = .ok (.getfield 118, 3) := by decide +kernel
theorem dX6_street_45 : decode cX6_street 45 = .ok (.aaload, 1) := by decide +kernel
theorem dX6_street_46 : decode cX6_street 46 = .ok (.astore_n 2, 1) := by decide +kernel
theorem dX6_street_47 : decode cX6_street 47 = .ok (.aload_n 2, 1) := by decide +kernel
theorem dX6_street_48 : decode cX6_street 48 = .ok (.aload_n 0, 1) := by decide +kernel
theorem dX6_street_49 : decode cX6_street 49 = .ok (.getfield 37, 3) := by decide +kernel
theorem dX6_street_52 : decode cX6_street 52 = .ok (.getfield 128, 3) := by decide +kernel
theorem dX6_street_55 : decode cX6_street 55 = .ok (.invokevirtual 132, 3) := by decide +kernel
theorem dX6_street_58 : decode cX6_street 58 = .ok (.aload_n 0, 1) := by decide +kernel
theorem dX6_street_59 : decode cX6_street 59 = .ok (.getfield 12, 3) := by decide +kernel
theorem dX6_street_62 : decode cX6_street 62 = .ok (.aload_n 2, 1) := by decide +kernel
theorem dX6_street_63 : decode cX6_street 63 = .ok (.putfield 136, 3) := by decide +kernel
theorem dX6_street_66 : decode cX6_street 66 = .ok (.aload_n 0, 1) := by decide +kernel
theorem dX6_street_67 : decode cX6_street 67 = .ok (.dup, 1) := by decide +kernel
theorem dX6_street_68 : decode cX6_street 68 = .ok (.getfield 118, 3) := by decide +kernel
theorem dX6_street_71 : decode cX6_street 71 = .ok (.iconst 1, 1) := by decide +kernel
theorem dX6_street_72 : decode cX6_street 72 = .ok (.iadd, 1) := by decide +kernel
theorem dX6_street_73 : decode cX6_street 73 = .ok (.putfield 118, 3) := by decide +kernel
theorem dX6_street_76 : decode cX6_street 76 = .ok (.aload_n 0, 1) := by decide +kernel
theorem dX6_street_77 : decode cX6_street 77 = .ok (.getfield 118, 3) := by decide +kernel
theorem dX6_street_80 : decode cX6_street 80 = .ok (.iconst 1, 1) := by decide +kernel
theorem dX6_street_81 : decode cX6_street 81 = .ok (.isub, 1) := by decide +kernel
theorem dX6_street_82 : decode cX6_street 82 = .ok (.ireturn, 1) := by decide +kernel
theorem dX6_told_0 : decode cX6_told 0 = .ok (.iload_n 1, 1) := by decide +kernel
theorem dX6_told_1 : decode cX6_told 1 = .ok (.tableswitch 59 0 2 #[27, 35, 51], 27) := by decide +kernel
theorem dX6_told_28 : decode cX6_told 28 = .ok (.aload_n 0, 1) := by decide +kernel
theorem dX6_told_29 : decode cX6_told 29 = .ok (.getfield 12, 3) := by decide +kernel
theorem dX6_told_32 : decode cX6_told 32 = .ok (.getfield 137, 3) := by decide +kernel
theorem dX6_told_35 : decode cX6_told 35 = .ok (.ireturn, 1) := by decide +kernel
theorem dX6_told_36 : decode cX6_told 36 = .ok (.aload_n 0, 1) := by decide +kernel
theorem dX6_told_37 : decode cX6_told 37 = .ok (.getfield 12, 3) := by decide +kernel
theorem dX6_told_40 : decode cX6_told 40 = .ok (.invokevirtual 140, 3) := by decide +kernel
theorem dX6_told_43 : decode cX6_told 43 = .ok (.ifCond .eq 7, 3) := by decide +kernel
theorem dX6_told_46 : decode cX6_told 46 = .ok (.iconst 1, 1) := by decide +kernel
theorem dX6_told_47 : decode cX6_told 47 = .ok (.goto 4, 3) := by decide +kernel
theorem dX6_told_50 : decode cX6_told 50 = .ok (.iconst 0, 1) := by decide +kernel
theorem dX6_told_51 : decode cX6_told 51 = .ok (.ireturn, 1) := by decide +kernel
theorem dX6_told_52 : decode cX6_told 52 = .ok (.aload_n 0, 1) := by decide +kernel
theorem dX6_told_53 : decode cX6_told 53 = .ok (.getfield 12, 3) := by decide +kernel
theorem dX6_told_56 : decode cX6_told 56 = .ok (.invokevirtual 144, 3) := by decide +kernel
theorem dX6_told_59 : decode cX6_told 59 = .ok (.ireturn, 1) := by decide +kernel
theorem dX6_told_60 : decode cX6_told 60 = .ok (.iconst (-1), 1) := by decide +kernel
theorem dX6_told_61 : decode cX6_told 61 = .ok (.ireturn, 1) := by decide +kernel
theorem dX6_year_0 : decode cX6_year 0 = .ok (.aload_n 0, 1) := by decide +kernel
theorem dX6_year_1 : decode cX6_year 1 = .ok (.getfield 12, 3) := by decide +kernel
theorem dX6_year_4 : decode cX6_year 4 = .ok (.getfield 137, 3) := by decide +kernel
theorem dX6_year_7 : decode cX6_year 7 = .ok (.sipush 999, 3) := by decide +kernel
theorem dX6_year_10 : decode cX6_year 10 = .ok (.if_icmp .lt 6, 3) := by decide +kernel
theorem dX6_year_13 : decode cX6_year 13 = .ok (.bipush (-3), 2) := by decide +kernel
theorem dX6_year_15 : decode cX6_year 15 = .ok (.ireturn, 1) := by decide +kernel
theorem dX6_year_16 : decode cX6_year 16 = .ok (.aload_n 0, 1) := by decide +kernel
theorem dX6_year_17 : decode cX6_year 17 = .ok (.getfield 12, 3) := by decide +kernel
theorem dX6_year_20 : decode cX6_year 20 = .ok (.iconst 1, 1) := by decide +kernel
theorem dX6_year_21 : decode cX6_year 21 = .ok (.invokevirtual 147, 3) := by decide +kernel
theorem dX6_year_24 : decode cX6_year 24 = .ok (.aload_n 0, 1) := by decide +kernel
theorem dX6_year_25 : decode cX6_year 25 = .ok (.getfield 12, 3) := by decide +kernel
theorem dX6_year_28 : decode cX6_year 28 = .ok (.getfield 137, 3) := by decide +kernel
theorem dX6_year_31 : decode cX6_year 31 = .ok (.ireturn, 1) := by decide +kernel
theorem dX6_at_0 : decode cX6_at 0 = .ok (.aload_n 0, 1) := by decide +kernel
theorem dX6_at_1 : decode cX6_at 1 = .ok (.iload_n 2, 1) := by decide +kernel
theorem dX6_at_2 : decode cX6_at 2 = .ok (.invokevirtual 87, 3) := by decide +kernel
theorem dX6_at_5 : decode cX6_at 5 = .ok (.istore_n 3, 1) := by decide +kernel
theorem dX6_at_6 : decode cX6_at 6 = .ok (.iload_n 3, 1) := by decide +kernel
theorem dX6_at_7 : decode cX6_at 7 = .ok (.ifCond .ne 11, 3) := by decide +kernel
theorem dX6_at_10 : decode cX6_at 10 = .ok (.iload_n 2, 1) := by decide +kernel
theorem dX6_at_11 : decode cX6_at 11 = .ok (.bipush 10, 2) := by decide +kernel
theorem dX6_at_13 : decode cX6_at 13 = .ok (.if_icmp .eq 5, 3) := by decide +kernel
theorem dX6_at_16 : decode cX6_at 16 = .ok (.iconst (-1), 1) := by decide +kernel
theorem dX6_at_17 : decode cX6_at 17 = .ok (.ireturn, 1) := by decide +kernel
theorem dX6_at_18 : decode cX6_at 18 = .ok (.iload_n 1, 1) := by decide +kernel
theorem dX6_at_19 : decode cX6_at 19 = .ok (.ifCond .lt 9, 3) := by decide +kernel
theorem dX6_at_22 : decode cX6_at 22 = .ok (.iload_n 1, 1) := by decide +kernel
theorem dX6_at_23 : decode cX6_at 23 = .ok (.bipush 60, 2) := by decide +kernel
theorem dX6_at_25 : decode cX6_at 25 = .ok (.if_icmp .le 6, 3) := by decide +kernel
theorem dX6_at_28 : decode cX6_at 28 = .ok (.bipush (-2), 2) := by decide +kernel
theorem dX6_at_30 : decode cX6_at 30 = .ok (.ireturn, 1) := by decide +kernel
theorem dX6_at_31 : decode cX6_at 31 = .ok (.aload_n 0, 1) := by decide +kernel
theorem dX6_at_32 : decode cX6_at 32 = .ok (.getfield 18, 3) := by decide +kernel
theorem dX6_at_35 : decode cX6_at 35 = .ok (.aload_n 0, 1) := by decide +kernel
theorem dX6_at_36 : decode cX6_at 36 = .ok (.getfield 12, 3) := by decide +kernel
theorem dX6_at_39 : decode cX6_at 39 = .ok (.invokevirtual 151, 3) := by decide +kernel
theorem dX6_at_42 : decode cX6_at 42 = .ok (.aload_n 0, 1) := by decide +kernel
theorem dX6_at_43 : decode cX6_at 43 = .ok (.getfield 18, 3) := by decide +kernel
theorem dX6_at_46 : decode cX6_at 46 = .ok (.iload_n 1, 1) := by decide +kernel
theorem dX6_at_47 : decode cX6_at 47 = .ok (.invokevirtual 147, 3) := by decide +kernel
theorem dX6_at_50 : decode cX6_at 50 = .ok (.iload_n 3, 1) := by decide +kernel
theorem dX6_at_51 : decode cX6_at 51 = .ok (.ifCond .eq 15, 3) := by decide +kernel
theorem dX6_at_54 : decode cX6_at 54 = .ok (.aload_n 0, 1) := by decide +kernel
theorem dX6_at_55 : decode cX6_at 55 = .ok (.getfield 18, 3) := by decide +kernel
theorem dX6_at_58 : decode cX6_at 58 = .ok (.getfield 96, 3) := by decide +kernel
theorem dX6_at_61 : decode cX6_at 61 = .ok (.iload_n 2, 1) := by decide +kernel
theorem dX6_at_62 : decode cX6_at 62 = .ok (.iaload, 1) := by decide +kernel
theorem dX6_at_63 : decode cX6_at 63 = .ok (.goto 10, 3) := by decide +kernel
theorem dX6_at_66 : decode cX6_at 66 = .ok (.aload_n 0, 1) := by decide +kernel
theorem dX6_at_67 : decode cX6_at 67 = .ok (.getfield 18, 3) := by decide +kernel
theorem dX6_at_70 : decode cX6_at 70 = .ok (.invokevirtual 144, 3) := by decide +kernel
theorem dX6_at_73 : decode cX6_at 73 = .ok (.ireturn, 1) := by decide +kernel
theorem dX6_stays_0 : decode cX6_stays 0 = .ok (.aload_n 0, 1) := by decide +kernel
theorem dX6_stays_1 : decode cX6_stays 1 = .ok (.getfield 18, 3) := by decide +kernel
theorem dX6_stays_4 : decode cX6_stays 4 = .ok (.aload_n 0, 1) := by decide +kernel
theorem dX6_stays_5 : decode cX6_stays 5 = .ok (.getfield 12, 3) := by decide +kernel
theorem dX6_stays_8 : decode cX6_stays 8 = .ok (.invokevirtual 151, 3) := by decide +kernel
theorem dX6_stays_11 : decode cX6_stays 11 = .ok (.iconst 0, 1) := by decide +kernel
theorem dX6_stays_12 : decode cX6_stays 12 = .ok (.istore_n 1, 1) := by decide +kernel
theorem dX6_stays_13 : decode cX6_stays 13 = .ok (.iload_n 1, 1) := by decide +kernel
theorem dX6_stays_14 : decode cX6_stays 14 = .ok (.bipush 60, 2) := by decide +kernel
theorem dX6_stays_16 : decode cX6_stays 16 = .ok (.if_icmp .gt 30, 3) := by decide +kernel
theorem dX6_stays_19 : decode cX6_stays 19 = .ok (.aload_n 0, 1) := by decide +kernel
theorem dX6_stays_20 : decode cX6_stays 20 = .ok (.invokevirtual 154, 3) := by decide +kernel
theorem dX6_stays_23 : decode cX6_stays 23 = .ok (.aload_n 0, 1) := by decide +kernel
theorem dX6_stays_24 : decode cX6_stays 24 = .ok (.getfield 18, 3) := by decide +kernel
theorem dX6_stays_27 : decode cX6_stays 27 = .ok (.iconst 1, 1) := by decide +kernel
theorem dX6_stays_28 : decode cX6_stays 28 = .ok (.invokevirtual 147, 3) := by decide +kernel
theorem dX6_stays_31 : decode cX6_stays 31 = .ok (.aload_n 0, 1) := by decide +kernel
theorem dX6_stays_32 : decode cX6_stays 32 = .ok (.invokevirtual 157, 3) := by decide +kernel
theorem dX6_stays_35 : decode cX6_stays 35 = .ok (.ifCond .ne 5, 3) := by decide +kernel
theorem dX6_stays_38 : decode cX6_stays 38 = .ok (.iload_n 1, 1) := by decide +kernel
theorem dX6_stays_39 : decode cX6_stays 39 = .ok (.ireturn, 1) := by decide +kernel
theorem dX6_stays_40 : decode cX6_stays 40 = .ok (.iinc 1 1, 3) := by decide +kernel
theorem dX6_stays_43 : decode cX6_stays 43 = .ok (.goto (-30), 3) := by decide +kernel
theorem dX6_stays_46 : decode cX6_stays 46 = .ok (.bipush (-5), 2) := by decide +kernel
theorem dX6_stays_48 : decode cX6_stays 48 = .ok (.ireturn, 1) := by decide +kernel
theorem dX6_swings_0 : decode cX6_swings 0 = .ok (.aload_n 0, 1) := by decide +kernel
theorem dX6_swings_1 : decode cX6_swings 1 = .ok (.getfield 18, 3) := by decide +kernel
theorem dX6_swings_4 : decode cX6_swings 4 = .ok (.aload_n 0, 1) := by decide +kernel
theorem dX6_swings_5 : decode cX6_swings 5 = .ok (.getfield 12, 3) := by decide +kernel
theorem dX6_swings_8 : decode cX6_swings 8 = .ok (.invokevirtual 151, 3) := by decide +kernel
theorem dX6_swings_11 : decode cX6_swings 11 = .ok (.aload_n 0, 1) := by decide +kernel
theorem dX6_swings_12 : decode cX6_swings 12 = .ok (.getfield 18, 3) := by decide +kernel
theorem dX6_swings_15 : decode cX6_swings 15 = .ok (.bipush 40, 2) := by decide +kernel
theorem dX6_swings_17 : decode cX6_swings 17 = .ok (.invokevirtual 147, 3) := by decide +kernel
theorem dX6_swings_20 : decode cX6_swings 20 = .ok (.aload_n 0, 1) := by decide +kernel
theorem dX6_swings_21 : decode cX6_swings 21 = .ok (.invokevirtual 154, 3) := by decide +kernel
theorem dX6_swings_24 : decode cX6_swings 24 = .ok (.iconst 1, 1) := by decide +kernel
theorem dX6_swings_25 : decode cX6_swings 25 = .ok (.istore_n 1, 1) := by decide +kernel
theorem dX6_swings_26 : decode cX6_swings 26 = .ok (.iload_n 1, 1) := by decide +kernel
theorem dX6_swings_27 : decode cX6_swings 27 = .ok (.bipush 20, 2) := by decide +kernel
theorem dX6_swings_29 : decode cX6_swings 29 = .ok (.if_icmp .gt 26, 3) := by decide +kernel
theorem dX6_swings_32 : decode cX6_swings 32 = .ok (.aload_n 0, 1) := by decide +kernel
theorem dX6_swings_33 : decode cX6_swings 33 = .ok (.getfield 18, 3) := by decide +kernel
theorem dX6_swings_36 : decode cX6_swings 36 = .ok (.iconst 1, 1) := by decide +kernel
theorem dX6_swings_37 : decode cX6_swings 37 = .ok (.invokevirtual 147, 3) := by decide +kernel
theorem dX6_swings_40 : decode cX6_swings 40 = .ok (.aload_n 0, 1) := by decide +kernel
theorem dX6_swings_41 : decode cX6_swings 41 = .ok (.invokevirtual 157, 3) := by decide +kernel
theorem dX6_swings_44 : decode cX6_swings 44 = .ok (.ifCond .ne 5, 3) := by decide +kernel
theorem dX6_swings_47 : decode cX6_swings 47 = .ok (.iload_n 1, 1) := by decide +kernel
theorem dX6_swings_48 : decode cX6_swings 48 = .ok (.ireturn, 1) := by decide +kernel
theorem dX6_swings_49 : decode cX6_swings 49 = .ok (.iinc 1 1, 3) := by decide +kernel
theorem dX6_swings_52 : decode cX6_swings 52 = .ok (.goto (-26), 3) := by decide +kernel
theorem dX6_swings_55 : decode cX6_swings 55 = .ok (.bipush (-5), 2) := by decide +kernel
theorem dX6_swings_57 : decode cX6_swings 57 = .ok (.ireturn, 1) := by decide +kernel
theorem dX6_gift_0 : decode cX6_gift 0 = .ok (.aload_n 0, 1) := by decide +kernel
theorem dX6_gift_1 : decode cX6_gift 1 = .ok (.iload_n 1, 1) := by decide +kernel
theorem dX6_gift_2 : decode cX6_gift 2 = .ok (.invokevirtual 87, 3) := by decide +kernel
theorem dX6_gift_5 : decode cX6_gift 5 = .ok (.ifCond .eq 10, 3) := by decide +kernel
theorem dX6_gift_8 : decode cX6_gift 8 = .ok (.iload_n 3, 1) := by decide +kernel
theorem dX6_gift_9 : decode cX6_gift 9 = .ok (.invokestatic 160, 3) := by decide +kernel
theorem dX6_gift_12 : decode cX6_gift 12 = .ok (.ifCond .ne 7, 3) := by decide +kernel
theorem dX6_gift_15 : decode cX6_gift 15 = .ok (.sipush (-1001), 3) := by decide +kernel
theorem dX6_gift_18 : decode cX6_gift 18 = .ok (.ireturn, 1) := by decide +kernel
theorem dX6_gift_19 : decode cX6_gift 19 = .ok (.iload_n 2, 1) := by decide +kernel
theorem dX6_gift_20 : decode cX6_gift 20 = .ok (.invokestatic 76, 3) := by decide +kernel
theorem dX6_gift_23 : decode cX6_gift 23 = .ok (.ifCond .ne 7, 3) := by decide +kernel
theorem dX6_gift_26 : decode cX6_gift 26 = .ok (.sipush (-1002), 3) := by decide +kernel
theorem dX6_gift_29 : decode cX6_gift 29 = .ok (.ireturn, 1) := by decide +kernel
theorem dX6_gift_30 : decode cX6_gift 30 = .ok (.aload_n 0, 1) := by decide +kernel
theorem dX6_gift_31 : decode cX6_gift 31 = .ok (.getfield 18, 3) := by decide +kernel
theorem dX6_gift_34 : decode cX6_gift 34 = .ok (.aload_n 0, 1) := by decide +kernel
theorem dX6_gift_35 : decode cX6_gift 35 = .ok (.getfield 12, 3) := by decide +kernel
theorem dX6_gift_38 : decode cX6_gift 38 = .ok (.invokevirtual 151, 3) := by decide +kernel
theorem dX6_gift_41 : decode cX6_gift 41 = .ok (.aload_n 0, 1) := by decide +kernel
theorem dX6_gift_42 : decode cX6_gift 42 = .ok (.getfield 18, 3) := by decide +kernel
theorem dX6_gift_45 : decode cX6_gift 45 = .ok (.bipush 40, 2) := by decide +kernel
theorem dX6_gift_47 : decode cX6_gift 47 = .ok (.invokevirtual 147, 3) := by decide +kernel
theorem dX6_gift_50 : decode cX6_gift 50 = .ok (.aload_n 0, 1) := by decide +kernel
theorem dX6_gift_51 : decode cX6_gift 51 = .ok (.getfield 18, 3) := by decide +kernel
theorem dX6_gift_54 : decode cX6_gift 54 = .ok (.invokevirtual 144, 3) := by decide +kernel
theorem dX6_gift_57 : decode cX6_gift 57 = .ok (.istore 4, 2) := by decide +kernel
theorem dX6_gift_59 : decode cX6_gift 59 = .ok (.aload_n 0, 1) := by decide +kernel
theorem dX6_gift_60 : decode cX6_gift 60 = .ok (.getfield 18, 3) := by decide +kernel
theorem dX6_gift_63 : decode cX6_gift 63 = .ok (.getfield 96, 3) := by decide +kernel
theorem dX6_gift_66 : decode cX6_gift 66 = .ok (.iload_n 1, 1) := by decide +kernel
theorem dX6_gift_67 : decode cX6_gift 67 = .ok (.iaload, 1) := by decide +kernel
theorem dX6_gift_68 : decode cX6_gift 68 = .ok (.istore 5, 2) := by decide +kernel
theorem dX6_gift_70 : decode cX6_gift 70 = .ok (.aload_n 0, 1) := by decide +kernel
theorem dX6_gift_71 : decode cX6_gift 71 = .ok (.getfield 18, 3) := by decide +kernel
theorem dX6_gift_74 : decode cX6_gift 74 = .ok (.aload_n 0, 1) := by decide +kernel
theorem dX6_gift_75 : decode cX6_gift 75 = .ok (.getfield 12, 3) := by decide +kernel
theorem dX6_gift_78 : decode cX6_gift 78 = .ok (.invokevirtual 151, 3) := by decide +kernel
theorem dX6_gift_81 : decode cX6_gift 81 = .ok (.aload_n 0, 1) := by decide +kernel
theorem dX6_gift_82 : decode cX6_gift 82 = .ok (.getfield 18, 3) := by decide +kernel
theorem dX6_gift_85 : decode cX6_gift 85 = .ok (.iload_n 1, 1) := by decide +kernel
theorem dX6_gift_86 : decode cX6_gift 86 = .ok (.iload_n 2, 1) := by decide +kernel
theorem dX6_gift_87 : decode cX6_gift 87 = .ok (.invokevirtual 163, 3) := by decide +kernel
theorem dX6_gift_90 : decode cX6_gift 90 = .ok (.aload_n 0, 1) := by decide +kernel
theorem dX6_gift_91 : decode cX6_gift 91 = .ok (.getfield 18, 3) := by decide +kernel
theorem dX6_gift_94 : decode cX6_gift 94 = .ok (.bipush 40, 2) := by decide +kernel
theorem dX6_gift_96 : decode cX6_gift 96 = .ok (.invokevirtual 147, 3) := by decide +kernel
theorem dX6_gift_99 : decode cX6_gift 99 = .ok (.aload_n 0, 1) := by decide +kernel
theorem dX6_gift_100 : decode cX6_gift 100 = .ok (.getfield 18, 3) := by decide +kernel
theorem dX6_gift_103 : decode cX6_gift 103 = .ok (.invokevirtual 144, 3) := by decide +kernel
theorem dX6_gift_106 : decode cX6_gift 106 = .ok (.istore 6, 2) := by decide +kernel
theorem dX6_gift_108 : decode cX6_gift 108 = .ok (.iload_n 3, 1) := by decide +kernel
theorem dX6_gift_109 : decode cX6_gift 109 = .ok (.ifCond .ne 18, 3) := by decide +kernel
theorem dX6_gift_112 : decode cX6_gift 112 = .ok (.aload_n 0, 1) := by decide +kernel
theorem dX6_gift_113 : decode cX6_gift 113 = .ok (.getfield 18, 3) := by decide +kernel
theorem dX6_gift_116 : decode cX6_gift 116 = .ok (.getfield 96, 3) := by decide +kernel
theorem dX6_gift_119 : decode cX6_gift 119 = .ok (.iload_n 1, 1) := by decide +kernel
theorem dX6_gift_120 : decode cX6_gift 120 = .ok (.iaload, 1) := by decide +kernel
theorem dX6_gift_121 : decode cX6_gift 121 = .ok (.iload 5, 2) := by decide +kernel
theorem dX6_gift_123 : decode cX6_gift 123 = .ok (.isub, 1) := by decide +kernel
theorem dX6_gift_124 : decode cX6_gift 124 = .ok (.goto 8, 3) := by decide +kernel
theorem dX6_gift_127 : decode cX6_gift 127 = .ok (.iload 6, 2) := by decide +kernel
theorem dX6_gift_129 : decode cX6_gift 129 = .ok (.iload 4, 2) := by decide +kernel
theorem dX6_gift_131 : decode cX6_gift 131 = .ok (.isub, 1) := by decide +kernel
theorem dX6_gift_132 : decode cX6_gift 132 = .ok (.ireturn, 1) := by decide +kernel
theorem dX6_best_0 : decode cX6_best 0 = .ok (.iload_n 1, 1) := by decide +kernel
theorem dX6_best_1 : decode cX6_best 1 = .ok (.invokestatic 76, 3) := by decide +kernel
theorem dX6_best_4 : decode cX6_best 4 = .ok (.ifCond .ne 6, 3) := by decide +kernel
theorem dX6_best_7 : decode cX6_best 7 = .ok (.bipush (-2), 2) := by decide +kernel
theorem dX6_best_9 : decode cX6_best 9 = .ok (.ireturn, 1) := by decide +kernel
theorem dX6_best_10 : decode cX6_best 10 = .ok (.bipush (-5), 2) := by decide +kernel
theorem dX6_best_12 : decode cX6_best 12 = .ok (.istore_n 2, 1) := by decide +kernel
theorem dX6_best_13 : decode cX6_best 13 = .ok (.iconst (-1), 1) := by decide +kernel
theorem dX6_best_14 : decode cX6_best 14 = .ok (.istore_n 3, 1) := by decide +kernel
theorem dX6_best_15 : decode cX6_best 15 = .ok (.iconst 0, 1) := by decide +kernel
theorem dX6_best_16 : decode cX6_best 16 = .ok (.istore 4, 2) := by decide +kernel
theorem dX6_best_18 : decode cX6_best 18 = .ok (.iload 4, 2) := by decide +kernel
theorem dX6_best_20 : decode cX6_best 20 = .ok (.aload_n 0, 1) := by decide +kernel
theorem dX6_best_21 : decode cX6_best 21 = .ok (.getfield 12, 3) := by decide +kernel
theorem dX6_best_24 : decode cX6_best 24 = .ok (.getfield 79, 3) := by decide +kernel
theorem dX6_best_27 : decode cX6_best 27 = .ok (.if_icmp .ge 60, 3) := by decide +kernel
theorem dX6_best_30 : decode cX6_best 30 = .ok (.aload_n 0, 1) := by decide +kernel
theorem dX6_best_31 : decode cX6_best 31 = .ok (.getfield 18, 3) := by decide +kernel
theorem dX6_best_34 : decode cX6_best 34 = .ok (.aload_n 0, 1) := by decide +kernel
theorem dX6_best_35 : decode cX6_best 35 = .ok (.getfield 12, 3) := by decide +kernel
theorem dX6_best_38 : decode cX6_best 38 = .ok (.invokevirtual 151, 3) := by decide +kernel
theorem dX6_best_41 : decode cX6_best 41 = .ok (.aload_n 0, 1) := by decide +kernel
theorem dX6_best_42 : decode cX6_best 42 = .ok (.getfield 18, 3) := by decide +kernel
theorem dX6_best_45 : decode cX6_best 45 = .ok (.iload 4, 2) := by decide +kernel
theorem dX6_best_47 : decode cX6_best 47 = .ok (.iload_n 1, 1) := by decide +kernel
theorem dX6_best_48 : decode cX6_best 48 = .ok (.invokevirtual 163, 3) := by decide +kernel
theorem dX6_best_51 : decode cX6_best 51 = .ok (.aload_n 0, 1) := by decide +kernel
theorem dX6_best_52 : decode cX6_best 52 = .ok (.getfield 18, 3) := by decide +kernel
theorem dX6_best_55 : decode cX6_best 55 = .ok (.bipush 40, 2) := by decide +kernel
theorem dX6_best_57 : decode cX6_best 57 = .ok (.invokevirtual 147, 3) := by decide +kernel
theorem dX6_best_60 : decode cX6_best 60 = .ok (.aload_n 0, 1) := by decide +kernel
theorem dX6_best_61 : decode cX6_best 61 = .ok (.getfield 18, 3) := by decide +kernel
theorem dX6_best_64 : decode cX6_best 64 = .ok (.invokevirtual 144, 3) := by decide +kernel
theorem dX6_best_67 : decode cX6_best 67 = .ok (.istore 5, 2) := by decide +kernel
theorem dX6_best_69 : decode cX6_best 69 = .ok (.iload 5, 2) := by decide +kernel
theorem dX6_best_71 : decode cX6_best 71 = .ok (.iload_n 3, 1) := by decide +kernel
theorem dX6_best_72 : decode cX6_best 72 = .ok (.if_icmp .le 9, 3) := by decide +kernel
theorem dX6_best_75 : decode cX6_best 75 = .ok (.iload 5, 2) := by decide +kernel
theorem dX6_best_77 : decode cX6_best 77 = .ok (.istore_n 3, 1) := by decide +kernel
theorem dX6_best_78 : decode cX6_best 78 = .ok (.iload 4, 2) := by decide +kernel
theorem dX6_best_80 : decode cX6_best 80 = .ok (.istore_n 2, 1) := by decide +kernel
theorem dX6_best_81 : decode cX6_best 81 = .ok (.iinc 4 1, 3) := by decide +kernel
theorem dX6_best_84 : decode cX6_best 84 = .ok (.goto (-66), 3) := by decide +kernel
theorem dX6_best_87 : decode cX6_best 87 = .ok (.iload_n 2, 1) := by decide +kernel
theorem dX6_best_88 : decode cX6_best 88 = .ok (.ireturn, 1) := by decide +kernel
theorem dX6_lots_0 : decode cX6_lots 0 = .ok (.aload_n 0, 1) := by decide +kernel
theorem dX6_lots_1 : decode cX6_lots 1 = .ok (.getfield 18, 3) := by decide +kernel
theorem dX6_lots_4 : decode cX6_lots 4 = .ok (.aload_n 0, 1) := by decide +kernel
theorem dX6_lots_5 : decode cX6_lots 5 = .ok (.getfield 12, 3) := by decide +kernel
theorem dX6_lots_8 : decode cX6_lots 8 = .ok (.invokevirtual 151, 3) := by decide +kernel
theorem dX6_lots_11 : decode cX6_lots 11 = .ok (.aload_n 0, 1) := by decide +kernel
theorem dX6_lots_12 : decode cX6_lots 12 = .ok (.getfield 18, 3) := by decide +kernel
theorem dX6_lots_15 : decode cX6_lots 15 = .ok (.bipush 20, 2) := by decide +kernel
theorem dX6_lots_17 : decode cX6_lots 17 = .ok (.invokevirtual 147, 3) := by decide +kernel
theorem dX6_lots_20 : decode cX6_lots 20 = .ok (.aload_n 0, 1) := by decide +kernel
theorem dX6_lots_21 : decode cX6_lots 21 = .ok (.getfield 18, 3) := by decide +kernel
theorem dX6_lots_24 : decode cX6_lots 24 = .ok (.invokevirtual 144, 3) := by decide +kernel
theorem dX6_lots_27 : decode cX6_lots 27 = .ok (.istore_n 1, 1) := by decide +kernel
theorem dX6_lots_28 : decode cX6_lots 28 = .ok (.bipush (-5), 2) := by decide +kernel
theorem dX6_lots_30 : decode cX6_lots 30 = .ok (.istore_n 2, 1) := by decide +kernel
theorem dX6_lots_31 : decode cX6_lots 31 = .ok (.iconst 0, 1) := by decide +kernel
theorem dX6_lots_32 : decode cX6_lots 32 = .ok (.istore_n 3, 1) := by decide +kernel
theorem dX6_lots_33 : decode cX6_lots 33 = .ok (.iload_n 3, 1) := by decide +kernel
theorem dX6_lots_34 : decode cX6_lots 34 = .ok (.aload_n 0, 1) := by decide +kernel
theorem dX6_lots_35 : decode cX6_lots 35 = .ok (.getfield 12, 3) := by decide +kernel
theorem dX6_lots_38 : decode cX6_lots 38 = .ok (.getfield 79, 3) := by decide +kernel
theorem dX6_lots_41 : decode cX6_lots 41 = .ok (.if_icmp .ge 116, 3) := by decide +kernel
theorem dX6_lots_44 : decode cX6_lots 44 = .ok (.iload_n 3, 1) := by decide +kernel
theorem dX6_lots_45 : decode cX6_lots 45 = .ok (.iconst 1, 1) := by decide +kernel
theorem dX6_lots_46 : decode cX6_lots 46 = .ok (.iadd, 1) := by decide +kernel
theorem dX6_lots_47 : decode cX6_lots 47 = .ok (.istore 4, 2) := by decide +kernel
theorem dX6_lots_49 : decode cX6_lots 49 = .ok (.iload 4, 2) := by decide +kernel
theorem dX6_lots_51 : decode cX6_lots 51 = .ok (.aload_n 0, 1) := by decide +kernel
theorem dX6_lots_52 : decode cX6_lots 52 = .ok (.getfield 12, 3) := by decide +kernel
theorem dX6_lots_55 : decode cX6_lots 55 = .ok (.getfield 79, 3) := by decide +kernel
theorem dX6_lots_58 : decode cX6_lots 58 = .ok (.if_icmp .ge 93, 3) := by decide +kernel
theorem dX6_lots_61 : decode cX6_lots 61 = .ok (.aload_n 0, 1) := by decide +kernel
theorem dX6_lots_62 : decode cX6_lots 62 = .ok (.getfield 18, 3) := by decide +kernel
theorem dX6_lots_65 : decode cX6_lots 65 = .ok (.aload_n 0, 1) := by decide +kernel
theorem dX6_lots_66 : decode cX6_lots 66 = .ok (.getfield 12, 3) := by decide +kernel
theorem dX6_lots_69 : decode cX6_lots 69 = .ok (.invokevirtual 151, 3) := by decide +kernel
theorem dX6_lots_72 : decode cX6_lots 72 = .ok (.aload_n 0, 1) := by decide +kernel
theorem dX6_lots_73 : decode cX6_lots 73 = .ok (.getfield 18, 3) := by decide +kernel
theorem dX6_lots_76 : decode cX6_lots 76 = .ok (.getfield 96, 3) := by decide +kernel
theorem dX6_lots_79 : decode cX6_lots 79 = .ok (.iload_n 3, 1) := by decide +kernel
theorem dX6_lots_80 : decode cX6_lots 80 = .ok (.aload_n 0, 1) := by decide +kernel
theorem dX6_lots_81 : decode cX6_lots 81 = .ok (.getfield 12, 3) := by decide +kernel
theorem dX6_lots_84 : decode cX6_lots 84 = .ok (.getfield 96, 3) := by decide +kernel
theorem dX6_lots_87 : decode cX6_lots 87 = .ok (.iload 4, 2) := by decide +kernel
theorem dX6_lots_89 : decode cX6_lots 89 = .ok (.iaload, 1) := by decide +kernel
theorem dX6_lots_90 : decode cX6_lots 90 = .ok (.iastore, 1) := by decide +kernel
theorem dX6_lots_91 : decode cX6_lots 91 = .ok (.aload_n 0, 1) := by decide +kernel
theorem dX6_lots_92 : decode cX6_lots 92 = .ok (.getfield 18, 3) := by decide +kernel
theorem dX6_lots_95 : decode cX6_lots 95 = .ok (.getfield 96, 3) := by decide +kernel
theorem dX6_lots_98 : decode cX6_lots 98 = .ok (.iload 4, 2) := by decide +kernel
theorem dX6_lots_100 : decode cX6_lots 100 = .ok (.aload_n 0, 1) := by decide +kernel
theorem dX6_lots_101 : decode cX6_lots 101 = .ok (.getfield 12, 3) := by decide +kernel
theorem dX6_lots_104 : decode cX6_lots 104 = .ok (.getfield 96, 3) := by decide +kernel
theorem dX6_lots_107 : decode cX6_lots 107 = .ok (.iload_n 3, 1) := by decide +kernel
theorem dX6_lots_108 : decode cX6_lots 108 = .ok (.iaload, 1) := by decide +kernel
theorem dX6_lots_109 : decode cX6_lots 109 = .ok (.iastore, 1) := by decide +kernel
theorem dX6_lots_110 : decode cX6_lots 110 = .ok (.aload_n 0, 1) := by decide +kernel
theorem dX6_lots_111 : decode cX6_lots 111 = .ok (.getfield 18, 3) := by decide +kernel
theorem dX6_lots_114 : decode cX6_lots 114 = .ok (.bipush 20, 2) := by decide +kernel
theorem dX6_lots_116 : decode cX6_lots 116 = .ok (.invokevirtual 147, 3) := by decide +kernel
theorem dX6_lots_119 : decode cX6_lots 119 = .ok (.aload_n 0, 1) := by decide +kernel
theorem dX6_lots_120 : decode cX6_lots 120 = .ok (.getfield 18, 3) := by decide +kernel
theorem dX6_lots_123 : decode cX6_lots 123 = .ok (.invokevirtual 144, 3) := by decide +kernel
theorem dX6_lots_126 : decode cX6_lots 126 = .ok (.istore 5, 2) := by decide +kernel
theorem dX6_lots_128 : decode cX6_lots 128 = .ok (.iload 5, 2) := by decide +kernel
theorem dX6_lots_130 : decode cX6_lots 130 = .ok (.iload_n 1, 1) := by decide +kernel
theorem dX6_lots_131 : decode cX6_lots 131 = .ok (.if_icmp .le 14, 3) := by decide +kernel
theorem dX6_lots_134 : decode cX6_lots 134 = .ok (.iload 5, 2) := by decide +kernel
theorem dX6_lots_136 : decode cX6_lots 136 = .ok (.istore_n 1, 1) := by decide +kernel
theorem dX6_lots_137 : decode cX6_lots 137 = .ok (.bipush 10, 2) := by decide +kernel
theorem dX6_lots_139 : decode cX6_lots 139 = .ok (.iload_n 3, 1) := by decide +kernel
theorem dX6_lots_140 : decode cX6_lots 140 = .ok (.imul, 1) := by decide +kernel
theorem dX6_lots_141 : decode cX6_lots 141 = .ok (.iload 4, 2) := by decide +kernel
theorem dX6_lots_143 : decode cX6_lots 143 = .ok (.iadd, 1) := by decide +kernel
theorem dX6_lots_144 : decode cX6_lots 144 = .ok (.istore_n 2, 1) := by decide +kernel
theorem dX6_lots_145 : decode cX6_lots 145 = .ok (.iinc 4 1, 3) := by decide +kernel
theorem dX6_lots_148 : decode cX6_lots 148 = .ok (.goto (-99), 3) := by decide +kernel
theorem dX6_lots_151 : decode cX6_lots 151 = .ok (.iinc 3 1, 3) := by decide +kernel
theorem dX6_lots_154 : decode cX6_lots 154 = .ok (.goto (-121), 3) := by decide +kernel
theorem dX6_lots_157 : decode cX6_lots 157 = .ok (.iload_n 2, 1) := by decide +kernel
theorem dX6_lots_158 : decode cX6_lots 158 = .ok (.ireturn, 1) := by decide +kernel
theorem dX6_build_0 : decode cX6_build 0 = .ok (.iload_n 1, 1) := by decide +kernel
theorem dX6_build_1 : decode cX6_build 1 = .ok (.invokestatic 69, 3) := by decide +kernel
theorem dX6_build_4 : decode cX6_build 4 = .ok (.ifCond .eq 11, 3) := by decide +kernel
theorem dX6_build_7 : decode cX6_build 7 = .ok (.iload 4, 2) := by decide +kernel
theorem dX6_build_9 : decode cX6_build 9 = .ok (.invokestatic 160, 3) := by decide +kernel
theorem dX6_build_12 : decode cX6_build 12 = .ok (.ifCond .ne 5, 3) := by decide +kernel
theorem dX6_build_15 : decode cX6_build 15 = .ok (.iconst (-1), 1) := by decide +kernel
theorem dX6_build_16 : decode cX6_build 16 = .ok (.ireturn, 1) := by decide +kernel
theorem dX6_build_17 : decode cX6_build 17 = .ok (.iload_n 2, 1) := by decide +kernel
theorem dX6_build_18 : decode cX6_build 18 = .ok (.invokestatic 73, 3) := by decide +kernel
theorem dX6_build_21 : decode cX6_build 21 = .ok (.ifCond .eq 10, 3) := by decide +kernel
theorem dX6_build_24 : decode cX6_build 24 = .ok (.iload_n 3, 1) := by decide +kernel
theorem dX6_build_25 : decode cX6_build 25 = .ok (.invokestatic 76, 3) := by decide +kernel
theorem dX6_build_28 : decode cX6_build 28 = .ok (.ifCond .ne 6, 3) := by decide +kernel
theorem dX6_build_31 : decode cX6_build 31 = .ok (.bipush (-2), 2) := by decide +kernel
theorem dX6_build_33 : decode cX6_build 33 = .ok (.ireturn, 1) := by decide +kernel
theorem dX6_build_34 : decode cX6_build 34 = .ok (.aload_n 0, 1) := by decide +kernel
theorem dX6_build_35 : decode cX6_build 35 = .ok (.getfield 12, 3) := by decide +kernel
theorem dX6_build_38 : decode cX6_build 38 = .ok (.getfield 79, 3) := by decide +kernel
theorem dX6_build_41 : decode cX6_build 41 = .ok (.bipush 7, 2) := by decide +kernel
theorem dX6_build_43 : decode cX6_build 43 = .ok (.if_icmp .lt 6, 3) := by decide +kernel
theorem dX6_build_46 : decode cX6_build 46 = .ok (.bipush (-9), 2) := by decide +kernel
theorem dX6_build_48 : decode cX6_build 48 = .ok (.ireturn, 1) := by decide +kernel
theorem dX6_build_49 : decode cX6_build 49 = .ok (.iconst 0, 1) := by decide +kernel
theorem dX6_build_50 : decode cX6_build 50 = .ok (.istore 5, 2) := by decide +kernel
theorem dX6_build_52 : decode cX6_build 52 = .ok (.iconst (-1), 1) := by decide +kernel
theorem dX6_build_53 : decode cX6_build 53 = .ok (.istore 6, 2) := by decide +kernel
theorem dX6_build_55 : decode cX6_build 55 = .ok (.iconst 0, 1) := by decide +kernel
theorem dX6_build_56 : decode cX6_build 56 = .ok (.istore 7, 2) := by decide +kernel
theorem dX6_build_58 : decode cX6_build 58 = .ok (.iload 7, 2) := by decide +kernel
theorem dX6_build_60 : decode cX6_build 60 = .ok (.aload_n 0, 1) := by decide +kernel
theorem dX6_build_61 : decode cX6_build 61 = .ok (.getfield 12, 3) := by decide +kernel
theorem dX6_build_64 : decode cX6_build 64 = .ok (.getfield 79, 3) := by decide +kernel
theorem dX6_build_67 : decode cX6_build 67 = .ok (.if_icmp .gt 65, 3) := by decide +kernel
theorem dX6_build_70 : decode cX6_build 70 = .ok (.aload_n 0, 1) := by decide +kernel
theorem dX6_build_71 : decode cX6_build 71 = .ok (.getfield 18, 3) := by decide +kernel
theorem dX6_build_74 : decode cX6_build 74 = .ok (.aload_n 0, 1) := by decide +kernel
theorem dX6_build_75 : decode cX6_build 75 = .ok (.getfield 12, 3) := by decide +kernel
theorem dX6_build_78 : decode cX6_build 78 = .ok (.invokevirtual 151, 3) := by decide +kernel
theorem dX6_build_81 : decode cX6_build 81 = .ok (.aload_n 0, 1) := by decide +kernel
theorem dX6_build_82 : decode cX6_build 82 = .ok (.getfield 18, 3) := by decide +kernel
theorem dX6_build_85 : decode cX6_build 85 = .ok (.iload 7, 2) := by decide +kernel
theorem dX6_build_87 : decode cX6_build 87 = .ok (.iload_n 1, 1) := by decide +kernel
theorem dX6_build_88 : decode cX6_build 88 = .ok (.iload_n 2, 1) := by decide +kernel
theorem dX6_build_89 : decode cX6_build 89 = .ok (.iload_n 3, 1) := by decide +kernel
theorem dX6_build_90 : decode cX6_build 90 = .ok (.invokevirtual 83, 3) := by decide +kernel
theorem dX6_build_93 : decode cX6_build 93 = .ok (.aload_n 0, 1) := by decide +kernel
theorem dX6_build_94 : decode cX6_build 94 = .ok (.getfield 18, 3) := by decide +kernel
theorem dX6_build_97 : decode cX6_build 97 = .ok (.bipush 20, 2) := by decide +kernel
theorem dX6_build_99 : decode cX6_build 99 = .ok (.invokevirtual 147, 3) := by decide +kernel
theorem dX6_build_102 : decode cX6_build 102 = .ok (.aload_n 0, 1) := by decide +kernel
theorem dX6_build_103 : decode cX6_build 103 = .ok (.getfield 18, 3) := by decide +kernel
theorem dX6_build_106 : decode cX6_build 106 = .ok (.invokevirtual 144, 3) := by decide +kernel
theorem dX6_build_109 : decode cX6_build 109 = .ok (.istore 8, 2) := by decide +kernel
theorem dX6_build_111 : decode cX6_build 111 = .ok (.iload 8, 2) := by decide +kernel
theorem dX6_build_113 : decode cX6_build 113 = .ok (.iload 6, 2) := by decide +kernel
theorem dX6_build_115 : decode cX6_build 115 = .ok (.if_icmp .le 11, 3) := by decide +kernel
theorem dX6_build_118 : decode cX6_build 118 = .ok (.iload 8, 2) := by decide +kernel
theorem dX6_build_120 : decode cX6_build 120 = .ok (.istore 6, 2) := by decide +kernel
theorem dX6_build_122 : decode cX6_build 122 = .ok (.iload 7, 2) := by decide +kernel
theorem dX6_build_124 : decode cX6_build 124 = .ok (.istore 5, 2) := by decide +kernel
theorem dX6_build_126 : decode cX6_build 126 = .ok (.iinc 7 1, 3) := by decide +kernel
theorem dX6_build_129 : decode cX6_build 129 = .ok (.goto (-71), 3) := by decide +kernel
theorem dX6_build_132 : decode cX6_build 132 = .ok (.iload 4, 2) := by decide +kernel
theorem dX6_build_134 : decode cX6_build 134 = .ok (.ifCond .ne 8, 3) := by decide +kernel
theorem dX6_build_137 : decode cX6_build 137 = .ok (.iload 5, 2) := by decide +kernel
theorem dX6_build_139 : decode cX6_build 139 = .ok (.goto 5, 3) := by decide +kernel
theorem dX6_build_142 : decode cX6_build 142 = .ok (.iload 6, 2) := by decide +kernel
theorem dX6_build_144 : decode cX6_build 144 = .ok (.ireturn, 1) := by decide +kernel
theorem dX6_down_0 : decode cX6_down 0 = .ok (.iload_n 1, 1) := by decide +kernel
theorem dX6_down_1 : decode cX6_down 1 = .ok (.invokestatic 160, 3) := by decide +kernel
theorem dX6_down_4 : decode cX6_down 4 = .ok (.ifCond .ne 5, 3) := by decide +kernel
theorem dX6_down_7 : decode cX6_down 7 = .ok (.iconst (-1), 1) := by decide +kernel
theorem dX6_down_8 : decode cX6_down 8 = .ok (.ireturn, 1) := by decide +kernel
theorem dX6_down_9 : decode cX6_down 9 = .ok (.bipush (-5), 2) := by decide +kernel
theorem dX6_down_11 : decode cX6_down 11 = .ok (.istore_n 2, 1) := by decide +kernel
theorem dX6_down_12 : decode cX6_down 12 = .ok (.bipush (-5), 2) := by decide +kernel
theorem dX6_down_14 : decode cX6_down 14 = .ok (.istore_n 3, 1) := by decide +kernel
theorem dX6_down_15 : decode cX6_down 15 = .ok (.iconst 0, 1) := by decide +kernel
theorem dX6_down_16 : decode cX6_down 16 = .ok (.istore 4, 2) := by decide +kernel
theorem dX6_down_18 : decode cX6_down 18 = .ok (.iload 4, 2) := by decide +kernel
theorem dX6_down_20 : decode cX6_down 20 = .ok (.aload_n 0, 1) := by decide +kernel
theorem dX6_down_21 : decode cX6_down 21 = .ok (.getfield 12, 3) := by decide +kernel
theorem dX6_down_24 : decode cX6_down 24 = .ok (.getfield 79, 3) := by decide +kernel
theorem dX6_down_27 : decode cX6_down 27 = .ok (.if_icmp .ge 59, 3) := by decide +kernel
theorem dX6_down_30 : decode cX6_down 30 = .ok (.aload_n 0, 1) := by decide +kernel
theorem dX6_down_31 : decode cX6_down 31 = .ok (.getfield 18, 3) := by decide +kernel
theorem dX6_down_34 : decode cX6_down 34 = .ok (.aload_n 0, 1) := by decide +kernel
theorem dX6_down_35 : decode cX6_down 35 = .ok (.getfield 12, 3) := by decide +kernel
theorem dX6_down_38 : decode cX6_down 38 = .ok (.invokevirtual 151, 3) := by decide +kernel
theorem dX6_down_41 : decode cX6_down 41 = .ok (.aload_n 0, 1) := by decide +kernel
theorem dX6_down_42 : decode cX6_down 42 = .ok (.getfield 18, 3) := by decide +kernel
theorem dX6_down_45 : decode cX6_down 45 = .ok (.iload 4, 2) := by decide +kernel
theorem dX6_down_47 : decode cX6_down 47 = .ok (.invokevirtual 167, 3) := by decide +kernel
theorem dX6_down_50 : decode cX6_down 50 = .ok (.aload_n 0, 1) := by decide +kernel
theorem dX6_down_51 : decode cX6_down 51 = .ok (.getfield 18, 3) := by decide +kernel
theorem dX6_down_54 : decode cX6_down 54 = .ok (.bipush 20, 2) := by decide +kernel
theorem dX6_down_56 : decode cX6_down 56 = .ok (.invokevirtual 147, 3) := by decide +kernel
theorem dX6_down_59 : decode cX6_down 59 = .ok (.aload_n 0, 1) := by decide +kernel
theorem dX6_down_60 : decode cX6_down 60 = .ok (.getfield 18, 3) := by decide +kernel
theorem dX6_down_63 : decode cX6_down 63 = .ok (.invokevirtual 144, 3) := by decide +kernel
theorem dX6_down_66 : decode cX6_down 66 = .ok (.istore 5, 2) := by decide +kernel
theorem dX6_down_68 : decode cX6_down 68 = .ok (.iload 5, 2) := by decide +kernel
theorem dX6_down_70 : decode cX6_down 70 = .ok (.iload_n 3, 1) := by decide +kernel
theorem dX6_down_71 : decode cX6_down 71 = .ok (.if_icmp .le 9, 3) := by decide +kernel
theorem dX6_down_74 : decode cX6_down 74 = .ok (.iload 5, 2) := by decide +kernel
theorem dX6_down_76 : decode cX6_down 76 = .ok (.istore_n 3, 1) := by decide +kernel
theorem dX6_down_77 : decode cX6_down 77 = .ok (.iload 4, 2) := by decide +kernel
theorem dX6_down_79 : decode cX6_down 79 = .ok (.istore_n 2, 1) := by decide +kernel
theorem dX6_down_80 : decode cX6_down 80 = .ok (.iinc 4 1, 3) := by decide +kernel
theorem dX6_down_83 : decode cX6_down 83 = .ok (.goto (-65), 3) := by decide +kernel
theorem dX6_down_86 : decode cX6_down 86 = .ok (.iload_n 1, 1) := by decide +kernel
theorem dX6_down_87 : decode cX6_down 87 = .ok (.ifCond .ne 7, 3) := by decide +kernel
theorem dX6_down_90 : decode cX6_down 90 = .ok (.iload_n 2, 1) := by decide +kernel
theorem dX6_down_91 : decode cX6_down 91 = .ok (.goto 4, 3) := by decide +kernel
theorem dX6_down_94 : decode cX6_down 94 = .ok (.iload_n 3, 1) := by decide +kernel
theorem dX6_down_95 : decode cX6_down 95 = .ok (.ireturn, 1) := by decide +kernel
theorem dX6_before_0 : decode cX6_before 0 = .ok (.iload_n 1, 1) := by decide +kernel
theorem dX6_before_1 : decode cX6_before 1 = .ok (.iconst (-1), 1) := by decide +kernel
theorem dX6_before_2 : decode cX6_before 2 = .ok (.if_icmp .eq 13, 3) := by decide +kernel
theorem dX6_before_5 : decode cX6_before 5 = .ok (.aload_n 0, 1) := by decide +kernel
theorem dX6_before_6 : decode cX6_before 6 = .ok (.iload_n 1, 1) := by decide +kernel
theorem dX6_before_7 : decode cX6_before 7 = .ok (.invokevirtual 87, 3) := by decide +kernel
theorem dX6_before_10 : decode cX6_before 10 = .ok (.ifCond .ne 5, 3) := by decide +kernel
theorem dX6_before_13 : decode cX6_before 13 = .ok (.iconst (-1), 1) := by decide +kernel
theorem dX6_before_14 : decode cX6_before 14 = .ok (.ireturn, 1) := by decide +kernel
theorem dX6_before_15 : decode cX6_before 15 = .ok (.aload_n 0, 1) := by decide +kernel
theorem dX6_before_16 : decode cX6_before 16 = .ok (.getfield 12, 3) := by decide +kernel
theorem dX6_before_19 : decode cX6_before 19 = .ok (.getfield 79, 3) := by decide +kernel
theorem dX6_before_22 : decode cX6_before 22 = .ok (.iconst 4, 1) := by decide +kernel
theorem dX6_before_23 : decode cX6_before 23 = .ok (.if_icmp .le 6, 3) := by decide +kernel
theorem dX6_before_26 : decode cX6_before 26 = .ok (.bipush (-9), 2) := by decide +kernel
theorem dX6_before_28 : decode cX6_before 28 = .ok (.ireturn, 1) := by decide +kernel
theorem dX6_before_29 : decode cX6_before 29 = .ok (.aload_n 0, 1) := by decide +kernel
theorem dX6_before_30 : decode cX6_before 30 = .ok (.getfield 12, 3) := by decide +kernel
theorem dX6_before_33 : decode cX6_before 33 = .ok (.getfield 137, 3) := by decide +kernel
theorem dX6_before_36 : decode cX6_before 36 = .ok (.ifCond .ne 6, 3) := by decide +kernel
theorem dX6_before_39 : decode cX6_before 39 = .ok (.bipush (-8), 2) := by decide +kernel
theorem dX6_before_41 : decode cX6_before 41 = .ok (.ireturn, 1) := by decide +kernel
theorem dX6_before_42 : decode cX6_before 42 = .ok (.aload_n 0, 1) := by decide +kernel
theorem dX6_before_43 : decode cX6_before 43 = .ok (.invokevirtual 170, 3) := by decide +kernel
theorem dX6_before_46 : decode cX6_before 46 = .ok (.istore_n 2, 1) := by decide +kernel
theorem dX6_before_47 : decode cX6_before 47 = .ok (.iconst 1, 1) := by decide +kernel
theorem dX6_before_48 : decode cX6_before 48 = .ok (.istore_n 3, 1) := by decide +kernel
theorem dX6_before_49 : decode cX6_before 49 = .ok (.iconst 0, 1) := by decide +kernel
theorem dX6_before_50 : decode cX6_before 50 = .ok (.istore 4, 2) := by decide +kernel
theorem dX6_before_52 : decode cX6_before 52 = .ok (.iload 4, 2) := by decide +kernel
theorem dX6_before_54 : decode cX6_before 54 = .ok (.aload_n 0, 1) := by decide +kernel
theorem dX6_before_55 : decode cX6_before 55 = .ok (.getfield 12, 3) := by decide +kernel
theorem dX6_before_58 : decode cX6_before 58 = .ok (.getfield 79, 3) := by decide +kernel
theorem dX6_before_61 : decode cX6_before 61 = .ok (.if_icmp .ge 13, 3) := by decide +kernel
theorem dX6_before_64 : decode cX6_before 64 = .ok (.iload_n 3, 1) := by decide +kernel
theorem dX6_before_65 : decode cX6_before 65 = .ok (.iload_n 2, 1) := by decide +kernel
theorem dX6_before_66 : decode cX6_before 66 = .ok (.imul, 1) := by decide +kernel
theorem dX6_before_67 : decode cX6_before 67 = .ok (.istore_n 3, 1) := by decide +kernel
theorem dX6_before_68 : decode cX6_before 68 = .ok (.iinc 4 1, 3) := by decide +kernel
theorem dX6_before_71 : decode cX6_before 71 = .ok (.goto (-19), 3) := by decide +kernel
theorem dX6_before_74 : decode cX6_before 74 = .ok (.aload_n 0, 1) := by decide +kernel
theorem dX6_before_75 : decode cX6_before 75 = .ok (.getfield 18, 3) := by decide +kernel
theorem dX6_before_78 : decode cX6_before 78 = .ok (.aload_n 0, 1) := by decide +kernel
theorem dX6_before_79 : decode cX6_before 79 = .ok (.getfield 12, 3) := by decide +kernel
theorem dX6_before_82 : decode cX6_before 82 = .ok (.invokevirtual 151, 3) := by decide +kernel
theorem dX6_before_85 : decode cX6_before 85 = .ok (.iconst 0, 1) := by decide +kernel
theorem dX6_before_86 : decode cX6_before 86 = .ok (.istore 4, 2) := by decide +kernel
theorem dX6_before_88 : decode cX6_before 88 = .ok (.bipush (-5), 2) := by decide +kernel
theorem dX6_before_90 : decode cX6_before 90 = .ok (.istore 5, 2) := by decide +kernel
theorem dX6_before_92 : decode cX6_before 92 = .ok (.iconst 0, 1) := by decide +kernel
theorem dX6_before_93 : decode cX6_before 93 = .ok (.istore 6, 2) := by decide +kernel
theorem dX6_before_95 : decode cX6_before 95 = .ok (.iload 6, 2) := by decide +kernel
theorem dX6_before_97 : decode cX6_before 97 = .ok (.iload_n 3, 1) := by decide +kernel
theorem dX6_before_98 : decode cX6_before 98 = .ok (.if_icmp .ge 84, 3) := by decide +kernel
theorem dX6_before_101 : decode cX6_before 101 = .ok (.aload_n 0, 1) := by decide +kernel
theorem dX6_before_102 : decode cX6_before 102 = .ok (.iload 6, 2) := by decide +kernel
theorem dX6_before_104 : decode cX6_before 104 = .ok (.iload_n 2, 1) := by decide +kernel
theorem dX6_before_105 : decode cX6_before 105 = .ok (.invokevirtual 173, 3) := by decide +kernel
theorem dX6_before_108 : decode cX6_before 108 = .ok (.iload_n 1, 1) := by decide +kernel
theorem dX6_before_109 : decode cX6_before 109 = .ok (.iconst (-1), 1) := by decide +kernel
theorem dX6_before_110 : decode cX6_before 110 = .ok (.if_icmp .ne 7, 3) := by decide +kernel
theorem dX6_before_113 : decode cX6_before 113 = .ok (.iconst 0, 1) := by decide +kernel
theorem dX6_before_114 : decode cX6_before 114 = .ok (.goto 12, 3) := by decide +kernel
theorem dX6_before_117 : decode cX6_before 117 = .ok (.aload_n 0, 1) := by decide +kernel
theorem dX6_before_118 : decode cX6_before 118 = .ok (.getfield 18, 3) := by decide +kernel
theorem dX6_before_121 : decode cX6_before 121 = .ok (.getfield 96, 3) := by decide +kernel
theorem dX6_before_124 : decode cX6_before 124 = .ok (.iload_n 1, 1) := by decide +kernel
theorem dX6_before_125 : decode cX6_before 125 = .ok (.iaload, 1) := by decide +kernel
theorem dX6_before_126 : decode cX6_before 126 = .ok (.istore 7, 2) := by decide +kernel
theorem dX6_before_128 : decode cX6_before 128 = .ok (.aload_n 0, 1) := by decide +kernel
theorem dX6_before_129 : decode cX6_before 129 = .ok (.getfield 18, 3) := by decide +kernel
theorem dX6_before_132 : decode cX6_before 132 = .ok (.aload_n 0, 1) := by decide +kernel
theorem dX6_before_133 : decode cX6_before 133 = .ok (.getfield 12, 3) := by decide +kernel
theorem dX6_before_136 : decode cX6_before 136 = .ok (.getfield 137, 3) := by decide +kernel
theorem dX6_before_139 : decode cX6_before 139 = .ok (.iconst 1, 1) := by decide +kernel
theorem dX6_before_140 : decode cX6_before 140 = .ok (.isub, 1) := by decide +kernel
theorem dX6_before_141 : decode cX6_before 141 = .ok (.putfield 137, 3) := by decide +kernel
theorem dX6_before_144 : decode cX6_before 144 = .ok (.aload_n 0, 1) := by decide +kernel
theorem dX6_before_145 : decode cX6_before 145 = .ok (.getfield 18, 3) := by decide +kernel
theorem dX6_before_148 : decode cX6_before 148 = .ok (.iconst 1, 1) := by decide +kernel
theorem dX6_before_149 : decode cX6_before 149 = .ok (.invokevirtual 147, 3) := by decide +kernel
theorem dX6_before_152 : decode cX6_before 152 = .ok (.aload_n 0, 1) := by decide +kernel
theorem dX6_before_153 : decode cX6_before 153 = .ok (.invokevirtual 176, 3) := by decide +kernel
theorem dX6_before_156 : decode cX6_before 156 = .ok (.ifCond .eq 20, 3) := by decide +kernel
theorem dX6_before_159 : decode cX6_before 159 = .ok (.iload 4, 2) := by decide +kernel
theorem dX6_before_161 : decode cX6_before 161 = .ok (.ifCond .ne 8, 3) := by decide +kernel
theorem dX6_before_164 : decode cX6_before 164 = .ok (.iload 7, 2) := by decide +kernel
theorem dX6_before_166 : decode cX6_before 166 = .ok (.goto 5, 3) := by decide +kernel
theorem dX6_before_169 : decode cX6_before 169 = .ok (.iload 5, 2) := by decide +kernel
theorem dX6_before_171 : decode cX6_before 171 = .ok (.istore 5, 2) := by decide +kernel
theorem dX6_before_173 : decode cX6_before 173 = .ok (.iinc 4 1, 3) := by decide +kernel
theorem dX6_before_176 : decode cX6_before 176 = .ok (.iinc 6 1, 3) := by decide +kernel
theorem dX6_before_179 : decode cX6_before 179 = .ok (.goto (-84), 3) := by decide +kernel
theorem dX6_before_182 : decode cX6_before 182 = .ok (.iload_n 1, 1) := by decide +kernel
theorem dX6_before_183 : decode cX6_before 183 = .ok (.iconst (-1), 1) := by decide +kernel
theorem dX6_before_184 : decode cX6_before 184 = .ok (.if_icmp .ne 8, 3) := by decide +kernel
theorem dX6_before_187 : decode cX6_before 187 = .ok (.iload 4, 2) := by decide +kernel
theorem dX6_before_189 : decode cX6_before 189 = .ok (.goto 5, 3) := by decide +kernel
theorem dX6_before_192 : decode cX6_before 192 = .ok (.iload 5, 2) := by decide +kernel
theorem dX6_before_194 : decode cX6_before 194 = .ok (.ireturn, 1) := by decide +kernel
theorem dX6_see_0 : decode cX6_see 0 = .ok (.iload_n 1, 1) := by decide +kernel
theorem dX6_see_1 : decode cX6_see 1 = .ok (.iconst (-1), 1) := by decide +kernel
theorem dX6_see_2 : decode cX6_see 2 = .ok (.if_icmp .ne 13, 3) := by decide +kernel
theorem dX6_see_5 : decode cX6_see 5 = .ok (.aload_n 0, 1) := by decide +kernel
theorem dX6_see_6 : decode cX6_see 6 = .ok (.getfield 27, 3) := by decide +kernel
theorem dX6_see_9 : decode cX6_see 9 = .ok (.iconst 0, 1) := by decide +kernel
theorem dX6_see_10 : decode cX6_see 10 = .ok (.putfield 179, 3) := by decide +kernel
theorem dX6_see_13 : decode cX6_see 13 = .ok (.iconst 0, 1) := by decide +kernel
theorem dX6_see_14 : decode cX6_see 14 = .ok (.ireturn, 1) := by decide +kernel
theorem dX6_see_15 : decode cX6_see 15 = .ok (.aload_n 0, 1) := by decide +kernel
theorem dX6_see_16 : decode cX6_see 16 = .ok (.iload_n 1, 1) := by decide +kernel
theorem dX6_see_17 : decode cX6_see 17 = .ok (.invokevirtual 87, 3) := by decide +kernel
theorem dX6_see_20 : decode cX6_see 20 = .ok (.ifCond .ne 5, 3) := by decide +kernel
theorem dX6_see_23 : decode cX6_see 23 = .ok (.iconst (-1), 1) := by decide +kernel
theorem dX6_see_24 : decode cX6_see 24 = .ok (.ireturn, 1) := by decide +kernel
theorem dX6_see_25 : decode cX6_see 25 = .ok (.iload_n 2, 1) := by decide +kernel
theorem dX6_see_26 : decode cX6_see 26 = .ok (.invokestatic 76, 3) := by decide +kernel
theorem dX6_see_29 : decode cX6_see 29 = .ok (.ifCond .ne 6, 3) := by decide +kernel
theorem dX6_see_32 : decode cX6_see 32 = .ok (.bipush (-2), 2) := by decide +kernel
theorem dX6_see_34 : decode cX6_see 34 = .ok (.ireturn, 1) := by decide +kernel
theorem dX6_see_35 : decode cX6_see 35 = .ok (.aload_n 0, 1) := by decide +kernel
theorem dX6_see_36 : decode cX6_see 36 = .ok (.getfield 27, 3) := by decide +kernel
theorem dX6_see_39 : decode cX6_see 39 = .ok (.iload_n 1, 1) := by decide +kernel
theorem dX6_see_40 : decode cX6_see 40 = .ok (.iload_n 2, 1) := by decide +kernel
theorem dX6_see_41 : decode cX6_see 41 = .ok (.invokevirtual 182, 3) := by decide +kernel
theorem dX6_see_44 : decode cX6_see 44 = .ok (.ireturn, 1) := by decide +kernel
theorem dX6_lied_0 : decode cX6_lied 0 = .ok (.iload_n 1, 1) := by decide +kernel
theorem dX6_lied_1 : decode cX6_lied 1 = .ok (.invokestatic 160, 3) := by decide +kernel
theorem dX6_lied_4 : decode cX6_lied 4 = .ok (.ifCond .ne 5, 3) := by decide +kernel
theorem dX6_lied_7 : decode cX6_lied 7 = .ok (.iconst (-1), 1) := by decide +kernel
theorem dX6_lied_8 : decode cX6_lied 8 = .ok (.ireturn, 1) := by decide +kernel
theorem dX6_lied_9 : decode cX6_lied 9 = .ok (.aload_n 0, 1) := by decide +kernel
theorem dX6_lied_10 : decode cX6_lied 10 = .ok (.getfield 18, 3) := by decide +kernel
theorem dX6_lied_13 : decode cX6_lied 13 = .ok (.aload_n 0, 1) := by decide +kernel
theorem dX6_lied_14 : decode cX6_lied 14 = .ok (.getfield 12, 3) := by decide +kernel
theorem dX6_lied_17 : decode cX6_lied 17 = .ok (.invokevirtual 151, 3) := by decide +kernel
theorem dX6_lied_20 : decode cX6_lied 20 = .ok (.iload_n 1, 1) := by decide +kernel
theorem dX6_lied_21 : decode cX6_lied 21 = .ok (.iconst 1, 1) := by decide +kernel
theorem dX6_lied_22 : decode cX6_lied 22 = .ok (.if_icmp .ne 17, 3) := by decide +kernel
theorem dX6_lied_25 : decode cX6_lied 25 = .ok (.aload_n 0, 1) := by decide +kernel
theorem dX6_lied_26 : decode cX6_lied 26 = .ok (.iconst (-1), 1) := by decide +kernel
theorem dX6_lied_27 : decode cX6_lied 27 = .ok (.invokevirtual 186, 3) := by decide +kernel
theorem dX6_lied_30 : decode cX6_lied 30 = .ok (.ifCond .eq 7, 3) := by decide +kernel
theorem dX6_lied_33 : decode cX6_lied 33 = .ok (.iconst 1, 1) := by decide +kernel
theorem dX6_lied_34 : decode cX6_lied 34 = .ok (.goto 4, 3) := by decide +kernel
theorem dX6_lied_37 : decode cX6_lied 37 = .ok (.iconst 0, 1) := by decide +kernel
theorem dX6_lied_38 : decode cX6_lied 38 = .ok (.ireturn, 1) := by decide +kernel
theorem dX6_lied_39 : decode cX6_lied 39 = .ok (.iconst 0, 1) := by decide +kernel
theorem dX6_lied_40 : decode cX6_lied 40 = .ok (.istore_n 2, 1) := by decide +kernel
theorem dX6_lied_41 : decode cX6_lied 41 = .ok (.iconst 0, 1) := by decide +kernel
theorem dX6_lied_42 : decode cX6_lied 42 = .ok (.istore_n 3, 1) := by decide +kernel
theorem dX6_lied_43 : decode cX6_lied 43 = .ok (.iload_n 3, 1) := by decide +kernel
theorem dX6_lied_44 : decode cX6_lied 44 = .ok (.aload_n 0, 1) := by decide +kernel
theorem dX6_lied_45 : decode cX6_lied 45 = .ok (.getfield 12, 3) := by decide +kernel
theorem dX6_lied_48 : decode cX6_lied 48 = .ok (.getfield 79, 3) := by decide +kernel
theorem dX6_lied_51 : decode cX6_lied 51 = .ok (.if_icmp .ge 23, 3) := by decide +kernel
theorem dX6_lied_54 : decode cX6_lied 54 = .ok (.aload_n 0, 1) := by decide +kernel
theorem dX6_lied_55 : decode cX6_lied 55 = .ok (.iload_n 3, 1) := by decide +kernel
theorem dX6_lied_56 : decode cX6_lied 56 = .ok (.invokevirtual 186, 3) := by decide +kernel
theorem dX6_lied_59 : decode cX6_lied 59 = .ok (.ifCond .eq 9, 3) := by decide +kernel
theorem dX6_lied_62 : decode cX6_lied 62 = .ok (.iload_n 2, 1) := by decide +kernel
theorem dX6_lied_63 : decode cX6_lied 63 = .ok (.iconst 1, 1) := by decide +kernel
theorem dX6_lied_64 : decode cX6_lied 64 = .ok (.iload_n 3, 1) := by decide +kernel
theorem dX6_lied_65 : decode cX6_lied 65 = .ok (.ishl, 1) := by decide +kernel
theorem dX6_lied_66 : decode cX6_lied 66 = .ok (.ior, 1) := by decide +kernel
theorem dX6_lied_67 : decode cX6_lied 67 = .ok (.istore_n 2, 1) := by decide +kernel
theorem dX6_lied_68 : decode cX6_lied 68 = .ok (.iinc 3 1, 3) := by decide +kernel
theorem dX6_lied_71 : decode cX6_lied 71 = .ok (.goto (-28), 3) := by decide +kernel
theorem dX6_lied_74 : decode cX6_lied 74 = .ok (.iload_n 2, 1) := by decide +kernel
theorem dX6_lied_75 : decode cX6_lied 75 = .ok (.ireturn, 1) := by decide +kernel
theorem dX6_wed_0 : decode cX6_wed 0 = .ok (.aload_n 0, 1) := by decide +kernel
theorem dX6_wed_1 : decode cX6_wed 1 = .ok (.iload_n 1, 1) := by decide +kernel
theorem dX6_wed_2 : decode cX6_wed 2 = .ok (.invokevirtual 87, 3) := by decide +kernel
theorem dX6_wed_5 : decode cX6_wed 5 = .ok (.ifCond .eq 11, 3) := by decide +kernel
theorem dX6_wed_8 : decode cX6_wed 8 = .ok (.aload_n 0, 1) := by decide +kernel
theorem dX6_wed_9 : decode cX6_wed 9 = .ok (.iload_n 2, 1) := by decide +kernel
theorem dX6_wed_10 : decode cX6_wed 10 = .ok (.invokevirtual 87, 3) := by decide +kernel
theorem dX6_wed_13 : decode cX6_wed 13 = .ok (.ifCond .ne 5, 3) := by decide +kernel
theorem dX6_wed_16 : decode cX6_wed 16 = .ok (.iconst (-1), 1) := by decide +kernel
theorem dX6_wed_17 : decode cX6_wed 17 = .ok (.ireturn, 1) := by decide +kernel
theorem dX6_wed_18 : decode cX6_wed 18 = .ok (.iload_n 1, 1) := by decide +kernel
theorem dX6_wed_19 : decode cX6_wed 19 = .ok (.iload_n 2, 1) := by decide +kernel
theorem dX6_wed_20 : decode cX6_wed 20 = .ok (.if_icmp .ne 6, 3) := by decide +kernel
theorem dX6_wed_23 : decode cX6_wed 23 = .ok (.bipush (-2), 2) := by decide +kernel
theorem dX6_wed_25 : decode cX6_wed 25 = .ok (.ireturn, 1) := by decide +kernel
theorem dX6_wed_26 : decode cX6_wed 26 = .ok (.aload_n 0, 1) := by decide +kernel
theorem dX6_wed_27 : decode cX6_wed 27 = .ok (.getfield 18, 3) := by decide +kernel
theorem dX6_wed_30 : decode cX6_wed 30 = .ok (.aload_n 0, 1) := by decide +kernel
theorem dX6_wed_31 : decode cX6_wed 31 = .ok (.getfield 12, 3) := by decide +kernel
theorem dX6_wed_34 : decode cX6_wed 34 = .ok (.invokevirtual 151, 3) := by decide +kernel
theorem dX6_wed_37 : decode cX6_wed 37 = .ok (.aload_n 0, 1) := by decide +kernel
theorem dX6_wed_38 : decode cX6_wed 38 = .ok (.getfield 18, 3) := by decide +kernel
theorem dX6_wed_41 : decode cX6_wed 41 = .ok (.bipush 10, 2) := by decide +kernel
theorem dX6_wed_43 : decode cX6_wed 43 = .ok (.invokevirtual 147, 3) := by decide +kernel
theorem dX6_wed_46 : decode cX6_wed 46 = .ok (.aload_n 0, 1) := by decide +kernel
theorem dX6_wed_47 : decode cX6_wed 47 = .ok (.invokevirtual 154, 3) := by decide +kernel
theorem dX6_wed_50 : decode cX6_wed 50 = .ok (.aload_n 0, 1) := by decide +kernel
theorem dX6_wed_51 : decode cX6_wed 51 = .ok (.getfield 18, 3) := by decide +kernel
theorem dX6_wed_54 : decode cX6_wed 54 = .ok (.aload_n 0, 1) := by decide +kernel
theorem dX6_wed_55 : decode cX6_wed 55 = .ok (.getfield 12, 3) := by decide +kernel
theorem dX6_wed_58 : decode cX6_wed 58 = .ok (.invokevirtual 151, 3) := by decide +kernel
theorem dX6_wed_61 : decode cX6_wed 61 = .ok (.aload_n 0, 1) := by decide +kernel
theorem dX6_wed_62 : decode cX6_wed 62 = .ok (.getfield 12, 3) := by decide +kernel
theorem dX6_wed_65 : decode cX6_wed 65 = .ok (.getfield 96, 3) := by decide +kernel
theorem dX6_wed_68 : decode cX6_wed 68 = .ok (.iload_n 1, 1) := by decide +kernel
theorem dX6_wed_69 : decode cX6_wed 69 = .ok (.iaload, 1) := by decide +kernel
theorem dX6_wed_70 : decode cX6_wed 70 = .ok (.aload_n 0, 1) := by decide +kernel
theorem dX6_wed_71 : decode cX6_wed 71 = .ok (.getfield 12, 3) := by decide +kernel
theorem dX6_wed_74 : decode cX6_wed 74 = .ok (.getfield 96, 3) := by decide +kernel
theorem dX6_wed_77 : decode cX6_wed 77 = .ok (.iload_n 2, 1) := by decide +kernel
theorem dX6_wed_78 : decode cX6_wed 78 = .ok (.iaload, 1) := by decide +kernel
theorem dX6_wed_79 : decode cX6_wed 79 = .ok (.iadd, 1) := by decide +kernel
theorem dX6_wed_80 : decode cX6_wed 80 = .ok (.iconst 2, 1) := by decide +kernel
theorem dX6_wed_81 : decode cX6_wed 81 = .ok (.idiv, 1) := by decide +kernel
theorem dX6_wed_82 : decode cX6_wed 82 = .ok (.istore_n 3, 1) := by decide +kernel
theorem dX6_wed_83 : decode cX6_wed 83 = .ok (.aload_n 0, 1) := by decide +kernel
theorem dX6_wed_84 : decode cX6_wed 84 = .ok (.getfield 18, 3) := by decide +kernel
theorem dX6_wed_87 : decode cX6_wed 87 = .ok (.getfield 96, 3) := by decide +kernel
theorem dX6_wed_90 : decode cX6_wed 90 = .ok (.iload_n 1, 1) := by decide +kernel
theorem dX6_wed_91 : decode cX6_wed 91 = .ok (.iload_n 3, 1) := by decide +kernel
theorem dX6_wed_92 : decode cX6_wed 92 = .ok (.iastore, 1) := by decide +kernel
theorem dX6_wed_93 : decode cX6_wed 93 = .ok (.aload_n 0, 1) := by decide +kernel
theorem dX6_wed_94 : decode cX6_wed 94 = .ok (.getfield 18, 3) := by decide +kernel
theorem dX6_wed_97 : decode cX6_wed 97 = .ok (.getfield 96, 3) := by decide +kernel
theorem dX6_wed_100 : decode cX6_wed 100 = .ok (.iload_n 2, 1) := by decide +kernel
theorem dX6_wed_101 : decode cX6_wed 101 = .ok (.iload_n 3, 1) := by decide +kernel
theorem dX6_wed_102 : decode cX6_wed 102 = .ok (.iastore, 1) := by decide +kernel
theorem dX6_wed_103 : decode cX6_wed 103 = .ok (.aload_n 0, 1) := by decide +kernel
theorem dX6_wed_104 : decode cX6_wed 104 = .ok (.getfield 18, 3) := by decide +kernel
theorem dX6_wed_107 : decode cX6_wed 107 = .ok (.bipush 10, 2) := by decide +kernel
theorem dX6_wed_109 : decode cX6_wed 109 = .ok (.invokevirtual 147, 3) := by decide +kernel
theorem dX6_wed_112 : decode cX6_wed 112 = .ok (.aload_n 0, 1) := by decide +kernel
theorem dX6_wed_113 : decode cX6_wed 113 = .ok (.invokevirtual 157, 3) := by decide +kernel
theorem dX6_wed_116 : decode cX6_wed 116 = .ok (.ireturn, 1) := by decide +kernel
theorem dX6_odds_0 : decode cX6_odds 0 = .ok (.aload_n 0, 1) := by decide +kernel
theorem dX6_odds_1 : decode cX6_odds 1 = .ok (.iload_n 1, 1) := by decide +kernel
theorem dX6_odds_2 : decode cX6_odds 2 = .ok (.invokevirtual 87, 3) := by decide +kernel
theorem dX6_odds_5 : decode cX6_odds 5 = .ok (.ifCond .eq 17, 3) := by decide +kernel
theorem dX6_odds_8 : decode cX6_odds 8 = .ok (.iload_n 2, 1) := by decide +kernel
theorem dX6_odds_9 : decode cX6_odds 9 = .ok (.invokestatic 76, 3) := by decide +kernel
theorem dX6_odds_12 : decode cX6_odds 12 = .ok (.ifCond .eq 10, 3) := by decide +kernel
theorem dX6_odds_15 : decode cX6_odds 15 = .ok (.iload_n 3, 1) := by decide +kernel
theorem dX6_odds_16 : decode cX6_odds 16 = .ok (.invokestatic 160, 3) := by decide +kernel
theorem dX6_odds_19 : decode cX6_odds 19 = .ok (.ifCond .ne 7, 3) := by decide +kernel
theorem dX6_odds_22 : decode cX6_odds 22 = .ok (.ldc2_w 189, 3) := by decide +kernel
theorem dX6_odds_25 : decode cX6_odds 25 = .ok (.lreturn, 1) := by decide +kernel
theorem dX6_odds_26 : decode cX6_odds 26 = .ok (.iconst 0, 1) := by decide +kernel
theorem dX6_odds_27 : decode cX6_odds 27 = .ok (.istore 4, 2) := by decide +kernel
theorem dX6_odds_29 : decode cX6_odds 29 = .ok (.iconst 0, 1) := by decide +kernel
theorem dX6_odds_30 : decode cX6_odds 30 = .ok (.istore 5, 2) := by decide +kernel
theorem dX6_odds_32 : decode cX6_odds 32 = .ok (.iload 5, 2) := by decide +kernel
theorem dX6_odds_34 : decode cX6_odds 34 = .ok (.aload_n 0, 1) := by decide +kernel
theorem dX6_odds_35 : decode cX6_odds 35 = .ok (.getfield 12, 3) := by decide +kernel
theorem dX6_odds_38 : decode cX6_odds 38 = .ok (.getfield 79, 3) := by decide +kernel
theorem dX6_odds_41 : decode cX6_odds 41 = .ok (.if_icmp .ge 56, 3) := by decide +kernel
theorem dX6_odds_44 : decode cX6_odds 44 = .ok (.aload_n 0, 1) := by decide +kernel
theorem dX6_odds_45 : decode cX6_odds 45 = .ok (.getfield 18, 3) := by decide +kernel
theorem dX6_odds_48 : decode cX6_odds 48 = .ok (.aload_n 0, 1) := by decide +kernel
theorem dX6_odds_49 : decode cX6_odds 49 = .ok (.getfield 12, 3) := by decide +kernel
theorem dX6_odds_52 : decode cX6_odds 52 = .ok (.invokevirtual 151, 3) := by decide +kernel
theorem dX6_odds_55 : decode cX6_odds 55 = .ok (.aload_n 0, 1) := by decide +kernel
theorem dX6_odds_56 : decode cX6_odds 56 = .ok (.getfield 18, 3) := by decide +kernel
theorem dX6_odds_59 : decode cX6_odds 59 = .ok (.iload 5, 2) := by decide +kernel
theorem dX6_odds_61 : decode cX6_odds 61 = .ok (.bipush 9, 2) := by decide +kernel
theorem dX6_odds_63 : decode cX6_odds 63 = .ok (.invokevirtual 163, 3) := by decide +kernel
theorem dX6_odds_66 : decode cX6_odds 66 = .ok (.aload_n 0, 1) := by decide +kernel
theorem dX6_odds_67 : decode cX6_odds 67 = .ok (.getfield 18, 3) := by decide +kernel
theorem dX6_odds_70 : decode cX6_odds 70 = .ok (.bipush 40, 2) := by decide +kernel
theorem dX6_odds_72 : decode cX6_odds 72 = .ok (.invokevirtual 147, 3) := by decide +kernel
theorem dX6_odds_75 : decode cX6_odds 75 = .ok (.aload_n 0, 1) := by decide +kernel
theorem dX6_odds_76 : decode cX6_odds 76 = .ok (.getfield 18, 3) := by decide +kernel
theorem dX6_odds_79 : decode cX6_odds 79 = .ok (.getfield 96, 3) := by decide +kernel
theorem dX6_odds_82 : decode cX6_odds 82 = .ok (.iload_n 1, 1) := by decide +kernel
theorem dX6_odds_83 : decode cX6_odds 83 = .ok (.iaload, 1) := by decide +kernel
theorem dX6_odds_84 : decode cX6_odds 84 = .ok (.iload_n 2, 1) := by decide +kernel
theorem dX6_odds_85 : decode cX6_odds 85 = .ok (.if_icmp .lt 6, 3) := by decide +kernel
theorem dX6_odds_88 : decode cX6_odds 88 = .ok (.iinc 4 1, 3) := by decide +kernel
theorem dX6_odds_91 : decode cX6_odds 91 = .ok (.iinc 5 1, 3) := by decide +kernel
theorem dX6_odds_94 : decode cX6_odds 94 = .ok (.goto (-62), 3) := by decide +kernel
theorem dX6_odds_97 : decode cX6_odds 97 = .ok (.iload 4, 2) := by decide +kernel
theorem dX6_odds_99 : decode cX6_odds 99 = .ok (.aload_n 0, 1) := by decide +kernel
theorem dX6_odds_100 : decode cX6_odds 100 = .ok (.getfield 12, 3) := by decide +kernel
theorem dX6_odds_103 : decode cX6_odds 103 = .ok (.getfield 79, 3) := by decide +kernel
theorem dX6_odds_106 : decode cX6_odds 106 = .ok (.iload_n 3, 1) := by decide +kernel
theorem dX6_odds_107 : decode cX6_odds 107 = .ok (.invokestatic 191, 3) := by decide +kernel
theorem dX6_odds_110 : decode cX6_odds 110 = .ok (.lreturn, 1) := by decide +kernel
theorem dX6_mean_0 : decode cX6_mean 0 = .ok (.iload_n 1, 1) := by decide +kernel
theorem dX6_mean_1 : decode cX6_mean 1 = .ok (.iconst 1, 1) := by decide +kernel
theorem dX6_mean_2 : decode cX6_mean 2 = .ok (.if_icmp .lt 26, 3) := by decide +kernel
theorem dX6_mean_5 : decode cX6_mean 5 = .ok (.iload_n 1, 1) := by decide +kernel
theorem dX6_mean_6 : decode cX6_mean 6 = .ok (.bipush 60, 2) := by decide +kernel
theorem dX6_mean_8 : decode cX6_mean 8 = .ok (.if_icmp .gt 20, 3) := by decide +kernel
theorem dX6_mean_11 : decode cX6_mean 11 = .ok (.iload_n 2, 1) := by decide +kernel
theorem dX6_mean_12 : decode cX6_mean 12 = .ok (.invokestatic 160, 3) := by decide +kernel
theorem dX6_mean_15 : decode cX6_mean 15 = .ok (.ifCond .eq 13, 3) := by decide +kernel
theorem dX6_mean_18 : decode cX6_mean 18 = .ok (.aload_n 0, 1) := by decide +kernel
theorem dX6_mean_19 : decode cX6_mean 19 = .ok (.getfield 12, 3) := by decide +kernel
theorem dX6_mean_22 : decode cX6_mean 22 = .ok (.getfield 79, 3) := by decide +kernel
theorem dX6_mean_25 : decode cX6_mean 25 = .ok (.ifCond .ne 7, 3) := by decide +kernel
theorem dX6_mean_28 : decode cX6_mean 28 = .ok (.ldc2_w 189, 3) := by decide +kernel
theorem dX6_mean_31 : decode cX6_mean 31 = .ok (.lreturn, 1) := by decide +kernel
theorem dX6_mean_32 : decode cX6_mean 32 = .ok (.aload_n 0, 1) := by decide +kernel
theorem dX6_mean_33 : decode cX6_mean 33 = .ok (.getfield 18, 3) := by decide +kernel
theorem dX6_mean_36 : decode cX6_mean 36 = .ok (.aload_n 0, 1) := by decide +kernel
theorem dX6_mean_37 : decode cX6_mean 37 = .ok (.getfield 12, 3) := by decide +kernel
theorem dX6_mean_40 : decode cX6_mean 40 = .ok (.invokevirtual 151, 3) := by decide +kernel
theorem dX6_mean_43 : decode cX6_mean 43 = .ok (.iconst 0, 1) := by decide +kernel
theorem dX6_mean_44 : decode cX6_mean 44 = .ok (.istore_n 3, 1) := by decide +kernel
theorem dX6_mean_45 : decode cX6_mean 45 = .ok (.iconst 1, 1) := by decide +kernel
theorem dX6_mean_46 : decode cX6_mean 46 = .ok (.istore 4, 2) := by decide +kernel
theorem dX6_mean_48 : decode cX6_mean 48 = .ok (.iload 4, 2) := by decide +kernel
theorem dX6_mean_50 : decode cX6_mean 50 = .ok (.iload_n 1, 1) := by decide +kernel
theorem dX6_mean_51 : decode cX6_mean 51 = .ok (.if_icmp .gt 27, 3) := by decide +kernel
theorem dX6_mean_54 : decode cX6_mean 54 = .ok (.aload_n 0, 1) := by decide +kernel
theorem dX6_mean_55 : decode cX6_mean 55 = .ok (.getfield 18, 3) := by decide +kernel
theorem dX6_mean_58 : decode cX6_mean 58 = .ok (.iconst 1, 1) := by decide +kernel
theorem dX6_mean_59 : decode cX6_mean 59 = .ok (.invokevirtual 147, 3) := by decide +kernel
theorem dX6_mean_62 : decode cX6_mean 62 = .ok (.iload_n 3, 1) := by decide +kernel
theorem dX6_mean_63 : decode cX6_mean 63 = .ok (.aload_n 0, 1) := by decide +kernel
theorem dX6_mean_64 : decode cX6_mean 64 = .ok (.getfield 18, 3) := by decide +kernel
theorem dX6_mean_67 : decode cX6_mean 67 = .ok (.invokevirtual 144, 3) := by decide +kernel
theorem dX6_mean_70 : decode cX6_mean 70 = .ok (.iadd, 1) := by decide +kernel
theorem dX6_mean_71 : decode cX6_mean 71 = .ok (.istore_n 3, 1) := by decide +kernel
theorem dX6_mean_72 : decode cX6_mean 72 = .ok (.iinc 4 1, 3) := by decide +kernel
theorem dX6_mean_75 : decode cX6_mean 75 = .ok (.goto (-27), 3) := by decide +kernel
theorem dX6_mean_78 : decode cX6_mean 78 = .ok (.iload_n 3, 1) := by decide +kernel
theorem dX6_mean_79 : decode cX6_mean 79 = .ok (.iload_n 1, 1) := by decide +kernel
theorem dX6_mean_80 : decode cX6_mean 80 = .ok (.aload_n 0, 1) := by decide +kernel
theorem dX6_mean_81 : decode cX6_mean 81 = .ok (.getfield 12, 3) := by decide +kernel
theorem dX6_mean_84 : decode cX6_mean 84 = .ok (.getfield 79, 3) := by decide +kernel
theorem dX6_mean_87 : decode cX6_mean 87 = .ok (.imul, 1) := by decide +kernel
theorem dX6_mean_88 : decode cX6_mean 88 = .ok (.iload_n 2, 1) := by decide +kernel
theorem dX6_mean_89 : decode cX6_mean 89 = .ok (.invokestatic 191, 3) := by decide +kernel
theorem dX6_mean_92 : decode cX6_mean 92 = .ok (.lreturn, 1) := by decide +kernel
theorem dX6_book_0 : decode cX6_book 0 = .ok (.iload_n 1, 1) := by decide +kernel
theorem dX6_book_1 : decode cX6_book 1 = .ok (.iconst (-1), 1) := by decide +kernel
theorem dX6_book_2 : decode cX6_book 2 = .ok (.if_icmp .ne 13, 3) := by decide +kernel
theorem dX6_book_5 : decode cX6_book 5 = .ok (.aload_n 0, 1) := by decide +kernel
theorem dX6_book_6 : decode cX6_book 6 = .ok (.getfield 27, 3) := by decide +kernel
theorem dX6_book_9 : decode cX6_book 9 = .ok (.iconst 0, 1) := by decide +kernel
theorem dX6_book_10 : decode cX6_book 10 = .ok (.putfield 195, 3) := by decide +kernel
theorem dX6_book_13 : decode cX6_book 13 = .ok (.iconst 0, 1) := by decide +kernel
theorem dX6_book_14 : decode cX6_book 14 = .ok (.ireturn, 1) := by decide +kernel
theorem dX6_book_15 : decode cX6_book 15 = .ok (.iload_n 1, 1) := by decide +kernel
theorem dX6_book_16 : decode cX6_book 16 = .ok (.bipush (-2), 2) := by decide +kernel
theorem dX6_book_18 : decode cX6_book 18 = .ok (.if_icmp .eq 13, 3) := by decide +kernel
theorem dX6_book_21 : decode cX6_book 21 = .ok (.iload_n 1, 1) := by decide +kernel
theorem dX6_book_22 : decode cX6_book 22 = .ok (.invokestatic 76, 3) := by decide +kernel
theorem dX6_book_25 : decode cX6_book 25 = .ok (.ifCond .ne 6, 3) := by decide +kernel
theorem dX6_book_28 : decode cX6_book 28 = .ok (.bipush (-2), 2) := by decide +kernel
theorem dX6_book_30 : decode cX6_book 30 = .ok (.ireturn, 1) := by decide +kernel
theorem dX6_book_31 : decode cX6_book 31 = .ok (.aload_n 0, 1) := by decide +kernel
theorem dX6_book_32 : decode cX6_book 32 = .ok (.getfield 27, 3) := by decide +kernel
theorem dX6_book_35 : decode cX6_book 35 = .ok (.iload_n 1, 1) := by decide +kernel
theorem dX6_book_36 : decode cX6_book 36 = .ok (.invokevirtual 198, 3) := by decide +kernel
theorem dX6_book_39 : decode cX6_book 39 = .ok (.ireturn, 1) := by decide +kernel
theorem dX6_looked_0 : decode cX6_looked 0 = .ok (.aload_n 0, 1) := by decide +kernel
theorem dX6_looked_1 : decode cX6_looked 1 = .ok (.getfield 12, 3) := by decide +kernel
theorem dX6_looked_4 : decode cX6_looked 4 = .ok (.getfield 79, 3) := by decide +kernel
theorem dX6_looked_7 : decode cX6_looked 7 = .ok (.ifCond .ne 6, 3) := by decide +kernel
theorem dX6_looked_10 : decode cX6_looked 10 = .ok (.bipush (-3), 2) := by decide +kernel
theorem dX6_looked_12 : decode cX6_looked 12 = .ok (.ireturn, 1) := by decide +kernel
theorem dX6_looked_13 : decode cX6_looked 13 = .ok (.aload_n 0, 1) := by decide +kernel
theorem dX6_looked_14 : decode cX6_looked 14 = .ok (.getfield 18, 3) := by decide +kernel
theorem dX6_looked_17 : decode cX6_looked 17 = .ok (.aload_n 0, 1) := by decide +kernel
theorem dX6_looked_18 : decode cX6_looked 18 = .ok (.getfield 12, 3) := by decide +kernel
theorem dX6_looked_21 : decode cX6_looked 21 = .ok (.invokevirtual 151, 3) := by decide +kernel
theorem dX6_looked_24 : decode cX6_looked 24 = .ok (.iconst 0, 1) := by decide +kernel
theorem dX6_looked_25 : decode cX6_looked 25 = .ok (.istore_n 1, 1) := by decide +kernel
theorem dX6_looked_26 : decode cX6_looked 26 = .ok (.iload_n 1, 1) := by decide +kernel
theorem dX6_looked_27 : decode cX6_looked 27 = .ok (.aload_n 0, 1) := by decide +kernel
theorem dX6_looked_28 : decode cX6_looked 28 = .ok (.getfield 27, 3) := by decide +kernel
theorem dX6_looked_31 : decode cX6_looked 31 = .ok (.getfield 195, 3) := by decide +kernel
theorem dX6_looked_34 : decode cX6_looked 34 = .ok (.if_icmp .ge 54, 3) := by decide +kernel
theorem dX6_looked_37 : decode cX6_looked 37 = .ok (.aload_n 0, 1) := by decide +kernel
theorem dX6_looked_38 : decode cX6_looked 38 = .ok (.getfield 18, 3) := by decide +kernel
theorem dX6_looked_41 : decode cX6_looked 41 = .ok (.iconst 1, 1) := by decide +kernel
theorem dX6_looked_42 : decode cX6_looked 42 = .ok (.invokevirtual 147, 3) := by decide +kernel
theorem dX6_looked_45 : decode cX6_looked 45 = .ok (.aload_n 0, 1) := by decide +kernel
theorem dX6_looked_46 : decode cX6_looked 46 = .ok (.getfield 27, 3) := by decide +kernel
theorem dX6_looked_49 : decode cX6_looked 49 = .ok (.getfield 201, 3) := by decide +kernel
theorem dX6_looked_52 : decode cX6_looked 52 = .ok (.iload_n 1, 1) := by decide +kernel
theorem dX6_looked_53 : decode cX6_looked 53 = .ok (.iaload, 1) := by decide +kernel
theorem dX6_looked_54 : decode cX6_looked 54 = .ok (.bipush (-2), 2) := by decide +kernel
theorem dX6_looked_56 : decode cX6_looked 56 = .ok (.if_icmp .eq 26, 3) := by decide +kernel
theorem dX6_looked_59 : decode cX6_looked 59 = .ok (.aload_n 0, 1) := by decide +kernel
theorem dX6_looked_60 : decode cX6_looked 60 = .ok (.getfield 27, 3) := by decide +kernel
theorem dX6_looked_63 : decode cX6_looked 63 = .ok (.getfield 201, 3) := by decide +kernel
theorem dX6_looked_66 : decode cX6_looked 66 = .ok (.iload_n 1, 1) := by decide +kernel
theorem dX6_looked_67 : decode cX6_looked 67 = .ok (.iaload, 1) := by decide +kernel
theorem dX6_looked_68 : decode cX6_looked 68 = .ok (.aload_n 0, 1) := by decide +kernel
theorem dX6_looked_69 : decode cX6_looked 69 = .ok (.getfield 18, 3) := by decide +kernel
theorem dX6_looked_72 : decode cX6_looked 72 = .ok (.getfield 96, 3) := by decide +kernel
theorem dX6_looked_75 : decode cX6_looked 75 = .ok (.iconst 0, 1) := by decide +kernel
theorem dX6_looked_76 : decode cX6_looked 76 = .ok (.iaload, 1) := by decide +kernel
theorem dX6_looked_77 : decode cX6_looked 77 = .ok (.if_icmp .eq 5, 3) := by decide +kernel
theorem dX6_looked_80 : decode cX6_looked 80 = .ok (.iload_n 1, 1) := by decide +kernel
theorem dX6_looked_81 : decode cX6_looked 81 = .ok (.ireturn, 1) := by decide +kernel
theorem dX6_looked_82 : decode cX6_looked 82 = .ok (.iinc 1 1, 3) := by decide +kernel
theorem dX6_looked_85 : decode cX6_looked 85 = .ok (.goto (-59), 3) := by decide +kernel
theorem dX6_looked_88 : decode cX6_looked 88 = .ok (.bipush (-5), 2) := by decide +kernel
theorem dX6_looked_90 : decode cX6_looked 90 = .ok (.ireturn, 1) := by decide +kernel
theorem dX6_judge_0 : decode cX6_judge 0 = .ok (.iload_n 1, 1) := by decide +kernel
theorem dX6_judge_1 : decode cX6_judge 1 = .ok (.invokestatic 204, 3) := by decide +kernel
theorem dX6_judge_4 : decode cX6_judge 4 = .ok (.ifCond .ne 5, 3) := by decide +kernel
theorem dX6_judge_7 : decode cX6_judge 7 = .ok (.iconst (-1), 1) := by decide +kernel
theorem dX6_judge_8 : decode cX6_judge 8 = .ok (.ireturn, 1) := by decide +kernel
theorem dX6_judge_9 : decode cX6_judge 9 = .ok (.aload_n 0, 1) := by decide +kernel
theorem dX6_judge_10 : decode cX6_judge 10 = .ok (.getfield 56, 3) := by decide +kernel
theorem dX6_judge_13 : decode cX6_judge 13 = .ok (.iload_n 1, 1) := by decide +kernel
theorem dX6_judge_14 : decode cX6_judge 14 = .ok (.aaload, 1) := by decide +kernel
theorem dX6_judge_15 : decode cX6_judge 15 = .ok (.astore_n 3, 1) := by decide +kernel
theorem dX6_judge_16 : decode cX6_judge 16 = .ok (.aload_n 3, 1) := by decide +kernel
theorem dX6_judge_17 : decode cX6_judge 17 = .ok (.getfield 207, 3) := by decide +kernel
theorem dX6_judge_20 : decode cX6_judge 20 = .ok (.iconst (-1), 1) := by decide +kernel
theorem dX6_judge_21 : decode cX6_judge 21 = .ok (.if_icmp .eq 14, 3) := by decide +kernel
theorem dX6_judge_24 : decode cX6_judge 24 = .ok (.aload_n 3, 1) := by decide +kernel
theorem dX6_judge_25 : decode cX6_judge 25 = .ok (.getfield 207, 3) := by decide +kernel
theorem dX6_judge_28 : decode cX6_judge 28 = .ok (.iconst 1, 1) := by decide +kernel
theorem dX6_judge_29 : decode cX6_judge 29 = .ok (.if_icmp .eq 6, 3) := by decide +kernel
theorem dX6_judge_32 : decode cX6_judge 32 = .ok (.bipush (-12), 2) := by decide +kernel
theorem dX6_judge_34 : decode cX6_judge 34 = .ok (.ireturn, 1) := by decide +kernel
theorem dX6_judge_35 : decode cX6_judge 35 = .ok (.iconst 0, 1) := by decide +kernel
theorem dX6_judge_36 : decode cX6_judge 36 = .ok (.istore 4, 2) := by decide +kernel
theorem dX6_judge_38 : decode cX6_judge 38 = .ok (.iload 4, 2) := by decide +kernel
theorem dX6_judge_40 : decode cX6_judge 40 = .ok (.aload_n 0, 1) := by decide +kernel
theorem dX6_judge_41 : decode cX6_judge 41 = .ok (.getfield 12, 3) := by decide +kernel
theorem dX6_judge_44 : decode cX6_judge 44 = .ok (.getfield 79, 3) := by decide +kernel
theorem dX6_judge_47 : decode cX6_judge 47 = .ok (.if_icmp .ge 57, 3) := by decide +kernel
theorem dX6_judge_50 : decode cX6_judge 50 = .ok (.iload_n 2, 1) := by decide +kernel
theorem dX6_judge_51 : decode cX6_judge 51 = .ok (.ifCond .lt 14, 3) := by decide +kernel
theorem dX6_judge_54 : decode cX6_judge 54 = .ok (.iload_n 2, 1) := by decide +kernel
theorem dX6_judge_55 : decode cX6_judge 55 = .ok (.aload_n 3, 1) := by decide +kernel
theorem dX6_judge_56 : decode cX6_judge 56 = .ok (.getfield 210, 3) := by decide +kernel
theorem dX6_judge_59 : decode cX6_judge 59 = .ok (.iload 4, 2) := by decide +kernel
theorem dX6_judge_61 : decode cX6_judge 61 = .ok (.isub, 1) := by decide +kernel
theorem dX6_judge_62 : decode cX6_judge 62 = .ok (.if_icmp .lt 9, 3) := by decide +kernel
theorem dX6_judge_65 : decode cX6_judge 65 = .ok (.bipush 100, 2) := by decide +kernel
theorem dX6_judge_67 : decode cX6_judge 67 = .ok (.iload 4, 2) := by decide +kernel
theorem dX6_judge_69 : decode cX6_judge 69 = .ok (.iadd, 1) := by decide +kernel
theorem dX6_judge_70 : decode cX6_judge 70 = .ok (.ireturn, 1) := by decide +kernel
theorem dX6_judge_71 : decode cX6_judge 71 = .ok (.aload_n 3, 1) := by decide +kernel
theorem dX6_judge_72 : decode cX6_judge 72 = .ok (.getfield 213, 3) := by decide +kernel
theorem dX6_judge_75 : decode cX6_judge 75 = .ok (.iload_n 2, 1) := by decide +kernel
theorem dX6_judge_76 : decode cX6_judge 76 = .ok (.iload 4, 2) := by decide +kernel
theorem dX6_judge_78 : decode cX6_judge 78 = .ok (.iadd, 1) := by decide +kernel
theorem dX6_judge_79 : decode cX6_judge 79 = .ok (.laload, 1) := by decide +kernel
theorem dX6_judge_80 : decode cX6_judge 80 = .ok (.aload_n 0, 1) := by decide +kernel
theorem dX6_judge_81 : decode cX6_judge 81 = .ok (.getfield 12, 3) := by decide +kernel
theorem dX6_judge_84 : decode cX6_judge 84 = .ok (.getfield 96, 3) := by decide +kernel
theorem dX6_judge_87 : decode cX6_judge 87 = .ok (.iload 4, 2) := by decide +kernel
theorem dX6_judge_89 : decode cX6_judge 89 = .ok (.iaload, 1) := by decide +kernel
theorem dX6_judge_90 : decode cX6_judge 90 = .ok (.i2l, 1) := by decide +kernel
theorem dX6_judge_91 : decode cX6_judge 91 = .ok (.lcmp, 1) := by decide +kernel
theorem dX6_judge_92 : decode cX6_judge 92 = .ok (.ifCond .eq 6, 3) := by decide +kernel
theorem dX6_judge_95 : decode cX6_judge 95 = .ok (.iload 4, 2) := by decide +kernel
theorem dX6_judge_97 : decode cX6_judge 97 = .ok (.ireturn, 1) := by decide +kernel
theorem dX6_judge_98 : decode cX6_judge 98 = .ok (.iinc 4 1, 3) := by decide +kernel
theorem dX6_judge_101 : decode cX6_judge 101 = .ok (.goto (-63), 3) := by decide +kernel
theorem dX6_judge_104 : decode cX6_judge 104 = .ok (.bipush (-5), 2) := by decide +kernel
theorem dX6_judge_106 : decode cX6_judge 106 = .ok (.ireturn, 1) := by decide +kernel
theorem dX6_image_0 : decode cX6_image 0 = .ok (.aload_n 0, 1) := by decide +kernel
theorem dX6_image_1 : decode cX6_image 1 = .ok (.getfield 21, 3) := by decide +kernel
theorem dX6_image_4 : decode cX6_image 4 = .ok (.aload_n 0, 1) := by decide +kernel
theorem dX6_image_5 : decode cX6_image 5 = .ok (.getfield 12, 3) := by decide +kernel
theorem dX6_image_8 : decode cX6_image 8 = .ok (.invokevirtual 151, 3) := by decide +kernel
theorem dX6_image_11 : decode cX6_image 11 = .ok (.aload_n 0, 1) := by decide +kernel
theorem dX6_image_12 : decode cX6_image 12 = .ok (.getfield 31, 3) := by decide +kernel
theorem dX6_image_15 : decode cX6_image 15 = .ok (.aload_n 0, 1) := by decide +kernel
theorem dX6_image_16 : decode cX6_image 16 = .ok (.getfield 27, 3) := by decide +kernel
theorem dX6_image_19 : decode cX6_image 19 = .ok (.invokevirtual 217, 3) := by decide +kernel
theorem dX6_image_22 : decode cX6_image 22 = .ok (.aload_n 0, 1) := by decide +kernel
theorem dX6_image_23 : decode cX6_image 23 = .ok (.iconst 1, 1) := by decide +kernel
theorem dX6_image_24 : decode cX6_image 24 = .ok (.putfield 220, 3) := by decide +kernel
theorem dX6_image_27 : decode cX6_image 27 = .ok (.aload_n 0, 1) := by decide +kernel
theorem dX6_image_28 : decode cX6_image 28 = .ok (.getfield 12, 3) := by decide +kernel
theorem dX6_image_31 : decode cX6_image 31 = .ok (.getfield 79, 3) := by decide +kernel
theorem dX6_image_34 : decode cX6_image 34 = .ok (.ireturn, 1) := by decide +kernel
theorem dX6_undo_0 : decode cX6_undo 0 = .ok (.aload_n 0, 1) := by decide +kernel
theorem dX6_undo_1 : decode cX6_undo 1 = .ok (.getfield 220, 3) := by decide +kernel
theorem dX6_undo_4 : decode cX6_undo 4 = .ok (.ifCond .ne 6, 3) := by decide +kernel
theorem dX6_undo_7 : decode cX6_undo 7 = .ok (.bipush (-3), 2) := by decide +kernel
theorem dX6_undo_9 : decode cX6_undo 9 = .ok (.ireturn, 1) := by decide +kernel
theorem dX6_undo_10 : decode cX6_undo 10 = .ok (.aload_n 0, 1) := by decide +kernel
theorem dX6_undo_11 : decode cX6_undo 11 = .ok (.getfield 12, 3) := by decide +kernel
theorem dX6_undo_14 : decode cX6_undo 14 = .ok (.aload_n 0, 1) := by decide +kernel
theorem dX6_undo_15 : decode cX6_undo 15 = .ok (.getfield 21, 3) := by decide +kernel
theorem dX6_undo_18 : decode cX6_undo 18 = .ok (.invokevirtual 151, 3) := by decide +kernel
theorem dX6_undo_21 : decode cX6_undo 21 = .ok (.aload_n 0, 1) := by decide +kernel
theorem dX6_undo_22 : decode cX6_undo 22 = .ok (.getfield 27, 3) := by decide +kernel
theorem dX6_undo_25 : decode cX6_undo 25 = .ok (.aload_n 0, 1) := by decide +kernel
theorem dX6_undo_26 : decode cX6_undo 26 = .ok (.getfield 31, 3) := by decide +kernel
theorem dX6_undo_29 : decode cX6_undo 29 = .ok (.invokevirtual 217, 3) := by decide +kernel
theorem dX6_undo_32 : decode cX6_undo 32 = .ok (.aload_n 0, 1) := by decide +kernel
theorem dX6_undo_33 : decode cX6_undo 33 = .ok (.getfield 12, 3) := by decide +kernel
theorem dX6_undo_36 : decode cX6_undo 36 = .ok (.getfield 79, 3) := by decide +kernel
theorem dX6_undo_39 : decode cX6_undo 39 = .ok (.ireturn, 1) := by decide +kernel
theorem dX6_act_0 : decode cX6_act 0 = .ok (.aload_n 0, 1) := by decide +kernel
theorem dX6_act_1 : decode cX6_act 1 = .ok (.getfield 50, 3) := by decide +kernel
theorem dX6_act_4 : decode cX6_act 4 = .ok (.invokevirtual 224, 3) := by decide +kernel
theorem dX6_act_7 : decode cX6_act 7 = .ok (.aload_n 0, 1) := by decide +kernel
theorem dX6_act_8 : decode cX6_act 8 = .ok (.iload_n 1, 1) := by decide +kernel
theorem dX6_act_9 : decode cX6_act 9 = .ok (.invokevirtual 87, 3) := by decide +kernel
theorem dX6_act_12 : decode cX6_act 12 = .ok (.ifCond .ne 5, 3) := by decide +kernel
theorem dX6_act_15 : decode cX6_act 15 = .ok (.iconst 0, 1) := by decide +kernel
theorem dX6_act_16 : decode cX6_act 16 = .ok (.ireturn, 1) := by decide +kernel
theorem dX6_act_17 : decode cX6_act 17 = .ok (.aload_n 0, 1) := by decide +kernel
theorem dX6_act_18 : decode cX6_act 18 = .ok (.getfield 50, 3) := by decide +kernel
theorem dX6_act_21 : decode cX6_act 21 = .ok (.aload_n 0, 1) := by decide +kernel
theorem dX6_act_22 : decode cX6_act 22 = .ok (.getfield 12, 3) := by decide +kernel
theorem dX6_act_25 : decode cX6_act 25 = .ok (.getfield 90, 3) := by decide +kernel
theorem dX6_act_28 : decode cX6_act 28 = .ok (.iload_n 1, 1) := by decide +kernel
theorem dX6_act_29 : decode cX6_act 29 = .ok (.iaload, 1) := by decide +kernel
theorem dX6_act_30 : decode cX6_act 30 = .ok (.aload_n 0, 1) := by decide +kernel
theorem dX6_act_31 : decode cX6_act 31 = .ok (.getfield 12, 3) := by decide +kernel
theorem dX6_act_34 : decode cX6_act 34 = .ok (.getfield 93, 3) := by decide +kernel
theorem dX6_act_37 : decode cX6_act 37 = .ok (.iload_n 1, 1) := by decide +kernel
theorem dX6_act_38 : decode cX6_act 38 = .ok (.iaload, 1) := by decide +kernel
theorem dX6_act_39 : decode cX6_act 39 = .ok (.iload_n 1, 1) := by decide +kernel
theorem dX6_act_40 : decode cX6_act 40 = .ok (.invokevirtual 225, 3) := by decide +kernel
theorem dX6_act_43 : decode cX6_act 43 = .ok (.aload_n 0, 1) := by decide +kernel
theorem dX6_act_44 : decode cX6_act 44 = .ok (.getfield 50, 3) := by decide +kernel
theorem dX6_act_47 : decode cX6_act 47 = .ok (.iload_n 2, 1) := by decide +kernel
theorem dX6_act_48 : decode cX6_act 48 = .ok (.iload_n 3, 1) := by decide +kernel
theorem dX6_act_49 : decode cX6_act 49 = .ok (.invokevirtual 229, 3) := by decide +kernel
theorem dX6_act_52 : decode cX6_act 52 = .ok (.ireturn, 1) := by decide +kernel
theorem dX6_trace_0 : decode cX6_trace 0 = .ok (.iload_n 1, 1) := by decide +kernel
theorem dX6_trace_1 : decode cX6_trace 1 = .ok (.ifCond .lt 20, 3) := by decide +kernel
theorem dX6_trace_4 : decode cX6_trace 4 = .ok (.iload_n 1, 1) := by decide +kernel
theorem dX6_trace_5 : decode cX6_trace 5 = .ok (.aload_n 0, 1) := by decide +kernel
theorem dX6_trace_6 : decode cX6_trace 6 = .ok (.getfield 50, 3) := by decide +kernel
theorem dX6_trace_9 : decode cX6_trace 9 = .ok (.getfield 232, 3) := by decide +kernel
theorem dX6_trace_12 : decode cX6_trace 12 = .ok (.if_icmp .ge 9, 3) := by decide +kernel
theorem dX6_trace_15 : decode cX6_trace 15 = .ok (.iload_n 1, 1) := by decide +kernel
theorem dX6_trace_16 : decode cX6_trace 16 = .ok (.bipush 20, 2) := by decide +kernel
theorem dX6_trace_18 : decode cX6_trace 18 = .ok (.if_icmp .lt 5, 3) := by decide +kernel
theorem dX6_trace_21 : decode cX6_trace 21 = .ok (.iconst (-1), 1) := by decide +kernel
theorem dX6_trace_22 : decode cX6_trace 22 = .ok (.ireturn, 1) := by decide +kernel
theorem dX6_trace_23 : decode cX6_trace 23 = .ok (.aload_n 0, 1) := by decide +kernel
theorem dX6_trace_24 : decode cX6_trace 24 = .ok (.getfield 50, 3) := by decide +kernel
theorem dX6_trace_27 : decode cX6_trace 27 = .ok (.getfield 235, 3) := by decide +kernel
theorem dX6_trace_30 : decode cX6_trace 30 = .ok (.iload_n 1, 1) := by decide +kernel
theorem dX6_trace_31 : decode cX6_trace 31 = .ok (.iaload, 1) := by decide +kernel
theorem dX6_trace_32 : decode cX6_trace 32 = .ok (.ireturn, 1) := by decide +kernel
theorem dX6_taken_0 : decode cX6_taken 0 = .ok (.iload_n 2, 1) := by decide +kernel
theorem dX6_taken_1 : decode cX6_taken 1 = .ok (.invokestatic 69, 3) := by decide +kernel
theorem dX6_taken_4 : decode cX6_taken 4 = .ok (.ifCond .ne 6, 3) := by decide +kernel
theorem dX6_taken_7 : decode cX6_taken 7 = .ok (.bipush (-2), 2) := by decide +kernel
theorem dX6_taken_9 : decode cX6_taken 9 = .ok (.ireturn, 1) := by decide +kernel
theorem dX6_taken_10 : decode cX6_taken 10 = .ok (.aload_n 0, 1) := by decide +kernel
theorem dX6_taken_11 : decode cX6_taken 11 = .ok (.iload_n 1, 1) := by decide +kernel
theorem dX6_taken_12 : decode cX6_taken 12 = .ok (.invokevirtual 87, 3) := by decide +kernel
theorem dX6_taken_15 : decode cX6_taken 15 = .ok (.ifCond .ne 6, 3) := by decide +kernel
theorem dX6_taken_18 : decode cX6_taken 18 = .ok (.bipush (-11), 2) := by decide +kernel
theorem dX6_taken_20 : decode cX6_taken 20 = .ok (.ireturn, 1) := by decide +kernel
theorem dX6_taken_21 : decode cX6_taken 21 = .ok (.aload_n 0, 1) := by decide +kernel
theorem dX6_taken_22 : decode cX6_taken 22 = .ok (.getfield 12, 3) := by decide +kernel
theorem dX6_taken_25 : decode cX6_taken 25 = .ok (.getfield 90, 3) := by decide +kernel
theorem dX6_taken_28 : decode cX6_taken 28 = .ok (.iload_n 1, 1) := by decide +kernel
theorem dX6_taken_29 : decode cX6_taken 29 = .ok (.iaload, 1) := by decide +kernel
theorem dX6_taken_30 : decode cX6_taken 30 = .ok (.istore_n 3, 1) := by decide +kernel
theorem dX6_taken_31 : decode cX6_taken 31 = .ok (.iload_n 3, 1) := by decide +kernel
theorem dX6_taken_32 : decode cX6_taken 32 = .ok (.iload_n 2, 1) := by decide +kernel
theorem dX6_taken_33 : decode cX6_taken 33 = .ok (.invokestatic 238, 3) := by decide +kernel
theorem dX6_taken_36 : decode cX6_taken 36 = .ok (.ifCond .eq 7, 3) := by decide +kernel
theorem dX6_taken_39 : decode cX6_taken 39 = .ok (.iload_n 3, 1) := by decide +kernel
theorem dX6_taken_40 : decode cX6_taken 40 = .ok (.goto 5, 3) := by decide +kernel
theorem dX6_taken_43 : decode cX6_taken 43 = .ok (.bipush (-12), 2) := by decide +kernel
theorem dX6_taken_45 : decode cX6_taken 45 = .ok (.ireturn, 1) := by decide +kernel
theorem dX6_count_0 : decode cX6_count 0 = .ok (.iload_n 1, 1) := by decide +kernel
theorem dX6_count_1 : decode cX6_count 1 = .ok (.tableswitch 84 0 5 #[39, 47, 52, 60, 68, 76], 39) := by decide +kernel
theorem dX6_count_40 : decode cX6_count 40 = .ok (.aload_n 0, 1) := by decide +kernel
theorem dX6_count_41 : decode cX6_count 41 = .ok (.getfield 12, 3) := by decide +kernel
theorem dX6_count_44 : decode cX6_count 44 = .ok (.getfield 79, 3) := by decide +kernel
theorem dX6_count_47 : decode cX6_count 47 = .ok (.ireturn, 1) := by decide +kernel
theorem dX6_count_48 : decode cX6_count 48 = .ok (.aload_n 0, 1) := by decide +kernel
theorem dX6_count_49 : decode cX6_count 49 = .ok (.getfield 118, 3) := by decide +kernel
theorem dX6_count_52 : decode cX6_count 52 = .ok (.ireturn, 1) := by decide +kernel
theorem dX6_count_53 : decode cX6_count 53 = .ok (.aload_n 0, 1) := by decide +kernel
theorem dX6_count_54 : decode cX6_count 54 = .ok (.getfield 27, 3) := by decide +kernel
theorem dX6_count_57 : decode cX6_count 57 = .ok (.getfield 179, 3) := by decide +kernel
theorem dX6_count_60 : decode cX6_count 60 = .ok (.ireturn, 1) := by decide +kernel
theorem dX6_count_61 : decode cX6_count 61 = .ok (.aload_n 0, 1) := by decide +kernel
theorem dX6_count_62 : decode cX6_count 62 = .ok (.getfield 27, 3) := by decide +kernel
theorem dX6_count_65 : decode cX6_count 65 = .ok (.getfield 195, 3) := by decide +kernel
theorem dX6_count_68 : decode cX6_count 68 = .ok (.ireturn, 1) := by decide +kernel
theorem dX6_count_69 : decode cX6_count 69 = .ok (.aload_n 0, 1) := by decide +kernel
theorem dX6_count_70 : decode cX6_count 70 = .ok (.getfield 37, 3) := by decide +kernel
theorem dX6_count_73 : decode cX6_count 73 = .ok (.getfield 242, 3) := by decide +kernel
theorem dX6_count_76 : decode cX6_count 76 = .ok (.ireturn, 1) := by decide +kernel
theorem dX6_count_77 : decode cX6_count 77 = .ok (.aload_n 0, 1) := by decide +kernel
theorem dX6_count_78 : decode cX6_count 78 = .ok (.getfield 50, 3) := by decide +kernel
theorem dX6_count_81 : decode cX6_count 81 = .ok (.getfield 232, 3) := by decide +kernel
theorem dX6_count_84 : decode cX6_count 84 = .ok (.ireturn, 1) := by decide +kernel
theorem dX6_count_85 : decode cX6_count 85 = .ok (.bipush (-2), 2) := by decide +kernel
theorem dX6_count_87 : decode cX6_count 87 = .ok (.ireturn, 1) := by decide +kernel
theorem dX6_tape_0 : decode cX6_tape 0 = .ok (.iload_n 1, 1) := by decide +kernel
theorem dX6_tape_1 : decode cX6_tape 1 = .ok (.invokestatic 204, 3) := by decide +kernel
theorem dX6_tape_4 : decode cX6_tape 4 = .ok (.ifCond .ne 5, 3) := by decide +kernel
theorem dX6_tape_7 : decode cX6_tape 7 = .ok (.iconst (-1), 1) := by decide +kernel
theorem dX6_tape_8 : decode cX6_tape 8 = .ok (.ireturn, 1) := by decide +kernel
theorem dX6_tape_9 : decode cX6_tape 9 = .ok (.iload_n 2, 1) := by decide +kernel
theorem dX6_tape_10 : decode cX6_tape 10 = .ok (.iconst (-1), 1) := by decide +kernel
theorem dX6_tape_11 : decode cX6_tape 11 = .ok (.if_icmp .lt 8, 3) := by decide +kernel
theorem dX6_tape_14 : decode cX6_tape 14 = .ok (.iload_n 2, 1) := by decide +kernel
theorem dX6_tape_15 : decode cX6_tape 15 = .ok (.iconst 4, 1) := by decide +kernel
theorem dX6_tape_16 : decode cX6_tape 16 = .ok (.if_icmp .le 6, 3) := by decide +kernel
theorem dX6_tape_19 : decode cX6_tape 19 = .ok (.bipush (-2), 2) := by decide +kernel
theorem dX6_tape_21 : decode cX6_tape 21 = .ok (.ireturn, 1) := by decide +kernel
theorem dX6_tape_22 : decode cX6_tape 22 = .ok (.iload_n 2, 1) := by decide +kernel
theorem dX6_tape_23 : decode cX6_tape 23 = .ok (.iconst (-1), 1) := by decide +kernel
theorem dX6_tape_24 : decode cX6_tape 24 = .ok (.if_icmp .ne 16, 3) := by decide +kernel
theorem dX6_tape_27 : decode cX6_tape 27 = .ok (.aload_n 0, 1) := by decide +kernel
theorem dX6_tape_28 : decode cX6_tape 28 = .ok (.getfield 56, 3) := by decide +kernel
theorem dX6_tape_31 : decode cX6_tape 31 = .ok (.iload_n 1, 1) := by decide +kernel
theorem dX6_tape_32 : decode cX6_tape 32 = .ok (.aaload, 1) := by decide +kernel
theorem dX6_tape_33 : decode cX6_tape 33 = .ok (.iconst (-1), 1) := by decide +kernel
theorem dX6_tape_34 : decode cX6_tape 34 = .ok (.iconst 0, 1) := by decide +kernel
theorem dX6_tape_35 : decode cX6_tape 35 = .ok (.invokevirtual 243, 3) := by decide +kernel
theorem dX6_tape_38 : decode cX6_tape 38 = .ok (.iconst 1, 1) := by decide +kernel
theorem dX6_tape_39 : decode cX6_tape 39 = .ok (.ireturn, 1) := by decide +kernel
theorem dX6_tape_40 : decode cX6_tape 40 = .ok (.iload_n 3, 1) := by decide +kernel
theorem dX6_tape_41 : decode cX6_tape 41 = .ok (.bipush 60, 2) := by decide +kernel
theorem dX6_tape_43 : decode cX6_tape 43 = .ok (.if_icmp .le 6, 3) := by decide +kernel
theorem dX6_tape_46 : decode cX6_tape 46 = .ok (.bipush (-2), 2) := by decide +kernel
theorem dX6_tape_48 : decode cX6_tape 48 = .ok (.ireturn, 1) := by decide +kernel
theorem dX6_tape_49 : decode cX6_tape 49 = .ok (.iload_n 3, 1) := by decide +kernel
theorem dX6_tape_50 : decode cX6_tape 50 = .ok (.ifCond .ge 6, 3) := by decide +kernel
theorem dX6_tape_53 : decode cX6_tape 53 = .ok (.bipush (-14), 2) := by decide +kernel
theorem dX6_tape_55 : decode cX6_tape 55 = .ok (.ireturn, 1) := by decide +kernel
theorem dX6_tape_56 : decode cX6_tape 56 = .ok (.aload_n 0, 1) := by decide +kernel
theorem dX6_tape_57 : decode cX6_tape 57 = .ok (.getfield 56, 3) := by decide +kernel
theorem dX6_tape_60 : decode cX6_tape 60 = .ok (.iload_n 1, 1) := by decide +kernel
theorem dX6_tape_61 : decode cX6_tape 61 = .ok (.aaload, 1) := by decide +kernel
theorem dX6_tape_62 : decode cX6_tape 62 = .ok (.iload_n 2, 1) := by decide +kernel
theorem dX6_tape_63 : decode cX6_tape 63 = .ok (.iload_n 3, 1) := by decide +kernel
theorem dX6_tape_64 : decode cX6_tape 64 = .ok (.invokevirtual 243, 3) := by decide +kernel
theorem dX6_tape_67 : decode cX6_tape 67 = .ok (.iconst 1, 1) := by decide +kernel
theorem dX6_tape_68 : decode cX6_tape 68 = .ok (.ireturn, 1) := by decide +kernel
theorem dX6_item_0 : decode cX6_item 0 = .ok (.iload_n 1, 1) := by decide +kernel
theorem dX6_item_1 : decode cX6_item 1 = .ok (.invokestatic 204, 3) := by decide +kernel
theorem dX6_item_4 : decode cX6_item 4 = .ok (.ifCond .ne 5, 3) := by decide +kernel
theorem dX6_item_7 : decode cX6_item 7 = .ok (.iconst (-1), 1) := by decide +kernel
theorem dX6_item_8 : decode cX6_item 8 = .ok (.ireturn, 1) := by decide +kernel
theorem dX6_item_9 : decode cX6_item 9 = .ok (.aload_n 0, 1) := by decide +kernel
theorem dX6_item_10 : decode cX6_item 10 = .ok (.getfield 56, 3) := by decide +kernel
theorem dX6_item_13 : decode cX6_item 13 = .ok (.iload_n 1, 1) := by decide +kernel
theorem dX6_item_14 : decode cX6_item 14 = .ok (.aaload, 1) := by decide +kernel
theorem dX6_item_15 : decode cX6_item 15 = .ok (.astore 5, 2) := by decide +kernel
theorem dX6_item_17 : decode cX6_item 17 = .ok (.aload 5, 2) := by decide +kernel
theorem dX6_item_19 : decode cX6_item 19 = .ok (.getfield 207, 3) := by decide +kernel
theorem dX6_item_22 : decode cX6_item 22 = .ok (.iconst (-1), 1) := by decide +kernel
theorem dX6_item_23 : decode cX6_item 23 = .ok (.if_icmp .ne 6, 3) := by decide +kernel
theorem dX6_item_26 : decode cX6_item 26 = .ok (.bipush (-11), 2) := by decide +kernel
theorem dX6_item_28 : decode cX6_item 28 = .ok (.ireturn, 1) := by decide +kernel
theorem dX6_item_29 : decode cX6_item 29 = .ok (.iload_n 2, 1) := by decide +kernel
theorem dX6_item_30 : decode cX6_item 30 = .ok (.ifCond .lt 12, 3) := by decide +kernel
theorem dX6_item_33 : decode cX6_item 33 = .ok (.iload_n 2, 1) := by decide +kernel
theorem dX6_item_34 : decode cX6_item 34 = .ok (.aload 5, 2) := by decide +kernel
theorem dX6_item_36 : decode cX6_item 36 = .ok (.getfield 210, 3) := by decide +kernel
theorem dX6_item_39 : decode cX6_item 39 = .ok (.if_icmp .lt 6, 3) := by decide +kernel
theorem dX6_item_42 : decode cX6_item 42 = .ok (.bipush (-13), 2) := by decide +kernel
theorem dX6_item_44 : decode cX6_item 44 = .ok (.ireturn, 1) := by decide +kernel
theorem dX6_item_45 : decode cX6_item 45 = .ok (.aload 5, 2) := by decide +kernel
theorem dX6_item_47 : decode cX6_item 47 = .ok (.getfield 213, 3) := by decide +kernel
theorem dX6_item_50 : decode cX6_item 50 = .ok (.iload_n 2, 1) := by decide +kernel
theorem dX6_item_51 : decode cX6_item 51 = .ok (.aload 5, 2) := by decide +kernel
theorem dX6_item_53 : decode cX6_item 53 = .ok (.lload_n 3, 1) := by decide +kernel
theorem dX6_item_54 : decode cX6_item 54 = .ok (.invokevirtual 246, 3) := by decide +kernel
theorem dX6_item_57 : decode cX6_item 57 = .ok (.lastore, 1) := by decide +kernel
theorem dX6_item_58 : decode cX6_item 58 = .ok (.iconst 1, 1) := by decide +kernel
theorem dX6_item_59 : decode cX6_item 59 = .ok (.ireturn, 1) := by decide +kernel
theorem dX6_read_0 : decode cX6_read 0 = .ok (.iload_n 1, 1) := by decide +kernel
theorem dX6_read_1 : decode cX6_read 1 = .ok (.invokestatic 204, 3) := by decide +kernel
theorem dX6_read_4 : decode cX6_read 4 = .ok (.ifCond .eq 20, 3) := by decide +kernel
theorem dX6_read_7 : decode cX6_read 7 = .ok (.iload_n 2, 1) := by decide +kernel
theorem dX6_read_8 : decode cX6_read 8 = .ok (.ifCond .lt 16, 3) := by decide +kernel
theorem dX6_read_11 : decode cX6_read 11 = .ok (.iload_n 2, 1) := by decide +kernel
theorem dX6_read_12 : decode cX6_read 12 = .ok (.aload_n 0, 1) := by decide +kernel
theorem dX6_read_13 : decode cX6_read 13 = .ok (.getfield 56, 3) := by decide +kernel
theorem dX6_read_16 : decode cX6_read 16 = .ok (.iload_n 1, 1) := by decide +kernel
theorem dX6_read_17 : decode cX6_read 17 = .ok (.aaload, 1) := by decide +kernel
theorem dX6_read_18 : decode cX6_read 18 = .ok (.getfield 210, 3) := by decide +kernel
theorem dX6_read_21 : decode cX6_read 21 = .ok (.if_icmp .lt 7, 3) := by decide +kernel
theorem dX6_read_24 : decode cX6_read 24 = .ok (.ldc2_w 189, 3) := by decide +kernel
theorem dX6_read_27 : decode cX6_read 27 = .ok (.lreturn, 1) := by decide +kernel
theorem dX6_read_28 : decode cX6_read 28 = .ok (.aload_n 0, 1) := by decide +kernel
theorem dX6_read_29 : decode cX6_read 29 = .ok (.getfield 56, 3) := by decide +kernel
theorem dX6_read_32 : decode cX6_read 32 = .ok (.iload_n 1, 1) := by decide +kernel
theorem dX6_read_33 : decode cX6_read 33 = .ok (.aaload, 1) := by decide +kernel
theorem dX6_read_34 : decode cX6_read 34 = .ok (.getfield 213, 3) := by decide +kernel
theorem dX6_read_37 : decode cX6_read 37 = .ok (.iload_n 2, 1) := by decide +kernel
theorem dX6_read_38 : decode cX6_read 38 = .ok (.laload, 1) := by decide +kernel
theorem dX6_read_39 : decode cX6_read 39 = .ok (.lreturn, 1) := by decide +kernel
theorem dX6_shift_0 : decode cX6_shift 0 = .ok (.iload_n 1, 1) := by decide +kernel
theorem dX6_shift_1 : decode cX6_shift 1 = .ok (.invokestatic 204, 3) := by decide +kernel
theorem dX6_shift_4 : decode cX6_shift 4 = .ok (.ifCond .eq 10, 3) := by decide +kernel
theorem dX6_shift_7 : decode cX6_shift 7 = .ok (.iload_n 3, 1) := by decide +kernel
theorem dX6_shift_8 : decode cX6_shift 8 = .ok (.invokestatic 204, 3) := by decide +kernel
theorem dX6_shift_11 : decode cX6_shift 11 = .ok (.ifCond .ne 5, 3) := by decide +kernel
theorem dX6_shift_14 : decode cX6_shift 14 = .ok (.iconst (-1), 1) := by decide +kernel
theorem dX6_shift_15 : decode cX6_shift 15 = .ok (.ireturn, 1) := by decide +kernel
theorem dX6_shift_16 : decode cX6_shift 16 = .ok (.aload_n 0, 1) := by decide +kernel
theorem dX6_shift_17 : decode cX6_shift 17 = .ok (.getfield 56, 3) := by decide +kernel
theorem dX6_shift_20 : decode cX6_shift 20 = .ok (.iload_n 1, 1) := by decide +kernel
theorem dX6_shift_21 : decode cX6_shift 21 = .ok (.aaload, 1) := by decide +kernel
theorem dX6_shift_22 : decode cX6_shift 22 = .ok (.astore 6, 2) := by decide +kernel
theorem dX6_shift_24 : decode cX6_shift 24 = .ok (.aload_n 0, 1) := by decide +kernel
theorem dX6_shift_25 : decode cX6_shift 25 = .ok (.getfield 56, 3) := by decide +kernel
theorem dX6_shift_28 : decode cX6_shift 28 = .ok (.iload_n 3, 1) := by decide +kernel
theorem dX6_shift_29 : decode cX6_shift 29 = .ok (.aaload, 1) := by decide +kernel
theorem dX6_shift_30 : decode cX6_shift 30 = .ok (.astore 7, 2) := by decide +kernel
theorem dX6_shift_32 : decode cX6_shift 32 = .ok (.aload 6, 2) := by decide +kernel
theorem dX6_shift_34 : decode cX6_shift 34 = .ok (.getfield 207, 3) := by decide +kernel
theorem dX6_shift_37 : decode cX6_shift 37 = .ok (.iconst (-1), 1) := by decide +kernel
theorem dX6_shift_38 : decode cX6_shift 38 = .ok (.if_icmp .eq 12, 3) := by decide +kernel
theorem dX6_shift_41 : decode cX6_shift 41 = .ok (.aload 7, 2) := by decide +kernel
theorem dX6_shift_43 : decode cX6_shift 43 = .ok (.getfield 207, 3) := by decide +kernel
theorem dX6_shift_46 : decode cX6_shift 46 = .ok (.iconst (-1), 1) := by decide +kernel
theorem dX6_shift_47 : decode cX6_shift 47 = .ok (.if_icmp .ne 6, 3) := by decide +kernel
theorem dX6_shift_50 : decode cX6_shift 50 = .ok (.bipush (-11), 2) := by decide +kernel
theorem dX6_shift_52 : decode cX6_shift 52 = .ok (.ireturn, 1) := by decide +kernel
theorem dX6_shift_53 : decode cX6_shift 53 = .ok (.aload 6, 2) := by decide +kernel
theorem dX6_shift_55 : decode cX6_shift 55 = .ok (.getfield 207, 3) := by decide +kernel
theorem dX6_shift_58 : decode cX6_shift 58 = .ok (.aload 7, 2) := by decide +kernel
theorem dX6_shift_60 : decode cX6_shift 60 = .ok (.getfield 207, 3) := by decide +kernel
theorem dX6_shift_63 : decode cX6_shift 63 = .ok (.if_icmp .eq 6, 3) := by decide +kernel
theorem dX6_shift_66 : decode cX6_shift 66 = .ok (.bipush (-12), 2) := by decide +kernel
theorem dX6_shift_68 : decode cX6_shift 68 = .ok (.ireturn, 1) := by decide +kernel
theorem dX6_shift_69 : decode cX6_shift 69 = .ok (.aload 6, 2) := by decide +kernel
theorem dX6_shift_71 : decode cX6_shift 71 = .ok (.iload_n 2, 1) := by decide +kernel
theorem dX6_shift_72 : decode cX6_shift 72 = .ok (.iload 5, 2) := by decide +kernel
theorem dX6_shift_74 : decode cX6_shift 74 = .ok (.invokevirtual 250, 3) := by decide +kernel
theorem dX6_shift_77 : decode cX6_shift 77 = .ok (.ifCond .eq 15, 3) := by decide +kernel
theorem dX6_shift_80 : decode cX6_shift 80 = .ok (.aload 7, 2) := by decide +kernel
theorem dX6_shift_82 : decode cX6_shift 82 = .ok (.iload 4, 2) := by decide +kernel
theorem dX6_shift_84 : decode cX6_shift 84 = .ok (.iload 5, 2) := by decide +kernel
theorem dX6_shift_86 : decode cX6_shift 86 = .ok (.invokevirtual 250, 3) := by decide +kernel
theorem dX6_shift_89 : decode cX6_shift 89 = .ok (.ifCond .ne 6, 3) := by decide +kernel
theorem dX6_shift_92 : decode cX6_shift 92 = .ok (.bipush (-13), 2) := by decide +kernel
theorem dX6_shift_94 : decode cX6_shift 94 = .ok (.ireturn, 1) := by decide +kernel
theorem dX6_shift_95 : decode cX6_shift 95 = .ok (.aload 6, 2) := by decide +kernel
theorem dX6_shift_97 : decode cX6_shift 97 = .ok (.getfield 213, 3) := by decide +kernel
theorem dX6_shift_100 : decode cX6_shift 100 = .ok (.iload_n 2, 1) := by decide +kernel
theorem dX6_shift_101 : decode cX6_shift 101 = .ok (.aload 7, 2) := by decide +kernel
theorem dX6_shift_103 : decode cX6_shift 103 = .ok (.getfield 213, 3) := by decide +kernel
theorem dX6_shift_106 : decode cX6_shift 106 = .ok (.iload 4, 2) := by decide +kernel
theorem dX6_shift_108 : decode cX6_shift 108 = .ok (.iload 5, 2) := by decide +kernel
theorem dX6_shift_110 : decode cX6_shift 110 = .ok (.invokestatic 253, 3) := by decide +kernel
theorem dX6_shift_113 : decode cX6_shift 113 = .ok (.iload 5, 2) := by decide +kernel
theorem dX6_shift_115 : decode cX6_shift 115 = .ok (.ireturn, 1) := by decide +kernel
theorem dX6_isHouse_0 : decode cX6_isHouse 0 = .ok (.iload_n 1, 1) := by decide +kernel
theorem dX6_isHouse_1 : decode cX6_isHouse 1 = .ok (.ifCond .lt 18, 3) := by decide +kernel
theorem dX6_isHouse_4 : decode cX6_isHouse 4 = .ok (.iload_n 1, 1) := by decide +kernel
theorem dX6_isHouse_5 : decode cX6_isHouse 5 = .ok (.aload_n 0, 1) := by decide +kernel
theorem dX6_isHouse_6 : decode cX6_isHouse 6 = .ok (.getfield 12, 3) := by decide +kernel
theorem dX6_isHouse_9 : decode cX6_isHouse 9 = .ok (.getfield 79, 3) := by decide +kernel
theorem dX6_isHouse_12 : decode cX6_isHouse 12 = .ok (.if_icmp .ge 7, 3) := by decide +kernel
theorem dX6_isHouse_15 : decode cX6_isHouse 15 = .ok (.iconst 1, 1) := by decide +kernel
theorem dX6_isHouse_16 : decode cX6_isHouse 16 = .ok (.goto 4, 3) := by decide +kernel
theorem dX6_isHouse_19 : decode cX6_isHouse 19 = .ok (.iconst 0, 1) := by decide +kernel
theorem dX6_isHouse_20 : decode cX6_isHouse 20 = .ok (.ireturn, 1) := by decide +kernel
theorem dX6_isKind_0 : decode cX6_isKind 0 = .ok (.iload_n 0, 1) := by decide +kernel
theorem dX6_isKind_1 : decode cX6_isKind 1 = .ok (.ifCond .lt 13, 3) := by decide +kernel
theorem dX6_isKind_4 : decode cX6_isKind 4 = .ok (.iload_n 0, 1) := by decide +kernel
theorem dX6_isKind_5 : decode cX6_isKind 5 = .ok (.bipush 6, 2) := by decide +kernel
theorem dX6_isKind_7 : decode cX6_isKind 7 = .ok (.if_icmp .gt 7, 3) := by decide +kernel
theorem dX6_isKind_10 : decode cX6_isKind 10 = .ok (.iconst 1, 1) := by decide +kernel
theorem dX6_isKind_11 : decode cX6_isKind 11 = .ok (.goto 4, 3) := by decide +kernel
theorem dX6_isKind_14 : decode cX6_isKind 14 = .ok (.iconst 0, 1) := by decide +kernel
theorem dX6_isKind_15 : decode cX6_isKind 15 = .ok (.ireturn, 1) := by decide +kernel
theorem dX6_isV_0 : decode cX6_isV 0 = .ok (.iload_n 0, 1) := by decide +kernel
theorem dX6_isV_1 : decode cX6_isV 1 = .ok (.ifCond .lt 13, 3) := by decide +kernel
theorem dX6_isV_4 : decode cX6_isV 4 = .ok (.iload_n 0, 1) := by decide +kernel
theorem dX6_isV_5 : decode cX6_isV 5 = .ok (.bipush 9, 2) := by decide +kernel
theorem dX6_isV_7 : decode cX6_isV 7 = .ok (.if_icmp .gt 7, 3) := by decide +kernel
theorem dX6_isV_10 : decode cX6_isV 10 = .ok (.iconst 1, 1) := by decide +kernel
theorem dX6_isV_11 : decode cX6_isV 11 = .ok (.goto 4, 3) := by decide +kernel
theorem dX6_isV_14 : decode cX6_isV 14 = .ok (.iconst 0, 1) := by decide +kernel
theorem dX6_isV_15 : decode cX6_isV 15 = .ok (.ireturn, 1) := by decide +kernel
theorem dX6_isEarned_0 : decode cX6_isEarned 0 = .ok (.iload_n 0, 1) := by decide +kernel
theorem dX6_isEarned_1 : decode cX6_isEarned 1 = .ok (.ifCond .lt 13, 3) := by decide +kernel
theorem dX6_isEarned_4 : decode cX6_isEarned 4 = .ok (.iload_n 0, 1) := by decide +kernel
theorem dX6_isEarned_5 : decode cX6_isEarned 5 = .ok (.bipush 99, 2) := by decide +kernel
theorem dX6_isEarned_7 : decode cX6_isEarned 7 = .ok (.if_icmp .gt 7, 3) := by decide +kernel
theorem dX6_isEarned_10 : decode cX6_isEarned 10 = .ok (.iconst 1, 1) := by decide +kernel
theorem dX6_isEarned_11 : decode cX6_isEarned 11 = .ok (.goto 4, 3) := by decide +kernel
theorem dX6_isEarned_14 : decode cX6_isEarned 14 = .ok (.iconst 0, 1) := by decide +kernel
theorem dX6_isEarned_15 : decode cX6_isEarned 15 = .ok (.ireturn, 1) := by decide +kernel
theorem dX6_isWhich_0 : decode cX6_isWhich 0 = .ok (.iload_n 0, 1) := by decide +kernel
theorem dX6_isWhich_1 : decode cX6_isWhich 1 = .ok (.ifCond .eq 8, 3) := by decide +kernel
theorem dX6_isWhich_4 : decode cX6_isWhich 4 = .ok (.iload_n 0, 1) := by decide +kernel
theorem dX6_isWhich_5 : decode cX6_isWhich 5 = .ok (.iconst 1, 1) := by decide +kernel
theorem dX6_isWhich_6 : decode cX6_isWhich 6 = .ok (.if_icmp .ne 7, 3) := by decide +kernel
theorem dX6_isWhich_9 : decode cX6_isWhich 9 = .ok (.iconst 1, 1) := by decide +kernel
theorem dX6_isWhich_10 : decode cX6_isWhich 10 = .ok (.goto 4, 3) := by decide +kernel
theorem dX6_isWhich_13 : decode cX6_isWhich 13 = .ok (.iconst 0, 1) := by decide +kernel
theorem dX6_isWhich_14 : decode cX6_isWhich 14 = .ok (.ireturn, 1) := by decide +kernel
theorem dX6_isTape_0 : decode cX6_isTape 0 = .ok (.iload_n 0, 1) := by decide +kernel
theorem dX6_isTape_1 : decode cX6_isTape 1 = .ok (.ifCond .lt 13, 3) := by decide +kernel
theorem dX6_isTape_4 : decode cX6_isTape 4 = .ok (.iload_n 0, 1) := by decide +kernel
theorem dX6_isTape_5 : decode cX6_isTape 5 = .ok (.bipush 6, 2) := by decide +kernel
theorem dX6_isTape_7 : decode cX6_isTape 7 = .ok (.if_icmp .ge 7, 3) := by decide +kernel
theorem dX6_isTape_10 : decode cX6_isTape 10 = .ok (.iconst 1, 1) := by decide +kernel
theorem dX6_isTape_11 : decode cX6_isTape 11 = .ok (.goto 4, 3) := by decide +kernel
theorem dX6_isTape_14 : decode cX6_isTape 14 = .ok (.iconst 0, 1) := by decide +kernel
theorem dX6_isTape_15 : decode cX6_isTape 15 = .ok (.ireturn, 1) := by decide +kernel
theorem dX6_isUnder_0 : decode cX6_isUnder 0 = .ok (.iload_n 0, 1) := by decide +kernel
theorem dX6_isUnder_1 : decode cX6_isUnder 1 = .ok (.istore_n 2, 1) := by decide +kernel
theorem dX6_isUnder_2 : decode cX6_isUnder 2 = .ok (.iconst 0, 1) := by decide +kernel
theorem dX6_isUnder_3 : decode cX6_isUnder 3 = .ok (.istore_n 3, 1) := by decide +kernel
theorem dX6_isUnder_4 : decode cX6_isUnder 4 = .ok (.iload_n 3, 1) := by decide +kernel
theorem dX6_isUnder_5 : decode cX6_isUnder 5 = .ok (.getstatic 259, 3) := by decide +kernel
theorem dX6_isUnder_8 : decode cX6_isUnder 8 = .ok (.arraylength, 1) := by decide +kernel
theorem dX6_isUnder_9 : decode cX6_isUnder 9 = .ok (.if_icmp .ge 29, 3) := by decide +kernel
theorem dX6_isUnder_12 : decode cX6_isUnder 12 = .ok (.iload_n 2, 1) := by decide +kernel
theorem dX6_isUnder_13 : decode cX6_isUnder 13 = .ok (.invokestatic 69, 3) := by decide +kernel
theorem dX6_isUnder_16 : decode cX6_isUnder 16 = .ok (.ifCond .eq 22, 3) := by decide +kernel
theorem dX6_isUnder_19 : decode cX6_isUnder 19 = .ok (.iload_n 2, 1) := by decide +kernel
theorem dX6_isUnder_20 : decode cX6_isUnder 20 = .ok (.iload_n 1, 1) := by decide +kernel
theorem dX6_isUnder_21 : decode cX6_isUnder 21 = .ok (.if_icmp .ne 5, 3) := by decide +kernel
theorem dX6_isUnder_24 : decode cX6_isUnder 24 = .ok (.iconst 1, 1) := by decide +kernel
theorem dX6_isUnder_25 : decode cX6_isUnder 25 = .ok (.ireturn, 1) := by decide +kernel
theorem dX6_isUnder_26 : decode cX6_isUnder 26 = .ok (.getstatic 259, 3) := by decide +kernel
theorem dX6_isUnder_29 : decode cX6_isUnder 29 = .ok (.iload_n 2, 1) := by decide +kernel
theorem dX6_isUnder_30 : decode cX6_isUnder 30 = .ok (.iaload, 1) := by decide +kernel
theorem dX6_isUnder_31 : decode cX6_isUnder 31 = .ok (.istore_n 2, 1) := by decide +kernel
theorem dX6_isUnder_32 : decode cX6_isUnder 32 = .ok (.iinc 3 1, 3) := by decide +kernel
theorem dX6_isUnder_35 : decode cX6_isUnder 35 = .ok (.goto (-31), 3) := by decide +kernel
theorem dX6_isUnder_38 : decode cX6_isUnder 38 = .ok (.iconst 0, 1) := by decide +kernel
theorem dX6_isUnder_39 : decode cX6_isUnder 39 = .ok (.ireturn, 1) := by decide +kernel
theorem dX6_keepLater_0 : decode cX6_keepLater 0 = .ok (.aload_n 0, 1) := by decide +kernel
theorem dX6_keepLater_1 : decode cX6_keepLater 1 = .ok (.getfield 18, 3) := by decide +kernel
theorem dX6_keepLater_4 : decode cX6_keepLater 4 = .ok (.getfield 96, 3) := by decide +kernel
theorem dX6_keepLater_7 : decode cX6_keepLater 7 = .ok (.iconst 0, 1) := by decide +kernel
theorem dX6_keepLater_8 : decode cX6_keepLater 8 = .ok (.aload_n 0, 1) := by decide +kernel
theorem dX6_keepLater_9 : decode cX6_keepLater 9 = .ok (.getfield 60, 3) := by decide +kernel
theorem dX6_keepLater_12 : decode cX6_keepLater 12 = .ok (.iconst 0, 1) := by decide +kernel
theorem dX6_keepLater_13 : decode cX6_keepLater 13 = .ok (.bipush 7, 2) := by decide +kernel
theorem dX6_keepLater_15 : decode cX6_keepLater 15 = .ok (.invokestatic 253, 3) := by decide +kernel
theorem dX6_keepLater_18 : decode cX6_keepLater 18 = .ok (.return_, 1) := by decide +kernel
theorem dX6_laterOtherwise_0 : decode cX6_laterOtherwise 0 = .ok (.iconst 0, 1) := by decide +kernel
theorem dX6_laterOtherwise_1 : decode cX6_laterOtherwise 1 = .ok (.istore_n 1, 1) := by decide +kernel
theorem dX6_laterOtherwise_2 : decode cX6_laterOtherwise 2 = .ok (.iconst 0, 1) := by decide +kernel
theorem dX6_laterOtherwise_3 : decode cX6_laterOtherwise 3 = .ok (.istore_n 2, 1) := by decide +kernel
theorem dX6_laterOtherwise_4 : decode cX6_laterOtherwise 4 = .ok (.iload_n 2, 1) := by decide +kernel
theorem dX6_laterOtherwise_5 : decode cX6_laterOtherwise 5 = .ok (.aload_n 0, 1) := by decide +kernel
theorem dX6_laterOtherwise_6 : decode cX6_laterOtherwise 6 = .ok (.getfield 18, 3) := by decide +kernel
theorem dX6_laterOtherwise_9 : decode cX6_laterOtherwise 9 = .ok (.getfield 79, 3) := by decide +kernel
theorem dX6_laterOtherwise_12 : decode cX6_laterOtherwise 12 = .ok (.if_icmp .ge 30, 3) := by decide +kernel
theorem dX6_laterOtherwise_15 : decode cX6_laterOtherwise 15 = .ok (.aload_n 0, 1) := by decide +kernel
theorem dX6_laterOtherwise_16 : decode cX6_laterOtherwise 16 = .ok (.getfield 18, 3) := by decide +kernel
theorem dX6_laterOtherwise_19 : decode cX6_laterOtherwise 19 = .ok (.getfield 96, 3) := by decide +kernel
theorem dX6_laterOtherwise_22 : decode cX6_laterOtherwise 22 = .ok (.iload_n 2, 1) := by decide +kernel
theorem dX6_laterOtherwise_23 : decode cX6_laterOtherwise 23 = .ok (.iaload, 1) := by decide +kernel
theorem dX6_laterOtherwise_24 : decode cX6_laterOtherwise 24 = .ok (.aload_n 0, 1) := by decide +kernel
theorem dX6_laterOtherwise_25 : decode cX6_laterOtherwise 25 = .ok (.getfield 60, 3) := by decide +kernel
theorem dX6_laterOtherwise_28 : decode cX6_laterOtherwise 28 = .ok (.iload_n 2, 1) := by decide +kernel
theorem dX6_laterOtherwise_29 : decode cX6_laterOtherwise 29 = .ok (.iaload, 1) := by decide +kernel
theorem dX6_laterOtherwise_30 : decode cX6_laterOtherwise 30 = .ok (.if_icmp .eq 6, 3) := by decide +kernel
theorem dX6_laterOtherwise_33 : decode cX6_laterOtherwise 33 = .ok (.iinc 1 1, 3) := by decide +kernel
theorem dX6_laterOtherwise_36 : decode cX6_laterOtherwise 36 = .ok (.iinc 2 1, 3) := by decide +kernel
theorem dX6_laterOtherwise_39 : decode cX6_laterOtherwise 39 = .ok (.goto (-35), 3) := by decide +kernel
theorem dX6_laterOtherwise_42 : decode cX6_laterOtherwise 42 = .ok (.iload_n 1, 1) := by decide +kernel
theorem dX6_laterOtherwise_43 : decode cX6_laterOtherwise 43 = .ok (.ireturn, 1) := by decide +kernel
theorem dX6_laterAsNow_0 : decode cX6_laterAsNow 0 = .ok (.iconst 0, 1) := by decide +kernel
theorem dX6_laterAsNow_1 : decode cX6_laterAsNow 1 = .ok (.istore_n 1, 1) := by decide +kernel
theorem dX6_laterAsNow_2 : decode cX6_laterAsNow 2 = .ok (.iload_n 1, 1) := by decide +kernel
theorem dX6_laterAsNow_3 : decode cX6_laterAsNow 3 = .ok (.aload_n 0, 1) := by decide +kernel
theorem dX6_laterAsNow_4 : decode cX6_laterAsNow 4 = .ok (.getfield 12, 3) := by decide +kernel
theorem dX6_laterAsNow_7 : decode cX6_laterAsNow 7 = .ok (.getfield 79, 3) := by decide +kernel
theorem dX6_laterAsNow_10 : decode cX6_laterAsNow 10 = .ok (.if_icmp .ge 32, 3) := by decide +kernel
theorem dX6_laterAsNow_13 : decode cX6_laterAsNow 13 = .ok (.aload_n 0, 1) := by decide +kernel
theorem dX6_laterAsNow_14 : decode cX6_laterAsNow 14 = .ok (.getfield 18, 3) := by decide +kernel
theorem dX6_laterAsNow_17 : decode cX6_laterAsNow 17 = .ok (.getfield 96, 3) := by decide +kernel
theorem dX6_laterAsNow_20 : decode cX6_laterAsNow 20 = .ok (.iload_n 1, 1) := by decide +kernel
theorem dX6_laterAsNow_21 : decode cX6_laterAsNow 21 = .ok (.iaload, 1) := by decide +kernel
theorem dX6_laterAsNow_22 : decode cX6_laterAsNow 22 = .ok (.aload_n 0, 1) := by decide +kernel
theorem dX6_laterAsNow_23 : decode cX6_laterAsNow 23 = .ok (.getfield 12, 3) := by decide +kernel
theorem dX6_laterAsNow_26 : decode cX6_laterAsNow 26 = .ok (.getfield 96, 3) := by decide +kernel
theorem dX6_laterAsNow_29 : decode cX6_laterAsNow 29 = .ok (.iload_n 1, 1) := by decide +kernel
theorem dX6_laterAsNow_30 : decode cX6_laterAsNow 30 = .ok (.iaload, 1) := by decide +kernel
theorem dX6_laterAsNow_31 : decode cX6_laterAsNow 31 = .ok (.if_icmp .eq 5, 3) := by decide +kernel
theorem dX6_laterAsNow_34 : decode cX6_laterAsNow 34 = .ok (.iconst 0, 1) := by decide +kernel
theorem dX6_laterAsNow_35 : decode cX6_laterAsNow 35 = .ok (.ireturn, 1) := by decide +kernel
theorem dX6_laterAsNow_36 : decode cX6_laterAsNow 36 = .ok (.iinc 1 1, 3) := by decide +kernel
theorem dX6_laterAsNow_39 : decode cX6_laterAsNow 39 = .ok (.goto (-37), 3) := by decide +kernel
theorem dX6_laterAsNow_42 : decode cX6_laterAsNow 42 = .ok (.iconst 1, 1) := by decide +kernel
theorem dX6_laterAsNow_43 : decode cX6_laterAsNow 43 = .ok (.ireturn, 1) := by decide +kernel
theorem dX6_listValues_0 : decode cX6_listValues 0 = .ok (.iconst 0, 1) := by decide +kernel
theorem dX6_listValues_1 : decode cX6_listValues 1 = .ok (.istore_n 1, 1) := by decide +kernel
theorem dX6_listValues_2 : decode cX6_listValues 2 = .ok (.iconst 0, 1) := by decide +kernel
theorem dX6_listValues_3 : decode cX6_listValues 3 = .ok (.istore_n 2, 1) := by decide +kernel
theorem dX6_listValues_4 : decode cX6_listValues 4 = .ok (.iload_n 2, 1) := by decide +kernel
theorem dX6_listValues_5 : decode cX6_listValues 5 = .ok (.bipush 99, 2) := by decide +kernel
theorem dX6_listValues_7 : decode cX6_listValues 7 = .ok (.if_icmp .gt 36, 3) := by decide +kernel
theorem dX6_listValues_10 : decode cX6_listValues 10 = .ok (.aload_n 0, 1) := by decide +kernel
theorem dX6_listValues_11 : decode cX6_listValues 11 = .ok (.getfield 12, 3) := by decide +kernel
theorem dX6_listValues_14 : decode cX6_listValues 14 = .ok (.iload_n 2, 1) := by decide +kernel
theorem dX6_listValues_15 : decode cX6_listValues 15 = .ok (.invokevirtual 262, 3) := by decide +kernel
theorem dX6_listValues_18 : decode cX6_listValues 18 = .ok (.ifCond .eq 19, 3) := by decide +kernel
theorem dX6_listValues_21 : decode cX6_listValues 21 = .ok (.iload_n 1, 1) := by decide +kernel
theorem dX6_listValues_22 : decode cX6_listValues 22 = .ok (.bipush 7, 2) := by decide +kernel
theorem dX6_listValues_24 : decode cX6_listValues 24 = .ok (.if_icmp .ge 13, 3) := by decide +kernel
theorem dX6_listValues_27 : decode cX6_listValues 27 = .ok (.aload_n 0, 1) := by decide +kernel
theorem dX6_listValues_28 : decode cX6_listValues 28 = .ok (.getfield 64, 3) := by decide +kernel
theorem dX6_listValues_31 : decode cX6_listValues 31 = .ok (.iload_n 1, 1) := by decide +kernel
theorem dX6_listValues_32 : decode cX6_listValues 32 = .ok (.iload_n 2, 1) := by decide +kernel
theorem dX6_listValues_33 : decode cX6_listValues 33 = .ok (.iastore, 1) := by decide +kernel
theorem dX6_listValues_34 : decode cX6_listValues 34 = .ok (.iinc 1 1, 3) := by decide +kernel
theorem dX6_listValues_37 : decode cX6_listValues 37 = .ok (.iinc 2 1, 3) := by decide +kernel
theorem dX6_listValues_40 : decode cX6_listValues 40 = .ok (.goto (-36), 3) := by decide +kernel
theorem dX6_listValues_43 : decode cX6_listValues 43 = .ok (.iload_n 1, 1) := by decide +kernel
theorem dX6_listValues_44 : decode cX6_listValues 44 = .ok (.ireturn, 1) := by decide +kernel
theorem dX6_setLaterRow_0 : decode cX6_setLaterRow 0 = .ok (.iload_n 1, 1) := by decide +kernel
theorem dX6_setLaterRow_1 : decode cX6_setLaterRow 1 = .ok (.istore_n 3, 1) := by decide +kernel
theorem dX6_setLaterRow_2 : decode cX6_setLaterRow 2 = .ok (.aload_n 0, 1) := by decide +kernel
theorem dX6_setLaterRow_3 : decode cX6_setLaterRow 3 = .ok (.getfield 12, 3) := by decide +kernel
theorem dX6_setLaterRow_6 : decode cX6_setLaterRow 6 = .ok (.getfield 79, 3) := by decide +kernel
theorem dX6_setLaterRow_9 : decode cX6_setLaterRow 9 = .ok (.iconst 1, 1) := by decide +kernel
theorem dX6_setLaterRow_10 : decode cX6_setLaterRow 10 = .ok (.isub, 1) := by decide +kernel
theorem dX6_setLaterRow_11 : decode cX6_setLaterRow 11 = .ok (.istore 4, 2) := by decide +kernel
theorem dX6_setLaterRow_13 : decode cX6_setLaterRow 13 = .ok (.iload 4, 2) := by decide +kernel
theorem dX6_setLaterRow_15 : decode cX6_setLaterRow 15 = .ok (.ifCond .lt 35, 3) := by decide +kernel
theorem dX6_setLaterRow_18 : decode cX6_setLaterRow 18 = .ok (.iload_n 2, 1) := by decide +kernel
theorem dX6_setLaterRow_19 : decode cX6_setLaterRow 19 = .ok (.ifCond .le 31, 3) := by decide +kernel
theorem dX6_setLaterRow_22 : decode cX6_setLaterRow 22 = .ok (.aload_n 0, 1) := by decide +kernel
theorem dX6_setLaterRow_23 : decode cX6_setLaterRow 23 = .ok (.getfield 18, 3) := by decide +kernel
theorem dX6_setLaterRow_26 : decode cX6_setLaterRow 26 = .ok (.getfield 96, 3) := by decide +kernel
theorem dX6_setLaterRow_29 : decode cX6_setLaterRow 29 = .ok (.iload 4, 2) := by decide +kernel
theorem dX6_setLaterRow_31 : decode cX6_setLaterRow 31 = .ok (.aload_n 0, 1) := by decide +kernel
theorem dX6_setLaterRow_32 : decode cX6_setLaterRow 32 = .ok (.getfield 64, 3) := by decide +kernel
theorem dX6_setLaterRow_35 : decode cX6_setLaterRow 35 = .ok (.iload_n 3, 1) := by decide +kernel
theorem dX6_setLaterRow_36 : decode cX6_setLaterRow 36 = .ok (.iload_n 2, 1) := by decide +kernel
theorem dX6_setLaterRow_37 : decode cX6_setLaterRow 37 = .ok (.irem, 1) := by decide +kernel
theorem dX6_setLaterRow_38 : decode cX6_setLaterRow 38 = .ok (.iaload, 1) := by decide +kernel
theorem dX6_setLaterRow_39 : decode cX6_setLaterRow 39 = .ok (.iastore, 1) := by decide +kernel
theorem dX6_setLaterRow_40 : decode cX6_setLaterRow 40 = .ok (.iload_n 3, 1) := by decide +kernel
theorem dX6_setLaterRow_41 : decode cX6_setLaterRow 41 = .ok (.iload_n 2, 1) := by decide +kernel
theorem dX6_setLaterRow_42 : decode cX6_setLaterRow 42 = .ok (.idiv, 1) := by decide +kernel
theorem dX6_setLaterRow_43 : decode cX6_setLaterRow 43 = .ok (.istore_n 3, 1) := by decide +kernel
theorem dX6_setLaterRow_44 : decode cX6_setLaterRow 44 = .ok (.iinc 4 (-1), 3) := by decide +kernel
theorem dX6_setLaterRow_47 : decode cX6_setLaterRow 47 = .ok (.goto (-34), 3) := by decide +kernel
theorem dX6_setLaterRow_50 : decode cX6_setLaterRow 50 = .ok (.return_, 1) := by decide +kernel
theorem dX6_allSeenIfLies_0 : decode cX6_allSeenIfLies 0 = .ok (.aload_n 0, 1) := by decide +kernel
theorem dX6_allSeenIfLies_1 : decode cX6_allSeenIfLies 1 = .ok (.getfield 18, 3) := by decide +kernel
theorem dX6_allSeenIfLies_4 : decode cX6_allSeenIfLies 4 = .ok (.iload_n 1, 1) := by decide +kernel
theorem dX6_allSeenIfLies_5 : decode cX6_allSeenIfLies 5 = .ok (.invokevirtual 265, 3) := by decide +kernel
theorem dX6_allSeenIfLies_8 : decode cX6_allSeenIfLies 8 = .ok (.aload_n 0, 1) := by decide +kernel
theorem dX6_allSeenIfLies_9 : decode cX6_allSeenIfLies 9 = .ok (.getfield 18, 3) := by decide +kernel
theorem dX6_allSeenIfLies_12 : decode cX6_allSeenIfLies 12 = .ok (.invokevirtual 105, 3) := by decide +kernel
theorem dX6_allSeenIfLies_15 : decode cX6_allSeenIfLies 15 = .ok (.iconst 0, 1) := by decide +kernel
theorem dX6_allSeenIfLies_16 : decode cX6_allSeenIfLies 16 = .ok (.istore_n 2, 1) := by decide +kernel
theorem dX6_allSeenIfLies_17 : decode cX6_allSeenIfLies 17 = .ok (.iload_n 2, 1) := by decide +kernel
theorem dX6_allSeenIfLies_18 : decode cX6_allSeenIfLies 18 = .ok (.aload_n 0, 1) := by decide +kernel
theorem dX6_allSeenIfLies_19 : decode cX6_allSeenIfLies 19 = .ok (.getfield 27, 3) := by decide +kernel
theorem dX6_allSeenIfLies_22 : decode cX6_allSeenIfLies 22 = .ok (.getfield 179, 3) := by decide +kernel
theorem dX6_allSeenIfLies_25 : decode cX6_allSeenIfLies 25 = .ok (.if_icmp .ge 50, 3) := by decide +kernel
theorem dX6_allSeenIfLies_28 : decode cX6_allSeenIfLies 28 = .ok (.aload_n 0, 1) := by decide +kernel
theorem dX6_allSeenIfLies_29 : decode cX6_allSeenIfLies 29 = .ok (.getfield 27, 3) := by decide +kernel
theorem dX6_allSeenIfLies_32 : decode cX6_allSeenIfLies 32 = .ok (.getfield 268, 3) := by decide +kernel
theorem dX6_allSeenIfLies_35 : decode cX6_allSeenIfLies 35 = .ok (.iload_n 2, 1) := by decide +kernel
theorem dX6_allSeenIfLies_36 : decode cX6_allSeenIfLies 36 = .ok (.iaload, 1) := by decide +kernel
theorem dX6_allSeenIfLies_37 : decode cX6_allSeenIfLies 37 = .ok (.istore_n 3, 1) := by decide +kernel
theorem dX6_allSeenIfLies_38 : decode cX6_allSeenIfLies 38 = .ok (.aload_n 0, 1) := by decide +kernel
theorem dX6_allSeenIfLies_39 : decode cX6_allSeenIfLies 39 = .ok (.iload_n 3, 1) := by decide +kernel
theorem dX6_allSeenIfLies_40 : decode cX6_allSeenIfLies 40 = .ok (.invokevirtual 87, 3) := by decide +kernel
theorem dX6_allSeenIfLies_43 : decode cX6_allSeenIfLies 43 = .ok (.ifCond .eq 24, 3) := by decide +kernel
theorem dX6_allSeenIfLies_46 : decode cX6_allSeenIfLies 46 = .ok (.aload_n 0, 1) := by decide +kernel
theorem dX6_allSeenIfLies_47 : decode cX6_allSeenIfLies 47 = .ok (.getfield 18, 3) := by decide +kernel
theorem dX6_allSeenIfLies_50 : decode cX6_allSeenIfLies 50 = .ok (.getfield 108, 3) := by decide +kernel
theorem dX6_allSeenIfLies_53 : decode cX6_allSeenIfLies 53 = .ok (.iload_n 3, 1) := by decide +kernel
theorem dX6_allSeenIfLies_54 : decode cX6_allSeenIfLies 54 = .ok (.iaload, 1) := by decide +kernel
theorem dX6_allSeenIfLies_55 : decode cX6_allSeenIfLies 55 = .ok (.aload_n 0, 1) := by decide +kernel
theorem dX6_allSeenIfLies_56 : decode cX6_allSeenIfLies 56 = .ok (.getfield 27, 3) := by decide +kernel
theorem dX6_allSeenIfLies_59 : decode cX6_allSeenIfLies 59 = .ok (.getfield 271, 3) := by decide +kernel
theorem dX6_allSeenIfLies_62 : decode cX6_allSeenIfLies 62 = .ok (.iload_n 2, 1) := by decide +kernel
theorem dX6_allSeenIfLies_63 : decode cX6_allSeenIfLies 63 = .ok (.iaload, 1) := by decide +kernel
theorem dX6_allSeenIfLies_64 : decode cX6_allSeenIfLies 64 = .ok (.if_icmp .eq 5, 3) := by decide +kernel
theorem dX6_allSeenIfLies_67 : decode cX6_allSeenIfLies 67 = .ok (.iconst 0, 1) := by decide +kernel
theorem dX6_allSeenIfLies_68 : decode cX6_allSeenIfLies 68 = .ok (.ireturn, 1) := by decide +kernel
theorem dX6_allSeenIfLies_69 : decode cX6_allSeenIfLies 69 = .ok (.iinc 2 1, 3) := by decide +kernel
theorem dX6_allSeenIfLies_72 : decode cX6_allSeenIfLies 72 = .ok (.goto (-55), 3) := by decide +kernel
theorem dX6_allSeenIfLies_75 : decode cX6_allSeenIfLies 75 = .ok (.iconst 1, 1) := by decide +kernel
theorem dX6_allSeenIfLies_76 : decode cX6_allSeenIfLies 76 = .ok (.ireturn, 1) := by decide +kernel
theorem dX6_lowest_0 : decode cX6_lowest 0 = .ok (.iload_n 0, 1) := by decide +kernel
theorem dX6_lowest_1 : decode cX6_lowest 1 = .ok (.istore_n 3, 1) := by decide +kernel
theorem dX6_lowest_2 : decode cX6_lowest 2 = .ok (.iload_n 1, 1) := by decide +kernel
theorem dX6_lowest_3 : decode cX6_lowest 3 = .ok (.istore 4, 2) := by decide +kernel
theorem dX6_lowest_5 : decode cX6_lowest 5 = .ok (.iconst 0, 1) := by decide +kernel
theorem dX6_lowest_6 : decode cX6_lowest 6 = .ok (.istore 5, 2) := by decide +kernel
theorem dX6_lowest_8 : decode cX6_lowest 8 = .ok (.iload 5, 2) := by decide +kernel
theorem dX6_lowest_10 : decode cX6_lowest 10 = .ok (.bipush 100, 2) := by decide +kernel
theorem dX6_lowest_12 : decode cX6_lowest 12 = .ok (.if_icmp .ge 27, 3) := by decide +kernel
theorem dX6_lowest_15 : decode cX6_lowest 15 = .ok (.iload 4, 2) := by decide +kernel
theorem dX6_lowest_17 : decode cX6_lowest 17 = .ok (.ifCond .eq 22, 3) := by decide +kernel
theorem dX6_lowest_20 : decode cX6_lowest 20 = .ok (.iload_n 3, 1) := by decide +kernel
theorem dX6_lowest_21 : decode cX6_lowest 21 = .ok (.iload 4, 2) := by decide +kernel
theorem dX6_lowest_23 : decode cX6_lowest 23 = .ok (.irem, 1) := by decide +kernel
theorem dX6_lowest_24 : decode cX6_lowest 24 = .ok (.istore 6, 2) := by decide +kernel
theorem dX6_lowest_26 : decode cX6_lowest 26 = .ok (.iload 4, 2) := by decide +kernel
theorem dX6_lowest_28 : decode cX6_lowest 28 = .ok (.istore_n 3, 1) := by decide +kernel
theorem dX6_lowest_29 : decode cX6_lowest 29 = .ok (.iload 6, 2) := by decide +kernel
theorem dX6_lowest_31 : decode cX6_lowest 31 = .ok (.istore 4, 2) := by decide +kernel
theorem dX6_lowest_33 : decode cX6_lowest 33 = .ok (.iinc 5 1, 3) := by decide +kernel
theorem dX6_lowest_36 : decode cX6_lowest 36 = .ok (.goto (-28), 3) := by decide +kernel
theorem dX6_lowest_39 : decode cX6_lowest 39 = .ok (.iload_n 3, 1) := by decide +kernel
theorem dX6_lowest_40 : decode cX6_lowest 40 = .ok (.ifCond .ne 7, 3) := by decide +kernel
theorem dX6_lowest_43 : decode cX6_lowest 43 = .ok (.ldc2_w 189, 3) := by decide +kernel
theorem dX6_lowest_46 : decode cX6_lowest 46 = .ok (.lreturn, 1) := by decide +kernel
theorem dX6_lowest_47 : decode cX6_lowest 47 = .ok (.iload_n 2, 1) := by decide +kernel
theorem dX6_lowest_48 : decode cX6_lowest 48 = .ok (.ifCond .ne 10, 3) := by decide +kernel
theorem dX6_lowest_51 : decode cX6_lowest 51 = .ok (.iload_n 0, 1) := by decide +kernel
theorem dX6_lowest_52 : decode cX6_lowest 52 = .ok (.iload_n 3, 1) := by decide +kernel
theorem dX6_lowest_53 : decode cX6_lowest 53 = .ok (.idiv, 1) := by decide +kernel
theorem dX6_lowest_54 : decode cX6_lowest 54 = .ok (.i2l, 1) := by decide +kernel
theorem dX6_lowest_55 : decode cX6_lowest 55 = .ok (.goto 7, 3) := by decide +kernel
theorem dX6_lowest_58 : decode cX6_lowest 58 = .ok (.iload_n 1, 1) := by decide +kernel
theorem dX6_lowest_59 : decode cX6_lowest 59 = .ok (.iload_n 3, 1) := by decide +kernel
theorem dX6_lowest_60 : decode cX6_lowest 60 = .ok (.idiv, 1) := by decide +kernel
theorem dX6_lowest_61 : decode cX6_lowest 61 = .ok (.i2l, 1) := by decide +kernel
theorem dX6_lowest_62 : decode cX6_lowest 62 = .ok (.lreturn, 1) := by decide +kernel
end
section
theorem dX7_init_0 : decode cX7_init 0 = .ok (.aload_n 0, 1) := by decide +kernel
theorem dX7_init_1 : decode cX7_init 1 = .ok (.invokespecial 1, 3) := by decide +kernel
theorem dX7_init_4 : decode cX7_init 4 = .ok (.aload_n 0, 1) := by decide +kernel
theorem dX7_init_5 : decode cX7_init 5 = .ok (.iconst 0, 1) := by decide +kernel
theorem dX7_init_6 : decode cX7_init 6 = .ok (.putfield 7, 3) := by decide +kernel
theorem dX7_init_9 : decode cX7_init 9 = .ok (.aload_n 0, 1) := by decide +kernel
theorem dX7_init_10 : decode cX7_init 10 = .ok (.iconst 0, 1) := by decide +kernel
theorem dX7_init_11 : decode cX7_init 11 = .ok (.putfield 13, 3) := by decide +kernel
theorem dX7_init_14 : decode cX7_init 14 = .ok (.aload_n 0, 1) := by decide +kernel
theorem dX7_init_15 : decode cX7_init 15 = .ok (.bipush 8, 2) := by decide +kernel
theorem dX7_init_17 : decode cX7_init 17 = .ok (.newarray .int, 2) := by decide +kernel
theorem dX7_init_19 : decode cX7_init 19 = .ok (.putfield 16, 3) := by decide +kernel
theorem dX7_init_22 : decode cX7_init 22 = .ok (.aload_n 0, 1) := by decide +kernel
theorem dX7_init_23 : decode cX7_init 23 = .ok (.bipush 8, 2) := by decide +kernel
theorem dX7_init_25 : decode cX7_init 25 = .ok (.newarray .int, 2) := by decide +kernel
theorem dX7_init_27 : decode cX7_init 27 = .ok (.putfield 20, 3) := by decide +kernel
theorem dX7_init_30 : decode cX7_init 30 = .ok (.aload_n 0, 1) := by decide +kernel
theorem dX7_init_31 : decode cX7_init 31 = .ok (.bipush 8, 2) := by decide +kernel
theorem dX7_init_33 : decode cX7_init 33 = .ok (.newarray .int, 2) := by decide +kernel
theorem dX7_init_35 : decode cX7_init 35 = .ok (.putfield 23, 3) := by decide +kernel
theorem dX7_init_38 : decode cX7_init 38 = .ok (.aload_n 0, 1) := by decide +kernel
theorem dX7_init_39 : decode cX7_init 39 = .ok (.bipush 32, 2) := by decide +kernel
theorem dX7_init_41 : decode cX7_init 41 = .ok (.newarray .int, 2) := by decide +kernel
theorem dX7_init_43 : decode cX7_init 43 = .ok (.putfield 26, 3) := by decide +kernel
theorem dX7_init_46 : decode cX7_init 46 = .ok (.aload_n 0, 1) := by decide +kernel
theorem dX7_init_47 : decode cX7_init 47 = .ok (.iconst 0, 1) := by decide +kernel
theorem dX7_init_48 : decode cX7_init 48 = .ok (.putfield 29, 3) := by decide +kernel
theorem dX7_init_51 : decode cX7_init 51 = .ok (.aload_n 0, 1) := by decide +kernel
theorem dX7_init_52 : decode cX7_init 52 = .ok (.iconst (-1), 1) := by decide +kernel
theorem dX7_init_53 : decode cX7_init 53 = .ok (.putfield 32, 3) := by decide +kernel
theorem dX7_init_56 : decode cX7_init 56 = .ok (.aload_n 0, 1) := by decide +kernel
theorem dX7_init_57 : decode cX7_init 57 = .ok (.iconst 0, 1) := by decide +kernel
theorem dX7_init_58 : decode cX7_init 58 = .ok (.putfield 35, 3) := by decide +kernel
theorem dX7_init_61 : decode cX7_init 61 = .ok (.aload_n 0, 1) := by decide +kernel
theorem dX7_init_62 : decode cX7_init 62 = .ok (.iconst 0, 1) := by decide +kernel
theorem dX7_init_63 : decode cX7_init 63 = .ok (.putfield 38, 3) := by decide +kernel
theorem dX7_init_66 : decode cX7_init 66 = .ok (.aload_n 0, 1) := by decide +kernel
theorem dX7_init_67 : decode cX7_init 67 = .ok (.iconst 0, 1) := by decide +kernel
theorem dX7_init_68 : decode cX7_init 68 = .ok (.putfield 41, 3) := by decide +kernel
theorem dX7_init_71 : decode cX7_init 71 = .ok (.aload_n 0, 1) := by decide +kernel
theorem dX7_init_72 : decode cX7_init 72 = .ok (.bipush 100, 2) := by decide +kernel
theorem dX7_init_74 : decode cX7_init 74 = .ok (.newarray .int, 2) := by decide +kernel
theorem dX7_init_76 : decode cX7_init 76 = .ok (.putfield 44, 3) := by decide +kernel
theorem dX7_init_79 : decode cX7_init 79 = .ok (.aload_n 0, 1) := by decide +kernel
theorem dX7_init_80 : decode cX7_init 80 = .ok (.bipush 6, 2) := by decide +kernel
theorem dX7_init_82 : decode cX7_init 82 = .ok (.newarray .int, 2) := by decide +kernel
theorem dX7_init_84 : decode cX7_init 84 = .ok (.putfield 47, 3) := by decide +kernel
theorem dX7_init_87 : decode cX7_init 87 = .ok (.aload_n 0, 1) := by decide +kernel
theorem dX7_init_88 : decode cX7_init 88 = .ok (.bipush 60, 2) := by decide +kernel
theorem dX7_init_90 : decode cX7_init 90 = .ok (.newarray .int, 2) := by decide +kernel
theorem dX7_init_92 : decode cX7_init 92 = .ok (.putfield 50, 3) := by decide +kernel
theorem dX7_init_95 : decode cX7_init 95 = .ok (.aload_n 0, 1) := by decide +kernel
theorem dX7_init_96 : decode cX7_init 96 = .ok (.bipush 60, 2) := by decide +kernel
theorem dX7_init_98 : decode cX7_init 98 = .ok (.newarray .int, 2) := by decide +kernel
theorem dX7_init_100 : decode cX7_init 100 = .ok (.putfield 53, 3) := by decide +kernel
theorem dX7_init_103 : decode cX7_init 103 = .ok (.aload_n 0, 1) := by decide +kernel
theorem dX7_init_104 : decode cX7_init 104 = .ok (.bipush 60, 2) := by decide +kernel
theorem dX7_init_106 : decode cX7_init 106 = .ok (.newarray .int, 2) := by decide +kernel
theorem dX7_init_108 : decode cX7_init 108 = .ok (.putfield 56, 3) := by decide +kernel
theorem dX7_init_111 : decode cX7_init 111 = .ok (.aload_n 0, 1) := by decide +kernel
theorem dX7_init_112 : decode cX7_init 112 = .ok (.bipush 60, 2) := by decide +kernel
theorem dX7_init_114 : decode cX7_init 114 = .ok (.newarray .int, 2) := by decide +kernel
theorem dX7_init_116 : decode cX7_init 116 = .ok (.putfield 59, 3) := by decide +kernel
theorem dX7_init_119 : decode cX7_init 119 = .ok (.aload_n 0, 1) := by decide +kernel
theorem dX7_init_120 : decode cX7_init 120 = .ok (.sipush 600, 3) := by decide +kernel
theorem dX7_init_123 : decode cX7_init 123 = .ok (.newarray .int, 2) := by decide +kernel
theorem dX7_init_125 : decode cX7_init 125 = .ok (.putfield 62, 3) := by decide +kernel
theorem dX7_init_128 : decode cX7_init 128 = .ok (.aload_n 0, 1) := by decide +kernel
theorem dX7_init_129 : decode cX7_init 129 = .ok (.bipush 101, 2) := by decide +kernel
theorem dX7_init_131 : decode cX7_init 131 = .ok (.newarray .int, 2) := by decide +kernel
theorem dX7_init_133 : decode cX7_init 133 = .ok (.putfield 65, 3) := by decide +kernel
theorem dX7_init_136 : decode cX7_init 136 = .ok (.aload_n 0, 1) := by decide +kernel
theorem dX7_init_137 : decode cX7_init 137 = .ok (.iconst 0, 1) := by decide +kernel
theorem dX7_init_138 : decode cX7_init 138 = .ok (.putfield 68, 3) := by decide +kernel
theorem dX7_init_141 : decode cX7_init 141 = .ok (.aload_n 0, 1) := by decide +kernel
theorem dX7_init_142 : decode cX7_init 142 = .ok (.iconst 0, 1) := by decide +kernel
theorem dX7_init_143 : decode cX7_init 143 = .ok (.putfield 71, 3) := by decide +kernel
theorem dX7_init_146 : decode cX7_init 146 = .ok (.aload_n 0, 1) := by decide +kernel
theorem dX7_init_147 : decode cX7_init 147 = .ok (.iconst 0, 1) := by decide +kernel
theorem dX7_init_148 : decode cX7_init 148 = .ok (.putfield 74, 3) := by decide +kernel
theorem dX7_init_151 : decode cX7_init 151 = .ok (.aload_n 0, 1) := by decide +kernel
theorem dX7_init_152 : decode cX7_init 152 = .ok (.bipush 13, 2) := by decide +kernel
theorem dX7_init_154 : decode cX7_init 154 = .ok (.newarray .int, 2) := by decide +kernel
theorem dX7_init_156 : decode cX7_init 156 = .ok (.dup, 1) := by decide +kernel
theorem dX7_init_157 : decode cX7_init 157 = .ok (.iconst 0, 1) := by decide +kernel
theorem dX7_init_158 : decode cX7_init 158 = .ok (.bipush 97, 2) := by decide +kernel
theorem dX7_init_160 : decode cX7_init 160 = .ok (.iastore, 1) := by decide +kernel
theorem dX7_init_161 : decode cX7_init 161 = .ok (.dup, 1) := by decide +kernel
theorem dX7_init_162 : decode cX7_init 162 = .ok (.iconst 1, 1) := by decide +kernel
theorem dX7_init_163 : decode cX7_init 163 = .ok (.bipush 100, 2) := by decide +kernel
theorem dX7_init_165 : decode cX7_init 165 = .ok (.iastore, 1) := by decide +kernel
theorem dX7_init_166 : decode cX7_init 166 = .ok (.dup, 1) := by decide +kernel
theorem dX7_init_167 : decode cX7_init 167 = .ok (.iconst 2, 1) := by decide +kernel
theorem dX7_init_168 : decode cX7_init 168 = .ok (.bipush 100, 2) := by decide +kernel
theorem dX7_init_170 : decode cX7_init 170 = .ok (.iastore, 1) := by decide +kernel
theorem dX7_init_171 : decode cX7_init 171 = .ok (.dup, 1) := by decide +kernel
theorem dX7_init_172 : decode cX7_init 172 = .ok (.iconst 3, 1) := by decide +kernel
theorem dX7_init_173 : decode cX7_init 173 = .ok (.bipush 116, 2) := by decide +kernel
theorem dX7_init_175 : decode cX7_init 175 = .ok (.iastore, 1) := by decide +kernel
theorem dX7_init_176 : decode cX7_init 176 = .ok (.dup, 1) := by decide +kernel
theorem dX7_init_177 : decode cX7_init 177 = .ok (.iconst 4, 1) := by decide +kernel
theorem dX7_init_178 : decode cX7_init 178 = .ok (.bipush 97, 2) := by decide +kernel
theorem dX7_init_180 : decode cX7_init 180 = .ok (.iastore, 1) := by decide +kernel
theorem dX7_init_181 : decode cX7_init 181 = .ok (.dup, 1) := by decide +kernel
theorem dX7_init_182 : decode cX7_init 182 = .ok (.iconst 5, 1) := by decide +kernel
theorem dX7_init_183 : decode cX7_init 183 = .ok (.bipush 120, 2) := by decide +kernel
theorem dX7_init_185 : decode cX7_init 185 = .ok (.iastore, 1) := by decide +kernel
theorem dX7_init_186 : decode cX7_init 186 = .ok (.dup, 1) := by decide +kernel
theorem dX7_init_187 : decode cX7_init 187 = .ok (.bipush 6, 2) := by decide +kernel
theorem dX7_init_189 : decode cX7_init 189 = .ok (.bipush 114, 2) := by decide +kernel
theorem dX7_init_191 : decode cX7_init 191 = .ok (.iastore, 1) := by decide +kernel
theorem dX7_init_192 : decode cX7_init 192 = .ok (.dup, 1) := by decide +kernel
theorem dX7_init_193 : decode cX7_init 193 = .ok (.bipush 7, 2) := by decide +kernel
theorem dX7_init_195 : decode cX7_init 195 = .ok (.bipush 105, 2) := by decide +kernel
theorem dX7_init_197 : decode cX7_init 197 = .ok (.iastore, 1) := by decide +kernel
theorem dX7_init_198 : decode cX7_init 198 = .ok (.dup, 1) := by decide +kernel
theorem dX7_init_199 : decode cX7_init 199 = .ok (.bipush 8, 2) := by decide +kernel
theorem dX7_init_201 : decode cX7_init 201 = .ok (.bipush 110, 2) := by decide +kernel
theorem dX7_init_203 : decode cX7_init 203 = .ok (.iastore, 1) := by decide +kernel
theorem dX7_init_204 : decode cX7_init 204 = .ok (.dup, 1) := by decide +kernel
theorem dX7_init_205 : decode cX7_init 205 = .ok (.bipush 9, 2) := by decide +kernel
theorem dX7_init_207 : decode cX7_init 207 = .ok (.bipush 103, 2) := by decide +kernel
theorem dX7_init_209 : decode cX7_init 209 = .ok (.iastore, 1) := by decide +kernel
theorem dX7_init_210 : decode cX7_init 210 = .ok (.dup, 1) := by decide +kernel
theorem dX7_init_211 : decode cX7_init 211 = .ok (.bipush 10, 2) := by decide +kernel
theorem dX7_init_213 : decode cX7_init 213 = .ok (.bipush 114, 2) := by decide +kernel
theorem dX7_init_215 : decode cX7_init 215 = .ok (.iastore, 1) := by decide +kernel
theorem dX7_init_216 : decode cX7_init 216 = .ok (.dup, 1) := by decide +kernel
theorem dX7_init_217 : decode cX7_init 217 = .ok (.bipush 11, 2) := by decide +kernel
theorem dX7_init_219 : decode cX7_init 219 = .ok (.bipush 111, 2) := by decide +kernel
theorem dX7_init_221 : decode cX7_init 221 = .ok (.iastore, 1) := by decide +kernel
theorem dX7_init_222 : decode cX7_init 222 = .ok (.dup, 1) := by decide +kernel
theorem dX7_init_223 : decode cX7_init 223 = .ok (.bipush 12, 2) := by decide +kernel
theorem dX7_init_225 : decode cX7_init 225 = .ok (.bipush 119, 2) := by decide +kernel
theorem dX7_init_227 : decode cX7_init 227 = .ok (.iastore, 1) := by decide +kernel
theorem dX7_init_228 : decode cX7_init 228 = .ok (.putfield 77, 3) := by decide +kernel
theorem dX7_init_231 : decode cX7_init 231 = .ok (.aload_n 0, 1) := by decide +kernel
theorem dX7_init_232 : decode cX7_init 232 = .ok (.bipush 100, 2) := by decide +kernel
theorem dX7_init_234 : decode cX7_init 234 = .ok (.newarray .boolean, 2) := by decide +kernel
theorem dX7_init_236 : decode cX7_init 236 = .ok (.putfield 80, 3) := by decide +kernel
theorem dX7_init_239 : decode cX7_init 239 = .ok (.aload_n 0, 1) := by decide +kernel
theorem dX7_init_240 : decode cX7_init 240 = .ok (.iconst (-1), 1) := by decide +kernel
theorem dX7_init_241 : decode cX7_init 241 = .ok (.putfield 84, 3) := by decide +kernel
theorem dX7_init_244 : decode cX7_init 244 = .ok (.aload_n 0, 1) := by decide +kernel
theorem dX7_init_245 : decode cX7_init 245 = .ok (.bipush 8, 2) := by decide +kernel
theorem dX7_init_247 : decode cX7_init 247 = .ok (.newarray .int, 2) := by decide +kernel
theorem dX7_init_249 : decode cX7_init 249 = .ok (.putfield 87, 3) := by decide +kernel
theorem dX7_init_252 : decode cX7_init 252 = .ok (.aload_n 0, 1) := by decide +kernel
theorem dX7_init_253 : decode cX7_init 253 = .ok (.iconst 0, 1) := by decide +kernel
theorem dX7_init_254 : decode cX7_init 254 = .ok (.putfield 90, 3) := by decide +kernel
theorem dX7_init_257 : decode cX7_init 257 = .ok (.aload_n 0, 1) := by decide +kernel
theorem dX7_init_258 : decode cX7_init 258 = .ok (.bipush 8, 2) := by decide +kernel
theorem dX7_init_260 : decode cX7_init 260 = .ok (.newarray .int, 2) := by decide +kernel
theorem dX7_init_262 : decode cX7_init 262 = .ok (.putfield 93, 3) := by decide +kernel
theorem dX7_init_265 : decode cX7_init 265 = .ok (.aload_n 0, 1) := by decide +kernel
theorem dX7_init_266 : decode cX7_init 266 = .ok (.bipush 8, 2) := by decide +kernel
theorem dX7_init_268 : decode cX7_init 268 = .ok (.newarray .int, 2) := by decide +kernel
theorem dX7_init_270 : decode cX7_init 270 = .ok (.putfield 96, 3) := by decide +kernel
theorem dX7_init_273 : decode cX7_init 273 = .ok (.aload_n 0, 1) := by decide +kernel
theorem dX7_init_274 : decode cX7_init 274 = .ok (.iconst 0, 1) := by decide +kernel
theorem dX7_init_275 : decode cX7_init 275 = .ok (.putfield 99, 3) := by decide +kernel
theorem dX7_init_278 : decode cX7_init 278 = .ok (.aload_n 0, 1) := by decide +kernel
theorem dX7_init_279 : decode cX7_init 279 = .ok (.bipush 8, 2) := by decide +kernel
theorem dX7_init_281 : decode cX7_init 281 = .ok (.newarray .int, 2) := by decide +kernel
theorem dX7_init_283 : decode cX7_init 283 = .ok (.putfield 102, 3) := by decide +kernel
theorem dX7_init_286 : decode cX7_init 286 = .ok (.aload_n 0, 1) := by decide +kernel
theorem dX7_init_287 : decode cX7_init 287 = .ok (.bipush 8, 2) := by decide +kernel
theorem dX7_init_289 : decode cX7_init 289 = .ok (.newarray .int, 2) := by decide +kernel
theorem dX7_init_291 : decode cX7_init 291 = .ok (.putfield 105, 3) := by decide +kernel
theorem dX7_init_294 : decode cX7_init 294 = .ok (.aload_n 0, 1) := by decide +kernel
theorem dX7_init_295 : decode cX7_init 295 = .ok (.bipush 8, 2) := by decide +kernel
theorem dX7_init_297 : decode cX7_init 297 = .ok (.newarray .int, 2) := by decide +kernel
theorem dX7_init_299 : decode cX7_init 299 = .ok (.putfield 108, 3) := by decide +kernel
theorem dX7_init_302 : decode cX7_init 302 = .ok (.aload_n 0, 1) := by decide +kernel
theorem dX7_init_303 : decode cX7_init 303 = .ok (.bipush 8, 2) := by decide +kernel
theorem dX7_init_305 : decode cX7_init 305 = .ok (.newarray .int, 2) := by decide +kernel
theorem dX7_init_307 : decode cX7_init 307 = .ok (.putfield 111, 3) := by decide +kernel
theorem dX7_init_310 : decode cX7_init 310 = .ok (.aload_n 0, 1) := by decide +kernel
theorem dX7_init_311 : decode cX7_init 311 = .ok (.bipush 8, 2) := by decide +kernel
theorem dX7_init_313 : decode cX7_init 313 = .ok (.newarray .int, 2) := by decide +kernel
theorem dX7_init_315 : decode cX7_init 315 = .ok (.putfield 114, 3) := by decide +kernel
theorem dX7_init_318 : decode cX7_init 318 = .ok (.aload_n 0, 1) := by decide +kernel
theorem dX7_init_319 : decode cX7_init 319 = .ok (.bipush 8, 2) := by decide +kernel
theorem dX7_init_321 : decode cX7_init 321 = .ok (.newarray .int, 2) := by decide +kernel
theorem dX7_init_323 : decode cX7_init 323 = .ok (.putfield 117, 3) := by decide +kernel
theorem dX7_init_326 : decode cX7_init 326 = .ok (.aload_n 0, 1) := by decide +kernel
theorem dX7_init_327 : decode cX7_init 327 = .ok (.iconst 0, 1) := by decide +kernel
theorem dX7_init_328 : decode cX7_init 328 = .ok (.putfield 120, 3) := by decide +kernel
theorem dX7_init_331 : decode cX7_init 331 = .ok (.aload_n 0, 1) := by decide +kernel
theorem dX7_init_332 : decode cX7_init 332 = .ok (.iconst 0, 1) := by decide +kernel
theorem dX7_init_333 : decode cX7_init 333 = .ok (.putfield 123, 3) := by decide +kernel
theorem dX7_init_336 : decode cX7_init 336 = .ok (.aload_n 0, 1) := by decide +kernel
theorem dX7_init_337 : decode cX7_init 337 = .ok (.bipush 8, 2) := by decide +kernel
theorem dX7_init_339 : decode cX7_init 339 = .ok (.newarray .int, 2) := by decide +kernel
theorem dX7_init_341 : decode cX7_init 341 = .ok (.putfield 126, 3) := by decide +kernel
theorem dX7_init_344 : decode cX7_init 344 = .ok (.aload_n 0, 1) := by decide +kernel
theorem dX7_init_345 : decode cX7_init 345 = .ok (.bipush 8, 2) := by decide +kernel
theorem dX7_init_347 : decode cX7_init 347 = .ok (.newarray .int, 2) := by decide +kernel
theorem dX7_init_349 : decode cX7_init 349 = .ok (.putfield 129, 3) := by decide +kernel
theorem dX7_init_352 : decode cX7_init 352 = .ok (.aload_n 0, 1) := by decide +kernel
theorem dX7_init_353 : decode cX7_init 353 = .ok (.iconst 0, 1) := by decide +kernel
theorem dX7_init_354 : decode cX7_init 354 = .ok (.putfield 132, 3) := by decide +kernel
theorem dX7_init_357 : decode cX7_init 357 = .ok (.aload_n 0, 1) := by decide +kernel
theorem dX7_init_358 : decode cX7_init 358 = .ok (.bipush 12, 2) := by decide +kernel
theorem dX7_init_360 : decode cX7_init 360 = .ok (.newarray .int, 2) := by decide +kernel
theorem dX7_init_362 : decode cX7_init 362 = .ok (.putfield 135, 3) := by decide +kernel
theorem dX7_init_365 : decode cX7_init 365 = .ok (.aload_n 0, 1) := by decide +kernel
theorem dX7_init_366 : decode cX7_init 366 = .ok (.iconst 0, 1) := by decide +kernel
theorem dX7_init_367 : decode cX7_init 367 = .ok (.putfield 138, 3) := by decide +kernel
theorem dX7_init_370 : decode cX7_init 370 = .ok (.aload_n 0, 1) := by decide +kernel
theorem dX7_init_371 : decode cX7_init 371 = .ok (.iconst (-1), 1) := by decide +kernel
theorem dX7_init_372 : decode cX7_init 372 = .ok (.putfield 142, 3) := by decide +kernel
theorem dX7_init_375 : decode cX7_init 375 = .ok (.aload_n 0, 1) := by decide +kernel
theorem dX7_init_376 : decode cX7_init 376 = .ok (.iconst 0, 1) := by decide +kernel
theorem dX7_init_377 : decode cX7_init 377 = .ok (.putfield 145, 3) := by decide +kernel
theorem dX7_init_380 : decode cX7_init 380 = .ok (.aload_n 0, 1) := by decide +kernel
theorem dX7_init_381 : decode cX7_init 381 = .ok (.iconst 0, 1) := by decide +kernel
theorem dX7_init_382 : decode cX7_init 382 = .ok (.putfield 148, 3) := by decide +kernel
theorem dX7_init_385 : decode cX7_init 385 = .ok (.aload_n 0, 1) := by decide +kernel
theorem dX7_init_386 : decode cX7_init 386 = .ok (.iconst 0, 1) := by decide +kernel
theorem dX7_init_387 : decode cX7_init 387 = .ok (.putfield 151, 3) := by decide +kernel
theorem dX7_init_390 : decode cX7_init 390 = .ok (.aload_n 0, 1) := by decide +kernel
theorem dX7_init_391 : decode cX7_init 391 = .ok (.iconst 0, 1) := by decide +kernel
theorem dX7_init_392 : decode cX7_init 392 = .ok (.putfield 154, 3) := by decide +kernel
theorem dX7_init_395 : decode cX7_init 395 = .ok (.aload_n 0, 1) := by decide +kernel
theorem dX7_init_396 : decode cX7_init 396 = .ok (.bipush 8, 2) := by decide +kernel
theorem dX7_init_398 : decode cX7_init 398 = .ok (.newarray .int, 2) := by decide +kernel
theorem dX7_init_400 : decode cX7_init 400 = .ok (.putfield 157, 3) := by decide +kernel
theorem dX7_init_403 : decode cX7_init 403 = .ok (.aload_n 0, 1) := by decide +kernel
theorem dX7_init_404 : decode cX7_init 404 = .ok (.bipush 8, 2) := by decide +kernel
theorem dX7_init_406 : decode cX7_init 406 = .ok (.newarray .int, 2) := by decide +kernel
theorem dX7_init_408 : decode cX7_init 408 = .ok (.putfield 160, 3) := by decide +kernel
theorem dX7_init_411 : decode cX7_init 411 = .ok (.aload_n 0, 1) := by decide +kernel
theorem dX7_init_412 : decode cX7_init 412 = .ok (.bipush 8, 2) := by decide +kernel
theorem dX7_init_414 : decode cX7_init 414 = .ok (.newarray .int, 2) := by decide +kernel
theorem dX7_init_416 : decode cX7_init 416 = .ok (.putfield 163, 3) := by decide +kernel
theorem dX7_init_419 : decode cX7_init 419 = .ok (.aload_n 0, 1) := by decide +kernel
theorem dX7_init_420 : decode cX7_init 420 = .ok (.bipush 32, 2) := by decide +kernel
theorem dX7_init_422 : decode cX7_init 422 = .ok (.newarray .int, 2) := by decide +kernel
theorem dX7_init_424 : decode cX7_init 424 = .ok (.putfield 166, 3) := by decide +kernel
theorem dX7_init_427 : decode cX7_init 427 = .ok (.aload_n 0, 1) := by decide +kernel
theorem dX7_init_428 : decode cX7_init 428 = .ok (.bipush 8, 2) := by decide +kernel
theorem dX7_init_430 : decode cX7_init 430 = .ok (.newarray .int, 2) := by decide +kernel
theorem dX7_init_432 : decode cX7_init 432 = .ok (.putfield 169, 3) := by decide +kernel
theorem dX7_init_435 : decode cX7_init 435 = .ok (.aload_n 0, 1) := by decide +kernel
theorem dX7_init_436 : decode cX7_init 436 = .ok (.bipush 8, 2) := by decide +kernel
theorem dX7_init_438 : decode cX7_init 438 = .ok (.newarray .int, 2) := by decide +kernel
theorem dX7_init_440 : decode cX7_init 440 = .ok (.putfield 172, 3) := by decide +kernel
theorem dX7_init_443 : decode cX7_init 443 = .ok (.aload_n 0, 1) := by decide +kernel
theorem dX7_init_444 : decode cX7_init 444 = .ok (.bipush 12, 2) := by decide +kernel
theorem dX7_init_446 : decode cX7_init 446 = .ok (.newarray .int, 2) := by decide +kernel
theorem dX7_init_448 : decode cX7_init 448 = .ok (.putfield 175, 3) := by decide +kernel
theorem dX7_init_451 : decode cX7_init 451 = .ok (.aload_n 0, 1) := by decide +kernel
theorem dX7_init_452 : decode cX7_init 452 = .ok (.iconst 0, 1) := by decide +kernel
theorem dX7_init_453 : decode cX7_init 453 = .ok (.putfield 178, 3) := by decide +kernel
theorem dX7_init_456 : decode cX7_init 456 = .ok (.aload_n 0, 1) := by decide +kernel
theorem dX7_init_457 : decode cX7_init 457 = .ok (.bipush 20, 2) := by decide +kernel
theorem dX7_init_459 : decode cX7_init 459 = .ok (.newarray .int, 2) := by decide +kernel
theorem dX7_init_461 : decode cX7_init 461 = .ok (.putfield 181, 3) := by decide +kernel
theorem dX7_init_464 : decode cX7_init 464 = .ok (.aload_n 0, 1) := by decide +kernel
theorem dX7_init_465 : decode cX7_init 465 = .ok (.bipush 6, 2) := by decide +kernel
theorem dX7_init_467 : decode cX7_init 467 = .ok (.newarray .int, 2) := by decide +kernel
theorem dX7_init_469 : decode cX7_init 469 = .ok (.dup, 1) := by decide +kernel
theorem dX7_init_470 : decode cX7_init 470 = .ok (.iconst 0, 1) := by decide +kernel
theorem dX7_init_471 : decode cX7_init 471 = .ok (.iconst (-1), 1) := by decide +kernel
theorem dX7_init_472 : decode cX7_init 472 = .ok (.iastore, 1) := by decide +kernel
theorem dX7_init_473 : decode cX7_init 473 = .ok (.dup, 1) := by decide +kernel
theorem dX7_init_474 : decode cX7_init 474 = .ok (.iconst 1, 1) := by decide +kernel
theorem dX7_init_475 : decode cX7_init 475 = .ok (.iconst (-1), 1) := by decide +kernel
theorem dX7_init_476 : decode cX7_init 476 = .ok (.iastore, 1) := by decide +kernel
theorem dX7_init_477 : decode cX7_init 477 = .ok (.dup, 1) := by decide +kernel
theorem dX7_init_478 : decode cX7_init 478 = .ok (.iconst 2, 1) := by decide +kernel
theorem dX7_init_479 : decode cX7_init 479 = .ok (.iconst (-1), 1) := by decide +kernel
theorem dX7_init_480 : decode cX7_init 480 = .ok (.iastore, 1) := by decide +kernel
theorem dX7_init_481 : decode cX7_init 481 = .ok (.dup, 1) := by decide +kernel
theorem dX7_init_482 : decode cX7_init 482 = .ok (.iconst 3, 1) := by decide +kernel
theorem dX7_init_483 : decode cX7_init 483 = .ok (.iconst (-1), 1) := by decide +kernel
theorem dX7_init_484 : decode cX7_init 484 = .ok (.iastore, 1) := by decide +kernel
theorem dX7_init_485 : decode cX7_init 485 = .ok (.dup, 1) := by decide +kernel
theorem dX7_init_486 : decode cX7_init 486 = .ok (.iconst 4, 1) := by decide +kernel
theorem dX7_init_487 : decode cX7_init 487 = .ok (.iconst (-1), 1) := by decide +kernel
theorem dX7_init_488 : decode cX7_init 488 = .ok (.iastore, 1) := by decide +kernel
theorem dX7_init_489 : decode cX7_init 489 = .ok (.dup, 1) := by decide +kernel
theorem dX7_init_490 : decode cX7_init 490 = .ok (.iconst 5, 1) := by decide +kernel
theorem dX7_init_491 : decode cX7_init 491 = .ok (.iconst (-1), 1) := by decide +kernel
theorem dX7_init_492 : decode cX7_init 492 = .ok (.iastore, 1) := by decide +kernel
theorem dX7_init_493 : decode cX7_init 493 = .ok (.putfield 184, 3) := by decide +kernel
theorem dX7_init_496 : decode cX7_init 496 = .ok (.aload_n 0, 1) := by decide +kernel
theorem dX7_init_497 : decode cX7_init 497 = .ok (.bipush 6, 2) := by decide +kernel
theorem dX7_init_499 : decode cX7_init 499 = .ok (.newarray .int, 2) := by decide +kernel
theorem dX7_init_501 : decode cX7_init 501 = .ok (.putfield 187, 3) := by decide +kernel
theorem dX7_init_504 : decode cX7_init 504 = .ok (.aload_n 0, 1) := by decide +kernel
theorem dX7_init_505 : decode cX7_init 505 = .ok (.sipush 360, 3) := by decide +kernel
theorem dX7_init_508 : decode cX7_init 508 = .ok (.newarray .long, 2) := by decide +kernel
theorem dX7_init_510 : decode cX7_init 510 = .ok (.putfield 190, 3) := by decide +kernel
theorem dX7_init_513 : decode cX7_init 513 = .ok (.aload_n 0, 1) := by decide +kernel
theorem dX7_init_514 : decode cX7_init 514 = .ok (.bipush 60, 2) := by decide +kernel
theorem dX7_init_516 : decode cX7_init 516 = .ok (.newarray .long, 2) := by decide +kernel
theorem dX7_init_518 : decode cX7_init 518 = .ok (.putfield 194, 3) := by decide +kernel
theorem dX7_init_521 : decode cX7_init 521 = .ok (.return_, 1) := by decide +kernel
theorem dX7_in_0 : decode cX7_in 0 = .ok (.iload_n 1, 1) := by decide +kernel
theorem dX7_in_1 : decode cX7_in 1 = .ok (.iload_n 2, 1) := by decide +kernel
theorem dX7_in_2 : decode cX7_in 2 = .ok (.if_icmp .lt 12, 3) := by decide +kernel
theorem dX7_in_5 : decode cX7_in 5 = .ok (.iload_n 1, 1) := by decide +kernel
theorem dX7_in_6 : decode cX7_in 6 = .ok (.iload_n 3, 1) := by decide +kernel
theorem dX7_in_7 : decode cX7_in 7 = .ok (.if_icmp .gt 7, 3) := by decide +kernel
theorem dX7_in_10 : decode cX7_in 10 = .ok (.iconst 1, 1) := by decide +kernel
theorem dX7_in_11 : decode cX7_in 11 = .ok (.goto 4, 3) := by decide +kernel
theorem dX7_in_14 : decode cX7_in 14 = .ok (.iconst 0, 1) := by decide +kernel
theorem dX7_in_15 : decode cX7_in 15 = .ok (.ireturn, 1) := by decide +kernel
theorem dX7_isHouse_0 : decode cX7_isHouse 0 = .ok (.aload_n 0, 1) := by decide +kernel
theorem dX7_isHouse_1 : decode cX7_isHouse 1 = .ok (.iload_n 1, 1) := by decide +kernel
theorem dX7_isHouse_2 : decode cX7_isHouse 2 = .ok (.iconst 0, 1) := by decide +kernel
theorem dX7_isHouse_3 : decode cX7_isHouse 3 = .ok (.aload_n 0, 1) := by decide +kernel
theorem dX7_isHouse_4 : decode cX7_isHouse 4 = .ok (.getfield 7, 3) := by decide +kernel
theorem dX7_isHouse_7 : decode cX7_isHouse 7 = .ok (.iconst 1, 1) := by decide +kernel
theorem dX7_isHouse_8 : decode cX7_isHouse 8 = .ok (.isub, 1) := by decide +kernel
theorem dX7_isHouse_9 : decode cX7_isHouse 9 = .ok (.invokevirtual 197, 3) := by decide +kernel
theorem dX7_isHouse_12 : decode cX7_isHouse 12 = .ok (.ireturn, 1) := by decide +kernel
theorem dX7_lay_0 : decode cX7_lay 0 = .ok (.aload_n 0, 1) := by decide +kernel
theorem dX7_lay_1 : decode cX7_lay 1 = .ok (.getfield 16, 3) := by decide +kernel
theorem dX7_lay_4 : decode cX7_lay 4 = .ok (.iload_n 1, 1) := by decide +kernel
theorem dX7_lay_5 : decode cX7_lay 5 = .ok (.iload_n 2, 1) := by decide +kernel
theorem dX7_lay_6 : decode cX7_lay 6 = .ok (.iastore, 1) := by decide +kernel
theorem dX7_lay_7 : decode cX7_lay 7 = .ok (.aload_n 0, 1) := by decide +kernel
theorem dX7_lay_8 : decode cX7_lay 8 = .ok (.getfield 20, 3) := by decide +kernel
theorem dX7_lay_11 : decode cX7_lay 11 = .ok (.iload_n 1, 1) := by decide +kernel
theorem dX7_lay_12 : decode cX7_lay 12 = .ok (.iload_n 3, 1) := by decide +kernel
theorem dX7_lay_13 : decode cX7_lay 13 = .ok (.iastore, 1) := by decide +kernel
theorem dX7_lay_14 : decode cX7_lay 14 = .ok (.aload_n 0, 1) := by decide +kernel
theorem dX7_lay_15 : decode cX7_lay 15 = .ok (.getfield 23, 3) := by decide +kernel
theorem dX7_lay_18 : decode cX7_lay 18 = .ok (.iload_n 1, 1) := by decide +kernel
theorem dX7_lay_19 : decode cX7_lay 19 = .ok (.iload 4, 2) := by decide +kernel
theorem dX7_lay_21 : decode cX7_lay 21 = .ok (.iastore, 1) := by decide +kernel
theorem dX7_lay_22 : decode cX7_lay 22 = .ok (.iconst 0, 1) := by decide +kernel
theorem dX7_lay_23 : decode cX7_lay 23 = .ok (.istore 5, 2) := by decide +kernel
theorem dX7_lay_25 : decode cX7_lay 25 = .ok (.iload 5, 2) := by decide +kernel
theorem dX7_lay_27 : decode cX7_lay 27 = .ok (.iconst 4, 1) := by decide +kernel
theorem dX7_lay_28 : decode cX7_lay 28 = .ok (.if_icmp .ge 21, 3) := by decide +kernel
theorem dX7_lay_31 : decode cX7_lay 31 = .ok (.aload_n 0, 1) := by decide +kernel
theorem dX7_lay_32 : decode cX7_lay 32 = .ok (.getfield 26, 3) := by decide +kernel
theorem dX7_lay_35 : decode cX7_lay 35 = .ok (.iconst 4, 1) := by decide +kernel
theorem dX7_lay_36 : decode cX7_lay 36 = .ok (.iload_n 1, 1) := by decide +kernel
theorem dX7_lay_37 : decode cX7_lay 37 = .ok (.imul, 1) := by decide +kernel
theorem dX7_lay_38 : decode cX7_lay 38 = .ok (.iload 5, 2) := by decide +kernel
theorem dX7_lay_40 : decode cX7_lay 40 = .ok (.iadd, 1) := by decide +kernel
theorem dX7_lay_41 : decode cX7_lay 41 = .ok (.iconst 0, 1) := by decide +kernel
theorem dX7_lay_42 : decode cX7_lay 42 = .ok (.iastore, 1) := by decide +kernel
theorem dX7_lay_43 : decode cX7_lay 43 = .ok (.iinc 5 1, 3) := by decide +kernel
theorem dX7_lay_46 : decode cX7_lay 46 = .ok (.goto (-21), 3) := by decide +kernel
theorem dX7_lay_49 : decode cX7_lay 49 = .ok (.return_, 1) := by decide +kernel
theorem dX7_copy_0 : decode cX7_copy 0 = .ok (.aload_n 0, 1) := by decide +kernel
theorem dX7_copy_1 : decode cX7_copy 1 = .ok (.getfield 16, 3) := by decide +kernel
theorem dX7_copy_4 : decode cX7_copy 4 = .ok (.iload_n 1, 1) := by decide +kernel
theorem dX7_copy_5 : decode cX7_copy 5 = .ok (.aload_n 0, 1) := by decide +kernel
theorem dX7_copy_6 : decode cX7_copy 6 = .ok (.getfield 16, 3) := by decide +kernel
theorem dX7_copy_9 : decode cX7_copy 9 = .ok (.iload_n 2, 1) := by decide +kernel
theorem dX7_copy_10 : decode cX7_copy 10 = .ok (.iaload, 1) := by decide +kernel
theorem dX7_copy_11 : decode cX7_copy 11 = .ok (.iastore, 1) := by decide +kernel
theorem dX7_copy_12 : decode cX7_copy 12 = .ok (.aload_n 0, 1) := by decide +kernel
theorem dX7_copy_13 : decode cX7_copy 13 = .ok (.getfield 20, 3) := by decide +kernel
theorem dX7_copy_16 : decode cX7_copy 16 = .ok (.iload_n 1, 1) := by decide +kernel
theorem dX7_copy_17 : decode cX7_copy 17 = .ok (.aload_n 0, 1) := by decide +kernel
theorem dX7_copy_18 : decode cX7_copy 18 = .ok (.getfield 20, 3) := by decide +kernel
theorem dX7_copy_21 : decode cX7_copy 21 = .ok (.iload_n 2, 1) := by decide +kernel
theorem dX7_copy_22 : decode cX7_copy 22 = .ok (.iaload, 1) := by decide +kernel
theorem dX7_copy_23 : decode cX7_copy 23 = .ok (.iastore, 1) := by decide +kernel
theorem dX7_copy_24 : decode cX7_copy 24 = .ok (.aload_n 0, 1) := by decide +kernel
theorem dX7_copy_25 : decode cX7_copy 25 = .ok (.getfield 23, 3) := by decide +kernel
theorem dX7_copy_28 : decode cX7_copy 28 = .ok (.iload_n 1, 1) := by decide +kernel
theorem dX7_copy_29 : decode cX7_copy 29 = .ok (.aload_n 0, 1) := by decide +kernel
theorem dX7_copy_30 : decode cX7_copy 30 = .ok (.getfield 23, 3) := by decide +kernel
theorem dX7_copy_33 : decode cX7_copy 33 = .ok (.iload_n 2, 1) := by decide +kernel
theorem dX7_copy_34 : decode cX7_copy 34 = .ok (.iaload, 1) := by decide +kernel
theorem dX7_copy_35 : decode cX7_copy 35 = .ok (.iastore, 1) := by decide +kernel
theorem dX7_copy_36 : decode cX7_copy 36 = .ok (.iconst 0, 1) := by decide +kernel
theorem dX7_copy_37 : decode cX7_copy 37 = .ok (.istore_n 3, 1) := by decide +kernel
theorem dX7_copy_38 : decode cX7_copy 38 = .ok (.iload_n 3, 1) := by decide +kernel
theorem dX7_copy_39 : decode cX7_copy 39 = .ok (.iconst 4, 1) := by decide +kernel
theorem dX7_copy_40 : decode cX7_copy 40 = .ok (.if_icmp .ge 29, 3) := by decide +kernel
theorem dX7_copy_43 : decode cX7_copy 43 = .ok (.aload_n 0, 1) := by decide +kernel
theorem dX7_copy_44 : decode cX7_copy 44 = .ok (.getfield 26, 3) := by decide +kernel
theorem dX7_copy_47 : decode cX7_copy 47 = .ok (.iconst 4, 1) := by decide +kernel
theorem dX7_copy_48 : decode cX7_copy 48 = .ok (.iload_n 1, 1) := by decide +kernel
theorem dX7_copy_49 : decode cX7_copy 49 = .ok (.imul, 1) := by decide +kernel
theorem dX7_copy_50 : decode cX7_copy 50 = .ok (.iload_n 3, 1) := by decide +kernel
theorem dX7_copy_51 : decode cX7_copy 51 = .ok (.iadd, 1) := by decide +kernel
theorem dX7_copy_52 : decode cX7_copy 52 = .ok (.aload_n 0, 1) := by decide +kernel
theorem dX7_copy_53 : decode cX7_copy 53 = .ok (.getfield 26, 3) := by decide +kernel
theorem dX7_copy_56 : decode cX7_copy 56 = .ok (.iconst 4, 1) := by decide +kernel
theorem dX7_copy_57 : decode cX7_copy 57 = .ok (.iload_n 2, 1) := by decide +kernel
theorem dX7_copy_58 : decode cX7_copy 58 = .ok (.imul, 1) := by decide +kernel
theorem dX7_copy_59 : decode cX7_copy 59 = .ok (.iload_n 3, 1) := by decide +kernel
theorem dX7_copy_60 : decode cX7_copy 60 = .ok (.iadd, 1) := by decide +kernel
theorem dX7_copy_61 : decode cX7_copy 61 = .ok (.iaload, 1) := by decide +kernel
theorem dX7_copy_62 : decode cX7_copy 62 = .ok (.iastore, 1) := by decide +kernel
theorem dX7_copy_63 : decode cX7_copy 63 = .ok (.iinc 3 1, 3) := by decide +kernel
theorem dX7_copy_66 : decode cX7_copy 66 = .ok (.goto (-28), 3) := by decide +kernel
theorem dX7_copy_69 : decode cX7_copy 69 = .ok (.return_, 1) := by decide +kernel
theorem dX7_house_0 : decode cX7_house 0 = .ok (.aload_n 0, 1) := by decide +kernel
theorem dX7_house_1 : decode cX7_house 1 = .ok (.iload_n 1, 1) := by decide +kernel
theorem dX7_house_2 : decode cX7_house 2 = .ok (.iconst 0, 1) := by decide +kernel
theorem dX7_house_3 : decode cX7_house 3 = .ok (.bipush 6, 2) := by decide +kernel
theorem dX7_house_5 : decode cX7_house 5 = .ok (.invokevirtual 197, 3) := by decide +kernel
theorem dX7_house_8 : decode cX7_house 8 = .ok (.ifCond .ne 5, 3) := by decide +kernel
theorem dX7_house_11 : decode cX7_house 11 = .ok (.iconst (-1), 1) := by decide +kernel
theorem dX7_house_12 : decode cX7_house 12 = .ok (.ireturn, 1) := by decide +kernel
theorem dX7_house_13 : decode cX7_house 13 = .ok (.aload_n 0, 1) := by decide +kernel
theorem dX7_house_14 : decode cX7_house 14 = .ok (.iload_n 2, 1) := by decide +kernel
theorem dX7_house_15 : decode cX7_house 15 = .ok (.iconst 0, 1) := by decide +kernel
theorem dX7_house_16 : decode cX7_house 16 = .ok (.bipush 9, 2) := by decide +kernel
theorem dX7_house_18 : decode cX7_house 18 = .ok (.invokevirtual 197, 3) := by decide +kernel
theorem dX7_house_21 : decode cX7_house 21 = .ok (.ifCond .eq 14, 3) := by decide +kernel
theorem dX7_house_24 : decode cX7_house 24 = .ok (.aload_n 0, 1) := by decide +kernel
theorem dX7_house_25 : decode cX7_house 25 = .ok (.iload_n 3, 1) := by decide +kernel
theorem dX7_house_26 : decode cX7_house 26 = .ok (.iconst 0, 1) := by decide +kernel
theorem dX7_house_27 : decode cX7_house 27 = .ok (.bipush 99, 2) := by decide +kernel
theorem dX7_house_29 : decode cX7_house 29 = .ok (.invokevirtual 197, 3) := by decide +kernel
theorem dX7_house_32 : decode cX7_house 32 = .ok (.ifCond .ne 6, 3) := by decide +kernel
theorem dX7_house_35 : decode cX7_house 35 = .ok (.bipush (-2), 2) := by decide +kernel
theorem dX7_house_37 : decode cX7_house 37 = .ok (.ireturn, 1) := by decide +kernel
theorem dX7_house_38 : decode cX7_house 38 = .ok (.aload_n 0, 1) := by decide +kernel
theorem dX7_house_39 : decode cX7_house 39 = .ok (.getfield 7, 3) := by decide +kernel
theorem dX7_house_42 : decode cX7_house 42 = .ok (.bipush 7, 2) := by decide +kernel
theorem dX7_house_44 : decode cX7_house 44 = .ok (.if_icmp .ne 6, 3) := by decide +kernel
theorem dX7_house_47 : decode cX7_house 47 = .ok (.bipush (-4), 2) := by decide +kernel
theorem dX7_house_49 : decode cX7_house 49 = .ok (.ireturn, 1) := by decide +kernel
theorem dX7_house_50 : decode cX7_house 50 = .ok (.aload_n 0, 1) := by decide +kernel
theorem dX7_house_51 : decode cX7_house 51 = .ok (.aload_n 0, 1) := by decide +kernel
theorem dX7_house_52 : decode cX7_house 52 = .ok (.getfield 7, 3) := by decide +kernel
theorem dX7_house_55 : decode cX7_house 55 = .ok (.iload_n 1, 1) := by decide +kernel
theorem dX7_house_56 : decode cX7_house 56 = .ok (.iload_n 2, 1) := by decide +kernel
theorem dX7_house_57 : decode cX7_house 57 = .ok (.iload_n 3, 1) := by decide +kernel
theorem dX7_house_58 : decode cX7_house 58 = .ok (.invokevirtual 201, 3) := by decide +kernel
theorem dX7_house_61 : decode cX7_house 61 = .ok (.aload_n 0, 1) := by decide +kernel
theorem dX7_house_62 : decode cX7_house 62 = .ok (.dup, 1) := by decide +kernel
theorem dX7_house_63 : decode cX7_house 63 = .ok (.getfield 7, 3) := by decide +kernel
theorem dX7_house_66 : decode cX7_house 66 = .ok (.iconst 1, 1) := by decide +kernel
theorem dX7_house_67 : decode cX7_house 67 = .ok (.iadd, 1) := by decide +kernel
theorem dX7_house_68 : decode cX7_house 68 = .ok (.putfield 7, 3) := by decide +kernel
theorem dX7_house_71 : decode cX7_house 71 = .ok (.aload_n 0, 1) := by decide +kernel
theorem dX7_house_72 : decode cX7_house 72 = .ok (.getfield 7, 3) := by decide +kernel
theorem dX7_house_75 : decode cX7_house 75 = .ok (.iconst 1, 1) := by decide +kernel
theorem dX7_house_76 : decode cX7_house 76 = .ok (.isub, 1) := by decide +kernel
theorem dX7_house_77 : decode cX7_house 77 = .ok (.ireturn, 1) := by decide +kernel
theorem dX7_earn_0 : decode cX7_earn 0 = .ok (.aload_n 0, 1) := by decide +kernel
theorem dX7_earn_1 : decode cX7_earn 1 = .ok (.iload_n 1, 1) := by decide +kernel
theorem dX7_earn_2 : decode cX7_earn 2 = .ok (.invokevirtual 205, 3) := by decide +kernel
theorem dX7_earn_5 : decode cX7_earn 5 = .ok (.ifCond .ne 5, 3) := by decide +kernel
theorem dX7_earn_8 : decode cX7_earn 8 = .ok (.iconst (-1), 1) := by decide +kernel
theorem dX7_earn_9 : decode cX7_earn 9 = .ok (.ireturn, 1) := by decide +kernel
theorem dX7_earn_10 : decode cX7_earn 10 = .ok (.aload_n 0, 1) := by decide +kernel
theorem dX7_earn_11 : decode cX7_earn 11 = .ok (.iload_n 2, 1) := by decide +kernel
theorem dX7_earn_12 : decode cX7_earn 12 = .ok (.iconst 0, 1) := by decide +kernel
theorem dX7_earn_13 : decode cX7_earn 13 = .ok (.bipush 99, 2) := by decide +kernel
theorem dX7_earn_15 : decode cX7_earn 15 = .ok (.invokevirtual 197, 3) := by decide +kernel
theorem dX7_earn_18 : decode cX7_earn 18 = .ok (.ifCond .ne 6, 3) := by decide +kernel
theorem dX7_earn_21 : decode cX7_earn 21 = .ok (.bipush (-2), 2) := by decide +kernel
theorem dX7_earn_23 : decode cX7_earn 23 = .ok (.ireturn, 1) := by decide +kernel
theorem dX7_earn_24 : decode cX7_earn 24 = .ok (.aload_n 0, 1) := by decide +kernel
theorem dX7_earn_25 : decode cX7_earn 25 = .ok (.getfield 23, 3) := by decide +kernel
theorem dX7_earn_28 : decode cX7_earn 28 = .ok (.iload_n 1, 1) := by decide +kernel
theorem dX7_earn_29 : decode cX7_earn 29 = .ok (.iaload, 1) := by decide +kernel
theorem dX7_earn_30 : decode cX7_earn 30 = .ok (.istore_n 3, 1) := by decide +kernel
theorem dX7_earn_31 : decode cX7_earn 31 = .ok (.aload_n 0, 1) := by decide +kernel
theorem dX7_earn_32 : decode cX7_earn 32 = .ok (.getfield 23, 3) := by decide +kernel
theorem dX7_earn_35 : decode cX7_earn 35 = .ok (.iload_n 1, 1) := by decide +kernel
theorem dX7_earn_36 : decode cX7_earn 36 = .ok (.iload_n 2, 1) := by decide +kernel
theorem dX7_earn_37 : decode cX7_earn 37 = .ok (.iastore, 1) := by decide +kernel
theorem dX7_earn_38 : decode cX7_earn 38 = .ok (.iload_n 3, 1) := by decide +kernel
theorem dX7_earn_39 : decode cX7_earn 39 = .ok (.ireturn, 1) := by decide +kernel
theorem dX7_row_0 : decode cX7_row 0 = .ok (.aload_n 0, 1) := by decide +kernel
theorem dX7_row_1 : decode cX7_row 1 = .ok (.iload_n 1, 1) := by decide +kernel
theorem dX7_row_2 : decode cX7_row 2 = .ok (.invokevirtual 205, 3) := by decide +kernel
theorem dX7_row_5 : decode cX7_row 5 = .ok (.ifCond .eq 13, 3) := by decide +kernel
theorem dX7_row_8 : decode cX7_row 8 = .ok (.aload_n 0, 1) := by decide +kernel
theorem dX7_row_9 : decode cX7_row 9 = .ok (.iload_n 2, 1) := by decide +kernel
theorem dX7_row_10 : decode cX7_row 10 = .ok (.iconst 0, 1) := by decide +kernel
theorem dX7_row_11 : decode cX7_row 11 = .ok (.iconst 3, 1) := by decide +kernel
theorem dX7_row_12 : decode cX7_row 12 = .ok (.invokevirtual 197, 3) := by decide +kernel
theorem dX7_row_15 : decode cX7_row 15 = .ok (.ifCond .ne 5, 3) := by decide +kernel
theorem dX7_row_18 : decode cX7_row 18 = .ok (.iconst (-1), 1) := by decide +kernel
theorem dX7_row_19 : decode cX7_row 19 = .ok (.ireturn, 1) := by decide +kernel
theorem dX7_row_20 : decode cX7_row 20 = .ok (.aload_n 0, 1) := by decide +kernel
theorem dX7_row_21 : decode cX7_row 21 = .ok (.iload_n 3, 1) := by decide +kernel
theorem dX7_row_22 : decode cX7_row 22 = .ok (.iconst 0, 1) := by decide +kernel
theorem dX7_row_23 : decode cX7_row 23 = .ok (.iconst 4, 1) := by decide +kernel
theorem dX7_row_24 : decode cX7_row 24 = .ok (.invokevirtual 197, 3) := by decide +kernel
theorem dX7_row_27 : decode cX7_row 27 = .ok (.ifCond .ne 6, 3) := by decide +kernel
theorem dX7_row_30 : decode cX7_row 30 = .ok (.bipush (-2), 2) := by decide +kernel
theorem dX7_row_32 : decode cX7_row 32 = .ok (.ireturn, 1) := by decide +kernel
theorem dX7_row_33 : decode cX7_row 33 = .ok (.aload_n 0, 1) := by decide +kernel
theorem dX7_row_34 : decode cX7_row 34 = .ok (.getfield 16, 3) := by decide +kernel
theorem dX7_row_37 : decode cX7_row 37 = .ok (.iload_n 1, 1) := by decide +kernel
theorem dX7_row_38 : decode cX7_row 38 = .ok (.iaload, 1) := by decide +kernel
theorem dX7_row_39 : decode cX7_row 39 = .ok (.bipush 6, 2) := by decide +kernel
theorem dX7_row_41 : decode cX7_row 41 = .ok (.if_icmp .eq 6, 3) := by decide +kernel
theorem dX7_row_44 : decode cX7_row 44 = .ok (.bipush (-3), 2) := by decide +kernel
theorem dX7_row_46 : decode cX7_row 46 = .ok (.ireturn, 1) := by decide +kernel
theorem dX7_row_47 : decode cX7_row 47 = .ok (.aload_n 0, 1) := by decide +kernel
theorem dX7_row_48 : decode cX7_row 48 = .ok (.getfield 26, 3) := by decide +kernel
theorem dX7_row_51 : decode cX7_row 51 = .ok (.iconst 4, 1) := by decide +kernel
theorem dX7_row_52 : decode cX7_row 52 = .ok (.iload_n 1, 1) := by decide +kernel
theorem dX7_row_53 : decode cX7_row 53 = .ok (.imul, 1) := by decide +kernel
theorem dX7_row_54 : decode cX7_row 54 = .ok (.iload_n 2, 1) := by decide +kernel
theorem dX7_row_55 : decode cX7_row 55 = .ok (.iadd, 1) := by decide +kernel
theorem dX7_row_56 : decode cX7_row 56 = .ok (.iaload, 1) := by decide +kernel
theorem dX7_row_57 : decode cX7_row 57 = .ok (.istore 4, 2) := by decide +kernel
theorem dX7_row_59 : decode cX7_row 59 = .ok (.aload_n 0, 1) := by decide +kernel
theorem dX7_row_60 : decode cX7_row 60 = .ok (.getfield 26, 3) := by decide +kernel
theorem dX7_row_63 : decode cX7_row 63 = .ok (.iconst 4, 1) := by decide +kernel
theorem dX7_row_64 : decode cX7_row 64 = .ok (.iload_n 1, 1) := by decide +kernel
theorem dX7_row_65 : decode cX7_row 65 = .ok (.imul, 1) := by decide +kernel
theorem dX7_row_66 : decode cX7_row 66 = .ok (.iload_n 2, 1) := by decide +kernel
theorem dX7_row_67 : decode cX7_row 67 = .ok (.iadd, 1) := by decide +kernel
theorem dX7_row_68 : decode cX7_row 68 = .ok (.iload_n 3, 1) := by decide +kernel
theorem dX7_row_69 : decode cX7_row 69 = .ok (.iastore, 1) := by decide +kernel
theorem dX7_row_70 : decode cX7_row 70 = .ok (.iload 4, 2) := by decide +kernel
theorem dX7_row_72 : decode cX7_row 72 = .ok (.ireturn, 1) := by decide +kernel
theorem dX7_feed_0 : decode cX7_feed 0 = .ok (.aload_n 0, 1) := by decide +kernel
theorem dX7_feed_1 : decode cX7_feed 1 = .ok (.iload_n 1, 1) := by decide +kernel
theorem dX7_feed_2 : decode cX7_feed 2 = .ok (.iconst 0, 1) := by decide +kernel
theorem dX7_feed_3 : decode cX7_feed 3 = .ok (.bipush 127, 2) := by decide +kernel
theorem dX7_feed_5 : decode cX7_feed 5 = .ok (.invokevirtual 197, 3) := by decide +kernel
theorem dX7_feed_8 : decode cX7_feed 8 = .ok (.ifCond .ne 6, 3) := by decide +kernel
theorem dX7_feed_11 : decode cX7_feed 11 = .ok (.bipush (-2), 2) := by decide +kernel
theorem dX7_feed_13 : decode cX7_feed 13 = .ok (.ireturn, 1) := by decide +kernel
theorem dX7_feed_14 : decode cX7_feed 14 = .ok (.aload_n 0, 1) := by decide +kernel
theorem dX7_feed_15 : decode cX7_feed 15 = .ok (.getfield 35, 3) := by decide +kernel
theorem dX7_feed_18 : decode cX7_feed 18 = .ok (.bipush 100, 2) := by decide +kernel
theorem dX7_feed_20 : decode cX7_feed 20 = .ok (.if_icmp .ne 6, 3) := by decide +kernel
theorem dX7_feed_23 : decode cX7_feed 23 = .ok (.bipush (-4), 2) := by decide +kernel
theorem dX7_feed_25 : decode cX7_feed 25 = .ok (.ireturn, 1) := by decide +kernel
theorem dX7_feed_26 : decode cX7_feed 26 = .ok (.aload_n 0, 1) := by decide +kernel
theorem dX7_feed_27 : decode cX7_feed 27 = .ok (.getfield 44, 3) := by decide +kernel
theorem dX7_feed_30 : decode cX7_feed 30 = .ok (.aload_n 0, 1) := by decide +kernel
theorem dX7_feed_31 : decode cX7_feed 31 = .ok (.getfield 35, 3) := by decide +kernel
theorem dX7_feed_34 : decode cX7_feed 34 = .ok (.iload_n 1, 1) := by decide +kernel
theorem dX7_feed_35 : decode cX7_feed 35 = .ok (.iastore, 1) := by decide +kernel
theorem dX7_feed_36 : decode cX7_feed 36 = .ok (.aload_n 0, 1) := by decide +kernel
theorem dX7_feed_37 : decode cX7_feed 37 = .ok (.dup, 1) := by decide +kernel
theorem dX7_feed_38 : decode cX7_feed 38 = .ok (.getfield 35, 3) := by decide +kernel
theorem dX7_feed_41 : decode cX7_feed 41 = .ok (.iconst 1, 1) := by decide +kernel
theorem dX7_feed_42 : decode cX7_feed 42 = .ok (.iadd, 1) := by decide +kernel
theorem dX7_feed_43 : decode cX7_feed 43 = .ok (.putfield 35, 3) := by decide +kernel
theorem dX7_feed_46 : decode cX7_feed 46 = .ok (.aload_n 0, 1) := by decide +kernel
theorem dX7_feed_47 : decode cX7_feed 47 = .ok (.getfield 35, 3) := by decide +kernel
theorem dX7_feed_50 : decode cX7_feed 50 = .ok (.ireturn, 1) := by decide +kernel
theorem dX7_next_0 : decode cX7_next 0 = .ok (.aload_n 0, 1) := by decide +kernel
theorem dX7_next_1 : decode cX7_next 1 = .ok (.getfield 38, 3) := by decide +kernel
theorem dX7_next_4 : decode cX7_next 4 = .ok (.aload_n 0, 1) := by decide +kernel
theorem dX7_next_5 : decode cX7_next 5 = .ok (.getfield 35, 3) := by decide +kernel
theorem dX7_next_8 : decode cX7_next 8 = .ok (.if_icmp .ge 15, 3) := by decide +kernel
theorem dX7_next_11 : decode cX7_next 11 = .ok (.aload_n 0, 1) := by decide +kernel
theorem dX7_next_12 : decode cX7_next 12 = .ok (.getfield 44, 3) := by decide +kernel
theorem dX7_next_15 : decode cX7_next 15 = .ok (.aload_n 0, 1) := by decide +kernel
theorem dX7_next_16 : decode cX7_next 16 = .ok (.getfield 38, 3) := by decide +kernel
theorem dX7_next_19 : decode cX7_next 19 = .ok (.iaload, 1) := by decide +kernel
theorem dX7_next_20 : decode cX7_next 20 = .ok (.goto 4, 3) := by decide +kernel
theorem dX7_next_23 : decode cX7_next 23 = .ok (.iconst (-1), 1) := by decide +kernel
theorem dX7_next_24 : decode cX7_next 24 = .ok (.ireturn, 1) := by decide +kernel
theorem dX7_second_0 : decode cX7_second 0 = .ok (.aload_n 0, 1) := by decide +kernel
theorem dX7_second_1 : decode cX7_second 1 = .ok (.getfield 38, 3) := by decide +kernel
theorem dX7_second_4 : decode cX7_second 4 = .ok (.iconst 1, 1) := by decide +kernel
theorem dX7_second_5 : decode cX7_second 5 = .ok (.iadd, 1) := by decide +kernel
theorem dX7_second_6 : decode cX7_second 6 = .ok (.aload_n 0, 1) := by decide +kernel
theorem dX7_second_7 : decode cX7_second 7 = .ok (.getfield 35, 3) := by decide +kernel
theorem dX7_second_10 : decode cX7_second 10 = .ok (.if_icmp .ge 17, 3) := by decide +kernel
theorem dX7_second_13 : decode cX7_second 13 = .ok (.aload_n 0, 1) := by decide +kernel
theorem dX7_second_14 : decode cX7_second 14 = .ok (.getfield 44, 3) := by decide +kernel
theorem dX7_second_17 : decode cX7_second 17 = .ok (.aload_n 0, 1) := by decide +kernel
theorem dX7_second_18 : decode cX7_second 18 = .ok (.getfield 38, 3) := by decide +kernel
theorem dX7_second_21 : decode cX7_second 21 = .ok (.iconst 1, 1) := by decide +kernel
theorem dX7_second_22 : decode cX7_second 22 = .ok (.iadd, 1) := by decide +kernel
theorem dX7_second_23 : decode cX7_second 23 = .ok (.iaload, 1) := by decide +kernel
theorem dX7_second_24 : decode cX7_second 24 = .ok (.goto 4, 3) := by decide +kernel
theorem dX7_second_27 : decode cX7_second 27 = .ok (.iconst (-1), 1) := by decide +kernel
theorem dX7_second_28 : decode cX7_second 28 = .ok (.ireturn, 1) := by decide +kernel
theorem dX7_takes_0 : decode cX7_takes 0 = .ok (.aload_n 0, 1) := by decide +kernel
theorem dX7_takes_1 : decode cX7_takes 1 = .ok (.invokevirtual 209, 3) := by decide +kernel
theorem dX7_takes_4 : decode cX7_takes 4 = .ok (.iload_n 1, 1) := by decide +kernel
theorem dX7_takes_5 : decode cX7_takes 5 = .ok (.if_icmp .eq 5, 3) := by decide +kernel
theorem dX7_takes_8 : decode cX7_takes 8 = .ok (.iconst 0, 1) := by decide +kernel
theorem dX7_takes_9 : decode cX7_takes 9 = .ok (.ireturn, 1) := by decide +kernel
theorem dX7_takes_10 : decode cX7_takes 10 = .ok (.aload_n 0, 1) := by decide +kernel
theorem dX7_takes_11 : decode cX7_takes 11 = .ok (.dup, 1) := by decide +kernel
theorem dX7_takes_12 : decode cX7_takes 12 = .ok (.getfield 38, 3) := by decide +kernel
theorem dX7_takes_15 : decode cX7_takes 15 = .ok (.iconst 1, 1) := by decide +kernel
theorem dX7_takes_16 : decode cX7_takes 16 = .ok (.iadd, 1) := by decide +kernel
theorem dX7_takes_17 : decode cX7_takes 17 = .ok (.putfield 38, 3) := by decide +kernel
theorem dX7_takes_20 : decode cX7_takes 20 = .ok (.iconst 1, 1) := by decide +kernel
theorem dX7_takes_21 : decode cX7_takes 21 = .ok (.ireturn, 1) := by decide +kernel
theorem dX7_takesAlone_0 : decode cX7_takesAlone 0 = .ok (.iconst 0, 1) := by decide +kernel
theorem dX7_takesAlone_1 : decode cX7_takesAlone 1 = .ok (.istore_n 3, 1) := by decide +kernel
theorem dX7_takesAlone_2 : decode cX7_takesAlone 2 = .ok (.iload_n 3, 1) := by decide +kernel
theorem dX7_takesAlone_3 : decode cX7_takesAlone 3 = .ok (.iload_n 2, 1) := by decide +kernel
theorem dX7_takesAlone_4 : decode cX7_takesAlone 4 = .ok (.if_icmp .ge 26, 3) := by decide +kernel
theorem dX7_takesAlone_7 : decode cX7_takesAlone 7 = .ok (.aload_n 0, 1) := by decide +kernel
theorem dX7_takesAlone_8 : decode cX7_takesAlone 8 = .ok (.aload_n 0, 1) := by decide +kernel
theorem dX7_takesAlone_9 : decode cX7_takesAlone 9 = .ok (.getfield 77, 3) := by decide +kernel
theorem dX7_takesAlone_12 : decode cX7_takesAlone 12 = .ok (.iload_n 1, 1) := by decide +kernel
theorem dX7_takesAlone_13 : decode cX7_takesAlone 13 = .ok (.iload_n 3, 1) := by decide +kernel
theorem dX7_takesAlone_14 : decode cX7_takesAlone 14 = .ok (.iadd, 1) := by decide +kernel
theorem dX7_takesAlone_15 : decode cX7_takesAlone 15 = .ok (.iaload, 1) := by decide +kernel
theorem dX7_takesAlone_16 : decode cX7_takesAlone 16 = .ok (.invokevirtual 213, 3) := by decide +kernel
theorem dX7_takesAlone_19 : decode cX7_takesAlone 19 = .ok (.ifCond .ne 5, 3) := by decide +kernel
theorem dX7_takesAlone_22 : decode cX7_takesAlone 22 = .ok (.iconst 0, 1) := by decide +kernel
theorem dX7_takesAlone_23 : decode cX7_takesAlone 23 = .ok (.ireturn, 1) := by decide +kernel
theorem dX7_takesAlone_24 : decode cX7_takesAlone 24 = .ok (.iinc 3 1, 3) := by decide +kernel
theorem dX7_takesAlone_27 : decode cX7_takesAlone 27 = .ok (.goto (-25), 3) := by decide +kernel
theorem dX7_takesAlone_30 : decode cX7_takesAlone 30 = .ok (.iconst 1, 1) := by decide +kernel
theorem dX7_takesAlone_31 : decode cX7_takesAlone 31 = .ok (.ireturn, 1) := by decide +kernel
theorem dX7_takesWord_0 : decode cX7_takesWord 0 = .ok (.aload_n 0, 1) := by decide +kernel
theorem dX7_takesWord_1 : decode cX7_takesWord 1 = .ok (.iload_n 1, 1) := by decide +kernel
theorem dX7_takesWord_2 : decode cX7_takesWord 2 = .ok (.iload_n 2, 1) := by decide +kernel
theorem dX7_takesWord_3 : decode cX7_takesWord 3 = .ok (.invokevirtual 216, 3) := by decide +kernel
theorem dX7_takesWord_6 : decode cX7_takesWord 6 = .ok (.ifCond .eq 16, 3) := by decide +kernel
theorem dX7_takesWord_9 : decode cX7_takesWord 9 = .ok (.aload_n 0, 1) := by decide +kernel
theorem dX7_takesWord_10 : decode cX7_takesWord 10 = .ok (.bipush 32, 2) := by decide +kernel
theorem dX7_takesWord_12 : decode cX7_takesWord 12 = .ok (.invokevirtual 213, 3) := by decide +kernel
theorem dX7_takesWord_15 : decode cX7_takesWord 15 = .ok (.ifCond .eq 7, 3) := by decide +kernel
theorem dX7_takesWord_18 : decode cX7_takesWord 18 = .ok (.iconst 1, 1) := by decide +kernel
theorem dX7_takesWord_19 : decode cX7_takesWord 19 = .ok (.goto 4, 3) := by decide +kernel
theorem dX7_takesWord_22 : decode cX7_takesWord 22 = .ok (.iconst 0, 1) := by decide +kernel
theorem dX7_takesWord_23 : decode cX7_takesWord 23 = .ok (.ireturn, 1) := by decide +kernel
theorem dX7_isDigit_0 : decode cX7_isDigit 0 = .ok (.aload_n 0, 1) := by decide +kernel
theorem dX7_isDigit_1 : decode cX7_isDigit 1 = .ok (.aload_n 0, 1) := by decide +kernel
theorem dX7_isDigit_2 : decode cX7_isDigit 2 = .ok (.invokevirtual 209, 3) := by decide +kernel
theorem dX7_isDigit_5 : decode cX7_isDigit 5 = .ok (.bipush 48, 2) := by decide +kernel
theorem dX7_isDigit_7 : decode cX7_isDigit 7 = .ok (.bipush 57, 2) := by decide +kernel
theorem dX7_isDigit_9 : decode cX7_isDigit 9 = .ok (.invokevirtual 197, 3) := by decide +kernel
theorem dX7_isDigit_12 : decode cX7_isDigit 12 = .ok (.ireturn, 1) := by decide +kernel
theorem dX7_takesNumber_0 : decode cX7_takesNumber 0 = .ok (.aload_n 0, 1) := by decide +kernel
theorem dX7_takesNumber_1 : decode cX7_takesNumber 1 = .ok (.invokevirtual 220, 3) := by decide +kernel
theorem dX7_takesNumber_4 : decode cX7_takesNumber 4 = .ok (.ifCond .ne 5, 3) := by decide +kernel
theorem dX7_takesNumber_7 : decode cX7_takesNumber 7 = .ok (.iconst 0, 1) := by decide +kernel
theorem dX7_takesNumber_8 : decode cX7_takesNumber 8 = .ok (.ireturn, 1) := by decide +kernel
theorem dX7_takesNumber_9 : decode cX7_takesNumber 9 = .ok (.aload_n 0, 1) := by decide +kernel
theorem dX7_takesNumber_10 : decode cX7_takesNumber 10 = .ok (.iconst 0, 1) := by decide +kernel
theorem dX7_takesNumber_11 : decode cX7_takesNumber 11 = .ok (.putfield 41, 3) := by decide +kernel
theorem dX7_takesNumber_14 : decode cX7_takesNumber 14 = .ok (.iconst 0, 1) := by decide +kernel
theorem dX7_takesNumber_15 : decode cX7_takesNumber 15 = .ok (.istore_n 1, 1) := by decide +kernel
theorem dX7_takesNumber_16 : decode cX7_takesNumber 16 = .ok (.iload_n 1, 1) := by decide +kernel
theorem dX7_takesNumber_17 : decode cX7_takesNumber 17 = .ok (.iconst 2, 1) := by decide +kernel
theorem dX7_takesNumber_18 : decode cX7_takesNumber 18 = .ok (.if_icmp .ge 45, 3) := by decide +kernel
theorem dX7_takesNumber_21 : decode cX7_takesNumber 21 = .ok (.aload_n 0, 1) := by decide +kernel
theorem dX7_takesNumber_22 : decode cX7_takesNumber 22 = .ok (.invokevirtual 220, 3) := by decide +kernel
theorem dX7_takesNumber_25 : decode cX7_takesNumber 25 = .ok (.ifCond .eq 38, 3) := by decide +kernel
theorem dX7_takesNumber_28 : decode cX7_takesNumber 28 = .ok (.aload_n 0, 1) := by decide +kernel
theorem dX7_takesNumber_29 : decode cX7_takesNumber 29 = .ok (.bipush 10, 2) := by decide +kernel
theorem dX7_takesNumber_31 : decode cX7_takesNumber 31 = .ok (.aload_n 0, 1) := by decide +kernel
theorem dX7_takesNumber_32 : decode cX7_takesNumber 32 = .ok (.getfield 41, 3) := by decide +kernel
theorem dX7_takesNumber_35 : decode cX7_takesNumber 35 = .ok (.imul, 1) := by decide +kernel
theorem dX7_takesNumber_36 : decode cX7_takesNumber 36 = .ok (.aload_n 0, 1) := by decide +kernel
theorem dX7_takesNumber_37 : decode cX7_takesNumber 37 = .ok (.invokevirtual 209, 3) := by decide +kernel
theorem dX7_takesNumber_40 : decode cX7_takesNumber 40 = .ok (.iadd, 1) := by decide +kernel
theorem dX7_takesNumber_41 : decode cX7_takesNumber 41 = .ok (.bipush 48, 2) := by decide +kernel
theorem dX7_takesNumber_43 : decode cX7_takesNumber 43 = .ok (.isub, 1) := by decide +kernel
theorem dX7_takesNumber_44 : decode cX7_takesNumber 44 = .ok (.putfield 41, 3) := by decide +kernel
theorem dX7_takesNumber_47 : decode cX7_takesNumber 47 = .ok (.aload_n 0, 1) := by decide +kernel
theorem dX7_takesNumber_48 : decode cX7_takesNumber 48 = .ok (.dup, 1) := by decide +kernel
theorem dX7_takesNumber_49 : decode cX7_takesNumber 49 = .ok (.getfield 38, 3) := by decide +kernel
theorem dX7_takesNumber_52 : decode cX7_takesNumber 52 = .ok (.iconst 1, 1) := by decide +kernel
theorem dX7_takesNumber_53 : decode cX7_takesNumber 53 = .ok (.iadd, 1) := by decide +kernel
theorem dX7_takesNumber_54 : decode cX7_takesNumber 54 = .ok (.putfield 38, 3) := by decide +kernel
theorem dX7_takesNumber_57 : decode cX7_takesNumber 57 = .ok (.iinc 1 1, 3) := by decide +kernel
theorem dX7_takesNumber_60 : decode cX7_takesNumber 60 = .ok (.goto (-44), 3) := by decide +kernel
theorem dX7_takesNumber_63 : decode cX7_takesNumber 63 = .ok (.iconst 1, 1) := by decide +kernel
theorem dX7_takesNumber_64 : decode cX7_takesNumber 64 = .ok (.ireturn, 1) := by decide +kernel
theorem dX7_emits_0 : decode cX7_emits 0 = .ok (.aload_n 0, 1) := by decide +kernel
theorem dX7_emits_1 : decode cX7_emits 1 = .ok (.getfield 62, 3) := by decide +kernel
theorem dX7_emits_4 : decode cX7_emits 4 = .ok (.aload_n 0, 1) := by decide +kernel
theorem dX7_emits_5 : decode cX7_emits 5 = .ok (.getfield 68, 3) := by decide +kernel
theorem dX7_emits_8 : decode cX7_emits 8 = .ok (.iload_n 1, 1) := by decide +kernel
theorem dX7_emits_9 : decode cX7_emits 9 = .ok (.iastore, 1) := by decide +kernel
theorem dX7_emits_10 : decode cX7_emits 10 = .ok (.aload_n 0, 1) := by decide +kernel
theorem dX7_emits_11 : decode cX7_emits 11 = .ok (.dup, 1) := by decide +kernel
theorem dX7_emits_12 : decode cX7_emits 12 = .ok (.getfield 68, 3) := by decide +kernel
theorem dX7_emits_15 : decode cX7_emits 15 = .ok (.iconst 1, 1) := by decide +kernel
theorem dX7_emits_16 : decode cX7_emits 16 = .ok (.iadd, 1) := by decide +kernel
theorem dX7_emits_17 : decode cX7_emits 17 = .ok (.putfield 68, 3) := by decide +kernel
theorem dX7_emits_20 : decode cX7_emits 20 = .ok (.return_, 1) := by decide +kernel
theorem dX7_whole_0 : decode cX7_whole 0 = .ok (.aload_n 0, 1) := by decide +kernel
theorem dX7_whole_1 : decode cX7_whole 1 = .ok (.getfield 71, 3) := by decide +kernel
theorem dX7_whole_4 : decode cX7_whole 4 = .ok (.ifCond .le 48, 3) := by decide +kernel
theorem dX7_whole_7 : decode cX7_whole 7 = .ok (.aload_n 0, 1) := by decide +kernel
theorem dX7_whole_8 : decode cX7_whole 8 = .ok (.getfield 65, 3) := by decide +kernel
theorem dX7_whole_11 : decode cX7_whole 11 = .ok (.aload_n 0, 1) := by decide +kernel
theorem dX7_whole_12 : decode cX7_whole 12 = .ok (.getfield 71, 3) := by decide +kernel
theorem dX7_whole_15 : decode cX7_whole 15 = .ok (.iconst 1, 1) := by decide +kernel
theorem dX7_whole_16 : decode cX7_whole 16 = .ok (.isub, 1) := by decide +kernel
theorem dX7_whole_17 : decode cX7_whole 17 = .ok (.iaload, 1) := by decide +kernel
theorem dX7_whole_18 : decode cX7_whole 18 = .ok (.bipush 33, 2) := by decide +kernel
theorem dX7_whole_20 : decode cX7_whole 20 = .ok (.if_icmp .ne 32, 3) := by decide +kernel
theorem dX7_whole_23 : decode cX7_whole 23 = .ok (.aload_n 0, 1) := by decide +kernel
theorem dX7_whole_24 : decode cX7_whole 24 = .ok (.bipush (-33), 2) := by decide +kernel
theorem dX7_whole_26 : decode cX7_whole 26 = .ok (.invokevirtual 224, 3) := by decide +kernel
theorem dX7_whole_29 : decode cX7_whole 29 = .ok (.aload_n 0, 1) := by decide +kernel
theorem dX7_whole_30 : decode cX7_whole 30 = .ok (.dup, 1) := by decide +kernel
theorem dX7_whole_31 : decode cX7_whole 31 = .ok (.getfield 71, 3) := by decide +kernel
theorem dX7_whole_34 : decode cX7_whole 34 = .ok (.iconst 1, 1) := by decide +kernel
theorem dX7_whole_35 : decode cX7_whole 35 = .ok (.isub, 1) := by decide +kernel
theorem dX7_whole_36 : decode cX7_whole 36 = .ok (.putfield 71, 3) := by decide +kernel
theorem dX7_whole_39 : decode cX7_whole 39 = .ok (.aload_n 0, 1) := by decide +kernel
theorem dX7_whole_40 : decode cX7_whole 40 = .ok (.dup, 1) := by decide +kernel
theorem dX7_whole_41 : decode cX7_whole 41 = .ok (.getfield 74, 3) := by decide +kernel
theorem dX7_whole_44 : decode cX7_whole 44 = .ok (.iconst 1, 1) := by decide +kernel
theorem dX7_whole_45 : decode cX7_whole 45 = .ok (.isub, 1) := by decide +kernel
theorem dX7_whole_46 : decode cX7_whole 46 = .ok (.putfield 74, 3) := by decide +kernel
theorem dX7_whole_49 : decode cX7_whole 49 = .ok (.goto (-49), 3) := by decide +kernel
theorem dX7_whole_52 : decode cX7_whole 52 = .ok (.return_, 1) := by decide +kernel
theorem dX7_settle_0 : decode cX7_settle 0 = .ok (.aload_n 0, 1) := by decide +kernel
theorem dX7_settle_1 : decode cX7_settle 1 = .ok (.getfield 71, 3) := by decide +kernel
theorem dX7_settle_4 : decode cX7_settle 4 = .ok (.ifCond .le 68, 3) := by decide +kernel
theorem dX7_settle_7 : decode cX7_settle 7 = .ok (.aload_n 0, 1) := by decide +kernel
theorem dX7_settle_8 : decode cX7_settle 8 = .ok (.getfield 65, 3) := by decide +kernel
theorem dX7_settle_11 : decode cX7_settle 11 = .ok (.aload_n 0, 1) := by decide +kernel
theorem dX7_settle_12 : decode cX7_settle 12 = .ok (.getfield 71, 3) := by decide +kernel
theorem dX7_settle_15 : decode cX7_settle 15 = .ok (.iconst 1, 1) := by decide +kernel
theorem dX7_settle_16 : decode cX7_settle 16 = .ok (.isub, 1) := by decide +kernel
theorem dX7_settle_17 : decode cX7_settle 17 = .ok (.iaload, 1) := by decide +kernel
theorem dX7_settle_18 : decode cX7_settle 18 = .ok (.bipush 38, 2) := by decide +kernel
theorem dX7_settle_20 : decode cX7_settle 20 = .ok (.if_icmp .eq 25, 3) := by decide +kernel
theorem dX7_settle_23 : decode cX7_settle 23 = .ok (.aload_n 0, 1) := by decide +kernel
theorem dX7_settle_24 : decode cX7_settle 24 = .ok (.getfield 65, 3) := by decide +kernel
theorem dX7_settle_27 : decode cX7_settle 27 = .ok (.aload_n 0, 1) := by decide +kernel
theorem dX7_settle_28 : decode cX7_settle 28 = .ok (.getfield 71, 3) := by decide +kernel
theorem dX7_settle_31 : decode cX7_settle 31 = .ok (.iconst 1, 1) := by decide +kernel
theorem dX7_settle_32 : decode cX7_settle 32 = .ok (.isub, 1) := by decide +kernel
theorem dX7_settle_33 : decode cX7_settle 33 = .ok (.iaload, 1) := by decide +kernel
theorem dX7_settle_34 : decode cX7_settle 34 = .ok (.bipush 124, 2) := by decide +kernel
theorem dX7_settle_36 : decode cX7_settle 36 = .ok (.if_icmp .ne 36, 3) := by decide +kernel
theorem dX7_settle_39 : decode cX7_settle 39 = .ok (.iload_n 1, 1) := by decide +kernel
theorem dX7_settle_40 : decode cX7_settle 40 = .ok (.bipush 38, 2) := by decide +kernel
theorem dX7_settle_42 : decode cX7_settle 42 = .ok (.if_icmp .eq 30, 3) := by decide +kernel
theorem dX7_settle_45 : decode cX7_settle 45 = .ok (.aload_n 0, 1) := by decide +kernel
theorem dX7_settle_46 : decode cX7_settle 46 = .ok (.dup, 1) := by decide +kernel
theorem dX7_settle_47 : decode cX7_settle 47 = .ok (.getfield 71, 3) := by decide +kernel
theorem dX7_settle_50 : decode cX7_settle 50 = .ok (.iconst 1, 1) := by decide +kernel
theorem dX7_settle_51 : decode cX7_settle 51 = .ok (.isub, 1) := by decide +kernel
theorem dX7_settle_52 : decode cX7_settle 52 = .ok (.putfield 71, 3) := by decide +kernel
theorem dX7_settle_55 : decode cX7_settle 55 = .ok (.aload_n 0, 1) := by decide +kernel
theorem dX7_settle_56 : decode cX7_settle 56 = .ok (.aload_n 0, 1) := by decide +kernel
theorem dX7_settle_57 : decode cX7_settle 57 = .ok (.getfield 65, 3) := by decide +kernel
theorem dX7_settle_60 : decode cX7_settle 60 = .ok (.aload_n 0, 1) := by decide +kernel
theorem dX7_settle_61 : decode cX7_settle 61 = .ok (.getfield 71, 3) := by decide +kernel
theorem dX7_settle_64 : decode cX7_settle 64 = .ok (.iaload, 1) := by decide +kernel
theorem dX7_settle_65 : decode cX7_settle 65 = .ok (.ineg, 1) := by decide +kernel
theorem dX7_settle_66 : decode cX7_settle 66 = .ok (.invokevirtual 224, 3) := by decide +kernel
theorem dX7_settle_69 : decode cX7_settle 69 = .ok (.goto (-69), 3) := by decide +kernel
theorem dX7_settle_72 : decode cX7_settle 72 = .ok (.return_, 1) := by decide +kernel
theorem dX7_place_0 : decode cX7_place 0 = .ok (.iload_n 1, 1) := by decide +kernel
theorem dX7_place_1 : decode cX7_place 1 = .ok (.lookupswitch 71 #[(98, 67), (101, 65), (104, 59), (107, 61), (118, 63), (121, 69)], 59) := by decide +kernel
theorem dX7_place_60 : decode cX7_place 60 = .ok (.iconst 0, 1) := by decide +kernel
theorem dX7_place_61 : decode cX7_place 61 = .ok (.ireturn, 1) := by decide +kernel
theorem dX7_place_62 : decode cX7_place 62 = .ok (.iconst 1, 1) := by decide +kernel
theorem dX7_place_63 : decode cX7_place 63 = .ok (.ireturn, 1) := by decide +kernel
theorem dX7_place_64 : decode cX7_place 64 = .ok (.iconst 2, 1) := by decide +kernel
theorem dX7_place_65 : decode cX7_place 65 = .ok (.ireturn, 1) := by decide +kernel
theorem dX7_place_66 : decode cX7_place 66 = .ok (.iconst 3, 1) := by decide +kernel
theorem dX7_place_67 : decode cX7_place 67 = .ok (.ireturn, 1) := by decide +kernel
theorem dX7_place_68 : decode cX7_place 68 = .ok (.iconst 4, 1) := by decide +kernel
theorem dX7_place_69 : decode cX7_place 69 = .ok (.ireturn, 1) := by decide +kernel
theorem dX7_place_70 : decode cX7_place 70 = .ok (.iconst 5, 1) := by decide +kernel
theorem dX7_place_71 : decode cX7_place 71 = .ok (.ireturn, 1) := by decide +kernel
theorem dX7_place_72 : decode cX7_place 72 = .ok (.iconst (-1), 1) := by decide +kernel
theorem dX7_place_73 : decode cX7_place 73 = .ok (.ireturn, 1) := by decide +kernel
theorem dX7_takesTest_0 : decode cX7_takesTest 0 = .ok (.aload_n 0, 1) := by decide +kernel
theorem dX7_takesTest_1 : decode cX7_takesTest 1 = .ok (.aload_n 0, 1) := by decide +kernel
theorem dX7_takesTest_2 : decode cX7_takesTest 2 = .ok (.invokevirtual 209, 3) := by decide +kernel
theorem dX7_takesTest_5 : decode cX7_takesTest 5 = .ok (.invokevirtual 228, 3) := by decide +kernel
theorem dX7_takesTest_8 : decode cX7_takesTest 8 = .ok (.istore_n 1, 1) := by decide +kernel
theorem dX7_takesTest_9 : decode cX7_takesTest 9 = .ok (.iload_n 1, 1) := by decide +kernel
theorem dX7_takesTest_10 : decode cX7_takesTest 10 = .ok (.ifCond .ge 5, 3) := by decide +kernel
theorem dX7_takesTest_13 : decode cX7_takesTest 13 = .ok (.iconst 0, 1) := by decide +kernel
theorem dX7_takesTest_14 : decode cX7_takesTest 14 = .ok (.ireturn, 1) := by decide +kernel
theorem dX7_takesTest_15 : decode cX7_takesTest 15 = .ok (.aload_n 0, 1) := by decide +kernel
theorem dX7_takesTest_16 : decode cX7_takesTest 16 = .ok (.dup, 1) := by decide +kernel
theorem dX7_takesTest_17 : decode cX7_takesTest 17 = .ok (.getfield 38, 3) := by decide +kernel
theorem dX7_takesTest_20 : decode cX7_takesTest 20 = .ok (.iconst 1, 1) := by decide +kernel
theorem dX7_takesTest_21 : decode cX7_takesTest 21 = .ok (.iadd, 1) := by decide +kernel
theorem dX7_takesTest_22 : decode cX7_takesTest 22 = .ok (.putfield 38, 3) := by decide +kernel
theorem dX7_takesTest_25 : decode cX7_takesTest 25 = .ok (.aload_n 0, 1) := by decide +kernel
theorem dX7_takesTest_26 : decode cX7_takesTest 26 = .ok (.invokevirtual 209, 3) := by decide +kernel
theorem dX7_takesTest_29 : decode cX7_takesTest 29 = .ok (.istore_n 2, 1) := by decide +kernel
theorem dX7_takesTest_30 : decode cX7_takesTest 30 = .ok (.aload_n 0, 1) := by decide +kernel
theorem dX7_takesTest_31 : decode cX7_takesTest 31 = .ok (.iload_n 2, 1) := by decide +kernel
theorem dX7_takesTest_32 : decode cX7_takesTest 32 = .ok (.bipush 60, 2) := by decide +kernel
theorem dX7_takesTest_34 : decode cX7_takesTest 34 = .ok (.bipush 62, 2) := by decide +kernel
theorem dX7_takesTest_36 : decode cX7_takesTest 36 = .ok (.invokevirtual 197, 3) := by decide +kernel
theorem dX7_takesTest_39 : decode cX7_takesTest 39 = .ok (.ifCond .ne 5, 3) := by decide +kernel
theorem dX7_takesTest_42 : decode cX7_takesTest 42 = .ok (.iconst 0, 1) := by decide +kernel
theorem dX7_takesTest_43 : decode cX7_takesTest 43 = .ok (.ireturn, 1) := by decide +kernel
theorem dX7_takesTest_44 : decode cX7_takesTest 44 = .ok (.aload_n 0, 1) := by decide +kernel
theorem dX7_takesTest_45 : decode cX7_takesTest 45 = .ok (.dup, 1) := by decide +kernel
theorem dX7_takesTest_46 : decode cX7_takesTest 46 = .ok (.getfield 38, 3) := by decide +kernel
theorem dX7_takesTest_49 : decode cX7_takesTest 49 = .ok (.iconst 1, 1) := by decide +kernel
theorem dX7_takesTest_50 : decode cX7_takesTest 50 = .ok (.iadd, 1) := by decide +kernel
theorem dX7_takesTest_51 : decode cX7_takesTest 51 = .ok (.putfield 38, 3) := by decide +kernel
theorem dX7_takesTest_54 : decode cX7_takesTest 54 = .ok (.aload_n 0, 1) := by decide +kernel
theorem dX7_takesTest_55 : decode cX7_takesTest 55 = .ok (.invokevirtual 232, 3) := by decide +kernel
theorem dX7_takesTest_58 : decode cX7_takesTest 58 = .ok (.ifCond .ne 5, 3) := by decide +kernel
theorem dX7_takesTest_61 : decode cX7_takesTest 61 = .ok (.iconst 0, 1) := by decide +kernel
theorem dX7_takesTest_62 : decode cX7_takesTest 62 = .ok (.ireturn, 1) := by decide +kernel
theorem dX7_takesTest_63 : decode cX7_takesTest 63 = .ok (.aload_n 0, 1) := by decide +kernel
theorem dX7_takesTest_64 : decode cX7_takesTest 64 = .ok (.sipush 1000, 3) := by decide +kernel
theorem dX7_takesTest_67 : decode cX7_takesTest 67 = .ok (.iload_n 1, 1) := by decide +kernel
theorem dX7_takesTest_68 : decode cX7_takesTest 68 = .ok (.imul, 1) := by decide +kernel
theorem dX7_takesTest_69 : decode cX7_takesTest 69 = .ok (.bipush 100, 2) := by decide +kernel
theorem dX7_takesTest_71 : decode cX7_takesTest 71 = .ok (.iload_n 2, 1) := by decide +kernel
theorem dX7_takesTest_72 : decode cX7_takesTest 72 = .ok (.bipush 60, 2) := by decide +kernel
theorem dX7_takesTest_74 : decode cX7_takesTest 74 = .ok (.isub, 1) := by decide +kernel
theorem dX7_takesTest_75 : decode cX7_takesTest 75 = .ok (.imul, 1) := by decide +kernel
theorem dX7_takesTest_76 : decode cX7_takesTest 76 = .ok (.iadd, 1) := by decide +kernel
theorem dX7_takesTest_77 : decode cX7_takesTest 77 = .ok (.aload_n 0, 1) := by decide +kernel
theorem dX7_takesTest_78 : decode cX7_takesTest 78 = .ok (.getfield 41, 3) := by decide +kernel
theorem dX7_takesTest_81 : decode cX7_takesTest 81 = .ok (.iadd, 1) := by decide +kernel
theorem dX7_takesTest_82 : decode cX7_takesTest 82 = .ok (.invokevirtual 224, 3) := by decide +kernel
theorem dX7_takesTest_85 : decode cX7_takesTest 85 = .ok (.aload_n 0, 1) := by decide +kernel
theorem dX7_takesTest_86 : decode cX7_takesTest 86 = .ok (.invokevirtual 235, 3) := by decide +kernel
theorem dX7_takesTest_89 : decode cX7_takesTest 89 = .ok (.iconst 1, 1) := by decide +kernel
theorem dX7_takesTest_90 : decode cX7_takesTest 90 = .ok (.ireturn, 1) := by decide +kernel
theorem dX7_takesE_0 : decode cX7_takesE 0 = .ok (.aload_n 0, 1) := by decide +kernel
theorem dX7_takesE_1 : decode cX7_takesE 1 = .ok (.iconst 0, 1) := by decide +kernel
theorem dX7_takesE_2 : decode cX7_takesE 2 = .ok (.putfield 71, 3) := by decide +kernel
theorem dX7_takesE_5 : decode cX7_takesE 5 = .ok (.aload_n 0, 1) := by decide +kernel
theorem dX7_takesE_6 : decode cX7_takesE 6 = .ok (.iconst 0, 1) := by decide +kernel
theorem dX7_takesE_7 : decode cX7_takesE 7 = .ok (.putfield 74, 3) := by decide +kernel
theorem dX7_takesE_10 : decode cX7_takesE 10 = .ok (.aload_n 0, 1) := by decide +kernel
theorem dX7_takesE_11 : decode cX7_takesE 11 = .ok (.getfield 56, 3) := by decide +kernel
theorem dX7_takesE_14 : decode cX7_takesE 14 = .ok (.iload_n 1, 1) := by decide +kernel
theorem dX7_takesE_15 : decode cX7_takesE 15 = .ok (.aload_n 0, 1) := by decide +kernel
theorem dX7_takesE_16 : decode cX7_takesE 16 = .ok (.getfield 68, 3) := by decide +kernel
theorem dX7_takesE_19 : decode cX7_takesE 19 = .ok (.iastore, 1) := by decide +kernel
theorem dX7_takesE_20 : decode cX7_takesE 20 = .ok (.iconst 1, 1) := by decide +kernel
theorem dX7_takesE_21 : decode cX7_takesE 21 = .ok (.istore_n 2, 1) := by decide +kernel
theorem dX7_takesE_22 : decode cX7_takesE 22 = .ok (.aload_n 0, 1) := by decide +kernel
theorem dX7_takesE_23 : decode cX7_takesE 23 = .ok (.invokevirtual 209, 3) := by decide +kernel
theorem dX7_takesE_26 : decode cX7_takesE 26 = .ok (.istore_n 3, 1) := by decide +kernel
theorem dX7_takesE_27 : decode cX7_takesE 27 = .ok (.iload_n 2, 1) := by decide +kernel
theorem dX7_takesE_28 : decode cX7_takesE 28 = .ok (.ifCond .eq 82, 3) := by decide +kernel
theorem dX7_takesE_31 : decode cX7_takesE 31 = .ok (.iload_n 3, 1) := by decide +kernel
theorem dX7_takesE_32 : decode cX7_takesE 32 = .ok (.bipush 33, 2) := by decide +kernel
theorem dX7_takesE_34 : decode cX7_takesE 34 = .ok (.if_icmp .eq 9, 3) := by decide +kernel
theorem dX7_takesE_37 : decode cX7_takesE 37 = .ok (.iload_n 3, 1) := by decide +kernel
theorem dX7_takesE_38 : decode cX7_takesE 38 = .ok (.bipush 40, 2) := by decide +kernel
theorem dX7_takesE_40 : decode cX7_takesE 40 = .ok (.if_icmp .ne 56, 3) := by decide +kernel
theorem dX7_takesE_43 : decode cX7_takesE 43 = .ok (.aload_n 0, 1) := by decide +kernel
theorem dX7_takesE_44 : decode cX7_takesE 44 = .ok (.getfield 74, 3) := by decide +kernel
theorem dX7_takesE_47 : decode cX7_takesE 47 = .ok (.iconst 4, 1) := by decide +kernel
theorem dX7_takesE_48 : decode cX7_takesE 48 = .ok (.if_icmp .ne 5, 3) := by decide +kernel
theorem dX7_takesE_51 : decode cX7_takesE 51 = .ok (.iconst 0, 1) := by decide +kernel
theorem dX7_takesE_52 : decode cX7_takesE 52 = .ok (.ireturn, 1) := by decide +kernel
theorem dX7_takesE_53 : decode cX7_takesE 53 = .ok (.aload_n 0, 1) := by decide +kernel
theorem dX7_takesE_54 : decode cX7_takesE 54 = .ok (.dup, 1) := by decide +kernel
theorem dX7_takesE_55 : decode cX7_takesE 55 = .ok (.getfield 74, 3) := by decide +kernel
theorem dX7_takesE_58 : decode cX7_takesE 58 = .ok (.iconst 1, 1) := by decide +kernel
theorem dX7_takesE_59 : decode cX7_takesE 59 = .ok (.iadd, 1) := by decide +kernel
theorem dX7_takesE_60 : decode cX7_takesE 60 = .ok (.putfield 74, 3) := by decide +kernel
theorem dX7_takesE_63 : decode cX7_takesE 63 = .ok (.aload_n 0, 1) := by decide +kernel
theorem dX7_takesE_64 : decode cX7_takesE 64 = .ok (.getfield 65, 3) := by decide +kernel
theorem dX7_takesE_67 : decode cX7_takesE 67 = .ok (.aload_n 0, 1) := by decide +kernel
theorem dX7_takesE_68 : decode cX7_takesE 68 = .ok (.getfield 71, 3) := by decide +kernel
theorem dX7_takesE_71 : decode cX7_takesE 71 = .ok (.iload_n 3, 1) := by decide +kernel
theorem dX7_takesE_72 : decode cX7_takesE 72 = .ok (.iastore, 1) := by decide +kernel
theorem dX7_takesE_73 : decode cX7_takesE 73 = .ok (.aload_n 0, 1) := by decide +kernel
theorem dX7_takesE_74 : decode cX7_takesE 74 = .ok (.dup, 1) := by decide +kernel
theorem dX7_takesE_75 : decode cX7_takesE 75 = .ok (.getfield 71, 3) := by decide +kernel
theorem dX7_takesE_78 : decode cX7_takesE 78 = .ok (.iconst 1, 1) := by decide +kernel
theorem dX7_takesE_79 : decode cX7_takesE 79 = .ok (.iadd, 1) := by decide +kernel
theorem dX7_takesE_80 : decode cX7_takesE 80 = .ok (.putfield 71, 3) := by decide +kernel
theorem dX7_takesE_83 : decode cX7_takesE 83 = .ok (.aload_n 0, 1) := by decide +kernel
theorem dX7_takesE_84 : decode cX7_takesE 84 = .ok (.dup, 1) := by decide +kernel
theorem dX7_takesE_85 : decode cX7_takesE 85 = .ok (.getfield 38, 3) := by decide +kernel
theorem dX7_takesE_88 : decode cX7_takesE 88 = .ok (.iconst 1, 1) := by decide +kernel
theorem dX7_takesE_89 : decode cX7_takesE 89 = .ok (.iadd, 1) := by decide +kernel
theorem dX7_takesE_90 : decode cX7_takesE 90 = .ok (.putfield 38, 3) := by decide +kernel
theorem dX7_takesE_93 : decode cX7_takesE 93 = .ok (.goto (-71), 3) := by decide +kernel
theorem dX7_takesE_96 : decode cX7_takesE 96 = .ok (.aload_n 0, 1) := by decide +kernel
theorem dX7_takesE_97 : decode cX7_takesE 97 = .ok (.invokevirtual 238, 3) := by decide +kernel
theorem dX7_takesE_100 : decode cX7_takesE 100 = .ok (.ifCond .eq 8, 3) := by decide +kernel
theorem dX7_takesE_103 : decode cX7_takesE 103 = .ok (.iconst 0, 1) := by decide +kernel
theorem dX7_takesE_104 : decode cX7_takesE 104 = .ok (.istore_n 2, 1) := by decide +kernel
theorem dX7_takesE_105 : decode cX7_takesE 105 = .ok (.goto (-83), 3) := by decide +kernel
theorem dX7_takesE_108 : decode cX7_takesE 108 = .ok (.iconst 0, 1) := by decide +kernel
theorem dX7_takesE_109 : decode cX7_takesE 109 = .ok (.ireturn, 1) := by decide +kernel
theorem dX7_takesE_110 : decode cX7_takesE 110 = .ok (.iload_n 3, 1) := by decide +kernel
theorem dX7_takesE_111 : decode cX7_takesE 111 = .ok (.bipush 38, 2) := by decide +kernel
theorem dX7_takesE_113 : decode cX7_takesE 113 = .ok (.if_icmp .eq 9, 3) := by decide +kernel
theorem dX7_takesE_116 : decode cX7_takesE 116 = .ok (.iload_n 3, 1) := by decide +kernel
theorem dX7_takesE_117 : decode cX7_takesE 117 = .ok (.bipush 124, 2) := by decide +kernel
theorem dX7_takesE_119 : decode cX7_takesE 119 = .ok (.if_icmp .ne 43, 3) := by decide +kernel
theorem dX7_takesE_122 : decode cX7_takesE 122 = .ok (.aload_n 0, 1) := by decide +kernel
theorem dX7_takesE_123 : decode cX7_takesE 123 = .ok (.iload_n 3, 1) := by decide +kernel
theorem dX7_takesE_124 : decode cX7_takesE 124 = .ok (.invokevirtual 241, 3) := by decide +kernel
theorem dX7_takesE_127 : decode cX7_takesE 127 = .ok (.aload_n 0, 1) := by decide +kernel
theorem dX7_takesE_128 : decode cX7_takesE 128 = .ok (.getfield 65, 3) := by decide +kernel
theorem dX7_takesE_131 : decode cX7_takesE 131 = .ok (.aload_n 0, 1) := by decide +kernel
theorem dX7_takesE_132 : decode cX7_takesE 132 = .ok (.getfield 71, 3) := by decide +kernel
theorem dX7_takesE_135 : decode cX7_takesE 135 = .ok (.iload_n 3, 1) := by decide +kernel
theorem dX7_takesE_136 : decode cX7_takesE 136 = .ok (.iastore, 1) := by decide +kernel
theorem dX7_takesE_137 : decode cX7_takesE 137 = .ok (.aload_n 0, 1) := by decide +kernel
theorem dX7_takesE_138 : decode cX7_takesE 138 = .ok (.dup, 1) := by decide +kernel
theorem dX7_takesE_139 : decode cX7_takesE 139 = .ok (.getfield 71, 3) := by decide +kernel
theorem dX7_takesE_142 : decode cX7_takesE 142 = .ok (.iconst 1, 1) := by decide +kernel
theorem dX7_takesE_143 : decode cX7_takesE 143 = .ok (.iadd, 1) := by decide +kernel
theorem dX7_takesE_144 : decode cX7_takesE 144 = .ok (.putfield 71, 3) := by decide +kernel
theorem dX7_takesE_147 : decode cX7_takesE 147 = .ok (.iconst 1, 1) := by decide +kernel
theorem dX7_takesE_148 : decode cX7_takesE 148 = .ok (.istore_n 2, 1) := by decide +kernel
theorem dX7_takesE_149 : decode cX7_takesE 149 = .ok (.aload_n 0, 1) := by decide +kernel
theorem dX7_takesE_150 : decode cX7_takesE 150 = .ok (.dup, 1) := by decide +kernel
theorem dX7_takesE_151 : decode cX7_takesE 151 = .ok (.getfield 38, 3) := by decide +kernel
theorem dX7_takesE_154 : decode cX7_takesE 154 = .ok (.iconst 1, 1) := by decide +kernel
theorem dX7_takesE_155 : decode cX7_takesE 155 = .ok (.iadd, 1) := by decide +kernel
theorem dX7_takesE_156 : decode cX7_takesE 156 = .ok (.putfield 38, 3) := by decide +kernel
theorem dX7_takesE_159 : decode cX7_takesE 159 = .ok (.goto (-137), 3) := by decide +kernel
theorem dX7_takesE_162 : decode cX7_takesE 162 = .ok (.aload_n 0, 1) := by decide +kernel
theorem dX7_takesE_163 : decode cX7_takesE 163 = .ok (.bipush 124, 2) := by decide +kernel
theorem dX7_takesE_165 : decode cX7_takesE 165 = .ok (.invokevirtual 241, 3) := by decide +kernel
theorem dX7_takesE_168 : decode cX7_takesE 168 = .ok (.aload_n 0, 1) := by decide +kernel
theorem dX7_takesE_169 : decode cX7_takesE 169 = .ok (.getfield 59, 3) := by decide +kernel
theorem dX7_takesE_172 : decode cX7_takesE 172 = .ok (.iload_n 1, 1) := by decide +kernel
theorem dX7_takesE_173 : decode cX7_takesE 173 = .ok (.aload_n 0, 1) := by decide +kernel
theorem dX7_takesE_174 : decode cX7_takesE 174 = .ok (.getfield 68, 3) := by decide +kernel
theorem dX7_takesE_177 : decode cX7_takesE 177 = .ok (.iastore, 1) := by decide +kernel
theorem dX7_takesE_178 : decode cX7_takesE 178 = .ok (.aload_n 0, 1) := by decide +kernel
theorem dX7_takesE_179 : decode cX7_takesE 179 = .ok (.getfield 71, 3) := by decide +kernel
theorem dX7_takesE_182 : decode cX7_takesE 182 = .ok (.ifCond .ne 5, 3) := by decide +kernel
theorem dX7_takesE_185 : decode cX7_takesE 185 = .ok (.iconst 1, 1) := by decide +kernel
theorem dX7_takesE_186 : decode cX7_takesE 186 = .ok (.ireturn, 1) := by decide +kernel
theorem dX7_takesE_187 : decode cX7_takesE 187 = .ok (.iload_n 3, 1) := by decide +kernel
theorem dX7_takesE_188 : decode cX7_takesE 188 = .ok (.bipush 41, 2) := by decide +kernel
theorem dX7_takesE_190 : decode cX7_takesE 190 = .ok (.if_icmp .eq 5, 3) := by decide +kernel
theorem dX7_takesE_193 : decode cX7_takesE 193 = .ok (.iconst 0, 1) := by decide +kernel
theorem dX7_takesE_194 : decode cX7_takesE 194 = .ok (.ireturn, 1) := by decide +kernel
theorem dX7_takesE_195 : decode cX7_takesE 195 = .ok (.aload_n 0, 1) := by decide +kernel
theorem dX7_takesE_196 : decode cX7_takesE 196 = .ok (.dup, 1) := by decide +kernel
theorem dX7_takesE_197 : decode cX7_takesE 197 = .ok (.getfield 71, 3) := by decide +kernel
theorem dX7_takesE_200 : decode cX7_takesE 200 = .ok (.iconst 1, 1) := by decide +kernel
theorem dX7_takesE_201 : decode cX7_takesE 201 = .ok (.isub, 1) := by decide +kernel
theorem dX7_takesE_202 : decode cX7_takesE 202 = .ok (.putfield 71, 3) := by decide +kernel
theorem dX7_takesE_205 : decode cX7_takesE 205 = .ok (.aload_n 0, 1) := by decide +kernel
theorem dX7_takesE_206 : decode cX7_takesE 206 = .ok (.dup, 1) := by decide +kernel
theorem dX7_takesE_207 : decode cX7_takesE 207 = .ok (.getfield 74, 3) := by decide +kernel
theorem dX7_takesE_210 : decode cX7_takesE 210 = .ok (.iconst 1, 1) := by decide +kernel
theorem dX7_takesE_211 : decode cX7_takesE 211 = .ok (.isub, 1) := by decide +kernel
theorem dX7_takesE_212 : decode cX7_takesE 212 = .ok (.putfield 74, 3) := by decide +kernel
theorem dX7_takesE_215 : decode cX7_takesE 215 = .ok (.aload_n 0, 1) := by decide +kernel
theorem dX7_takesE_216 : decode cX7_takesE 216 = .ok (.dup, 1) := by decide +kernel
theorem dX7_takesE_217 : decode cX7_takesE 217 = .ok (.getfield 38, 3) := by decide +kernel
theorem dX7_takesE_220 : decode cX7_takesE 220 = .ok (.iconst 1, 1) := by decide +kernel
theorem dX7_takesE_221 : decode cX7_takesE 221 = .ok (.iadd, 1) := by decide +kernel
theorem dX7_takesE_222 : decode cX7_takesE 222 = .ok (.putfield 38, 3) := by decide +kernel
theorem dX7_takesE_225 : decode cX7_takesE 225 = .ok (.aload_n 0, 1) := by decide +kernel
theorem dX7_takesE_226 : decode cX7_takesE 226 = .ok (.invokevirtual 235, 3) := by decide +kernel
theorem dX7_takesE_229 : decode cX7_takesE 229 = .ok (.goto (-207), 3) := by decide +kernel
theorem dX7_takesHead_0 : decode cX7_takesHead 0 = .ok (.aload_n 0, 1) := by decide +kernel
theorem dX7_takesHead_1 : decode cX7_takesHead 1 = .ok (.invokevirtual 244, 3) := by decide +kernel
theorem dX7_takesHead_4 : decode cX7_takesHead 4 = .ok (.istore_n 2, 1) := by decide +kernel
theorem dX7_takesHead_5 : decode cX7_takesHead 5 = .ok (.aload_n 0, 1) := by decide +kernel
theorem dX7_takesHead_6 : decode cX7_takesHead 6 = .ok (.invokevirtual 209, 3) := by decide +kernel
theorem dX7_takesHead_9 : decode cX7_takesHead 9 = .ok (.lookupswitch 55 #[(97, 27), (116, 41)], 27) := by decide +kernel
theorem dX7_takesHead_36 : decode cX7_takesHead 36 = .ok (.aload_n 0, 1) := by decide +kernel
theorem dX7_takesHead_37 : decode cX7_takesHead 37 = .ok (.getfield 50, 3) := by decide +kernel
theorem dX7_takesHead_40 : decode cX7_takesHead 40 = .ok (.iload_n 1, 1) := by decide +kernel
theorem dX7_takesHead_41 : decode cX7_takesHead 41 = .ok (.iconst 0, 1) := by decide +kernel
theorem dX7_takesHead_42 : decode cX7_takesHead 42 = .ok (.iastore, 1) := by decide +kernel
theorem dX7_takesHead_43 : decode cX7_takesHead 43 = .ok (.aload_n 0, 1) := by decide +kernel
theorem dX7_takesHead_44 : decode cX7_takesHead 44 = .ok (.iconst 0, 1) := by decide +kernel
theorem dX7_takesHead_45 : decode cX7_takesHead 45 = .ok (.iconst 3, 1) := by decide +kernel
theorem dX7_takesHead_46 : decode cX7_takesHead 46 = .ok (.invokevirtual 247, 3) := by decide +kernel
theorem dX7_takesHead_49 : decode cX7_takesHead 49 = .ok (.ireturn, 1) := by decide +kernel
theorem dX7_takesHead_50 : decode cX7_takesHead 50 = .ok (.aload_n 0, 1) := by decide +kernel
theorem dX7_takesHead_51 : decode cX7_takesHead 51 = .ok (.getfield 50, 3) := by decide +kernel
theorem dX7_takesHead_54 : decode cX7_takesHead 54 = .ok (.iload_n 1, 1) := by decide +kernel
theorem dX7_takesHead_55 : decode cX7_takesHead 55 = .ok (.iconst 1, 1) := by decide +kernel
theorem dX7_takesHead_56 : decode cX7_takesHead 56 = .ok (.iastore, 1) := by decide +kernel
theorem dX7_takesHead_57 : decode cX7_takesHead 57 = .ok (.aload_n 0, 1) := by decide +kernel
theorem dX7_takesHead_58 : decode cX7_takesHead 58 = .ok (.iconst 3, 1) := by decide +kernel
theorem dX7_takesHead_59 : decode cX7_takesHead 59 = .ok (.iconst 3, 1) := by decide +kernel
theorem dX7_takesHead_60 : decode cX7_takesHead 60 = .ok (.invokevirtual 247, 3) := by decide +kernel
theorem dX7_takesHead_63 : decode cX7_takesHead 63 = .ok (.ireturn, 1) := by decide +kernel
theorem dX7_takesHead_64 : decode cX7_takesHead 64 = .ok (.aload_n 0, 1) := by decide +kernel
theorem dX7_takesHead_65 : decode cX7_takesHead 65 = .ok (.getfield 50, 3) := by decide +kernel
theorem dX7_takesHead_68 : decode cX7_takesHead 68 = .ok (.iload_n 1, 1) := by decide +kernel
theorem dX7_takesHead_69 : decode cX7_takesHead 69 = .ok (.iload_n 2, 1) := by decide +kernel
theorem dX7_takesHead_70 : decode cX7_takesHead 70 = .ok (.bipush 105, 2) := by decide +kernel
theorem dX7_takesHead_72 : decode cX7_takesHead 72 = .ok (.if_icmp .ne 7, 3) := by decide +kernel
theorem dX7_takesHead_75 : decode cX7_takesHead 75 = .ok (.iconst 2, 1) := by decide +kernel
theorem dX7_takesHead_76 : decode cX7_takesHead 76 = .ok (.goto 4, 3) := by decide +kernel
theorem dX7_takesHead_79 : decode cX7_takesHead 79 = .ok (.iconst 3, 1) := by decide +kernel
theorem dX7_takesHead_80 : decode cX7_takesHead 80 = .ok (.iastore, 1) := by decide +kernel
theorem dX7_takesHead_81 : decode cX7_takesHead 81 = .ok (.iload_n 2, 1) := by decide +kernel
theorem dX7_takesHead_82 : decode cX7_takesHead 82 = .ok (.bipush 105, 2) := by decide +kernel
theorem dX7_takesHead_84 : decode cX7_takesHead 84 = .ok (.if_icmp .ne 13, 3) := by decide +kernel
theorem dX7_takesHead_87 : decode cX7_takesHead 87 = .ok (.aload_n 0, 1) := by decide +kernel
theorem dX7_takesHead_88 : decode cX7_takesHead 88 = .ok (.bipush 6, 2) := by decide +kernel
theorem dX7_takesHead_90 : decode cX7_takesHead 90 = .ok (.iconst 4, 1) := by decide +kernel
theorem dX7_takesHead_91 : decode cX7_takesHead 91 = .ok (.invokevirtual 216, 3) := by decide +kernel
theorem dX7_takesHead_94 : decode cX7_takesHead 94 = .ok (.goto 10, 3) := by decide +kernel
theorem dX7_takesHead_97 : decode cX7_takesHead 97 = .ok (.aload_n 0, 1) := by decide +kernel
theorem dX7_takesHead_98 : decode cX7_takesHead 98 = .ok (.bipush 10, 2) := by decide +kernel
theorem dX7_takesHead_100 : decode cX7_takesHead 100 = .ok (.iconst 3, 1) := by decide +kernel
theorem dX7_takesHead_101 : decode cX7_takesHead 101 = .ok (.invokevirtual 216, 3) := by decide +kernel
theorem dX7_takesHead_104 : decode cX7_takesHead 104 = .ok (.ireturn, 1) := by decide +kernel
theorem dX7_takesClause_0 : decode cX7_takesClause 0 = .ok (.aload_n 0, 1) := by decide +kernel
theorem dX7_takesClause_1 : decode cX7_takesClause 1 = .ok (.iload_n 1, 1) := by decide +kernel
theorem dX7_takesClause_2 : decode cX7_takesClause 2 = .ok (.invokevirtual 250, 3) := by decide +kernel
theorem dX7_takesClause_5 : decode cX7_takesClause 5 = .ok (.ifCond .ne 5, 3) := by decide +kernel
theorem dX7_takesClause_8 : decode cX7_takesClause 8 = .ok (.iconst 0, 1) := by decide +kernel
theorem dX7_takesClause_9 : decode cX7_takesClause 9 = .ok (.ireturn, 1) := by decide +kernel
theorem dX7_takesClause_10 : decode cX7_takesClause 10 = .ok (.aload_n 0, 1) := by decide +kernel
theorem dX7_takesClause_11 : decode cX7_takesClause 11 = .ok (.getfield 50, 3) := by decide +kernel
theorem dX7_takesClause_14 : decode cX7_takesClause 14 = .ok (.iload_n 1, 1) := by decide +kernel
theorem dX7_takesClause_15 : decode cX7_takesClause 15 = .ok (.iaload, 1) := by decide +kernel
theorem dX7_takesClause_16 : decode cX7_takesClause 16 = .ok (.iconst 1, 1) := by decide +kernel
theorem dX7_takesClause_17 : decode cX7_takesClause 17 = .ok (.if_icmp .le 5, 3) := by decide +kernel
theorem dX7_takesClause_20 : decode cX7_takesClause 20 = .ok (.iconst 1, 1) := by decide +kernel
theorem dX7_takesClause_21 : decode cX7_takesClause 21 = .ok (.ireturn, 1) := by decide +kernel
theorem dX7_takesClause_22 : decode cX7_takesClause 22 = .ok (.aload_n 0, 1) := by decide +kernel
theorem dX7_takesClause_23 : decode cX7_takesClause 23 = .ok (.invokevirtual 232, 3) := by decide +kernel
theorem dX7_takesClause_26 : decode cX7_takesClause 26 = .ok (.ifCond .ne 5, 3) := by decide +kernel
theorem dX7_takesClause_29 : decode cX7_takesClause 29 = .ok (.iconst 0, 1) := by decide +kernel
theorem dX7_takesClause_30 : decode cX7_takesClause 30 = .ok (.ireturn, 1) := by decide +kernel
theorem dX7_takesClause_31 : decode cX7_takesClause 31 = .ok (.aload_n 0, 1) := by decide +kernel
theorem dX7_takesClause_32 : decode cX7_takesClause 32 = .ok (.getfield 53, 3) := by decide +kernel
theorem dX7_takesClause_35 : decode cX7_takesClause 35 = .ok (.iload_n 1, 1) := by decide +kernel
theorem dX7_takesClause_36 : decode cX7_takesClause 36 = .ok (.aload_n 0, 1) := by decide +kernel
theorem dX7_takesClause_37 : decode cX7_takesClause 37 = .ok (.getfield 41, 3) := by decide +kernel
theorem dX7_takesClause_40 : decode cX7_takesClause 40 = .ok (.iastore, 1) := by decide +kernel
theorem dX7_takesClause_41 : decode cX7_takesClause 41 = .ok (.aload_n 0, 1) := by decide +kernel
theorem dX7_takesClause_42 : decode cX7_takesClause 42 = .ok (.bipush 32, 2) := by decide +kernel
theorem dX7_takesClause_44 : decode cX7_takesClause 44 = .ok (.invokevirtual 213, 3) := by decide +kernel
theorem dX7_takesClause_47 : decode cX7_takesClause 47 = .ok (.ifCond .eq 15, 3) := by decide +kernel
theorem dX7_takesClause_50 : decode cX7_takesClause 50 = .ok (.aload_n 0, 1) := by decide +kernel
theorem dX7_takesClause_51 : decode cX7_takesClause 51 = .ok (.iload_n 1, 1) := by decide +kernel
theorem dX7_takesClause_52 : decode cX7_takesClause 52 = .ok (.invokevirtual 253, 3) := by decide +kernel
theorem dX7_takesClause_55 : decode cX7_takesClause 55 = .ok (.ifCond .eq 7, 3) := by decide +kernel
theorem dX7_takesClause_58 : decode cX7_takesClause 58 = .ok (.iconst 1, 1) := by decide +kernel
theorem dX7_takesClause_59 : decode cX7_takesClause 59 = .ok (.goto 4, 3) := by decide +kernel
theorem dX7_takesClause_62 : decode cX7_takesClause 62 = .ok (.iconst 0, 1) := by decide +kernel
theorem dX7_takesClause_63 : decode cX7_takesClause 63 = .ok (.ireturn, 1) := by decide +kernel
theorem dX7_goesText_0 : decode cX7_goesText 0 = .ok (.aload_n 0, 1) := by decide +kernel
theorem dX7_goesText_1 : decode cX7_goesText 1 = .ok (.iconst 0, 1) := by decide +kernel
theorem dX7_goesText_2 : decode cX7_goesText 2 = .ok (.putfield 38, 3) := by decide +kernel
theorem dX7_goesText_5 : decode cX7_goesText 5 = .ok (.aload_n 0, 1) := by decide +kernel
theorem dX7_goesText_6 : decode cX7_goesText 6 = .ok (.bipush 100, 2) := by decide +kernel
theorem dX7_goesText_8 : decode cX7_goesText 8 = .ok (.iload_n 1, 1) := by decide +kernel
theorem dX7_goesText_9 : decode cX7_goesText 9 = .ok (.imul, 1) := by decide +kernel
theorem dX7_goesText_10 : decode cX7_goesText 10 = .ok (.putfield 68, 3) := by decide +kernel
theorem dX7_goesText_13 : decode cX7_goesText 13 = .ok (.iconst 0, 1) := by decide +kernel
theorem dX7_goesText_14 : decode cX7_goesText 14 = .ok (.istore_n 2, 1) := by decide +kernel
theorem dX7_goesText_15 : decode cX7_goesText 15 = .ok (.aload_n 0, 1) := by decide +kernel
theorem dX7_goesText_16 : decode cX7_goesText 16 = .ok (.bipush 10, 2) := by decide +kernel
theorem dX7_goesText_18 : decode cX7_goesText 18 = .ok (.iload_n 1, 1) := by decide +kernel
theorem dX7_goesText_19 : decode cX7_goesText 19 = .ok (.imul, 1) := by decide +kernel
theorem dX7_goesText_20 : decode cX7_goesText 20 = .ok (.iload_n 2, 1) := by decide +kernel
theorem dX7_goesText_21 : decode cX7_goesText 21 = .ok (.iadd, 1) := by decide +kernel
theorem dX7_goesText_22 : decode cX7_goesText 22 = .ok (.invokevirtual 256, 3) := by decide +kernel
theorem dX7_goesText_25 : decode cX7_goesText 25 = .ok (.ifCond .ne 5, 3) := by decide +kernel
theorem dX7_goesText_28 : decode cX7_goesText 28 = .ok (.iconst 0, 1) := by decide +kernel
theorem dX7_goesText_29 : decode cX7_goesText 29 = .ok (.ireturn, 1) := by decide +kernel
theorem dX7_goesText_30 : decode cX7_goesText 30 = .ok (.iinc 2 1, 3) := by decide +kernel
theorem dX7_goesText_33 : decode cX7_goesText 33 = .ok (.aload_n 0, 1) := by decide +kernel
theorem dX7_goesText_34 : decode cX7_goesText 34 = .ok (.getfield 47, 3) := by decide +kernel
theorem dX7_goesText_37 : decode cX7_goesText 37 = .ok (.iload_n 1, 1) := by decide +kernel
theorem dX7_goesText_38 : decode cX7_goesText 38 = .ok (.iload_n 2, 1) := by decide +kernel
theorem dX7_goesText_39 : decode cX7_goesText 39 = .ok (.iastore, 1) := by decide +kernel
theorem dX7_goesText_40 : decode cX7_goesText 40 = .ok (.aload_n 0, 1) := by decide +kernel
theorem dX7_goesText_41 : decode cX7_goesText 41 = .ok (.getfield 38, 3) := by decide +kernel
theorem dX7_goesText_44 : decode cX7_goesText 44 = .ok (.aload_n 0, 1) := by decide +kernel
theorem dX7_goesText_45 : decode cX7_goesText 45 = .ok (.getfield 35, 3) := by decide +kernel
theorem dX7_goesText_48 : decode cX7_goesText 48 = .ok (.if_icmp .ne 5, 3) := by decide +kernel
theorem dX7_goesText_51 : decode cX7_goesText 51 = .ok (.iconst 1, 1) := by decide +kernel
theorem dX7_goesText_52 : decode cX7_goesText 52 = .ok (.ireturn, 1) := by decide +kernel
theorem dX7_goesText_53 : decode cX7_goesText 53 = .ok (.iload_n 2, 1) := by decide +kernel
theorem dX7_goesText_54 : decode cX7_goesText 54 = .ok (.bipush 10, 2) := by decide +kernel
theorem dX7_goesText_56 : decode cX7_goesText 56 = .ok (.if_icmp .eq 12, 3) := by decide +kernel
theorem dX7_goesText_59 : decode cX7_goesText 59 = .ok (.aload_n 0, 1) := by decide +kernel
theorem dX7_goesText_60 : decode cX7_goesText 60 = .ok (.bipush 59, 2) := by decide +kernel
theorem dX7_goesText_62 : decode cX7_goesText 62 = .ok (.invokevirtual 213, 3) := by decide +kernel
theorem dX7_goesText_65 : decode cX7_goesText 65 = .ok (.ifCond .ne (-50), 3) := by decide +kernel
theorem dX7_goesText_68 : decode cX7_goesText 68 = .ok (.iconst 0, 1) := by decide +kernel
theorem dX7_goesText_69 : decode cX7_goesText 69 = .ok (.ireturn, 1) := by decide +kernel
theorem dX7_street_0 : decode cX7_street 0 = .ok (.aload_n 0, 1) := by decide +kernel
theorem dX7_street_1 : decode cX7_street 1 = .ok (.getfield 29, 3) := by decide +kernel
theorem dX7_street_4 : decode cX7_street 4 = .ok (.bipush 6, 2) := by decide +kernel
theorem dX7_street_6 : decode cX7_street 6 = .ok (.if_icmp .ne 6, 3) := by decide +kernel
theorem dX7_street_9 : decode cX7_street 9 = .ok (.bipush (-4), 2) := by decide +kernel
theorem dX7_street_11 : decode cX7_street 11 = .ok (.ireturn, 1) := by decide +kernel
theorem dX7_street_12 : decode cX7_street 12 = .ok (.aload_n 0, 1) := by decide +kernel
theorem dX7_street_13 : decode cX7_street 13 = .ok (.aload_n 0, 1) := by decide +kernel
theorem dX7_street_14 : decode cX7_street 14 = .ok (.getfield 29, 3) := by decide +kernel
theorem dX7_street_17 : decode cX7_street 17 = .ok (.invokevirtual 259, 3) := by decide +kernel
theorem dX7_street_20 : decode cX7_street 20 = .ok (.istore_n 1, 1) := by decide +kernel
theorem dX7_street_21 : decode cX7_street 21 = .ok (.aload_n 0, 1) := by decide +kernel
theorem dX7_street_22 : decode cX7_street 22 = .ok (.iconst 0, 1) := by decide +kernel
theorem dX7_street_23 : decode cX7_street 23 = .ok (.putfield 35, 3) := by decide +kernel
theorem dX7_street_26 : decode cX7_street 26 = .ok (.iload_n 1, 1) := by decide +kernel
theorem dX7_street_27 : decode cX7_street 27 = .ok (.ifCond .ne 11, 3) := by decide +kernel
theorem dX7_street_30 : decode cX7_street 30 = .ok (.bipush (-10), 2) := by decide +kernel
theorem dX7_street_32 : decode cX7_street 32 = .ok (.aload_n 0, 1) := by decide +kernel
theorem dX7_street_33 : decode cX7_street 33 = .ok (.getfield 38, 3) := by decide +kernel
theorem dX7_street_36 : decode cX7_street 36 = .ok (.isub, 1) := by decide +kernel
theorem dX7_street_37 : decode cX7_street 37 = .ok (.ireturn, 1) := by decide +kernel
theorem dX7_street_38 : decode cX7_street 38 = .ok (.aload_n 0, 1) := by decide +kernel
theorem dX7_street_39 : decode cX7_street 39 = .ok (.aload_n 0, 1) := by decide +kernel
theorem dX7_street_40 : decode cX7_street 40 = .ok (.getfield 29, 3) := by decide +kernel
theorem dX7_street_43 : decode cX7_street 43 = .ok (.putfield 32, 3) := by decide +kernel
theorem dX7_street_46 : decode cX7_street 46 = .ok (.aload_n 0, 1) := by decide +kernel
theorem dX7_street_47 : decode cX7_street 47 = .ok (.dup, 1) := by decide +kernel
theorem dX7_street_48 : decode cX7_street 48 = .ok (.getfield 29, 3) := by decide +kernel
theorem dX7_street_51 : decode cX7_street 51 = .ok (.iconst 1, 1) := by decide +kernel
theorem dX7_street_52 : decode cX7_street 52 = .ok (.iadd, 1) := by decide +kernel
theorem dX7_street_53 : decode cX7_street 53 = .ok (.putfield 29, 3) := by decide +kernel
theorem dX7_street_56 : decode cX7_street 56 = .ok (.aload_n 0, 1) := by decide +kernel
theorem dX7_street_57 : decode cX7_street 57 = .ok (.getfield 32, 3) := by decide +kernel
theorem dX7_street_60 : decode cX7_street 60 = .ok (.ireturn, 1) := by decide +kernel
theorem dX7_begin_0 : decode cX7_begin 0 = .ok (.aload_n 0, 1) := by decide +kernel
theorem dX7_begin_1 : decode cX7_begin 1 = .ok (.getfield 32, 3) := by decide +kernel
theorem dX7_begin_4 : decode cX7_begin 4 = .ok (.ifCond .ge 7, 3) := by decide +kernel
theorem dX7_begin_7 : decode cX7_begin 7 = .ok (.iconst 0, 1) := by decide +kernel
theorem dX7_begin_8 : decode cX7_begin 8 = .ok (.goto 10, 3) := by decide +kernel
theorem dX7_begin_11 : decode cX7_begin 11 = .ok (.bipush 10, 2) := by decide +kernel
theorem dX7_begin_13 : decode cX7_begin 13 = .ok (.aload_n 0, 1) := by decide +kernel
theorem dX7_begin_14 : decode cX7_begin 14 = .ok (.getfield 32, 3) := by decide +kernel
theorem dX7_begin_17 : decode cX7_begin 17 = .ok (.imul, 1) := by decide +kernel
theorem dX7_begin_18 : decode cX7_begin 18 = .ok (.ireturn, 1) := by decide +kernel
theorem dX7_behind_0 : decode cX7_behind 0 = .ok (.aload_n 0, 1) := by decide +kernel
theorem dX7_behind_1 : decode cX7_behind 1 = .ok (.getfield 32, 3) := by decide +kernel
theorem dX7_behind_4 : decode cX7_behind 4 = .ok (.ifCond .ge 7, 3) := by decide +kernel
theorem dX7_behind_7 : decode cX7_behind 7 = .ok (.iconst 0, 1) := by decide +kernel
theorem dX7_behind_8 : decode cX7_behind 8 = .ok (.goto 20, 3) := by decide +kernel
theorem dX7_behind_11 : decode cX7_behind 11 = .ok (.bipush 10, 2) := by decide +kernel
theorem dX7_behind_13 : decode cX7_behind 13 = .ok (.aload_n 0, 1) := by decide +kernel
theorem dX7_behind_14 : decode cX7_behind 14 = .ok (.getfield 32, 3) := by decide +kernel
theorem dX7_behind_17 : decode cX7_behind 17 = .ok (.imul, 1) := by decide +kernel
theorem dX7_behind_18 : decode cX7_behind 18 = .ok (.aload_n 0, 1) := by decide +kernel
theorem dX7_behind_19 : decode cX7_behind 19 = .ok (.getfield 47, 3) := by decide +kernel
theorem dX7_behind_22 : decode cX7_behind 22 = .ok (.aload_n 0, 1) := by decide +kernel
theorem dX7_behind_23 : decode cX7_behind 23 = .ok (.getfield 32, 3) := by decide +kernel
theorem dX7_behind_26 : decode cX7_behind 26 = .ok (.iaload, 1) := by decide +kernel
theorem dX7_behind_27 : decode cX7_behind 27 = .ok (.iadd, 1) := by decide +kernel
theorem dX7_behind_28 : decode cX7_behind 28 = .ok (.ireturn, 1) := by decide +kernel
theorem dX7_isRing_0 : decode cX7_isRing 0 = .ok (.iconst 0, 1) := by decide +kernel
theorem dX7_isRing_1 : decode cX7_isRing 1 = .ok (.istore_n 1, 1) := by decide +kernel
theorem dX7_isRing_2 : decode cX7_isRing 2 = .ok (.aload_n 0, 1) := by decide +kernel
theorem dX7_isRing_3 : decode cX7_isRing 3 = .ok (.invokevirtual 262, 3) := by decide +kernel
theorem dX7_isRing_6 : decode cX7_isRing 6 = .ok (.istore_n 2, 1) := by decide +kernel
theorem dX7_isRing_7 : decode cX7_isRing 7 = .ok (.iload_n 2, 1) := by decide +kernel
theorem dX7_isRing_8 : decode cX7_isRing 8 = .ok (.aload_n 0, 1) := by decide +kernel
theorem dX7_isRing_9 : decode cX7_isRing 9 = .ok (.invokevirtual 265, 3) := by decide +kernel
theorem dX7_isRing_12 : decode cX7_isRing 12 = .ok (.if_icmp .ge 39, 3) := by decide +kernel
theorem dX7_isRing_15 : decode cX7_isRing 15 = .ok (.aload_n 0, 1) := by decide +kernel
theorem dX7_isRing_16 : decode cX7_isRing 16 = .ok (.getfield 50, 3) := by decide +kernel
theorem dX7_isRing_19 : decode cX7_isRing 19 = .ok (.iload_n 2, 1) := by decide +kernel
theorem dX7_isRing_20 : decode cX7_isRing 20 = .ok (.iaload, 1) := by decide +kernel
theorem dX7_isRing_21 : decode cX7_isRing 21 = .ok (.iconst 1, 1) := by decide +kernel
theorem dX7_isRing_22 : decode cX7_isRing 22 = .ok (.if_icmp .le 21, 3) := by decide +kernel
theorem dX7_isRing_25 : decode cX7_isRing 25 = .ok (.aload_n 0, 1) := by decide +kernel
theorem dX7_isRing_26 : decode cX7_isRing 26 = .ok (.getfield 50, 3) := by decide +kernel
theorem dX7_isRing_29 : decode cX7_isRing 29 = .ok (.iload_n 2, 1) := by decide +kernel
theorem dX7_isRing_30 : decode cX7_isRing 30 = .ok (.iaload, 1) := by decide +kernel
theorem dX7_isRing_31 : decode cX7_isRing 31 = .ok (.iconst 2, 1) := by decide +kernel
theorem dX7_isRing_32 : decode cX7_isRing 32 = .ok (.if_icmp .ne 7, 3) := by decide +kernel
theorem dX7_isRing_35 : decode cX7_isRing 35 = .ok (.iconst 1, 1) := by decide +kernel
theorem dX7_isRing_36 : decode cX7_isRing 36 = .ok (.goto 8, 3) := by decide +kernel
theorem dX7_isRing_39 : decode cX7_isRing 39 = .ok (.iconst 0, 1) := by decide +kernel
theorem dX7_isRing_40 : decode cX7_isRing 40 = .ok (.goto 4, 3) := by decide +kernel
theorem dX7_isRing_43 : decode cX7_isRing 43 = .ok (.iload_n 1, 1) := by decide +kernel
theorem dX7_isRing_44 : decode cX7_isRing 44 = .ok (.istore_n 1, 1) := by decide +kernel
theorem dX7_isRing_45 : decode cX7_isRing 45 = .ok (.iinc 2 1, 3) := by decide +kernel
theorem dX7_isRing_48 : decode cX7_isRing 48 = .ok (.goto (-41), 3) := by decide +kernel
theorem dX7_isRing_51 : decode cX7_isRing 51 = .ok (.iload_n 1, 1) := by decide +kernel
theorem dX7_isRing_52 : decode cX7_isRing 52 = .ok (.ireturn, 1) := by decide +kernel
theorem dX7_manyMore_0 : decode cX7_manyMore 0 = .ok (.iconst 0, 1) := by decide +kernel
theorem dX7_manyMore_1 : decode cX7_manyMore 1 = .ok (.istore_n 2, 1) := by decide +kernel
theorem dX7_manyMore_2 : decode cX7_manyMore 2 = .ok (.iconst 0, 1) := by decide +kernel
theorem dX7_manyMore_3 : decode cX7_manyMore 3 = .ok (.istore_n 3, 1) := by decide +kernel
theorem dX7_manyMore_4 : decode cX7_manyMore 4 = .ok (.iload_n 3, 1) := by decide +kernel
theorem dX7_manyMore_5 : decode cX7_manyMore 5 = .ok (.aload_n 0, 1) := by decide +kernel
theorem dX7_manyMore_6 : decode cX7_manyMore 6 = .ok (.getfield 7, 3) := by decide +kernel
theorem dX7_manyMore_9 : decode cX7_manyMore 9 = .ok (.if_icmp .ge 32, 3) := by decide +kernel
theorem dX7_manyMore_12 : decode cX7_manyMore 12 = .ok (.iload_n 2, 1) := by decide +kernel
theorem dX7_manyMore_13 : decode cX7_manyMore 13 = .ok (.aload_n 0, 1) := by decide +kernel
theorem dX7_manyMore_14 : decode cX7_manyMore 14 = .ok (.getfield 23, 3) := by decide +kernel
theorem dX7_manyMore_17 : decode cX7_manyMore 17 = .ok (.iload_n 3, 1) := by decide +kernel
theorem dX7_manyMore_18 : decode cX7_manyMore 18 = .ok (.iaload, 1) := by decide +kernel
theorem dX7_manyMore_19 : decode cX7_manyMore 19 = .ok (.aload_n 0, 1) := by decide +kernel
theorem dX7_manyMore_20 : decode cX7_manyMore 20 = .ok (.getfield 23, 3) := by decide +kernel
theorem dX7_manyMore_23 : decode cX7_manyMore 23 = .ok (.iload_n 1, 1) := by decide +kernel
theorem dX7_manyMore_24 : decode cX7_manyMore 24 = .ok (.iaload, 1) := by decide +kernel
theorem dX7_manyMore_25 : decode cX7_manyMore 25 = .ok (.if_icmp .le 7, 3) := by decide +kernel
theorem dX7_manyMore_28 : decode cX7_manyMore 28 = .ok (.iconst 1, 1) := by decide +kernel
theorem dX7_manyMore_29 : decode cX7_manyMore 29 = .ok (.goto 4, 3) := by decide +kernel
theorem dX7_manyMore_32 : decode cX7_manyMore 32 = .ok (.iconst 0, 1) := by decide +kernel
theorem dX7_manyMore_33 : decode cX7_manyMore 33 = .ok (.iadd, 1) := by decide +kernel
theorem dX7_manyMore_34 : decode cX7_manyMore 34 = .ok (.istore_n 2, 1) := by decide +kernel
theorem dX7_manyMore_35 : decode cX7_manyMore 35 = .ok (.iinc 3 1, 3) := by decide +kernel
theorem dX7_manyMore_38 : decode cX7_manyMore 38 = .ok (.goto (-34), 3) := by decide +kernel
theorem dX7_manyMore_41 : decode cX7_manyMore 41 = .ok (.iload_n 2, 1) := by decide +kernel
theorem dX7_manyMore_42 : decode cX7_manyMore 42 = .ok (.ireturn, 1) := by decide +kernel
theorem dX7_factOf_0 : decode cX7_factOf 0 = .ok (.iload_n 1, 1) := by decide +kernel
theorem dX7_factOf_1 : decode cX7_factOf 1 = .ok (.tableswitch 67 0 4 #[35, 37, 44, 51, 61], 35) := by decide +kernel
theorem dX7_factOf_36 : decode cX7_factOf 36 = .ok (.iload_n 2, 1) := by decide +kernel
theorem dX7_factOf_37 : decode cX7_factOf 37 = .ok (.ireturn, 1) := by decide +kernel
theorem dX7_factOf_38 : decode cX7_factOf 38 = .ok (.aload_n 0, 1) := by decide +kernel
theorem dX7_factOf_39 : decode cX7_factOf 39 = .ok (.getfield 16, 3) := by decide +kernel
theorem dX7_factOf_42 : decode cX7_factOf 42 = .ok (.iload_n 2, 1) := by decide +kernel
theorem dX7_factOf_43 : decode cX7_factOf 43 = .ok (.iaload, 1) := by decide +kernel
theorem dX7_factOf_44 : decode cX7_factOf 44 = .ok (.ireturn, 1) := by decide +kernel
theorem dX7_factOf_45 : decode cX7_factOf 45 = .ok (.aload_n 0, 1) := by decide +kernel
theorem dX7_factOf_46 : decode cX7_factOf 46 = .ok (.getfield 20, 3) := by decide +kernel
theorem dX7_factOf_49 : decode cX7_factOf 49 = .ok (.iload_n 2, 1) := by decide +kernel
theorem dX7_factOf_50 : decode cX7_factOf 50 = .ok (.iaload, 1) := by decide +kernel
theorem dX7_factOf_51 : decode cX7_factOf 51 = .ok (.ireturn, 1) := by decide +kernel
theorem dX7_factOf_52 : decode cX7_factOf 52 = .ok (.aload_n 0, 1) := by decide +kernel
theorem dX7_factOf_53 : decode cX7_factOf 53 = .ok (.getfield 23, 3) := by decide +kernel
theorem dX7_factOf_56 : decode cX7_factOf 56 = .ok (.iload_n 2, 1) := by decide +kernel
theorem dX7_factOf_57 : decode cX7_factOf 57 = .ok (.iaload, 1) := by decide +kernel
theorem dX7_factOf_58 : decode cX7_factOf 58 = .ok (.bipush 10, 2) := by decide +kernel
theorem dX7_factOf_60 : decode cX7_factOf 60 = .ok (.idiv, 1) := by decide +kernel
theorem dX7_factOf_61 : decode cX7_factOf 61 = .ok (.ireturn, 1) := by decide +kernel
theorem dX7_factOf_62 : decode cX7_factOf 62 = .ok (.aload_n 0, 1) := by decide +kernel
theorem dX7_factOf_63 : decode cX7_factOf 63 = .ok (.iload_n 2, 1) := by decide +kernel
theorem dX7_factOf_64 : decode cX7_factOf 64 = .ok (.invokevirtual 268, 3) := by decide +kernel
theorem dX7_factOf_67 : decode cX7_factOf 67 = .ok (.ireturn, 1) := by decide +kernel
theorem dX7_factOf_68 : decode cX7_factOf 68 = .ok (.aload_n 0, 1) := by decide +kernel
theorem dX7_factOf_69 : decode cX7_factOf 69 = .ok (.getfield 13, 3) := by decide +kernel
theorem dX7_factOf_72 : decode cX7_factOf 72 = .ok (.bipush 10, 2) := by decide +kernel
theorem dX7_factOf_74 : decode cX7_factOf 74 = .ok (.irem, 1) := by decide +kernel
theorem dX7_factOf_75 : decode cX7_factOf 75 = .ok (.ireturn, 1) := by decide +kernel
theorem dX7_holds_0 : decode cX7_holds 0 = .ok (.iconst 0, 1) := by decide +kernel
theorem dX7_holds_1 : decode cX7_holds 1 = .ok (.istore_n 3, 1) := by decide +kernel
theorem dX7_holds_2 : decode cX7_holds 2 = .ok (.aload_n 0, 1) := by decide +kernel
theorem dX7_holds_3 : decode cX7_holds 3 = .ok (.getfield 56, 3) := by decide +kernel
theorem dX7_holds_6 : decode cX7_holds 6 = .ok (.iload_n 1, 1) := by decide +kernel
theorem dX7_holds_7 : decode cX7_holds 7 = .ok (.iaload, 1) := by decide +kernel
theorem dX7_holds_8 : decode cX7_holds 8 = .ok (.istore 4, 2) := by decide +kernel
theorem dX7_holds_10 : decode cX7_holds 10 = .ok (.iload 4, 2) := by decide +kernel
theorem dX7_holds_12 : decode cX7_holds 12 = .ok (.aload_n 0, 1) := by decide +kernel
theorem dX7_holds_13 : decode cX7_holds 13 = .ok (.getfield 59, 3) := by decide +kernel
theorem dX7_holds_16 : decode cX7_holds 16 = .ok (.iload_n 1, 1) := by decide +kernel
theorem dX7_holds_17 : decode cX7_holds 17 = .ok (.iaload, 1) := by decide +kernel
theorem dX7_holds_18 : decode cX7_holds 18 = .ok (.if_icmp .ge 225, 3) := by decide +kernel
theorem dX7_holds_21 : decode cX7_holds 21 = .ok (.aload_n 0, 1) := by decide +kernel
theorem dX7_holds_22 : decode cX7_holds 22 = .ok (.getfield 62, 3) := by decide +kernel
theorem dX7_holds_25 : decode cX7_holds 25 = .ok (.iload 4, 2) := by decide +kernel
theorem dX7_holds_27 : decode cX7_holds 27 = .ok (.iaload, 1) := by decide +kernel
theorem dX7_holds_28 : decode cX7_holds 28 = .ok (.istore 5, 2) := by decide +kernel
theorem dX7_holds_30 : decode cX7_holds 30 = .ok (.iload 5, 2) := by decide +kernel
theorem dX7_holds_32 : decode cX7_holds 32 = .ok (.bipush (-33), 2) := by decide +kernel
theorem dX7_holds_34 : decode cX7_holds 34 = .ok (.if_icmp .ne 30, 3) := by decide +kernel
theorem dX7_holds_37 : decode cX7_holds 37 = .ok (.aload_n 0, 1) := by decide +kernel
theorem dX7_holds_38 : decode cX7_holds 38 = .ok (.getfield 80, 3) := by decide +kernel
theorem dX7_holds_41 : decode cX7_holds 41 = .ok (.iload_n 3, 1) := by decide +kernel
theorem dX7_holds_42 : decode cX7_holds 42 = .ok (.iconst 1, 1) := by decide +kernel
theorem dX7_holds_43 : decode cX7_holds 43 = .ok (.isub, 1) := by decide +kernel
theorem dX7_holds_44 : decode cX7_holds 44 = .ok (.aload_n 0, 1) := by decide +kernel
theorem dX7_holds_45 : decode cX7_holds 45 = .ok (.getfield 80, 3) := by decide +kernel
theorem dX7_holds_48 : decode cX7_holds 48 = .ok (.iload_n 3, 1) := by decide +kernel
theorem dX7_holds_49 : decode cX7_holds 49 = .ok (.iconst 1, 1) := by decide +kernel
theorem dX7_holds_50 : decode cX7_holds 50 = .ok (.isub, 1) := by decide +kernel
theorem dX7_holds_51 : decode cX7_holds 51 = .ok (.baload, 1) := by decide +kernel
theorem dX7_holds_52 : decode cX7_holds 52 = .ok (.ifCond .ne 7, 3) := by decide +kernel
theorem dX7_holds_55 : decode cX7_holds 55 = .ok (.iconst 1, 1) := by decide +kernel
theorem dX7_holds_56 : decode cX7_holds 56 = .ok (.goto 4, 3) := by decide +kernel
theorem dX7_holds_59 : decode cX7_holds 59 = .ok (.iconst 0, 1) := by decide +kernel
theorem dX7_holds_60 : decode cX7_holds 60 = .ok (.bastore, 1) := by decide +kernel
theorem dX7_holds_61 : decode cX7_holds 61 = .ok (.goto 176, 3) := by decide +kernel
theorem dX7_holds_64 : decode cX7_holds 64 = .ok (.iload 5, 2) := by decide +kernel
theorem dX7_holds_66 : decode cX7_holds 66 = .ok (.ifCond .ge 77, 3) := by decide +kernel
theorem dX7_holds_69 : decode cX7_holds 69 = .ok (.iinc 3 (-1), 3) := by decide +kernel
theorem dX7_holds_72 : decode cX7_holds 72 = .ok (.aload_n 0, 1) := by decide +kernel
theorem dX7_holds_73 : decode cX7_holds 73 = .ok (.getfield 80, 3) := by decide +kernel
theorem dX7_holds_76 : decode cX7_holds 76 = .ok (.iload_n 3, 1) := by decide +kernel
theorem dX7_holds_77 : decode cX7_holds 77 = .ok (.iconst 1, 1) := by decide +kernel
theorem dX7_holds_78 : decode cX7_holds 78 = .ok (.isub, 1) := by decide +kernel
theorem dX7_holds_79 : decode cX7_holds 79 = .ok (.iload 5, 2) := by decide +kernel
theorem dX7_holds_81 : decode cX7_holds 81 = .ok (.bipush (-38), 2) := by decide +kernel
theorem dX7_holds_83 : decode cX7_holds 83 = .ok (.if_icmp .ne 31, 3) := by decide +kernel
theorem dX7_holds_86 : decode cX7_holds 86 = .ok (.aload_n 0, 1) := by decide +kernel
theorem dX7_holds_87 : decode cX7_holds 87 = .ok (.getfield 80, 3) := by decide +kernel
theorem dX7_holds_90 : decode cX7_holds 90 = .ok (.iload_n 3, 1) := by decide +kernel
theorem dX7_holds_91 : decode cX7_holds 91 = .ok (.iconst 1, 1) := by decide +kernel
theorem dX7_holds_92 : decode cX7_holds 92 = .ok (.isub, 1) := by decide +kernel
theorem dX7_holds_93 : decode cX7_holds 93 = .ok (.baload, 1) := by decide +kernel
theorem dX7_holds_94 : decode cX7_holds 94 = .ok (.ifCond .eq 16, 3) := by decide +kernel
theorem dX7_holds_97 : decode cX7_holds 97 = .ok (.aload_n 0, 1) := by decide +kernel
theorem dX7_holds_98 : decode cX7_holds 98 = .ok (.getfield 80, 3) := by decide +kernel
theorem dX7_holds_101 : decode cX7_holds 101 = .ok (.iload_n 3, 1) := by decide +kernel
theorem dX7_holds_102 : decode cX7_holds 102 = .ok (.baload, 1) := by decide +kernel
theorem dX7_holds_103 : decode cX7_holds 103 = .ok (.ifCond .eq 7, 3) := by decide +kernel
theorem dX7_holds_106 : decode cX7_holds 106 = .ok (.iconst 1, 1) := by decide +kernel
theorem dX7_holds_107 : decode cX7_holds 107 = .ok (.goto 32, 3) := by decide +kernel
theorem dX7_holds_110 : decode cX7_holds 110 = .ok (.iconst 0, 1) := by decide +kernel
theorem dX7_holds_111 : decode cX7_holds 111 = .ok (.goto 28, 3) := by decide +kernel
theorem dX7_holds_114 : decode cX7_holds 114 = .ok (.aload_n 0, 1) := by decide +kernel
theorem dX7_holds_115 : decode cX7_holds 115 = .ok (.getfield 80, 3) := by decide +kernel
theorem dX7_holds_118 : decode cX7_holds 118 = .ok (.iload_n 3, 1) := by decide +kernel
theorem dX7_holds_119 : decode cX7_holds 119 = .ok (.iconst 1, 1) := by decide +kernel
theorem dX7_holds_120 : decode cX7_holds 120 = .ok (.isub, 1) := by decide +kernel
theorem dX7_holds_121 : decode cX7_holds 121 = .ok (.baload, 1) := by decide +kernel
theorem dX7_holds_122 : decode cX7_holds 122 = .ok (.ifCond .ne 12, 3) := by decide +kernel
theorem dX7_holds_125 : decode cX7_holds 125 = .ok (.aload_n 0, 1) := by decide +kernel
theorem dX7_holds_126 : decode cX7_holds 126 = .ok (.getfield 80, 3) := by decide +kernel
theorem dX7_holds_129 : decode cX7_holds 129 = .ok (.iload_n 3, 1) := by decide +kernel
theorem dX7_holds_130 : decode cX7_holds 130 = .ok (.baload, 1) := by decide +kernel
theorem dX7_holds_131 : decode cX7_holds 131 = .ok (.ifCond .eq 7, 3) := by decide +kernel
theorem dX7_holds_134 : decode cX7_holds 134 = .ok (.iconst 1, 1) := by decide +kernel
theorem dX7_holds_135 : decode cX7_holds 135 = .ok (.goto 4, 3) := by decide +kernel
theorem dX7_holds_138 : decode cX7_holds 138 = .ok (.iconst 0, 1) := by decide +kernel
theorem dX7_holds_139 : decode cX7_holds 139 = .ok (.bastore, 1) := by decide +kernel
theorem dX7_holds_140 : decode cX7_holds 140 = .ok (.goto 97, 3) := by decide +kernel
theorem dX7_holds_143 : decode cX7_holds 143 = .ok (.aload_n 0, 1) := by decide +kernel
theorem dX7_holds_144 : decode cX7_holds 144 = .ok (.iload 5, 2) := by decide +kernel
theorem dX7_holds_146 : decode cX7_holds 146 = .ok (.sipush 1000, 3) := by decide +kernel
theorem dX7_holds_149 : decode cX7_holds 149 = .ok (.idiv, 1) := by decide +kernel
theorem dX7_holds_150 : decode cX7_holds 150 = .ok (.iload_n 2, 1) := by decide +kernel
theorem dX7_holds_151 : decode cX7_holds 151 = .ok (.invokevirtual 271, 3) := by decide +kernel
theorem dX7_holds_154 : decode cX7_holds 154 = .ok (.istore 6, 2) := by decide +kernel
theorem dX7_holds_156 : decode cX7_holds 156 = .ok (.iload 5, 2) := by decide +kernel
theorem dX7_holds_158 : decode cX7_holds 158 = .ok (.bipush 100, 2) := by decide +kernel
theorem dX7_holds_160 : decode cX7_holds 160 = .ok (.idiv, 1) := by decide +kernel
theorem dX7_holds_161 : decode cX7_holds 161 = .ok (.bipush 10, 2) := by decide +kernel
theorem dX7_holds_163 : decode cX7_holds 163 = .ok (.irem, 1) := by decide +kernel
theorem dX7_holds_164 : decode cX7_holds 164 = .ok (.istore 7, 2) := by decide +kernel
theorem dX7_holds_166 : decode cX7_holds 166 = .ok (.aload_n 0, 1) := by decide +kernel
theorem dX7_holds_167 : decode cX7_holds 167 = .ok (.getfield 80, 3) := by decide +kernel
theorem dX7_holds_170 : decode cX7_holds 170 = .ok (.iload_n 3, 1) := by decide +kernel
theorem dX7_holds_171 : decode cX7_holds 171 = .ok (.iload 7, 2) := by decide +kernel
theorem dX7_holds_173 : decode cX7_holds 173 = .ok (.ifCond .ne 21, 3) := by decide +kernel
theorem dX7_holds_176 : decode cX7_holds 176 = .ok (.iload 6, 2) := by decide +kernel
theorem dX7_holds_178 : decode cX7_holds 178 = .ok (.iload 5, 2) := by decide +kernel
theorem dX7_holds_180 : decode cX7_holds 180 = .ok (.bipush 100, 2) := by decide +kernel
theorem dX7_holds_182 : decode cX7_holds 182 = .ok (.irem, 1) := by decide +kernel
theorem dX7_holds_183 : decode cX7_holds 183 = .ok (.if_icmp .ge 7, 3) := by decide +kernel
theorem dX7_holds_186 : decode cX7_holds 186 = .ok (.iconst 1, 1) := by decide +kernel
theorem dX7_holds_187 : decode cX7_holds 187 = .ok (.goto 46, 3) := by decide +kernel
theorem dX7_holds_190 : decode cX7_holds 190 = .ok (.iconst 0, 1) := by decide +kernel
theorem dX7_holds_191 : decode cX7_holds 191 = .ok (.goto 42, 3) := by decide +kernel
theorem dX7_holds_194 : decode cX7_holds 194 = .ok (.iload 7, 2) := by decide +kernel
theorem dX7_holds_196 : decode cX7_holds 196 = .ok (.iconst 1, 1) := by decide +kernel
theorem dX7_holds_197 : decode cX7_holds 197 = .ok (.if_icmp .ne 21, 3) := by decide +kernel
theorem dX7_holds_200 : decode cX7_holds 200 = .ok (.iload 6, 2) := by decide +kernel
theorem dX7_holds_202 : decode cX7_holds 202 = .ok (.iload 5, 2) := by decide +kernel
theorem dX7_holds_204 : decode cX7_holds 204 = .ok (.bipush 100, 2) := by decide +kernel
theorem dX7_holds_206 : decode cX7_holds 206 = .ok (.irem, 1) := by decide +kernel
theorem dX7_holds_207 : decode cX7_holds 207 = .ok (.if_icmp .ne 7, 3) := by decide +kernel
theorem dX7_holds_210 : decode cX7_holds 210 = .ok (.iconst 1, 1) := by decide +kernel
theorem dX7_holds_211 : decode cX7_holds 211 = .ok (.goto 22, 3) := by decide +kernel
theorem dX7_holds_214 : decode cX7_holds 214 = .ok (.iconst 0, 1) := by decide +kernel
theorem dX7_holds_215 : decode cX7_holds 215 = .ok (.goto 18, 3) := by decide +kernel
theorem dX7_holds_218 : decode cX7_holds 218 = .ok (.iload 6, 2) := by decide +kernel
theorem dX7_holds_220 : decode cX7_holds 220 = .ok (.iload 5, 2) := by decide +kernel
theorem dX7_holds_222 : decode cX7_holds 222 = .ok (.bipush 100, 2) := by decide +kernel
theorem dX7_holds_224 : decode cX7_holds 224 = .ok (.irem, 1) := by decide +kernel
theorem dX7_holds_225 : decode cX7_holds 225 = .ok (.if_icmp .le 7, 3) := by decide +kernel
theorem dX7_holds_228 : decode cX7_holds 228 = .ok (.iconst 1, 1) := by decide +kernel
theorem dX7_holds_229 : decode cX7_holds 229 = .ok (.goto 4, 3) := by decide +kernel
theorem dX7_holds_232 : decode cX7_holds 232 = .ok (.iconst 0, 1) := by decide +kernel
theorem dX7_holds_233 : decode cX7_holds 233 = .ok (.bastore, 1) := by decide +kernel
theorem dX7_holds_234 : decode cX7_holds 234 = .ok (.iinc 3 1, 3) := by decide +kernel
theorem dX7_holds_237 : decode cX7_holds 237 = .ok (.iinc 4 1, 3) := by decide +kernel
theorem dX7_holds_240 : decode cX7_holds 240 = .ok (.goto (-230), 3) := by decide +kernel
theorem dX7_holds_243 : decode cX7_holds 243 = .ok (.aload_n 0, 1) := by decide +kernel
theorem dX7_holds_244 : decode cX7_holds 244 = .ok (.getfield 80, 3) := by decide +kernel
theorem dX7_holds_247 : decode cX7_holds 247 = .ok (.iconst 0, 1) := by decide +kernel
theorem dX7_holds_248 : decode cX7_holds 248 = .ok (.baload, 1) := by decide +kernel
theorem dX7_holds_249 : decode cX7_holds 249 = .ok (.ireturn, 1) := by decide +kernel
theorem dX7_adds_0 : decode cX7_adds 0 = .ok (.iconst 0, 1) := by decide +kernel
theorem dX7_adds_1 : decode cX7_adds 1 = .ok (.istore_n 2, 1) := by decide +kernel
theorem dX7_adds_2 : decode cX7_adds 2 = .ok (.aload_n 0, 1) := by decide +kernel
theorem dX7_adds_3 : decode cX7_adds 3 = .ok (.invokevirtual 262, 3) := by decide +kernel
theorem dX7_adds_6 : decode cX7_adds 6 = .ok (.istore_n 3, 1) := by decide +kernel
theorem dX7_adds_7 : decode cX7_adds 7 = .ok (.iload_n 3, 1) := by decide +kernel
theorem dX7_adds_8 : decode cX7_adds 8 = .ok (.aload_n 0, 1) := by decide +kernel
theorem dX7_adds_9 : decode cX7_adds 9 = .ok (.invokevirtual 265, 3) := by decide +kernel
theorem dX7_adds_12 : decode cX7_adds 12 = .ok (.if_icmp .ge 59, 3) := by decide +kernel
theorem dX7_adds_15 : decode cX7_adds 15 = .ok (.aload_n 0, 1) := by decide +kernel
theorem dX7_adds_16 : decode cX7_adds 16 = .ok (.getfield 50, 3) := by decide +kernel
theorem dX7_adds_19 : decode cX7_adds 19 = .ok (.iload_n 3, 1) := by decide +kernel
theorem dX7_adds_20 : decode cX7_adds 20 = .ok (.iaload, 1) := by decide +kernel
theorem dX7_adds_21 : decode cX7_adds 21 = .ok (.iconst 1, 1) := by decide +kernel
theorem dX7_adds_22 : decode cX7_adds 22 = .ok (.if_icmp .gt 43, 3) := by decide +kernel
theorem dX7_adds_25 : decode cX7_adds 25 = .ok (.aload_n 0, 1) := by decide +kernel
theorem dX7_adds_26 : decode cX7_adds 26 = .ok (.iload_n 3, 1) := by decide +kernel
theorem dX7_adds_27 : decode cX7_adds 27 = .ok (.iload_n 1, 1) := by decide +kernel
theorem dX7_adds_28 : decode cX7_adds 28 = .ok (.invokevirtual 275, 3) := by decide +kernel
theorem dX7_adds_31 : decode cX7_adds 31 = .ok (.ifCond .ne 6, 3) := by decide +kernel
theorem dX7_adds_34 : decode cX7_adds 34 = .ok (.goto 31, 3) := by decide +kernel
theorem dX7_adds_37 : decode cX7_adds 37 = .ok (.iload_n 2, 1) := by decide +kernel
theorem dX7_adds_38 : decode cX7_adds 38 = .ok (.aload_n 0, 1) := by decide +kernel
theorem dX7_adds_39 : decode cX7_adds 39 = .ok (.getfield 50, 3) := by decide +kernel
theorem dX7_adds_42 : decode cX7_adds 42 = .ok (.iload_n 3, 1) := by decide +kernel
theorem dX7_adds_43 : decode cX7_adds 43 = .ok (.iaload, 1) := by decide +kernel
theorem dX7_adds_44 : decode cX7_adds 44 = .ok (.ifCond .ne 12, 3) := by decide +kernel
theorem dX7_adds_47 : decode cX7_adds 47 = .ok (.aload_n 0, 1) := by decide +kernel
theorem dX7_adds_48 : decode cX7_adds 48 = .ok (.getfield 53, 3) := by decide +kernel
theorem dX7_adds_51 : decode cX7_adds 51 = .ok (.iload_n 3, 1) := by decide +kernel
theorem dX7_adds_52 : decode cX7_adds 52 = .ok (.iaload, 1) := by decide +kernel
theorem dX7_adds_53 : decode cX7_adds 53 = .ok (.goto 10, 3) := by decide +kernel
theorem dX7_adds_56 : decode cX7_adds 56 = .ok (.aload_n 0, 1) := by decide +kernel
theorem dX7_adds_57 : decode cX7_adds 57 = .ok (.getfield 53, 3) := by decide +kernel
theorem dX7_adds_60 : decode cX7_adds 60 = .ok (.iload_n 3, 1) := by decide +kernel
theorem dX7_adds_61 : decode cX7_adds 61 = .ok (.iaload, 1) := by decide +kernel
theorem dX7_adds_62 : decode cX7_adds 62 = .ok (.ineg, 1) := by decide +kernel
theorem dX7_adds_63 : decode cX7_adds 63 = .ok (.iadd, 1) := by decide +kernel
theorem dX7_adds_64 : decode cX7_adds 64 = .ok (.istore_n 2, 1) := by decide +kernel
theorem dX7_adds_65 : decode cX7_adds 65 = .ok (.iinc 3 1, 3) := by decide +kernel
theorem dX7_adds_68 : decode cX7_adds 68 = .ok (.goto (-61), 3) := by decide +kernel
theorem dX7_adds_71 : decode cX7_adds 71 = .ok (.iload_n 2, 1) := by decide +kernel
theorem dX7_adds_72 : decode cX7_adds 72 = .ok (.ireturn, 1) := by decide +kernel
theorem dX7_saysOf_0 : decode cX7_saysOf 0 = .ok (.aload_n 0, 1) := by decide +kernel
theorem dX7_saysOf_1 : decode cX7_saysOf 1 = .ok (.getfield 84, 3) := by decide +kernel
theorem dX7_saysOf_4 : decode cX7_saysOf 4 = .ok (.ifCond .lt 22, 3) := by decide +kernel
theorem dX7_saysOf_7 : decode cX7_saysOf 7 = .ok (.iload_n 1, 1) := by decide +kernel
theorem dX7_saysOf_8 : decode cX7_saysOf 8 = .ok (.aload_n 0, 1) := by decide +kernel
theorem dX7_saysOf_9 : decode cX7_saysOf 9 = .ok (.getfield 84, 3) := by decide +kernel
theorem dX7_saysOf_12 : decode cX7_saysOf 12 = .ok (.if_icmp .ne 7, 3) := by decide +kernel
theorem dX7_saysOf_15 : decode cX7_saysOf 15 = .ok (.iconst 0, 1) := by decide +kernel
theorem dX7_saysOf_16 : decode cX7_saysOf 16 = .ok (.goto 9, 3) := by decide +kernel
theorem dX7_saysOf_19 : decode cX7_saysOf 19 = .ok (.aload_n 0, 1) := by decide +kernel
theorem dX7_saysOf_20 : decode cX7_saysOf 20 = .ok (.getfield 23, 3) := by decide +kernel
theorem dX7_saysOf_23 : decode cX7_saysOf 23 = .ok (.iload_n 1, 1) := by decide +kernel
theorem dX7_saysOf_24 : decode cX7_saysOf 24 = .ok (.iaload, 1) := by decide +kernel
theorem dX7_saysOf_25 : decode cX7_saysOf 25 = .ok (.ireturn, 1) := by decide +kernel
theorem dX7_saysOf_26 : decode cX7_saysOf 26 = .ok (.aload_n 0, 1) := by decide +kernel
theorem dX7_saysOf_27 : decode cX7_saysOf 27 = .ok (.getfield 16, 3) := by decide +kernel
theorem dX7_saysOf_30 : decode cX7_saysOf 30 = .ok (.iload_n 1, 1) := by decide +kernel
theorem dX7_saysOf_31 : decode cX7_saysOf 31 = .ok (.iaload, 1) := by decide +kernel
theorem dX7_saysOf_32 : decode cX7_saysOf 32 = .ok (.iconst 5, 1) := by decide +kernel
theorem dX7_saysOf_33 : decode cX7_saysOf 33 = .ok (.if_icmp .ne 23, 3) := by decide +kernel
theorem dX7_saysOf_36 : decode cX7_saysOf 36 = .ok (.aload_n 0, 1) := by decide +kernel
theorem dX7_saysOf_37 : decode cX7_saysOf 37 = .ok (.getfield 13, 3) := by decide +kernel
theorem dX7_saysOf_40 : decode cX7_saysOf 40 = .ok (.bipush 9, 2) := by decide +kernel
theorem dX7_saysOf_42 : decode cX7_saysOf 42 = .ok (.irem, 1) := by decide +kernel
theorem dX7_saysOf_43 : decode cX7_saysOf 43 = .ok (.aload_n 0, 1) := by decide +kernel
theorem dX7_saysOf_44 : decode cX7_saysOf 44 = .ok (.getfield 20, 3) := by decide +kernel
theorem dX7_saysOf_47 : decode cX7_saysOf 47 = .ok (.iload_n 1, 1) := by decide +kernel
theorem dX7_saysOf_48 : decode cX7_saysOf 48 = .ok (.iaload, 1) := by decide +kernel
theorem dX7_saysOf_49 : decode cX7_saysOf 49 = .ok (.if_icmp .ne 7, 3) := by decide +kernel
theorem dX7_saysOf_52 : decode cX7_saysOf 52 = .ok (.iconst 0, 1) := by decide +kernel
theorem dX7_saysOf_53 : decode cX7_saysOf 53 = .ok (.goto 9, 3) := by decide +kernel
theorem dX7_saysOf_56 : decode cX7_saysOf 56 = .ok (.aload_n 0, 1) := by decide +kernel
theorem dX7_saysOf_57 : decode cX7_saysOf 57 = .ok (.getfield 23, 3) := by decide +kernel
theorem dX7_saysOf_60 : decode cX7_saysOf 60 = .ok (.iload_n 1, 1) := by decide +kernel
theorem dX7_saysOf_61 : decode cX7_saysOf 61 = .ok (.iaload, 1) := by decide +kernel
theorem dX7_saysOf_62 : decode cX7_saysOf 62 = .ok (.ireturn, 1) := by decide +kernel
theorem dX7_sortIn_0 : decode cX7_sortIn 0 = .ok (.aload_n 0, 1) := by decide +kernel
theorem dX7_sortIn_1 : decode cX7_sortIn 1 = .ok (.getfield 90, 3) := by decide +kernel
theorem dX7_sortIn_4 : decode cX7_sortIn 4 = .ok (.istore_n 2, 1) := by decide +kernel
theorem dX7_sortIn_5 : decode cX7_sortIn 5 = .ok (.iload_n 2, 1) := by decide +kernel
theorem dX7_sortIn_6 : decode cX7_sortIn 6 = .ok (.ifCond .le 35, 3) := by decide +kernel
theorem dX7_sortIn_9 : decode cX7_sortIn 9 = .ok (.aload_n 0, 1) := by decide +kernel
theorem dX7_sortIn_10 : decode cX7_sortIn 10 = .ok (.getfield 87, 3) := by decide +kernel
theorem dX7_sortIn_13 : decode cX7_sortIn 13 = .ok (.iload_n 2, 1) := by decide +kernel
theorem dX7_sortIn_14 : decode cX7_sortIn 14 = .ok (.iconst 1, 1) := by decide +kernel
theorem dX7_sortIn_15 : decode cX7_sortIn 15 = .ok (.isub, 1) := by decide +kernel
theorem dX7_sortIn_16 : decode cX7_sortIn 16 = .ok (.iaload, 1) := by decide +kernel
theorem dX7_sortIn_17 : decode cX7_sortIn 17 = .ok (.iload_n 1, 1) := by decide +kernel
theorem dX7_sortIn_18 : decode cX7_sortIn 18 = .ok (.if_icmp .le 23, 3) := by decide +kernel
theorem dX7_sortIn_21 : decode cX7_sortIn 21 = .ok (.aload_n 0, 1) := by decide +kernel
theorem dX7_sortIn_22 : decode cX7_sortIn 22 = .ok (.getfield 87, 3) := by decide +kernel
theorem dX7_sortIn_25 : decode cX7_sortIn 25 = .ok (.iload_n 2, 1) := by decide +kernel
theorem dX7_sortIn_26 : decode cX7_sortIn 26 = .ok (.aload_n 0, 1) := by decide +kernel
theorem dX7_sortIn_27 : decode cX7_sortIn 27 = .ok (.getfield 87, 3) := by decide +kernel
theorem dX7_sortIn_30 : decode cX7_sortIn 30 = .ok (.iload_n 2, 1) := by decide +kernel
theorem dX7_sortIn_31 : decode cX7_sortIn 31 = .ok (.iconst 1, 1) := by decide +kernel
theorem dX7_sortIn_32 : decode cX7_sortIn 32 = .ok (.isub, 1) := by decide +kernel
theorem dX7_sortIn_33 : decode cX7_sortIn 33 = .ok (.iaload, 1) := by decide +kernel
theorem dX7_sortIn_34 : decode cX7_sortIn 34 = .ok (.iastore, 1) := by decide +kernel
theorem dX7_sortIn_35 : decode cX7_sortIn 35 = .ok (.iinc 2 (-1), 3) := by decide +kernel
theorem dX7_sortIn_38 : decode cX7_sortIn 38 = .ok (.goto (-33), 3) := by decide +kernel
theorem dX7_sortIn_41 : decode cX7_sortIn 41 = .ok (.aload_n 0, 1) := by decide +kernel
theorem dX7_sortIn_42 : decode cX7_sortIn 42 = .ok (.getfield 87, 3) := by decide +kernel
theorem dX7_sortIn_45 : decode cX7_sortIn 45 = .ok (.iload_n 2, 1) := by decide +kernel
theorem dX7_sortIn_46 : decode cX7_sortIn 46 = .ok (.iload_n 1, 1) := by decide +kernel
theorem dX7_sortIn_47 : decode cX7_sortIn 47 = .ok (.iastore, 1) := by decide +kernel
theorem dX7_sortIn_48 : decode cX7_sortIn 48 = .ok (.aload_n 0, 1) := by decide +kernel
theorem dX7_sortIn_49 : decode cX7_sortIn 49 = .ok (.dup, 1) := by decide +kernel
theorem dX7_sortIn_50 : decode cX7_sortIn 50 = .ok (.getfield 90, 3) := by decide +kernel
theorem dX7_sortIn_53 : decode cX7_sortIn 53 = .ok (.iconst 1, 1) := by decide +kernel
theorem dX7_sortIn_54 : decode cX7_sortIn 54 = .ok (.iadd, 1) := by decide +kernel
theorem dX7_sortIn_55 : decode cX7_sortIn 55 = .ok (.putfield 90, 3) := by decide +kernel
theorem dX7_sortIn_58 : decode cX7_sortIn 58 = .ok (.return_, 1) := by decide +kernel
theorem dX7_away_0 : decode cX7_away 0 = .ok (.iload_n 1, 1) := by decide +kernel
theorem dX7_away_1 : decode cX7_away 1 = .ok (.iload_n 2, 1) := by decide +kernel
theorem dX7_away_2 : decode cX7_away 2 = .ok (.if_icmp .ge 9, 3) := by decide +kernel
theorem dX7_away_5 : decode cX7_away 5 = .ok (.iload_n 2, 1) := by decide +kernel
theorem dX7_away_6 : decode cX7_away 6 = .ok (.iload_n 1, 1) := by decide +kernel
theorem dX7_away_7 : decode cX7_away 7 = .ok (.isub, 1) := by decide +kernel
theorem dX7_away_8 : decode cX7_away 8 = .ok (.goto 6, 3) := by decide +kernel
theorem dX7_away_11 : decode cX7_away 11 = .ok (.iload_n 1, 1) := by decide +kernel
theorem dX7_away_12 : decode cX7_away 12 = .ok (.iload_n 2, 1) := by decide +kernel
theorem dX7_away_13 : decode cX7_away 13 = .ok (.isub, 1) := by decide +kernel
theorem dX7_away_14 : decode cX7_away 14 = .ok (.istore 4, 2) := by decide +kernel
theorem dX7_away_16 : decode cX7_away 16 = .ok (.iload_n 3, 1) := by decide +kernel
theorem dX7_away_17 : decode cX7_away 17 = .ok (.ifCond .eq 25, 3) := by decide +kernel
theorem dX7_away_20 : decode cX7_away 20 = .ok (.aload_n 0, 1) := by decide +kernel
theorem dX7_away_21 : decode cX7_away 21 = .ok (.getfield 7, 3) := by decide +kernel
theorem dX7_away_24 : decode cX7_away 24 = .ok (.iload 4, 2) := by decide +kernel
theorem dX7_away_26 : decode cX7_away 26 = .ok (.isub, 1) := by decide +kernel
theorem dX7_away_27 : decode cX7_away 27 = .ok (.iload 4, 2) := by decide +kernel
theorem dX7_away_29 : decode cX7_away 29 = .ok (.if_icmp .ge 13, 3) := by decide +kernel
theorem dX7_away_32 : decode cX7_away 32 = .ok (.aload_n 0, 1) := by decide +kernel
theorem dX7_away_33 : decode cX7_away 33 = .ok (.getfield 7, 3) := by decide +kernel
theorem dX7_away_36 : decode cX7_away 36 = .ok (.iload 4, 2) := by decide +kernel
theorem dX7_away_38 : decode cX7_away 38 = .ok (.isub, 1) := by decide +kernel
theorem dX7_away_39 : decode cX7_away 39 = .ok (.goto 5, 3) := by decide +kernel
theorem dX7_away_42 : decode cX7_away 42 = .ok (.iload 4, 2) := by decide +kernel
theorem dX7_away_44 : decode cX7_away 44 = .ok (.ireturn, 1) := by decide +kernel
theorem dX7_laySome_0 : decode cX7_laySome 0 = .ok (.aload_n 0, 1) := by decide +kernel
theorem dX7_laySome_1 : decode cX7_laySome 1 = .ok (.invokevirtual 278, 3) := by decide +kernel
theorem dX7_laySome_4 : decode cX7_laySome 4 = .ok (.istore_n 3, 1) := by decide +kernel
theorem dX7_laySome_5 : decode cX7_laySome 5 = .ok (.aload_n 0, 1) := by decide +kernel
theorem dX7_laySome_6 : decode cX7_laySome 6 = .ok (.iconst 0, 1) := by decide +kernel
theorem dX7_laySome_7 : decode cX7_laySome 7 = .ok (.putfield 90, 3) := by decide +kernel
theorem dX7_laySome_10 : decode cX7_laySome 10 = .ok (.aload_n 0, 1) := by decide +kernel
theorem dX7_laySome_11 : decode cX7_laySome 11 = .ok (.aload_n 0, 1) := by decide +kernel
theorem dX7_laySome_12 : decode cX7_laySome 12 = .ok (.getfield 23, 3) := by decide +kernel
theorem dX7_laySome_15 : decode cX7_laySome 15 = .ok (.iload_n 1, 1) := by decide +kernel
theorem dX7_laySome_16 : decode cX7_laySome 16 = .ok (.iaload, 1) := by decide +kernel
theorem dX7_laySome_17 : decode cX7_laySome 17 = .ok (.invokevirtual 281, 3) := by decide +kernel
theorem dX7_laySome_20 : decode cX7_laySome 20 = .ok (.iconst 0, 1) := by decide +kernel
theorem dX7_laySome_21 : decode cX7_laySome 21 = .ok (.istore 4, 2) := by decide +kernel
theorem dX7_laySome_23 : decode cX7_laySome 23 = .ok (.iload 4, 2) := by decide +kernel
theorem dX7_laySome_25 : decode cX7_laySome 25 = .ok (.aload_n 0, 1) := by decide +kernel
theorem dX7_laySome_26 : decode cX7_laySome 26 = .ok (.getfield 7, 3) := by decide +kernel
theorem dX7_laySome_29 : decode cX7_laySome 29 = .ok (.if_icmp .ge 37, 3) := by decide +kernel
theorem dX7_laySome_32 : decode cX7_laySome 32 = .ok (.iload 4, 2) := by decide +kernel
theorem dX7_laySome_34 : decode cX7_laySome 34 = .ok (.iload_n 1, 1) := by decide +kernel
theorem dX7_laySome_35 : decode cX7_laySome 35 = .ok (.if_icmp .eq 25, 3) := by decide +kernel
theorem dX7_laySome_38 : decode cX7_laySome 38 = .ok (.aload_n 0, 1) := by decide +kernel
theorem dX7_laySome_39 : decode cX7_laySome 39 = .ok (.iload_n 1, 1) := by decide +kernel
theorem dX7_laySome_40 : decode cX7_laySome 40 = .ok (.iload 4, 2) := by decide +kernel
theorem dX7_laySome_42 : decode cX7_laySome 42 = .ok (.iload_n 3, 1) := by decide +kernel
theorem dX7_laySome_43 : decode cX7_laySome 43 = .ok (.invokevirtual 284, 3) := by decide +kernel
theorem dX7_laySome_46 : decode cX7_laySome 46 = .ok (.iload_n 2, 1) := by decide +kernel
theorem dX7_laySome_47 : decode cX7_laySome 47 = .ok (.if_icmp .gt 13, 3) := by decide +kernel
theorem dX7_laySome_50 : decode cX7_laySome 50 = .ok (.aload_n 0, 1) := by decide +kernel
theorem dX7_laySome_51 : decode cX7_laySome 51 = .ok (.aload_n 0, 1) := by decide +kernel
theorem dX7_laySome_52 : decode cX7_laySome 52 = .ok (.iload 4, 2) := by decide +kernel
theorem dX7_laySome_54 : decode cX7_laySome 54 = .ok (.invokevirtual 288, 3) := by decide +kernel
theorem dX7_laySome_57 : decode cX7_laySome 57 = .ok (.invokevirtual 281, 3) := by decide +kernel
theorem dX7_laySome_60 : decode cX7_laySome 60 = .ok (.iinc 4 1, 3) := by decide +kernel
theorem dX7_laySome_63 : decode cX7_laySome 63 = .ok (.goto (-40), 3) := by decide +kernel
theorem dX7_laySome_66 : decode cX7_laySome 66 = .ok (.return_, 1) := by decide +kernel
theorem dX7_middle_0 : decode cX7_middle 0 = .ok (.aload_n 0, 1) := by decide +kernel
theorem dX7_middle_1 : decode cX7_middle 1 = .ok (.iload_n 1, 1) := by decide +kernel
theorem dX7_middle_2 : decode cX7_middle 2 = .ok (.iconst 1, 1) := by decide +kernel
theorem dX7_middle_3 : decode cX7_middle 3 = .ok (.invokevirtual 291, 3) := by decide +kernel
theorem dX7_middle_6 : decode cX7_middle 6 = .ok (.aload_n 0, 1) := by decide +kernel
theorem dX7_middle_7 : decode cX7_middle 7 = .ok (.getfield 90, 3) := by decide +kernel
theorem dX7_middle_10 : decode cX7_middle 10 = .ok (.iconst 3, 1) := by decide +kernel
theorem dX7_middle_11 : decode cX7_middle 11 = .ok (.if_icmp .ge 12, 3) := by decide +kernel
theorem dX7_middle_14 : decode cX7_middle 14 = .ok (.aload_n 0, 1) := by decide +kernel
theorem dX7_middle_15 : decode cX7_middle 15 = .ok (.getfield 23, 3) := by decide +kernel
theorem dX7_middle_18 : decode cX7_middle 18 = .ok (.iload_n 1, 1) := by decide +kernel
theorem dX7_middle_19 : decode cX7_middle 19 = .ok (.iaload, 1) := by decide +kernel
theorem dX7_middle_20 : decode cX7_middle 20 = .ok (.goto 9, 3) := by decide +kernel
theorem dX7_middle_23 : decode cX7_middle 23 = .ok (.aload_n 0, 1) := by decide +kernel
theorem dX7_middle_24 : decode cX7_middle 24 = .ok (.getfield 87, 3) := by decide +kernel
theorem dX7_middle_27 : decode cX7_middle 27 = .ok (.iconst 1, 1) := by decide +kernel
theorem dX7_middle_28 : decode cX7_middle 28 = .ok (.iaload, 1) := by decide +kernel
theorem dX7_middle_29 : decode cX7_middle 29 = .ok (.ireturn, 1) := by decide +kernel
theorem dX7_least_0 : decode cX7_least 0 = .ok (.iload_n 1, 1) := by decide +kernel
theorem dX7_least_1 : decode cX7_least 1 = .ok (.iload_n 2, 1) := by decide +kernel
theorem dX7_least_2 : decode cX7_least 2 = .ok (.if_icmp .ge 7, 3) := by decide +kernel
theorem dX7_least_5 : decode cX7_least 5 = .ok (.iload_n 1, 1) := by decide +kernel
theorem dX7_least_6 : decode cX7_least 6 = .ok (.goto 4, 3) := by decide +kernel
theorem dX7_least_9 : decode cX7_least 9 = .ok (.iload_n 2, 1) := by decide +kernel
theorem dX7_least_10 : decode cX7_least 10 = .ok (.ireturn, 1) := by decide +kernel
theorem dX7_most_0 : decode cX7_most 0 = .ok (.iload_n 1, 1) := by decide +kernel
theorem dX7_most_1 : decode cX7_most 1 = .ok (.iload_n 2, 1) := by decide +kernel
theorem dX7_most_2 : decode cX7_most 2 = .ok (.if_icmp .le 7, 3) := by decide +kernel
theorem dX7_most_5 : decode cX7_most 5 = .ok (.iload_n 1, 1) := by decide +kernel
theorem dX7_most_6 : decode cX7_most 6 = .ok (.goto 4, 3) := by decide +kernel
theorem dX7_most_9 : decode cX7_most 9 = .ok (.iload_n 2, 1) := by decide +kernel
theorem dX7_most_10 : decode cX7_most 10 = .ok (.ireturn, 1) := by decide +kernel
theorem dX7_plainNext_0 : decode cX7_plainNext 0 = .ok (.aload_n 0, 1) := by decide +kernel
theorem dX7_plainNext_1 : decode cX7_plainNext 1 = .ok (.getfield 16, 3) := by decide +kernel
theorem dX7_plainNext_4 : decode cX7_plainNext 4 = .ok (.iload_n 1, 1) := by decide +kernel
theorem dX7_plainNext_5 : decode cX7_plainNext 5 = .ok (.iaload, 1) := by decide +kernel
theorem dX7_plainNext_6 : decode cX7_plainNext 6 = .ok (.tableswitch 185 1 6 #[38, 56, 72, 92, 56, 148], 38) := by decide +kernel
theorem dX7_plainNext_44 : decode cX7_plainNext 44 = .ok (.aload_n 0, 1) := by decide +kernel
theorem dX7_plainNext_45 : decode cX7_plainNext 45 = .ok (.aload_n 0, 1) := by decide +kernel
theorem dX7_plainNext_46 : decode cX7_plainNext 46 = .ok (.iload_n 1, 1) := by decide +kernel
theorem dX7_plainNext_47 : decode cX7_plainNext 47 = .ok (.invokevirtual 295, 3) := by decide +kernel
theorem dX7_plainNext_50 : decode cX7_plainNext 50 = .ok (.iconst 5, 1) := by decide +kernel
theorem dX7_plainNext_51 : decode cX7_plainNext 51 = .ok (.aload_n 0, 1) := by decide +kernel
theorem dX7_plainNext_52 : decode cX7_plainNext 52 = .ok (.getfield 20, 3) := by decide +kernel
theorem dX7_plainNext_55 : decode cX7_plainNext 55 = .ok (.iload_n 1, 1) := by decide +kernel
theorem dX7_plainNext_56 : decode cX7_plainNext 56 = .ok (.iaload, 1) := by decide +kernel
theorem dX7_plainNext_57 : decode cX7_plainNext 57 = .ok (.imul, 1) := by decide +kernel
theorem dX7_plainNext_58 : decode cX7_plainNext 58 = .ok (.invokevirtual 298, 3) := by decide +kernel
theorem dX7_plainNext_61 : decode cX7_plainNext 61 = .ok (.ireturn, 1) := by decide +kernel
theorem dX7_plainNext_62 : decode cX7_plainNext 62 = .ok (.aload_n 0, 1) := by decide +kernel
theorem dX7_plainNext_63 : decode cX7_plainNext 63 = .ok (.aload_n 0, 1) := by decide +kernel
theorem dX7_plainNext_64 : decode cX7_plainNext 64 = .ok (.iload_n 1, 1) := by decide +kernel
theorem dX7_plainNext_65 : decode cX7_plainNext 65 = .ok (.invokevirtual 295, 3) := by decide +kernel
theorem dX7_plainNext_68 : decode cX7_plainNext 68 = .ok (.aload_n 0, 1) := by decide +kernel
theorem dX7_plainNext_69 : decode cX7_plainNext 69 = .ok (.getfield 23, 3) := by decide +kernel
theorem dX7_plainNext_72 : decode cX7_plainNext 72 = .ok (.iload_n 1, 1) := by decide +kernel
theorem dX7_plainNext_73 : decode cX7_plainNext 73 = .ok (.iaload, 1) := by decide +kernel
theorem dX7_plainNext_74 : decode cX7_plainNext 74 = .ok (.invokevirtual 301, 3) := by decide +kernel
theorem dX7_plainNext_77 : decode cX7_plainNext 77 = .ok (.ireturn, 1) := by decide +kernel
theorem dX7_plainNext_78 : decode cX7_plainNext 78 = .ok (.aload_n 0, 1) := by decide +kernel
theorem dX7_plainNext_79 : decode cX7_plainNext 79 = .ok (.iload_n 1, 1) := by decide +kernel
theorem dX7_plainNext_80 : decode cX7_plainNext 80 = .ok (.iconst 2, 1) := by decide +kernel
theorem dX7_plainNext_81 : decode cX7_plainNext 81 = .ok (.invokevirtual 291, 3) := by decide +kernel
theorem dX7_plainNext_84 : decode cX7_plainNext 84 = .ok (.aload_n 0, 1) := by decide +kernel
theorem dX7_plainNext_85 : decode cX7_plainNext 85 = .ok (.getfield 87, 3) := by decide +kernel
theorem dX7_plainNext_88 : decode cX7_plainNext 88 = .ok (.aload_n 0, 1) := by decide +kernel
theorem dX7_plainNext_89 : decode cX7_plainNext 89 = .ok (.getfield 90, 3) := by decide +kernel
theorem dX7_plainNext_92 : decode cX7_plainNext 92 = .ok (.iconst 1, 1) := by decide +kernel
theorem dX7_plainNext_93 : decode cX7_plainNext 93 = .ok (.isub, 1) := by decide +kernel
theorem dX7_plainNext_94 : decode cX7_plainNext 94 = .ok (.iconst 2, 1) := by decide +kernel
theorem dX7_plainNext_95 : decode cX7_plainNext 95 = .ok (.idiv, 1) := by decide +kernel
theorem dX7_plainNext_96 : decode cX7_plainNext 96 = .ok (.iaload, 1) := by decide +kernel
theorem dX7_plainNext_97 : decode cX7_plainNext 97 = .ok (.ireturn, 1) := by decide +kernel
theorem dX7_plainNext_98 : decode cX7_plainNext 98 = .ok (.aload_n 0, 1) := by decide +kernel
theorem dX7_plainNext_99 : decode cX7_plainNext 99 = .ok (.getfield 13, 3) := by decide +kernel
theorem dX7_plainNext_102 : decode cX7_plainNext 102 = .ok (.aload_n 0, 1) := by decide +kernel
theorem dX7_plainNext_103 : decode cX7_plainNext 103 = .ok (.getfield 20, 3) := by decide +kernel
theorem dX7_plainNext_106 : decode cX7_plainNext 106 = .ok (.iload_n 1, 1) := by decide +kernel
theorem dX7_plainNext_107 : decode cX7_plainNext 107 = .ok (.iaload, 1) := by decide +kernel
theorem dX7_plainNext_108 : decode cX7_plainNext 108 = .ok (.iconst 2, 1) := by decide +kernel
theorem dX7_plainNext_109 : decode cX7_plainNext 109 = .ok (.iadd, 1) := by decide +kernel
theorem dX7_plainNext_110 : decode cX7_plainNext 110 = .ok (.irem, 1) := by decide +kernel
theorem dX7_plainNext_111 : decode cX7_plainNext 111 = .ok (.ifCond .ne 25, 3) := by decide +kernel
theorem dX7_plainNext_114 : decode cX7_plainNext 114 = .ok (.aload_n 0, 1) := by decide +kernel
theorem dX7_plainNext_115 : decode cX7_plainNext 115 = .ok (.aload_n 0, 1) := by decide +kernel
theorem dX7_plainNext_116 : decode cX7_plainNext 116 = .ok (.iload_n 1, 1) := by decide +kernel
theorem dX7_plainNext_117 : decode cX7_plainNext 117 = .ok (.invokevirtual 295, 3) := by decide +kernel
theorem dX7_plainNext_120 : decode cX7_plainNext 120 = .ok (.iconst 5, 1) := by decide +kernel
theorem dX7_plainNext_121 : decode cX7_plainNext 121 = .ok (.aload_n 0, 1) := by decide +kernel
theorem dX7_plainNext_122 : decode cX7_plainNext 122 = .ok (.getfield 20, 3) := by decide +kernel
theorem dX7_plainNext_125 : decode cX7_plainNext 125 = .ok (.iload_n 1, 1) := by decide +kernel
theorem dX7_plainNext_126 : decode cX7_plainNext 126 = .ok (.iaload, 1) := by decide +kernel
theorem dX7_plainNext_127 : decode cX7_plainNext 127 = .ok (.imul, 1) := by decide +kernel
theorem dX7_plainNext_128 : decode cX7_plainNext 128 = .ok (.invokevirtual 298, 3) := by decide +kernel
theorem dX7_plainNext_131 : decode cX7_plainNext 131 = .ok (.iconst 2, 1) := by decide +kernel
theorem dX7_plainNext_132 : decode cX7_plainNext 132 = .ok (.idiv, 1) := by decide +kernel
theorem dX7_plainNext_133 : decode cX7_plainNext 133 = .ok (.goto 20, 3) := by decide +kernel
theorem dX7_plainNext_136 : decode cX7_plainNext 136 = .ok (.aload_n 0, 1) := by decide +kernel
theorem dX7_plainNext_137 : decode cX7_plainNext 137 = .ok (.aload_n 0, 1) := by decide +kernel
theorem dX7_plainNext_138 : decode cX7_plainNext 138 = .ok (.iload_n 1, 1) := by decide +kernel
theorem dX7_plainNext_139 : decode cX7_plainNext 139 = .ok (.invokevirtual 295, 3) := by decide +kernel
theorem dX7_plainNext_142 : decode cX7_plainNext 142 = .ok (.iconst 5, 1) := by decide +kernel
theorem dX7_plainNext_143 : decode cX7_plainNext 143 = .ok (.aload_n 0, 1) := by decide +kernel
theorem dX7_plainNext_144 : decode cX7_plainNext 144 = .ok (.getfield 20, 3) := by decide +kernel
theorem dX7_plainNext_147 : decode cX7_plainNext 147 = .ok (.iload_n 1, 1) := by decide +kernel
theorem dX7_plainNext_148 : decode cX7_plainNext 148 = .ok (.iaload, 1) := by decide +kernel
theorem dX7_plainNext_149 : decode cX7_plainNext 149 = .ok (.imul, 1) := by decide +kernel
theorem dX7_plainNext_150 : decode cX7_plainNext 150 = .ok (.invokevirtual 298, 3) := by decide +kernel
theorem dX7_plainNext_153 : decode cX7_plainNext 153 = .ok (.ireturn, 1) := by decide +kernel
theorem dX7_plainNext_154 : decode cX7_plainNext 154 = .ok (.aload_n 0, 1) := by decide +kernel
theorem dX7_plainNext_155 : decode cX7_plainNext 155 = .ok (.iload_n 1, 1) := by decide +kernel
theorem dX7_plainNext_156 : decode cX7_plainNext 156 = .ok (.iconst 2, 1) := by decide +kernel
theorem dX7_plainNext_157 : decode cX7_plainNext 157 = .ok (.invokevirtual 291, 3) := by decide +kernel
theorem dX7_plainNext_160 : decode cX7_plainNext 160 = .ok (.aload_n 0, 1) := by decide +kernel
theorem dX7_plainNext_161 : decode cX7_plainNext 161 = .ok (.getfield 87, 3) := by decide +kernel
theorem dX7_plainNext_164 : decode cX7_plainNext 164 = .ok (.aload_n 0, 1) := by decide +kernel
theorem dX7_plainNext_165 : decode cX7_plainNext 165 = .ok (.aload_n 0, 1) := by decide +kernel
theorem dX7_plainNext_166 : decode cX7_plainNext 166 = .ok (.getfield 26, 3) := by decide +kernel
theorem dX7_plainNext_169 : decode cX7_plainNext 169 = .ok (.iconst 4, 1) := by decide +kernel
theorem dX7_plainNext_170 : decode cX7_plainNext 170 = .ok (.iload_n 1, 1) := by decide +kernel
theorem dX7_plainNext_171 : decode cX7_plainNext 171 = .ok (.imul, 1) := by decide +kernel
theorem dX7_plainNext_172 : decode cX7_plainNext 172 = .ok (.aload_n 0, 1) := by decide +kernel
theorem dX7_plainNext_173 : decode cX7_plainNext 173 = .ok (.getfield 13, 3) := by decide +kernel
theorem dX7_plainNext_176 : decode cX7_plainNext 176 = .ok (.iconst 4, 1) := by decide +kernel
theorem dX7_plainNext_177 : decode cX7_plainNext 177 = .ok (.irem, 1) := by decide +kernel
theorem dX7_plainNext_178 : decode cX7_plainNext 178 = .ok (.iadd, 1) := by decide +kernel
theorem dX7_plainNext_179 : decode cX7_plainNext 179 = .ok (.iaload, 1) := by decide +kernel
theorem dX7_plainNext_180 : decode cX7_plainNext 180 = .ok (.aload_n 0, 1) := by decide +kernel
theorem dX7_plainNext_181 : decode cX7_plainNext 181 = .ok (.getfield 90, 3) := by decide +kernel
theorem dX7_plainNext_184 : decode cX7_plainNext 184 = .ok (.iconst 1, 1) := by decide +kernel
theorem dX7_plainNext_185 : decode cX7_plainNext 185 = .ok (.isub, 1) := by decide +kernel
theorem dX7_plainNext_186 : decode cX7_plainNext 186 = .ok (.invokevirtual 301, 3) := by decide +kernel
theorem dX7_plainNext_189 : decode cX7_plainNext 189 = .ok (.iaload, 1) := by decide +kernel
theorem dX7_plainNext_190 : decode cX7_plainNext 190 = .ok (.ireturn, 1) := by decide +kernel
theorem dX7_plainNext_191 : decode cX7_plainNext 191 = .ok (.aload_n 0, 1) := by decide +kernel
theorem dX7_plainNext_192 : decode cX7_plainNext 192 = .ok (.iload_n 1, 1) := by decide +kernel
theorem dX7_plainNext_193 : decode cX7_plainNext 193 = .ok (.invokevirtual 295, 3) := by decide +kernel
theorem dX7_plainNext_196 : decode cX7_plainNext 196 = .ok (.ireturn, 1) := by decide +kernel
theorem dX7_nextOf_0 : decode cX7_nextOf 0 = .ok (.aload_n 0, 1) := by decide +kernel
theorem dX7_nextOf_1 : decode cX7_nextOf 1 = .ok (.iconst 0, 1) := by decide +kernel
theorem dX7_nextOf_2 : decode cX7_nextOf 2 = .ok (.aload_n 0, 1) := by decide +kernel
theorem dX7_nextOf_3 : decode cX7_nextOf 3 = .ok (.bipush 99, 2) := by decide +kernel
theorem dX7_nextOf_5 : decode cX7_nextOf 5 = .ok (.aload_n 0, 1) := by decide +kernel
theorem dX7_nextOf_6 : decode cX7_nextOf 6 = .ok (.iload_n 1, 1) := by decide +kernel
theorem dX7_nextOf_7 : decode cX7_nextOf 7 = .ok (.invokevirtual 304, 3) := by decide +kernel
theorem dX7_nextOf_10 : decode cX7_nextOf 10 = .ok (.aload_n 0, 1) := by decide +kernel
theorem dX7_nextOf_11 : decode cX7_nextOf 11 = .ok (.iload_n 1, 1) := by decide +kernel
theorem dX7_nextOf_12 : decode cX7_nextOf 12 = .ok (.invokevirtual 307, 3) := by decide +kernel
theorem dX7_nextOf_15 : decode cX7_nextOf 15 = .ok (.iadd, 1) := by decide +kernel
theorem dX7_nextOf_16 : decode cX7_nextOf 16 = .ok (.invokevirtual 301, 3) := by decide +kernel
theorem dX7_nextOf_19 : decode cX7_nextOf 19 = .ok (.invokevirtual 298, 3) := by decide +kernel
theorem dX7_nextOf_22 : decode cX7_nextOf 22 = .ok (.ireturn, 1) := by decide +kernel
theorem dX7_layNext_0 : decode cX7_layNext 0 = .ok (.iconst 0, 1) := by decide +kernel
theorem dX7_layNext_1 : decode cX7_layNext 1 = .ok (.istore_n 1, 1) := by decide +kernel
theorem dX7_layNext_2 : decode cX7_layNext 2 = .ok (.iload_n 1, 1) := by decide +kernel
theorem dX7_layNext_3 : decode cX7_layNext 3 = .ok (.aload_n 0, 1) := by decide +kernel
theorem dX7_layNext_4 : decode cX7_layNext 4 = .ok (.getfield 7, 3) := by decide +kernel
theorem dX7_layNext_7 : decode cX7_layNext 7 = .ok (.if_icmp .ge 20, 3) := by decide +kernel
theorem dX7_layNext_10 : decode cX7_layNext 10 = .ok (.aload_n 0, 1) := by decide +kernel
theorem dX7_layNext_11 : decode cX7_layNext 11 = .ok (.getfield 93, 3) := by decide +kernel
theorem dX7_layNext_14 : decode cX7_layNext 14 = .ok (.iload_n 1, 1) := by decide +kernel
theorem dX7_layNext_15 : decode cX7_layNext 15 = .ok (.aload_n 0, 1) := by decide +kernel
theorem dX7_layNext_16 : decode cX7_layNext 16 = .ok (.iload_n 1, 1) := by decide +kernel
theorem dX7_layNext_17 : decode cX7_layNext 17 = .ok (.invokevirtual 310, 3) := by decide +kernel
theorem dX7_layNext_20 : decode cX7_layNext 20 = .ok (.iastore, 1) := by decide +kernel
theorem dX7_layNext_21 : decode cX7_layNext 21 = .ok (.iinc 1 1, 3) := by decide +kernel
theorem dX7_layNext_24 : decode cX7_layNext 24 = .ok (.goto (-22), 3) := by decide +kernel
theorem dX7_layNext_27 : decode cX7_layNext 27 = .ok (.return_, 1) := by decide +kernel
theorem dX7_goYear_0 : decode cX7_goYear 0 = .ok (.aload_n 0, 1) := by decide +kernel
theorem dX7_goYear_1 : decode cX7_goYear 1 = .ok (.invokevirtual 313, 3) := by decide +kernel
theorem dX7_goYear_4 : decode cX7_goYear 4 = .ok (.iconst 0, 1) := by decide +kernel
theorem dX7_goYear_5 : decode cX7_goYear 5 = .ok (.istore_n 1, 1) := by decide +kernel
theorem dX7_goYear_6 : decode cX7_goYear 6 = .ok (.iload_n 1, 1) := by decide +kernel
theorem dX7_goYear_7 : decode cX7_goYear 7 = .ok (.aload_n 0, 1) := by decide +kernel
theorem dX7_goYear_8 : decode cX7_goYear 8 = .ok (.getfield 7, 3) := by decide +kernel
theorem dX7_goYear_11 : decode cX7_goYear 11 = .ok (.if_icmp .ge 21, 3) := by decide +kernel
theorem dX7_goYear_14 : decode cX7_goYear 14 = .ok (.aload_n 0, 1) := by decide +kernel
theorem dX7_goYear_15 : decode cX7_goYear 15 = .ok (.getfield 23, 3) := by decide +kernel
theorem dX7_goYear_18 : decode cX7_goYear 18 = .ok (.iload_n 1, 1) := by decide +kernel
theorem dX7_goYear_19 : decode cX7_goYear 19 = .ok (.aload_n 0, 1) := by decide +kernel
theorem dX7_goYear_20 : decode cX7_goYear 20 = .ok (.getfield 93, 3) := by decide +kernel
theorem dX7_goYear_23 : decode cX7_goYear 23 = .ok (.iload_n 1, 1) := by decide +kernel
theorem dX7_goYear_24 : decode cX7_goYear 24 = .ok (.iaload, 1) := by decide +kernel
theorem dX7_goYear_25 : decode cX7_goYear 25 = .ok (.iastore, 1) := by decide +kernel
theorem dX7_goYear_26 : decode cX7_goYear 26 = .ok (.iinc 1 1, 3) := by decide +kernel
theorem dX7_goYear_29 : decode cX7_goYear 29 = .ok (.goto (-23), 3) := by decide +kernel
theorem dX7_goYear_32 : decode cX7_goYear 32 = .ok (.aload_n 0, 1) := by decide +kernel
theorem dX7_goYear_33 : decode cX7_goYear 33 = .ok (.dup, 1) := by decide +kernel
theorem dX7_goYear_34 : decode cX7_goYear 34 = .ok (.getfield 13, 3) := by decide +kernel
theorem dX7_goYear_37 : decode cX7_goYear 37 = .ok (.iconst 1, 1) := by decide +kernel
theorem dX7_goYear_38 : decode cX7_goYear 38 = .ok (.iadd, 1) := by decide +kernel
theorem dX7_goYear_39 : decode cX7_goYear 39 = .ok (.putfield 13, 3) := by decide +kernel
theorem dX7_goYear_42 : decode cX7_goYear 42 = .ok (.return_, 1) := by decide +kernel
theorem dX7_goYears_0 : decode cX7_goYears 0 = .ok (.iconst 0, 1) := by decide +kernel
theorem dX7_goYears_1 : decode cX7_goYears 1 = .ok (.istore_n 2, 1) := by decide +kernel
theorem dX7_goYears_2 : decode cX7_goYears 2 = .ok (.iload_n 2, 1) := by decide +kernel
theorem dX7_goYears_3 : decode cX7_goYears 3 = .ok (.iload_n 1, 1) := by decide +kernel
theorem dX7_goYears_4 : decode cX7_goYears 4 = .ok (.if_icmp .ge 13, 3) := by decide +kernel
theorem dX7_goYears_7 : decode cX7_goYears 7 = .ok (.aload_n 0, 1) := by decide +kernel
theorem dX7_goYears_8 : decode cX7_goYears 8 = .ok (.invokevirtual 316, 3) := by decide +kernel
theorem dX7_goYears_11 : decode cX7_goYears 11 = .ok (.iinc 2 1, 3) := by decide +kernel
theorem dX7_goYears_14 : decode cX7_goYears 14 = .ok (.goto (-12), 3) := by decide +kernel
theorem dX7_goYears_17 : decode cX7_goYears 17 = .ok (.return_, 1) := by decide +kernel
theorem dX7_allEarn_0 : decode cX7_allEarn 0 = .ok (.iconst 0, 1) := by decide +kernel
theorem dX7_allEarn_1 : decode cX7_allEarn 1 = .ok (.istore_n 1, 1) := by decide +kernel
theorem dX7_allEarn_2 : decode cX7_allEarn 2 = .ok (.iconst 0, 1) := by decide +kernel
theorem dX7_allEarn_3 : decode cX7_allEarn 3 = .ok (.istore_n 2, 1) := by decide +kernel
theorem dX7_allEarn_4 : decode cX7_allEarn 4 = .ok (.iload_n 2, 1) := by decide +kernel
theorem dX7_allEarn_5 : decode cX7_allEarn 5 = .ok (.aload_n 0, 1) := by decide +kernel
theorem dX7_allEarn_6 : decode cX7_allEarn 6 = .ok (.getfield 7, 3) := by decide +kernel
theorem dX7_allEarn_9 : decode cX7_allEarn 9 = .ok (.if_icmp .ge 18, 3) := by decide +kernel
theorem dX7_allEarn_12 : decode cX7_allEarn 12 = .ok (.iload_n 1, 1) := by decide +kernel
theorem dX7_allEarn_13 : decode cX7_allEarn 13 = .ok (.aload_n 0, 1) := by decide +kernel
theorem dX7_allEarn_14 : decode cX7_allEarn 14 = .ok (.getfield 23, 3) := by decide +kernel
theorem dX7_allEarn_17 : decode cX7_allEarn 17 = .ok (.iload_n 2, 1) := by decide +kernel
theorem dX7_allEarn_18 : decode cX7_allEarn 18 = .ok (.iaload, 1) := by decide +kernel
theorem dX7_allEarn_19 : decode cX7_allEarn 19 = .ok (.iadd, 1) := by decide +kernel
theorem dX7_allEarn_20 : decode cX7_allEarn 20 = .ok (.istore_n 1, 1) := by decide +kernel
theorem dX7_allEarn_21 : decode cX7_allEarn 21 = .ok (.iinc 2 1, 3) := by decide +kernel
theorem dX7_allEarn_24 : decode cX7_allEarn 24 = .ok (.goto (-20), 3) := by decide +kernel
theorem dX7_allEarn_27 : decode cX7_allEarn 27 = .ok (.iload_n 1, 1) := by decide +kernel
theorem dX7_allEarn_28 : decode cX7_allEarn 28 = .ok (.ireturn, 1) := by decide +kernel
theorem dX7_of_0 : decode cX7_of 0 = .ok (.aload_n 0, 1) := by decide +kernel
theorem dX7_of_1 : decode cX7_of 1 = .ok (.iload_n 1, 1) := by decide +kernel
theorem dX7_of_2 : decode cX7_of 2 = .ok (.invokevirtual 205, 3) := by decide +kernel
theorem dX7_of_5 : decode cX7_of 5 = .ok (.ifCond .ne 5, 3) := by decide +kernel
theorem dX7_of_8 : decode cX7_of 8 = .ok (.iconst (-1), 1) := by decide +kernel
theorem dX7_of_9 : decode cX7_of 9 = .ok (.ireturn, 1) := by decide +kernel
theorem dX7_of_10 : decode cX7_of 10 = .ok (.iload_n 2, 1) := by decide +kernel
theorem dX7_of_11 : decode cX7_of 11 = .ok (.tableswitch 66 0 4 #[33, 40, 47, 54, 60], 33) := by decide +kernel
theorem dX7_of_44 : decode cX7_of 44 = .ok (.aload_n 0, 1) := by decide +kernel
theorem dX7_of_45 : decode cX7_of 45 = .ok (.getfield 16, 3) := by decide +kernel
theorem dX7_of_48 : decode cX7_of 48 = .ok (.iload_n 1, 1) := by decide +kernel
theorem dX7_of_49 : decode cX7_of 49 = .ok (.iaload, 1) := by decide +kernel
theorem dX7_of_50 : decode cX7_of 50 = .ok (.ireturn, 1) := by decide +kernel
theorem dX7_of_51 : decode cX7_of 51 = .ok (.aload_n 0, 1) := by decide +kernel
theorem dX7_of_52 : decode cX7_of 52 = .ok (.getfield 20, 3) := by decide +kernel
theorem dX7_of_55 : decode cX7_of 55 = .ok (.iload_n 1, 1) := by decide +kernel
theorem dX7_of_56 : decode cX7_of 56 = .ok (.iaload, 1) := by decide +kernel
theorem dX7_of_57 : decode cX7_of 57 = .ok (.ireturn, 1) := by decide +kernel
theorem dX7_of_58 : decode cX7_of 58 = .ok (.aload_n 0, 1) := by decide +kernel
theorem dX7_of_59 : decode cX7_of 59 = .ok (.getfield 23, 3) := by decide +kernel
theorem dX7_of_62 : decode cX7_of 62 = .ok (.iload_n 1, 1) := by decide +kernel
theorem dX7_of_63 : decode cX7_of 63 = .ok (.iaload, 1) := by decide +kernel
theorem dX7_of_64 : decode cX7_of 64 = .ok (.ireturn, 1) := by decide +kernel
theorem dX7_of_65 : decode cX7_of 65 = .ok (.aload_n 0, 1) := by decide +kernel
theorem dX7_of_66 : decode cX7_of 66 = .ok (.iload_n 1, 1) := by decide +kernel
theorem dX7_of_67 : decode cX7_of 67 = .ok (.invokevirtual 288, 3) := by decide +kernel
theorem dX7_of_70 : decode cX7_of 70 = .ok (.ireturn, 1) := by decide +kernel
theorem dX7_of_71 : decode cX7_of 71 = .ok (.aload_n 0, 1) := by decide +kernel
theorem dX7_of_72 : decode cX7_of 72 = .ok (.iload_n 1, 1) := by decide +kernel
theorem dX7_of_73 : decode cX7_of 73 = .ok (.invokevirtual 310, 3) := by decide +kernel
theorem dX7_of_76 : decode cX7_of 76 = .ok (.ireturn, 1) := by decide +kernel
theorem dX7_of_77 : decode cX7_of 77 = .ok (.iconst (-1), 1) := by decide +kernel
theorem dX7_of_78 : decode cX7_of 78 = .ok (.ireturn, 1) := by decide +kernel
theorem dX7_told_0 : decode cX7_told 0 = .ok (.iload_n 1, 1) := by decide +kernel
theorem dX7_told_1 : decode cX7_told 1 = .ok (.ifCond .ne 10, 3) := by decide +kernel
theorem dX7_told_4 : decode cX7_told 4 = .ok (.aload_n 0, 1) := by decide +kernel
theorem dX7_told_5 : decode cX7_told 5 = .ok (.getfield 13, 3) := by decide +kernel
theorem dX7_told_8 : decode cX7_told 8 = .ok (.goto 36, 3) := by decide +kernel
theorem dX7_told_11 : decode cX7_told 11 = .ok (.iload_n 1, 1) := by decide +kernel
theorem dX7_told_12 : decode cX7_told 12 = .ok (.iconst 1, 1) := by decide +kernel
theorem dX7_told_13 : decode cX7_told 13 = .ok (.if_icmp .ne 18, 3) := by decide +kernel
theorem dX7_told_16 : decode cX7_told 16 = .ok (.aload_n 0, 1) := by decide +kernel
theorem dX7_told_17 : decode cX7_told 17 = .ok (.invokevirtual 278, 3) := by decide +kernel
theorem dX7_told_20 : decode cX7_told 20 = .ok (.ifCond .eq 7, 3) := by decide +kernel
theorem dX7_told_23 : decode cX7_told 23 = .ok (.iconst 1, 1) := by decide +kernel
theorem dX7_told_24 : decode cX7_told 24 = .ok (.goto 20, 3) := by decide +kernel
theorem dX7_told_27 : decode cX7_told 27 = .ok (.iconst 0, 1) := by decide +kernel
theorem dX7_told_28 : decode cX7_told 28 = .ok (.goto 16, 3) := by decide +kernel
theorem dX7_told_31 : decode cX7_told 31 = .ok (.iload_n 1, 1) := by decide +kernel
theorem dX7_told_32 : decode cX7_told 32 = .ok (.iconst 2, 1) := by decide +kernel
theorem dX7_told_33 : decode cX7_told 33 = .ok (.if_icmp .ne 10, 3) := by decide +kernel
theorem dX7_told_36 : decode cX7_told 36 = .ok (.aload_n 0, 1) := by decide +kernel
theorem dX7_told_37 : decode cX7_told 37 = .ok (.invokevirtual 319, 3) := by decide +kernel
theorem dX7_told_40 : decode cX7_told 40 = .ok (.goto 4, 3) := by decide +kernel
theorem dX7_told_43 : decode cX7_told 43 = .ok (.iconst (-1), 1) := by decide +kernel
theorem dX7_told_44 : decode cX7_told 44 = .ok (.ireturn, 1) := by decide +kernel
theorem dX7_year_0 : decode cX7_year 0 = .ok (.aload_n 0, 1) := by decide +kernel
theorem dX7_year_1 : decode cX7_year 1 = .ok (.getfield 13, 3) := by decide +kernel
theorem dX7_year_4 : decode cX7_year 4 = .ok (.sipush 999, 3) := by decide +kernel
theorem dX7_year_7 : decode cX7_year 7 = .ok (.if_icmp .ne 6, 3) := by decide +kernel
theorem dX7_year_10 : decode cX7_year 10 = .ok (.bipush (-3), 2) := by decide +kernel
theorem dX7_year_12 : decode cX7_year 12 = .ok (.ireturn, 1) := by decide +kernel
theorem dX7_year_13 : decode cX7_year 13 = .ok (.aload_n 0, 1) := by decide +kernel
theorem dX7_year_14 : decode cX7_year 14 = .ok (.invokevirtual 316, 3) := by decide +kernel
theorem dX7_year_17 : decode cX7_year 17 = .ok (.aload_n 0, 1) := by decide +kernel
theorem dX7_year_18 : decode cX7_year 18 = .ok (.getfield 13, 3) := by decide +kernel
theorem dX7_year_21 : decode cX7_year 21 = .ok (.ireturn, 1) := by decide +kernel
theorem dX7_keep_0 : decode cX7_keep 0 = .ok (.iconst 0, 1) := by decide +kernel
theorem dX7_keep_1 : decode cX7_keep 1 = .ok (.istore_n 1, 1) := by decide +kernel
theorem dX7_keep_2 : decode cX7_keep 2 = .ok (.iload_n 1, 1) := by decide +kernel
theorem dX7_keep_3 : decode cX7_keep 3 = .ok (.bipush 8, 2) := by decide +kernel
theorem dX7_keep_5 : decode cX7_keep 5 = .ok (.if_icmp .ge 21, 3) := by decide +kernel
theorem dX7_keep_8 : decode cX7_keep 8 = .ok (.aload_n 0, 1) := by decide +kernel
theorem dX7_keep_9 : decode cX7_keep 9 = .ok (.getfield 96, 3) := by decide +kernel
theorem dX7_keep_12 : decode cX7_keep 12 = .ok (.iload_n 1, 1) := by decide +kernel
theorem dX7_keep_13 : decode cX7_keep 13 = .ok (.aload_n 0, 1) := by decide +kernel
theorem dX7_keep_14 : decode cX7_keep 14 = .ok (.getfield 23, 3) := by decide +kernel
theorem dX7_keep_17 : decode cX7_keep 17 = .ok (.iload_n 1, 1) := by decide +kernel
theorem dX7_keep_18 : decode cX7_keep 18 = .ok (.iaload, 1) := by decide +kernel
theorem dX7_keep_19 : decode cX7_keep 19 = .ok (.iastore, 1) := by decide +kernel
theorem dX7_keep_20 : decode cX7_keep 20 = .ok (.iinc 1 1, 3) := by decide +kernel
theorem dX7_keep_23 : decode cX7_keep 23 = .ok (.goto (-21), 3) := by decide +kernel
theorem dX7_keep_26 : decode cX7_keep 26 = .ok (.aload_n 0, 1) := by decide +kernel
theorem dX7_keep_27 : decode cX7_keep 27 = .ok (.aload_n 0, 1) := by decide +kernel
theorem dX7_keep_28 : decode cX7_keep 28 = .ok (.getfield 13, 3) := by decide +kernel
theorem dX7_keep_31 : decode cX7_keep 31 = .ok (.putfield 99, 3) := by decide +kernel
theorem dX7_keep_34 : decode cX7_keep 34 = .ok (.return_, 1) := by decide +kernel
theorem dX7_putBack_0 : decode cX7_putBack 0 = .ok (.iconst 0, 1) := by decide +kernel
theorem dX7_putBack_1 : decode cX7_putBack 1 = .ok (.istore_n 1, 1) := by decide +kernel
theorem dX7_putBack_2 : decode cX7_putBack 2 = .ok (.iload_n 1, 1) := by decide +kernel
theorem dX7_putBack_3 : decode cX7_putBack 3 = .ok (.bipush 8, 2) := by decide +kernel
theorem dX7_putBack_5 : decode cX7_putBack 5 = .ok (.if_icmp .ge 21, 3) := by decide +kernel
theorem dX7_putBack_8 : decode cX7_putBack 8 = .ok (.aload_n 0, 1) := by decide +kernel
theorem dX7_putBack_9 : decode cX7_putBack 9 = .ok (.getfield 23, 3) := by decide +kernel
theorem dX7_putBack_12 : decode cX7_putBack 12 = .ok (.iload_n 1, 1) := by decide +kernel
theorem dX7_putBack_13 : decode cX7_putBack 13 = .ok (.aload_n 0, 1) := by decide +kernel
theorem dX7_putBack_14 : decode cX7_putBack 14 = .ok (.getfield 96, 3) := by decide +kernel
theorem dX7_putBack_17 : decode cX7_putBack 17 = .ok (.iload_n 1, 1) := by decide +kernel
theorem dX7_putBack_18 : decode cX7_putBack 18 = .ok (.iaload, 1) := by decide +kernel
theorem dX7_putBack_19 : decode cX7_putBack 19 = .ok (.iastore, 1) := by decide +kernel
theorem dX7_putBack_20 : decode cX7_putBack 20 = .ok (.iinc 1 1, 3) := by decide +kernel
theorem dX7_putBack_23 : decode cX7_putBack 23 = .ok (.goto (-21), 3) := by decide +kernel
theorem dX7_putBack_26 : decode cX7_putBack 26 = .ok (.aload_n 0, 1) := by decide +kernel
theorem dX7_putBack_27 : decode cX7_putBack 27 = .ok (.aload_n 0, 1) := by decide +kernel
theorem dX7_putBack_28 : decode cX7_putBack 28 = .ok (.getfield 99, 3) := by decide +kernel
theorem dX7_putBack_31 : decode cX7_putBack 31 = .ok (.putfield 13, 3) := by decide +kernel
theorem dX7_putBack_34 : decode cX7_putBack 34 = .ok (.return_, 1) := by decide +kernel
theorem dX7_earnsThen_0 : decode cX7_earnsThen 0 = .ok (.aload_n 0, 1) := by decide +kernel
theorem dX7_earnsThen_1 : decode cX7_earnsThen 1 = .ok (.getfield 13, 3) := by decide +kernel
theorem dX7_earnsThen_4 : decode cX7_earnsThen 4 = .ok (.istore_n 3, 1) := by decide +kernel
theorem dX7_earnsThen_5 : decode cX7_earnsThen 5 = .ok (.iconst 0, 1) := by decide +kernel
theorem dX7_earnsThen_6 : decode cX7_earnsThen 6 = .ok (.istore 4, 2) := by decide +kernel
theorem dX7_earnsThen_8 : decode cX7_earnsThen 8 = .ok (.iload 4, 2) := by decide +kernel
theorem dX7_earnsThen_10 : decode cX7_earnsThen 10 = .ok (.bipush 8, 2) := by decide +kernel
theorem dX7_earnsThen_12 : decode cX7_earnsThen 12 = .ok (.if_icmp .ge 23, 3) := by decide +kernel
theorem dX7_earnsThen_15 : decode cX7_earnsThen 15 = .ok (.aload_n 0, 1) := by decide +kernel
theorem dX7_earnsThen_16 : decode cX7_earnsThen 16 = .ok (.getfield 102, 3) := by decide +kernel
theorem dX7_earnsThen_19 : decode cX7_earnsThen 19 = .ok (.iload 4, 2) := by decide +kernel
theorem dX7_earnsThen_21 : decode cX7_earnsThen 21 = .ok (.aload_n 0, 1) := by decide +kernel
theorem dX7_earnsThen_22 : decode cX7_earnsThen 22 = .ok (.getfield 23, 3) := by decide +kernel
theorem dX7_earnsThen_25 : decode cX7_earnsThen 25 = .ok (.iload 4, 2) := by decide +kernel
theorem dX7_earnsThen_27 : decode cX7_earnsThen 27 = .ok (.iaload, 1) := by decide +kernel
theorem dX7_earnsThen_28 : decode cX7_earnsThen 28 = .ok (.iastore, 1) := by decide +kernel
theorem dX7_earnsThen_29 : decode cX7_earnsThen 29 = .ok (.iinc 4 1, 3) := by decide +kernel
theorem dX7_earnsThen_32 : decode cX7_earnsThen 32 = .ok (.goto (-24), 3) := by decide +kernel
theorem dX7_earnsThen_35 : decode cX7_earnsThen 35 = .ok (.aload_n 0, 1) := by decide +kernel
theorem dX7_earnsThen_36 : decode cX7_earnsThen 36 = .ok (.iload_n 1, 1) := by decide +kernel
theorem dX7_earnsThen_37 : decode cX7_earnsThen 37 = .ok (.invokevirtual 322, 3) := by decide +kernel
theorem dX7_earnsThen_40 : decode cX7_earnsThen 40 = .ok (.iload_n 2, 1) := by decide +kernel
theorem dX7_earnsThen_41 : decode cX7_earnsThen 41 = .ok (.bipush 10, 2) := by decide +kernel
theorem dX7_earnsThen_43 : decode cX7_earnsThen 43 = .ok (.if_icmp .ne 10, 3) := by decide +kernel
theorem dX7_earnsThen_46 : decode cX7_earnsThen 46 = .ok (.aload_n 0, 1) := by decide +kernel
theorem dX7_earnsThen_47 : decode cX7_earnsThen 47 = .ok (.invokevirtual 319, 3) := by decide +kernel
theorem dX7_earnsThen_50 : decode cX7_earnsThen 50 = .ok (.goto 9, 3) := by decide +kernel
theorem dX7_earnsThen_53 : decode cX7_earnsThen 53 = .ok (.aload_n 0, 1) := by decide +kernel
theorem dX7_earnsThen_54 : decode cX7_earnsThen 54 = .ok (.getfield 23, 3) := by decide +kernel
theorem dX7_earnsThen_57 : decode cX7_earnsThen 57 = .ok (.iload_n 2, 1) := by decide +kernel
theorem dX7_earnsThen_58 : decode cX7_earnsThen 58 = .ok (.iaload, 1) := by decide +kernel
theorem dX7_earnsThen_59 : decode cX7_earnsThen 59 = .ok (.istore 4, 2) := by decide +kernel
theorem dX7_earnsThen_61 : decode cX7_earnsThen 61 = .ok (.iconst 0, 1) := by decide +kernel
theorem dX7_earnsThen_62 : decode cX7_earnsThen 62 = .ok (.istore 5, 2) := by decide +kernel
theorem dX7_earnsThen_64 : decode cX7_earnsThen 64 = .ok (.iload 5, 2) := by decide +kernel
theorem dX7_earnsThen_66 : decode cX7_earnsThen 66 = .ok (.bipush 8, 2) := by decide +kernel
theorem dX7_earnsThen_68 : decode cX7_earnsThen 68 = .ok (.if_icmp .ge 23, 3) := by decide +kernel
theorem dX7_earnsThen_71 : decode cX7_earnsThen 71 = .ok (.aload_n 0, 1) := by decide +kernel
theorem dX7_earnsThen_72 : decode cX7_earnsThen 72 = .ok (.getfield 23, 3) := by decide +kernel
theorem dX7_earnsThen_75 : decode cX7_earnsThen 75 = .ok (.iload 5, 2) := by decide +kernel
theorem dX7_earnsThen_77 : decode cX7_earnsThen 77 = .ok (.aload_n 0, 1) := by decide +kernel
theorem dX7_earnsThen_78 : decode cX7_earnsThen 78 = .ok (.getfield 102, 3) := by decide +kernel
theorem dX7_earnsThen_81 : decode cX7_earnsThen 81 = .ok (.iload 5, 2) := by decide +kernel
theorem dX7_earnsThen_83 : decode cX7_earnsThen 83 = .ok (.iaload, 1) := by decide +kernel
theorem dX7_earnsThen_84 : decode cX7_earnsThen 84 = .ok (.iastore, 1) := by decide +kernel
theorem dX7_earnsThen_85 : decode cX7_earnsThen 85 = .ok (.iinc 5 1, 3) := by decide +kernel
theorem dX7_earnsThen_88 : decode cX7_earnsThen 88 = .ok (.goto (-24), 3) := by decide +kernel
theorem dX7_earnsThen_91 : decode cX7_earnsThen 91 = .ok (.aload_n 0, 1) := by decide +kernel
theorem dX7_earnsThen_92 : decode cX7_earnsThen 92 = .ok (.iload_n 3, 1) := by decide +kernel
theorem dX7_earnsThen_93 : decode cX7_earnsThen 93 = .ok (.putfield 13, 3) := by decide +kernel
theorem dX7_earnsThen_96 : decode cX7_earnsThen 96 = .ok (.iload 4, 2) := by decide +kernel
theorem dX7_earnsThen_98 : decode cX7_earnsThen 98 = .ok (.ireturn, 1) := by decide +kernel
theorem dX7_at_0 : decode cX7_at 0 = .ok (.aload_n 0, 1) := by decide +kernel
theorem dX7_at_1 : decode cX7_at 1 = .ok (.iload_n 2, 1) := by decide +kernel
theorem dX7_at_2 : decode cX7_at 2 = .ok (.iconst 0, 1) := by decide +kernel
theorem dX7_at_3 : decode cX7_at 3 = .ok (.aload_n 0, 1) := by decide +kernel
theorem dX7_at_4 : decode cX7_at 4 = .ok (.getfield 7, 3) := by decide +kernel
theorem dX7_at_7 : decode cX7_at 7 = .ok (.iconst 1, 1) := by decide +kernel
theorem dX7_at_8 : decode cX7_at 8 = .ok (.isub, 1) := by decide +kernel
theorem dX7_at_9 : decode cX7_at 9 = .ok (.invokevirtual 197, 3) := by decide +kernel
theorem dX7_at_12 : decode cX7_at 12 = .ok (.ifCond .ne 11, 3) := by decide +kernel
theorem dX7_at_15 : decode cX7_at 15 = .ok (.iload_n 2, 1) := by decide +kernel
theorem dX7_at_16 : decode cX7_at 16 = .ok (.bipush 10, 2) := by decide +kernel
theorem dX7_at_18 : decode cX7_at 18 = .ok (.if_icmp .eq 5, 3) := by decide +kernel
theorem dX7_at_21 : decode cX7_at 21 = .ok (.iconst (-1), 1) := by decide +kernel
theorem dX7_at_22 : decode cX7_at 22 = .ok (.ireturn, 1) := by decide +kernel
theorem dX7_at_23 : decode cX7_at 23 = .ok (.aload_n 0, 1) := by decide +kernel
theorem dX7_at_24 : decode cX7_at 24 = .ok (.iload_n 1, 1) := by decide +kernel
theorem dX7_at_25 : decode cX7_at 25 = .ok (.iconst 0, 1) := by decide +kernel
theorem dX7_at_26 : decode cX7_at 26 = .ok (.bipush 60, 2) := by decide +kernel
theorem dX7_at_28 : decode cX7_at 28 = .ok (.invokevirtual 197, 3) := by decide +kernel
theorem dX7_at_31 : decode cX7_at 31 = .ok (.ifCond .eq 12, 3) := by decide +kernel
theorem dX7_at_34 : decode cX7_at 34 = .ok (.aload_n 0, 1) := by decide +kernel
theorem dX7_at_35 : decode cX7_at 35 = .ok (.iload_n 1, 1) := by decide +kernel
theorem dX7_at_36 : decode cX7_at 36 = .ok (.iload_n 2, 1) := by decide +kernel
theorem dX7_at_37 : decode cX7_at 37 = .ok (.invokevirtual 325, 3) := by decide +kernel
theorem dX7_at_40 : decode cX7_at 40 = .ok (.goto 5, 3) := by decide +kernel
theorem dX7_at_43 : decode cX7_at 43 = .ok (.bipush (-2), 2) := by decide +kernel
theorem dX7_at_45 : decode cX7_at 45 = .ok (.ireturn, 1) := by decide +kernel
theorem dX7_isCalm_0 : decode cX7_isCalm 0 = .ok (.aload_n 0, 1) := by decide +kernel
theorem dX7_isCalm_1 : decode cX7_isCalm 1 = .ok (.invokevirtual 313, 3) := by decide +kernel
theorem dX7_isCalm_4 : decode cX7_isCalm 4 = .ok (.iconst 0, 1) := by decide +kernel
theorem dX7_isCalm_5 : decode cX7_isCalm 5 = .ok (.istore_n 1, 1) := by decide +kernel
theorem dX7_isCalm_6 : decode cX7_isCalm 6 = .ok (.iload_n 1, 1) := by decide +kernel
theorem dX7_isCalm_7 : decode cX7_isCalm 7 = .ok (.aload_n 0, 1) := by decide +kernel
theorem dX7_isCalm_8 : decode cX7_isCalm 8 = .ok (.getfield 7, 3) := by decide +kernel
theorem dX7_isCalm_11 : decode cX7_isCalm 11 = .ok (.if_icmp .ge 26, 3) := by decide +kernel
theorem dX7_isCalm_14 : decode cX7_isCalm 14 = .ok (.aload_n 0, 1) := by decide +kernel
theorem dX7_isCalm_15 : decode cX7_isCalm 15 = .ok (.getfield 93, 3) := by decide +kernel
theorem dX7_isCalm_18 : decode cX7_isCalm 18 = .ok (.iload_n 1, 1) := by decide +kernel
theorem dX7_isCalm_19 : decode cX7_isCalm 19 = .ok (.iaload, 1) := by decide +kernel
theorem dX7_isCalm_20 : decode cX7_isCalm 20 = .ok (.aload_n 0, 1) := by decide +kernel
theorem dX7_isCalm_21 : decode cX7_isCalm 21 = .ok (.getfield 23, 3) := by decide +kernel
theorem dX7_isCalm_24 : decode cX7_isCalm 24 = .ok (.iload_n 1, 1) := by decide +kernel
theorem dX7_isCalm_25 : decode cX7_isCalm 25 = .ok (.iaload, 1) := by decide +kernel
theorem dX7_isCalm_26 : decode cX7_isCalm 26 = .ok (.if_icmp .eq 5, 3) := by decide +kernel
theorem dX7_isCalm_29 : decode cX7_isCalm 29 = .ok (.iconst 0, 1) := by decide +kernel
theorem dX7_isCalm_30 : decode cX7_isCalm 30 = .ok (.ireturn, 1) := by decide +kernel
theorem dX7_isCalm_31 : decode cX7_isCalm 31 = .ok (.iinc 1 1, 3) := by decide +kernel
theorem dX7_isCalm_34 : decode cX7_isCalm 34 = .ok (.goto (-28), 3) := by decide +kernel
theorem dX7_isCalm_37 : decode cX7_isCalm 37 = .ok (.iconst 1, 1) := by decide +kernel
theorem dX7_isCalm_38 : decode cX7_isCalm 38 = .ok (.ireturn, 1) := by decide +kernel
theorem dX7_stays_0 : decode cX7_stays 0 = .ok (.aload_n 0, 1) := by decide +kernel
theorem dX7_stays_1 : decode cX7_stays 1 = .ok (.invokevirtual 328, 3) := by decide +kernel
theorem dX7_stays_4 : decode cX7_stays 4 = .ok (.bipush (-5), 2) := by decide +kernel
theorem dX7_stays_6 : decode cX7_stays 6 = .ok (.istore_n 1, 1) := by decide +kernel
theorem dX7_stays_7 : decode cX7_stays 7 = .ok (.iconst 0, 1) := by decide +kernel
theorem dX7_stays_8 : decode cX7_stays 8 = .ok (.istore_n 2, 1) := by decide +kernel
theorem dX7_stays_9 : decode cX7_stays 9 = .ok (.iload_n 2, 1) := by decide +kernel
theorem dX7_stays_10 : decode cX7_stays 10 = .ok (.bipush 61, 2) := by decide +kernel
theorem dX7_stays_12 : decode cX7_stays 12 = .ok (.if_icmp .ge 31, 3) := by decide +kernel
theorem dX7_stays_15 : decode cX7_stays 15 = .ok (.iload_n 1, 1) := by decide +kernel
theorem dX7_stays_16 : decode cX7_stays 16 = .ok (.ifCond .ge 27, 3) := by decide +kernel
theorem dX7_stays_19 : decode cX7_stays 19 = .ok (.aload_n 0, 1) := by decide +kernel
theorem dX7_stays_20 : decode cX7_stays 20 = .ok (.invokevirtual 331, 3) := by decide +kernel
theorem dX7_stays_23 : decode cX7_stays 23 = .ok (.ifCond .eq 7, 3) := by decide +kernel
theorem dX7_stays_26 : decode cX7_stays 26 = .ok (.iload_n 2, 1) := by decide +kernel
theorem dX7_stays_27 : decode cX7_stays 27 = .ok (.goto 5, 3) := by decide +kernel
theorem dX7_stays_30 : decode cX7_stays 30 = .ok (.bipush (-5), 2) := by decide +kernel
theorem dX7_stays_32 : decode cX7_stays 32 = .ok (.istore_n 1, 1) := by decide +kernel
theorem dX7_stays_33 : decode cX7_stays 33 = .ok (.aload_n 0, 1) := by decide +kernel
theorem dX7_stays_34 : decode cX7_stays 34 = .ok (.invokevirtual 316, 3) := by decide +kernel
theorem dX7_stays_37 : decode cX7_stays 37 = .ok (.iinc 2 1, 3) := by decide +kernel
theorem dX7_stays_40 : decode cX7_stays 40 = .ok (.goto (-31), 3) := by decide +kernel
theorem dX7_stays_43 : decode cX7_stays 43 = .ok (.aload_n 0, 1) := by decide +kernel
theorem dX7_stays_44 : decode cX7_stays 44 = .ok (.invokevirtual 334, 3) := by decide +kernel
theorem dX7_stays_47 : decode cX7_stays 47 = .ok (.iload_n 1, 1) := by decide +kernel
theorem dX7_stays_48 : decode cX7_stays 48 = .ok (.ireturn, 1) := by decide +kernel
theorem dX7_isAsOld_0 : decode cX7_isAsOld 0 = .ok (.iconst 0, 1) := by decide +kernel
theorem dX7_isAsOld_1 : decode cX7_isAsOld 1 = .ok (.istore_n 1, 1) := by decide +kernel
theorem dX7_isAsOld_2 : decode cX7_isAsOld 2 = .ok (.iload_n 1, 1) := by decide +kernel
theorem dX7_isAsOld_3 : decode cX7_isAsOld 3 = .ok (.aload_n 0, 1) := by decide +kernel
theorem dX7_isAsOld_4 : decode cX7_isAsOld 4 = .ok (.getfield 7, 3) := by decide +kernel
theorem dX7_isAsOld_7 : decode cX7_isAsOld 7 = .ok (.if_icmp .ge 26, 3) := by decide +kernel
theorem dX7_isAsOld_10 : decode cX7_isAsOld 10 = .ok (.aload_n 0, 1) := by decide +kernel
theorem dX7_isAsOld_11 : decode cX7_isAsOld 11 = .ok (.getfield 23, 3) := by decide +kernel
theorem dX7_isAsOld_14 : decode cX7_isAsOld 14 = .ok (.iload_n 1, 1) := by decide +kernel
theorem dX7_isAsOld_15 : decode cX7_isAsOld 15 = .ok (.iaload, 1) := by decide +kernel
theorem dX7_isAsOld_16 : decode cX7_isAsOld 16 = .ok (.aload_n 0, 1) := by decide +kernel
theorem dX7_isAsOld_17 : decode cX7_isAsOld 17 = .ok (.getfield 105, 3) := by decide +kernel
theorem dX7_isAsOld_20 : decode cX7_isAsOld 20 = .ok (.iload_n 1, 1) := by decide +kernel
theorem dX7_isAsOld_21 : decode cX7_isAsOld 21 = .ok (.iaload, 1) := by decide +kernel
theorem dX7_isAsOld_22 : decode cX7_isAsOld 22 = .ok (.if_icmp .eq 5, 3) := by decide +kernel
theorem dX7_isAsOld_25 : decode cX7_isAsOld 25 = .ok (.iconst 0, 1) := by decide +kernel
theorem dX7_isAsOld_26 : decode cX7_isAsOld 26 = .ok (.ireturn, 1) := by decide +kernel
theorem dX7_isAsOld_27 : decode cX7_isAsOld 27 = .ok (.iinc 1 1, 3) := by decide +kernel
theorem dX7_isAsOld_30 : decode cX7_isAsOld 30 = .ok (.goto (-28), 3) := by decide +kernel
theorem dX7_isAsOld_33 : decode cX7_isAsOld 33 = .ok (.iconst 1, 1) := by decide +kernel
theorem dX7_isAsOld_34 : decode cX7_isAsOld 34 = .ok (.ireturn, 1) := by decide +kernel
theorem dX7_swings_0 : decode cX7_swings 0 = .ok (.aload_n 0, 1) := by decide +kernel
theorem dX7_swings_1 : decode cX7_swings 1 = .ok (.invokevirtual 328, 3) := by decide +kernel
theorem dX7_swings_4 : decode cX7_swings 4 = .ok (.aload_n 0, 1) := by decide +kernel
theorem dX7_swings_5 : decode cX7_swings 5 = .ok (.bipush 40, 2) := by decide +kernel
theorem dX7_swings_7 : decode cX7_swings 7 = .ok (.invokevirtual 322, 3) := by decide +kernel
theorem dX7_swings_10 : decode cX7_swings 10 = .ok (.iconst 0, 1) := by decide +kernel
theorem dX7_swings_11 : decode cX7_swings 11 = .ok (.istore_n 1, 1) := by decide +kernel
theorem dX7_swings_12 : decode cX7_swings 12 = .ok (.iload_n 1, 1) := by decide +kernel
theorem dX7_swings_13 : decode cX7_swings 13 = .ok (.bipush 8, 2) := by decide +kernel
theorem dX7_swings_15 : decode cX7_swings 15 = .ok (.if_icmp .ge 21, 3) := by decide +kernel
theorem dX7_swings_18 : decode cX7_swings 18 = .ok (.aload_n 0, 1) := by decide +kernel
theorem dX7_swings_19 : decode cX7_swings 19 = .ok (.getfield 105, 3) := by decide +kernel
theorem dX7_swings_22 : decode cX7_swings 22 = .ok (.iload_n 1, 1) := by decide +kernel
theorem dX7_swings_23 : decode cX7_swings 23 = .ok (.aload_n 0, 1) := by decide +kernel
theorem dX7_swings_24 : decode cX7_swings 24 = .ok (.getfield 23, 3) := by decide +kernel
theorem dX7_swings_27 : decode cX7_swings 27 = .ok (.iload_n 1, 1) := by decide +kernel
theorem dX7_swings_28 : decode cX7_swings 28 = .ok (.iaload, 1) := by decide +kernel
theorem dX7_swings_29 : decode cX7_swings 29 = .ok (.iastore, 1) := by decide +kernel
theorem dX7_swings_30 : decode cX7_swings 30 = .ok (.iinc 1 1, 3) := by decide +kernel
theorem dX7_swings_33 : decode cX7_swings 33 = .ok (.goto (-21), 3) := by decide +kernel
theorem dX7_swings_36 : decode cX7_swings 36 = .ok (.bipush (-5), 2) := by decide +kernel
theorem dX7_swings_38 : decode cX7_swings 38 = .ok (.istore_n 1, 1) := by decide +kernel
theorem dX7_swings_39 : decode cX7_swings 39 = .ok (.iconst 1, 1) := by decide +kernel
theorem dX7_swings_40 : decode cX7_swings 40 = .ok (.istore_n 2, 1) := by decide +kernel
theorem dX7_swings_41 : decode cX7_swings 41 = .ok (.iload_n 2, 1) := by decide +kernel
theorem dX7_swings_42 : decode cX7_swings 42 = .ok (.bipush 21, 2) := by decide +kernel
theorem dX7_swings_44 : decode cX7_swings 44 = .ok (.if_icmp .ge 31, 3) := by decide +kernel
theorem dX7_swings_47 : decode cX7_swings 47 = .ok (.iload_n 1, 1) := by decide +kernel
theorem dX7_swings_48 : decode cX7_swings 48 = .ok (.ifCond .ge 27, 3) := by decide +kernel
theorem dX7_swings_51 : decode cX7_swings 51 = .ok (.aload_n 0, 1) := by decide +kernel
theorem dX7_swings_52 : decode cX7_swings 52 = .ok (.invokevirtual 316, 3) := by decide +kernel
theorem dX7_swings_55 : decode cX7_swings 55 = .ok (.aload_n 0, 1) := by decide +kernel
theorem dX7_swings_56 : decode cX7_swings 56 = .ok (.invokevirtual 337, 3) := by decide +kernel
theorem dX7_swings_59 : decode cX7_swings 59 = .ok (.ifCond .eq 7, 3) := by decide +kernel
theorem dX7_swings_62 : decode cX7_swings 62 = .ok (.iload_n 2, 1) := by decide +kernel
theorem dX7_swings_63 : decode cX7_swings 63 = .ok (.goto 5, 3) := by decide +kernel
theorem dX7_swings_66 : decode cX7_swings 66 = .ok (.bipush (-5), 2) := by decide +kernel
theorem dX7_swings_68 : decode cX7_swings 68 = .ok (.istore_n 1, 1) := by decide +kernel
theorem dX7_swings_69 : decode cX7_swings 69 = .ok (.iinc 2 1, 3) := by decide +kernel
theorem dX7_swings_72 : decode cX7_swings 72 = .ok (.goto (-31), 3) := by decide +kernel
theorem dX7_swings_75 : decode cX7_swings 75 = .ok (.aload_n 0, 1) := by decide +kernel
theorem dX7_swings_76 : decode cX7_swings 76 = .ok (.invokevirtual 334, 3) := by decide +kernel
theorem dX7_swings_79 : decode cX7_swings 79 = .ok (.iload_n 1, 1) := by decide +kernel
theorem dX7_swings_80 : decode cX7_swings 80 = .ok (.ireturn, 1) := by decide +kernel
theorem dX7_withGift_0 : decode cX7_withGift 0 = .ok (.aload_n 0, 1) := by decide +kernel
theorem dX7_withGift_1 : decode cX7_withGift 1 = .ok (.getfield 23, 3) := by decide +kernel
theorem dX7_withGift_4 : decode cX7_withGift 4 = .ok (.iload_n 1, 1) := by decide +kernel
theorem dX7_withGift_5 : decode cX7_withGift 5 = .ok (.iaload, 1) := by decide +kernel
theorem dX7_withGift_6 : decode cX7_withGift 6 = .ok (.istore 4, 2) := by decide +kernel
theorem dX7_withGift_8 : decode cX7_withGift 8 = .ok (.aload_n 0, 1) := by decide +kernel
theorem dX7_withGift_9 : decode cX7_withGift 9 = .ok (.getfield 23, 3) := by decide +kernel
theorem dX7_withGift_12 : decode cX7_withGift 12 = .ok (.iload_n 1, 1) := by decide +kernel
theorem dX7_withGift_13 : decode cX7_withGift 13 = .ok (.aload_n 0, 1) := by decide +kernel
theorem dX7_withGift_14 : decode cX7_withGift 14 = .ok (.bipush 99, 2) := by decide +kernel
theorem dX7_withGift_16 : decode cX7_withGift 16 = .ok (.iload 4, 2) := by decide +kernel
theorem dX7_withGift_18 : decode cX7_withGift 18 = .ok (.iload_n 2, 1) := by decide +kernel
theorem dX7_withGift_19 : decode cX7_withGift 19 = .ok (.iadd, 1) := by decide +kernel
theorem dX7_withGift_20 : decode cX7_withGift 20 = .ok (.invokevirtual 301, 3) := by decide +kernel
theorem dX7_withGift_23 : decode cX7_withGift 23 = .ok (.iastore, 1) := by decide +kernel
theorem dX7_withGift_24 : decode cX7_withGift 24 = .ok (.aload_n 0, 1) := by decide +kernel
theorem dX7_withGift_25 : decode cX7_withGift 25 = .ok (.bipush 40, 2) := by decide +kernel
theorem dX7_withGift_27 : decode cX7_withGift 27 = .ok (.iload_n 3, 1) := by decide +kernel
theorem dX7_withGift_28 : decode cX7_withGift 28 = .ok (.invokevirtual 325, 3) := by decide +kernel
theorem dX7_withGift_31 : decode cX7_withGift 31 = .ok (.istore 5, 2) := by decide +kernel
theorem dX7_withGift_33 : decode cX7_withGift 33 = .ok (.aload_n 0, 1) := by decide +kernel
theorem dX7_withGift_34 : decode cX7_withGift 34 = .ok (.getfield 23, 3) := by decide +kernel
theorem dX7_withGift_37 : decode cX7_withGift 37 = .ok (.iload_n 1, 1) := by decide +kernel
theorem dX7_withGift_38 : decode cX7_withGift 38 = .ok (.iload 4, 2) := by decide +kernel
theorem dX7_withGift_40 : decode cX7_withGift 40 = .ok (.iastore, 1) := by decide +kernel
theorem dX7_withGift_41 : decode cX7_withGift 41 = .ok (.iload 5, 2) := by decide +kernel
theorem dX7_withGift_43 : decode cX7_withGift 43 = .ok (.ireturn, 1) := by decide +kernel
theorem dX7_gift_0 : decode cX7_gift 0 = .ok (.aload_n 0, 1) := by decide +kernel
theorem dX7_gift_1 : decode cX7_gift 1 = .ok (.iload_n 1, 1) := by decide +kernel
theorem dX7_gift_2 : decode cX7_gift 2 = .ok (.invokevirtual 205, 3) := by decide +kernel
theorem dX7_gift_5 : decode cX7_gift 5 = .ok (.ifCond .eq 13, 3) := by decide +kernel
theorem dX7_gift_8 : decode cX7_gift 8 = .ok (.aload_n 0, 1) := by decide +kernel
theorem dX7_gift_9 : decode cX7_gift 9 = .ok (.iload_n 3, 1) := by decide +kernel
theorem dX7_gift_10 : decode cX7_gift 10 = .ok (.iconst 0, 1) := by decide +kernel
theorem dX7_gift_11 : decode cX7_gift 11 = .ok (.iconst 1, 1) := by decide +kernel
theorem dX7_gift_12 : decode cX7_gift 12 = .ok (.invokevirtual 197, 3) := by decide +kernel
theorem dX7_gift_15 : decode cX7_gift 15 = .ok (.ifCond .ne 7, 3) := by decide +kernel
theorem dX7_gift_18 : decode cX7_gift 18 = .ok (.sipush (-1001), 3) := by decide +kernel
theorem dX7_gift_21 : decode cX7_gift 21 = .ok (.ireturn, 1) := by decide +kernel
theorem dX7_gift_22 : decode cX7_gift 22 = .ok (.aload_n 0, 1) := by decide +kernel
theorem dX7_gift_23 : decode cX7_gift 23 = .ok (.iload_n 2, 1) := by decide +kernel
theorem dX7_gift_24 : decode cX7_gift 24 = .ok (.iconst 0, 1) := by decide +kernel
theorem dX7_gift_25 : decode cX7_gift 25 = .ok (.bipush 99, 2) := by decide +kernel
theorem dX7_gift_27 : decode cX7_gift 27 = .ok (.invokevirtual 197, 3) := by decide +kernel
theorem dX7_gift_30 : decode cX7_gift 30 = .ok (.ifCond .ne 7, 3) := by decide +kernel
theorem dX7_gift_33 : decode cX7_gift 33 = .ok (.sipush (-1002), 3) := by decide +kernel
theorem dX7_gift_36 : decode cX7_gift 36 = .ok (.ireturn, 1) := by decide +kernel
theorem dX7_gift_37 : decode cX7_gift 37 = .ok (.iload_n 3, 1) := by decide +kernel
theorem dX7_gift_38 : decode cX7_gift 38 = .ok (.ifCond .ne 7, 3) := by decide +kernel
theorem dX7_gift_41 : decode cX7_gift 41 = .ok (.iload_n 1, 1) := by decide +kernel
theorem dX7_gift_42 : decode cX7_gift 42 = .ok (.goto 5, 3) := by decide +kernel
theorem dX7_gift_45 : decode cX7_gift 45 = .ok (.bipush 10, 2) := by decide +kernel
theorem dX7_gift_47 : decode cX7_gift 47 = .ok (.istore 4, 2) := by decide +kernel
theorem dX7_gift_49 : decode cX7_gift 49 = .ok (.aload_n 0, 1) := by decide +kernel
theorem dX7_gift_50 : decode cX7_gift 50 = .ok (.iload_n 1, 1) := by decide +kernel
theorem dX7_gift_51 : decode cX7_gift 51 = .ok (.iload_n 2, 1) := by decide +kernel
theorem dX7_gift_52 : decode cX7_gift 52 = .ok (.iload 4, 2) := by decide +kernel
theorem dX7_gift_54 : decode cX7_gift 54 = .ok (.invokevirtual 340, 3) := by decide +kernel
theorem dX7_gift_57 : decode cX7_gift 57 = .ok (.aload_n 0, 1) := by decide +kernel
theorem dX7_gift_58 : decode cX7_gift 58 = .ok (.bipush 40, 2) := by decide +kernel
theorem dX7_gift_60 : decode cX7_gift 60 = .ok (.iload 4, 2) := by decide +kernel
theorem dX7_gift_62 : decode cX7_gift 62 = .ok (.invokevirtual 325, 3) := by decide +kernel
theorem dX7_gift_65 : decode cX7_gift 65 = .ok (.isub, 1) := by decide +kernel
theorem dX7_gift_66 : decode cX7_gift 66 = .ok (.ireturn, 1) := by decide +kernel
theorem dX7_best_0 : decode cX7_best 0 = .ok (.aload_n 0, 1) := by decide +kernel
theorem dX7_best_1 : decode cX7_best 1 = .ok (.iload_n 1, 1) := by decide +kernel
theorem dX7_best_2 : decode cX7_best 2 = .ok (.iconst 0, 1) := by decide +kernel
theorem dX7_best_3 : decode cX7_best 3 = .ok (.bipush 99, 2) := by decide +kernel
theorem dX7_best_5 : decode cX7_best 5 = .ok (.invokevirtual 197, 3) := by decide +kernel
theorem dX7_best_8 : decode cX7_best 8 = .ok (.ifCond .ne 6, 3) := by decide +kernel
theorem dX7_best_11 : decode cX7_best 11 = .ok (.bipush (-2), 2) := by decide +kernel
theorem dX7_best_13 : decode cX7_best 13 = .ok (.ireturn, 1) := by decide +kernel
theorem dX7_best_14 : decode cX7_best 14 = .ok (.bipush (-5), 2) := by decide +kernel
theorem dX7_best_16 : decode cX7_best 16 = .ok (.istore_n 2, 1) := by decide +kernel
theorem dX7_best_17 : decode cX7_best 17 = .ok (.iconst 0, 1) := by decide +kernel
theorem dX7_best_18 : decode cX7_best 18 = .ok (.istore_n 3, 1) := by decide +kernel
theorem dX7_best_19 : decode cX7_best 19 = .ok (.iconst 0, 1) := by decide +kernel
theorem dX7_best_20 : decode cX7_best 20 = .ok (.istore 4, 2) := by decide +kernel
theorem dX7_best_22 : decode cX7_best 22 = .ok (.iload 4, 2) := by decide +kernel
theorem dX7_best_24 : decode cX7_best 24 = .ok (.aload_n 0, 1) := by decide +kernel
theorem dX7_best_25 : decode cX7_best 25 = .ok (.getfield 7, 3) := by decide +kernel
theorem dX7_best_28 : decode cX7_best 28 = .ok (.if_icmp .ge 39, 3) := by decide +kernel
theorem dX7_best_31 : decode cX7_best 31 = .ok (.aload_n 0, 1) := by decide +kernel
theorem dX7_best_32 : decode cX7_best 32 = .ok (.iload 4, 2) := by decide +kernel
theorem dX7_best_34 : decode cX7_best 34 = .ok (.iload_n 1, 1) := by decide +kernel
theorem dX7_best_35 : decode cX7_best 35 = .ok (.bipush 10, 2) := by decide +kernel
theorem dX7_best_37 : decode cX7_best 37 = .ok (.invokevirtual 340, 3) := by decide +kernel
theorem dX7_best_40 : decode cX7_best 40 = .ok (.istore 5, 2) := by decide +kernel
theorem dX7_best_42 : decode cX7_best 42 = .ok (.iload_n 2, 1) := by decide +kernel
theorem dX7_best_43 : decode cX7_best 43 = .ok (.ifCond .lt 12, 3) := by decide +kernel
theorem dX7_best_46 : decode cX7_best 46 = .ok (.iload 5, 2) := by decide +kernel
theorem dX7_best_48 : decode cX7_best 48 = .ok (.iload_n 3, 1) := by decide +kernel
theorem dX7_best_49 : decode cX7_best 49 = .ok (.if_icmp .gt 6, 3) := by decide +kernel
theorem dX7_best_52 : decode cX7_best 52 = .ok (.goto 9, 3) := by decide +kernel
theorem dX7_best_55 : decode cX7_best 55 = .ok (.iload 4, 2) := by decide +kernel
theorem dX7_best_57 : decode cX7_best 57 = .ok (.istore_n 2, 1) := by decide +kernel
theorem dX7_best_58 : decode cX7_best 58 = .ok (.iload 5, 2) := by decide +kernel
theorem dX7_best_60 : decode cX7_best 60 = .ok (.istore_n 3, 1) := by decide +kernel
theorem dX7_best_61 : decode cX7_best 61 = .ok (.iinc 4 1, 3) := by decide +kernel
theorem dX7_best_64 : decode cX7_best 64 = .ok (.goto (-42), 3) := by decide +kernel
theorem dX7_best_67 : decode cX7_best 67 = .ok (.iload_n 2, 1) := by decide +kernel
theorem dX7_best_68 : decode cX7_best 68 = .ok (.ireturn, 1) := by decide +kernel
theorem dX7_change_0 : decode cX7_change 0 = .ok (.aload_n 0, 1) := by decide +kernel
theorem dX7_change_1 : decode cX7_change 1 = .ok (.getfield 23, 3) := by decide +kernel
theorem dX7_change_4 : decode cX7_change 4 = .ok (.iload_n 1, 1) := by decide +kernel
theorem dX7_change_5 : decode cX7_change 5 = .ok (.iaload, 1) := by decide +kernel
theorem dX7_change_6 : decode cX7_change 6 = .ok (.istore_n 3, 1) := by decide +kernel
theorem dX7_change_7 : decode cX7_change 7 = .ok (.aload_n 0, 1) := by decide +kernel
theorem dX7_change_8 : decode cX7_change 8 = .ok (.getfield 23, 3) := by decide +kernel
theorem dX7_change_11 : decode cX7_change 11 = .ok (.iload_n 1, 1) := by decide +kernel
theorem dX7_change_12 : decode cX7_change 12 = .ok (.aload_n 0, 1) := by decide +kernel
theorem dX7_change_13 : decode cX7_change 13 = .ok (.getfield 23, 3) := by decide +kernel
theorem dX7_change_16 : decode cX7_change 16 = .ok (.iload_n 2, 1) := by decide +kernel
theorem dX7_change_17 : decode cX7_change 17 = .ok (.iaload, 1) := by decide +kernel
theorem dX7_change_18 : decode cX7_change 18 = .ok (.iastore, 1) := by decide +kernel
theorem dX7_change_19 : decode cX7_change 19 = .ok (.aload_n 0, 1) := by decide +kernel
theorem dX7_change_20 : decode cX7_change 20 = .ok (.getfield 23, 3) := by decide +kernel
theorem dX7_change_23 : decode cX7_change 23 = .ok (.iload_n 2, 1) := by decide +kernel
theorem dX7_change_24 : decode cX7_change 24 = .ok (.iload_n 3, 1) := by decide +kernel
theorem dX7_change_25 : decode cX7_change 25 = .ok (.iastore, 1) := by decide +kernel
theorem dX7_change_26 : decode cX7_change 26 = .ok (.return_, 1) := by decide +kernel
theorem dX7_lots_0 : decode cX7_lots 0 = .ok (.aload_n 0, 1) := by decide +kernel
theorem dX7_lots_1 : decode cX7_lots 1 = .ok (.bipush 20, 2) := by decide +kernel
theorem dX7_lots_3 : decode cX7_lots 3 = .ok (.bipush 10, 2) := by decide +kernel
theorem dX7_lots_5 : decode cX7_lots 5 = .ok (.invokevirtual 325, 3) := by decide +kernel
theorem dX7_lots_8 : decode cX7_lots 8 = .ok (.istore_n 1, 1) := by decide +kernel
theorem dX7_lots_9 : decode cX7_lots 9 = .ok (.bipush (-5), 2) := by decide +kernel
theorem dX7_lots_11 : decode cX7_lots 11 = .ok (.istore_n 2, 1) := by decide +kernel
theorem dX7_lots_12 : decode cX7_lots 12 = .ok (.iconst 0, 1) := by decide +kernel
theorem dX7_lots_13 : decode cX7_lots 13 = .ok (.istore_n 3, 1) := by decide +kernel
theorem dX7_lots_14 : decode cX7_lots 14 = .ok (.iload_n 3, 1) := by decide +kernel
theorem dX7_lots_15 : decode cX7_lots 15 = .ok (.aload_n 0, 1) := by decide +kernel
theorem dX7_lots_16 : decode cX7_lots 16 = .ok (.getfield 7, 3) := by decide +kernel
theorem dX7_lots_19 : decode cX7_lots 19 = .ok (.if_icmp .ge 73, 3) := by decide +kernel
theorem dX7_lots_22 : decode cX7_lots 22 = .ok (.iload_n 3, 1) := by decide +kernel
theorem dX7_lots_23 : decode cX7_lots 23 = .ok (.iconst 1, 1) := by decide +kernel
theorem dX7_lots_24 : decode cX7_lots 24 = .ok (.iadd, 1) := by decide +kernel
theorem dX7_lots_25 : decode cX7_lots 25 = .ok (.istore 4, 2) := by decide +kernel
theorem dX7_lots_27 : decode cX7_lots 27 = .ok (.iload 4, 2) := by decide +kernel
theorem dX7_lots_29 : decode cX7_lots 29 = .ok (.aload_n 0, 1) := by decide +kernel
theorem dX7_lots_30 : decode cX7_lots 30 = .ok (.getfield 7, 3) := by decide +kernel
theorem dX7_lots_33 : decode cX7_lots 33 = .ok (.if_icmp .ge 53, 3) := by decide +kernel
theorem dX7_lots_36 : decode cX7_lots 36 = .ok (.aload_n 0, 1) := by decide +kernel
theorem dX7_lots_37 : decode cX7_lots 37 = .ok (.iload_n 3, 1) := by decide +kernel
theorem dX7_lots_38 : decode cX7_lots 38 = .ok (.iload 4, 2) := by decide +kernel
theorem dX7_lots_40 : decode cX7_lots 40 = .ok (.invokevirtual 344, 3) := by decide +kernel
theorem dX7_lots_43 : decode cX7_lots 43 = .ok (.aload_n 0, 1) := by decide +kernel
theorem dX7_lots_44 : decode cX7_lots 44 = .ok (.bipush 20, 2) := by decide +kernel
theorem dX7_lots_46 : decode cX7_lots 46 = .ok (.bipush 10, 2) := by decide +kernel
theorem dX7_lots_48 : decode cX7_lots 48 = .ok (.invokevirtual 325, 3) := by decide +kernel
theorem dX7_lots_51 : decode cX7_lots 51 = .ok (.istore 5, 2) := by decide +kernel
theorem dX7_lots_53 : decode cX7_lots 53 = .ok (.aload_n 0, 1) := by decide +kernel
theorem dX7_lots_54 : decode cX7_lots 54 = .ok (.iload_n 3, 1) := by decide +kernel
theorem dX7_lots_55 : decode cX7_lots 55 = .ok (.iload 4, 2) := by decide +kernel
theorem dX7_lots_57 : decode cX7_lots 57 = .ok (.invokevirtual 344, 3) := by decide +kernel
theorem dX7_lots_60 : decode cX7_lots 60 = .ok (.iload 5, 2) := by decide +kernel
theorem dX7_lots_62 : decode cX7_lots 62 = .ok (.iload_n 1, 1) := by decide +kernel
theorem dX7_lots_63 : decode cX7_lots 63 = .ok (.if_icmp .gt 6, 3) := by decide +kernel
theorem dX7_lots_66 : decode cX7_lots 66 = .ok (.goto 14, 3) := by decide +kernel
theorem dX7_lots_69 : decode cX7_lots 69 = .ok (.bipush 10, 2) := by decide +kernel
theorem dX7_lots_71 : decode cX7_lots 71 = .ok (.iload_n 3, 1) := by decide +kernel
theorem dX7_lots_72 : decode cX7_lots 72 = .ok (.imul, 1) := by decide +kernel
theorem dX7_lots_73 : decode cX7_lots 73 = .ok (.iload 4, 2) := by decide +kernel
theorem dX7_lots_75 : decode cX7_lots 75 = .ok (.iadd, 1) := by decide +kernel
theorem dX7_lots_76 : decode cX7_lots 76 = .ok (.istore_n 2, 1) := by decide +kernel
theorem dX7_lots_77 : decode cX7_lots 77 = .ok (.iload 5, 2) := by decide +kernel
theorem dX7_lots_79 : decode cX7_lots 79 = .ok (.istore_n 1, 1) := by decide +kernel
theorem dX7_lots_80 : decode cX7_lots 80 = .ok (.iinc 4 1, 3) := by decide +kernel
theorem dX7_lots_83 : decode cX7_lots 83 = .ok (.goto (-56), 3) := by decide +kernel
theorem dX7_lots_86 : decode cX7_lots 86 = .ok (.iinc 3 1, 3) := by decide +kernel
theorem dX7_lots_89 : decode cX7_lots 89 = .ok (.goto (-75), 3) := by decide +kernel
theorem dX7_lots_92 : decode cX7_lots 92 = .ok (.iload_n 2, 1) := by decide +kernel
theorem dX7_lots_93 : decode cX7_lots 93 = .ok (.ireturn, 1) := by decide +kernel
theorem dX7_opens_0 : decode cX7_opens 0 = .ok (.aload_n 0, 1) := by decide +kernel
theorem dX7_opens_1 : decode cX7_opens 1 = .ok (.getfield 7, 3) := by decide +kernel
theorem dX7_opens_4 : decode cX7_opens 4 = .ok (.istore_n 2, 1) := by decide +kernel
theorem dX7_opens_5 : decode cX7_opens 5 = .ok (.iload_n 2, 1) := by decide +kernel
theorem dX7_opens_6 : decode cX7_opens 6 = .ok (.iload_n 1, 1) := by decide +kernel
theorem dX7_opens_7 : decode cX7_opens 7 = .ok (.if_icmp .le 17, 3) := by decide +kernel
theorem dX7_opens_10 : decode cX7_opens 10 = .ok (.aload_n 0, 1) := by decide +kernel
theorem dX7_opens_11 : decode cX7_opens 11 = .ok (.iload_n 2, 1) := by decide +kernel
theorem dX7_opens_12 : decode cX7_opens 12 = .ok (.iload_n 2, 1) := by decide +kernel
theorem dX7_opens_13 : decode cX7_opens 13 = .ok (.iconst 1, 1) := by decide +kernel
theorem dX7_opens_14 : decode cX7_opens 14 = .ok (.isub, 1) := by decide +kernel
theorem dX7_opens_15 : decode cX7_opens 15 = .ok (.invokevirtual 347, 3) := by decide +kernel
theorem dX7_opens_18 : decode cX7_opens 18 = .ok (.iinc 2 (-1), 3) := by decide +kernel
theorem dX7_opens_21 : decode cX7_opens 21 = .ok (.goto (-16), 3) := by decide +kernel
theorem dX7_opens_24 : decode cX7_opens 24 = .ok (.aload_n 0, 1) := by decide +kernel
theorem dX7_opens_25 : decode cX7_opens 25 = .ok (.dup, 1) := by decide +kernel
theorem dX7_opens_26 : decode cX7_opens 26 = .ok (.getfield 7, 3) := by decide +kernel
theorem dX7_opens_29 : decode cX7_opens 29 = .ok (.iconst 1, 1) := by decide +kernel
theorem dX7_opens_30 : decode cX7_opens 30 = .ok (.iadd, 1) := by decide +kernel
theorem dX7_opens_31 : decode cX7_opens 31 = .ok (.putfield 7, 3) := by decide +kernel
theorem dX7_opens_34 : decode cX7_opens 34 = .ok (.return_, 1) := by decide +kernel
theorem dX7_closes_0 : decode cX7_closes 0 = .ok (.aload_n 0, 1) := by decide +kernel
theorem dX7_closes_1 : decode cX7_closes 1 = .ok (.dup, 1) := by decide +kernel
theorem dX7_closes_2 : decode cX7_closes 2 = .ok (.getfield 7, 3) := by decide +kernel
theorem dX7_closes_5 : decode cX7_closes 5 = .ok (.iconst 1, 1) := by decide +kernel
theorem dX7_closes_6 : decode cX7_closes 6 = .ok (.isub, 1) := by decide +kernel
theorem dX7_closes_7 : decode cX7_closes 7 = .ok (.putfield 7, 3) := by decide +kernel
theorem dX7_closes_10 : decode cX7_closes 10 = .ok (.iload_n 1, 1) := by decide +kernel
theorem dX7_closes_11 : decode cX7_closes 11 = .ok (.istore_n 2, 1) := by decide +kernel
theorem dX7_closes_12 : decode cX7_closes 12 = .ok (.iload_n 2, 1) := by decide +kernel
theorem dX7_closes_13 : decode cX7_closes 13 = .ok (.aload_n 0, 1) := by decide +kernel
theorem dX7_closes_14 : decode cX7_closes 14 = .ok (.getfield 7, 3) := by decide +kernel
theorem dX7_closes_17 : decode cX7_closes 17 = .ok (.if_icmp .ge 17, 3) := by decide +kernel
theorem dX7_closes_20 : decode cX7_closes 20 = .ok (.aload_n 0, 1) := by decide +kernel
theorem dX7_closes_21 : decode cX7_closes 21 = .ok (.iload_n 2, 1) := by decide +kernel
theorem dX7_closes_22 : decode cX7_closes 22 = .ok (.iload_n 2, 1) := by decide +kernel
theorem dX7_closes_23 : decode cX7_closes 23 = .ok (.iconst 1, 1) := by decide +kernel
theorem dX7_closes_24 : decode cX7_closes 24 = .ok (.iadd, 1) := by decide +kernel
theorem dX7_closes_25 : decode cX7_closes 25 = .ok (.invokevirtual 347, 3) := by decide +kernel
theorem dX7_closes_28 : decode cX7_closes 28 = .ok (.iinc 2 1, 3) := by decide +kernel
theorem dX7_closes_31 : decode cX7_closes 31 = .ok (.goto (-19), 3) := by decide +kernel
theorem dX7_closes_34 : decode cX7_closes 34 = .ok (.return_, 1) := by decide +kernel
theorem dX7_build_0 : decode cX7_build 0 = .ok (.aload_n 0, 1) := by decide +kernel
theorem dX7_build_1 : decode cX7_build 1 = .ok (.iload_n 1, 1) := by decide +kernel
theorem dX7_build_2 : decode cX7_build 2 = .ok (.iconst 0, 1) := by decide +kernel
theorem dX7_build_3 : decode cX7_build 3 = .ok (.bipush 6, 2) := by decide +kernel
theorem dX7_build_5 : decode cX7_build 5 = .ok (.invokevirtual 197, 3) := by decide +kernel
theorem dX7_build_8 : decode cX7_build 8 = .ok (.ifCond .eq 14, 3) := by decide +kernel
theorem dX7_build_11 : decode cX7_build 11 = .ok (.aload_n 0, 1) := by decide +kernel
theorem dX7_build_12 : decode cX7_build 12 = .ok (.iload 4, 2) := by decide +kernel
theorem dX7_build_14 : decode cX7_build 14 = .ok (.iconst 0, 1) := by decide +kernel
theorem dX7_build_15 : decode cX7_build 15 = .ok (.iconst 1, 1) := by decide +kernel
theorem dX7_build_16 : decode cX7_build 16 = .ok (.invokevirtual 197, 3) := by decide +kernel
theorem dX7_build_19 : decode cX7_build 19 = .ok (.ifCond .ne 5, 3) := by decide +kernel
theorem dX7_build_22 : decode cX7_build 22 = .ok (.iconst (-1), 1) := by decide +kernel
theorem dX7_build_23 : decode cX7_build 23 = .ok (.ireturn, 1) := by decide +kernel
theorem dX7_build_24 : decode cX7_build 24 = .ok (.aload_n 0, 1) := by decide +kernel
theorem dX7_build_25 : decode cX7_build 25 = .ok (.iload_n 2, 1) := by decide +kernel
theorem dX7_build_26 : decode cX7_build 26 = .ok (.iconst 0, 1) := by decide +kernel
theorem dX7_build_27 : decode cX7_build 27 = .ok (.bipush 9, 2) := by decide +kernel
theorem dX7_build_29 : decode cX7_build 29 = .ok (.invokevirtual 197, 3) := by decide +kernel
theorem dX7_build_32 : decode cX7_build 32 = .ok (.ifCond .eq 14, 3) := by decide +kernel
theorem dX7_build_35 : decode cX7_build 35 = .ok (.aload_n 0, 1) := by decide +kernel
theorem dX7_build_36 : decode cX7_build 36 = .ok (.iload_n 3, 1) := by decide +kernel
theorem dX7_build_37 : decode cX7_build 37 = .ok (.iconst 0, 1) := by decide +kernel
theorem dX7_build_38 : decode cX7_build 38 = .ok (.bipush 99, 2) := by decide +kernel
theorem dX7_build_40 : decode cX7_build 40 = .ok (.invokevirtual 197, 3) := by decide +kernel
theorem dX7_build_43 : decode cX7_build 43 = .ok (.ifCond .ne 6, 3) := by decide +kernel
theorem dX7_build_46 : decode cX7_build 46 = .ok (.bipush (-2), 2) := by decide +kernel
theorem dX7_build_48 : decode cX7_build 48 = .ok (.ireturn, 1) := by decide +kernel
theorem dX7_build_49 : decode cX7_build 49 = .ok (.aload_n 0, 1) := by decide +kernel
theorem dX7_build_50 : decode cX7_build 50 = .ok (.getfield 7, 3) := by decide +kernel
theorem dX7_build_53 : decode cX7_build 53 = .ok (.bipush 7, 2) := by decide +kernel
theorem dX7_build_55 : decode cX7_build 55 = .ok (.if_icmp .ne 6, 3) := by decide +kernel
theorem dX7_build_58 : decode cX7_build 58 = .ok (.bipush (-9), 2) := by decide +kernel
theorem dX7_build_60 : decode cX7_build 60 = .ok (.ireturn, 1) := by decide +kernel
theorem dX7_build_61 : decode cX7_build 61 = .ok (.iconst (-1), 1) := by decide +kernel
theorem dX7_build_62 : decode cX7_build 62 = .ok (.istore 5, 2) := by decide +kernel
theorem dX7_build_64 : decode cX7_build 64 = .ok (.iconst 0, 1) := by decide +kernel
theorem dX7_build_65 : decode cX7_build 65 = .ok (.istore 6, 2) := by decide +kernel
theorem dX7_build_67 : decode cX7_build 67 = .ok (.iconst 0, 1) := by decide +kernel
theorem dX7_build_68 : decode cX7_build 68 = .ok (.istore 7, 2) := by decide +kernel
theorem dX7_build_70 : decode cX7_build 70 = .ok (.iload 7, 2) := by decide +kernel
theorem dX7_build_72 : decode cX7_build 72 = .ok (.aload_n 0, 1) := by decide +kernel
theorem dX7_build_73 : decode cX7_build 73 = .ok (.getfield 7, 3) := by decide +kernel
theorem dX7_build_76 : decode cX7_build 76 = .ok (.if_icmp .gt 63, 3) := by decide +kernel
theorem dX7_build_79 : decode cX7_build 79 = .ok (.aload_n 0, 1) := by decide +kernel
theorem dX7_build_80 : decode cX7_build 80 = .ok (.iload 7, 2) := by decide +kernel
theorem dX7_build_82 : decode cX7_build 82 = .ok (.invokevirtual 350, 3) := by decide +kernel
theorem dX7_build_85 : decode cX7_build 85 = .ok (.aload_n 0, 1) := by decide +kernel
theorem dX7_build_86 : decode cX7_build 86 = .ok (.iload 7, 2) := by decide +kernel
theorem dX7_build_88 : decode cX7_build 88 = .ok (.iload_n 1, 1) := by decide +kernel
theorem dX7_build_89 : decode cX7_build 89 = .ok (.iload_n 2, 1) := by decide +kernel
theorem dX7_build_90 : decode cX7_build 90 = .ok (.iload_n 3, 1) := by decide +kernel
theorem dX7_build_91 : decode cX7_build 91 = .ok (.invokevirtual 201, 3) := by decide +kernel
theorem dX7_build_94 : decode cX7_build 94 = .ok (.aload_n 0, 1) := by decide +kernel
theorem dX7_build_95 : decode cX7_build 95 = .ok (.bipush 20, 2) := by decide +kernel
theorem dX7_build_97 : decode cX7_build 97 = .ok (.bipush 10, 2) := by decide +kernel
theorem dX7_build_99 : decode cX7_build 99 = .ok (.invokevirtual 325, 3) := by decide +kernel
theorem dX7_build_102 : decode cX7_build 102 = .ok (.istore 8, 2) := by decide +kernel
theorem dX7_build_104 : decode cX7_build 104 = .ok (.aload_n 0, 1) := by decide +kernel
theorem dX7_build_105 : decode cX7_build 105 = .ok (.iload 7, 2) := by decide +kernel
theorem dX7_build_107 : decode cX7_build 107 = .ok (.invokevirtual 353, 3) := by decide +kernel
theorem dX7_build_110 : decode cX7_build 110 = .ok (.iload 5, 2) := by decide +kernel
theorem dX7_build_112 : decode cX7_build 112 = .ok (.ifCond .lt 13, 3) := by decide +kernel
theorem dX7_build_115 : decode cX7_build 115 = .ok (.iload 8, 2) := by decide +kernel
theorem dX7_build_117 : decode cX7_build 117 = .ok (.iload 6, 2) := by decide +kernel
theorem dX7_build_119 : decode cX7_build 119 = .ok (.if_icmp .gt 6, 3) := by decide +kernel
theorem dX7_build_122 : decode cX7_build 122 = .ok (.goto 11, 3) := by decide +kernel
theorem dX7_build_125 : decode cX7_build 125 = .ok (.iload 7, 2) := by decide +kernel
theorem dX7_build_127 : decode cX7_build 127 = .ok (.istore 5, 2) := by decide +kernel
theorem dX7_build_129 : decode cX7_build 129 = .ok (.iload 8, 2) := by decide +kernel
theorem dX7_build_131 : decode cX7_build 131 = .ok (.istore 6, 2) := by decide +kernel
theorem dX7_build_133 : decode cX7_build 133 = .ok (.iinc 7 1, 3) := by decide +kernel
theorem dX7_build_136 : decode cX7_build 136 = .ok (.goto (-66), 3) := by decide +kernel
theorem dX7_build_139 : decode cX7_build 139 = .ok (.iload 4, 2) := by decide +kernel
theorem dX7_build_141 : decode cX7_build 141 = .ok (.ifCond .ne 8, 3) := by decide +kernel
theorem dX7_build_144 : decode cX7_build 144 = .ok (.iload 5, 2) := by decide +kernel
theorem dX7_build_146 : decode cX7_build 146 = .ok (.goto 5, 3) := by decide +kernel
theorem dX7_build_149 : decode cX7_build 149 = .ok (.iload 6, 2) := by decide +kernel
theorem dX7_build_151 : decode cX7_build 151 = .ok (.ireturn, 1) := by decide +kernel
theorem dX7_down_0 : decode cX7_down 0 = .ok (.aload_n 0, 1) := by decide +kernel
theorem dX7_down_1 : decode cX7_down 1 = .ok (.iload_n 1, 1) := by decide +kernel
theorem dX7_down_2 : decode cX7_down 2 = .ok (.iconst 0, 1) := by decide +kernel
theorem dX7_down_3 : decode cX7_down 3 = .ok (.iconst 1, 1) := by decide +kernel
theorem dX7_down_4 : decode cX7_down 4 = .ok (.invokevirtual 197, 3) := by decide +kernel
theorem dX7_down_7 : decode cX7_down 7 = .ok (.ifCond .ne 5, 3) := by decide +kernel
theorem dX7_down_10 : decode cX7_down 10 = .ok (.iconst (-1), 1) := by decide +kernel
theorem dX7_down_11 : decode cX7_down 11 = .ok (.ireturn, 1) := by decide +kernel
theorem dX7_down_12 : decode cX7_down 12 = .ok (.bipush (-5), 2) := by decide +kernel
theorem dX7_down_14 : decode cX7_down 14 = .ok (.istore_n 2, 1) := by decide +kernel
theorem dX7_down_15 : decode cX7_down 15 = .ok (.iconst 0, 1) := by decide +kernel
theorem dX7_down_16 : decode cX7_down 16 = .ok (.istore_n 3, 1) := by decide +kernel
theorem dX7_down_17 : decode cX7_down 17 = .ok (.iconst 0, 1) := by decide +kernel
theorem dX7_down_18 : decode cX7_down 18 = .ok (.istore 4, 2) := by decide +kernel
theorem dX7_down_20 : decode cX7_down 20 = .ok (.iload 4, 2) := by decide +kernel
theorem dX7_down_22 : decode cX7_down 22 = .ok (.aload_n 0, 1) := by decide +kernel
theorem dX7_down_23 : decode cX7_down 23 = .ok (.getfield 7, 3) := by decide +kernel
theorem dX7_down_26 : decode cX7_down 26 = .ok (.if_icmp .ge 58, 3) := by decide +kernel
theorem dX7_down_29 : decode cX7_down 29 = .ok (.aload_n 0, 1) := by decide +kernel
theorem dX7_down_30 : decode cX7_down 30 = .ok (.bipush 7, 2) := by decide +kernel
theorem dX7_down_32 : decode cX7_down 32 = .ok (.iload 4, 2) := by decide +kernel
theorem dX7_down_34 : decode cX7_down 34 = .ok (.invokevirtual 347, 3) := by decide +kernel
theorem dX7_down_37 : decode cX7_down 37 = .ok (.aload_n 0, 1) := by decide +kernel
theorem dX7_down_38 : decode cX7_down 38 = .ok (.iload 4, 2) := by decide +kernel
theorem dX7_down_40 : decode cX7_down 40 = .ok (.invokevirtual 353, 3) := by decide +kernel
theorem dX7_down_43 : decode cX7_down 43 = .ok (.aload_n 0, 1) := by decide +kernel
theorem dX7_down_44 : decode cX7_down 44 = .ok (.bipush 20, 2) := by decide +kernel
theorem dX7_down_46 : decode cX7_down 46 = .ok (.bipush 10, 2) := by decide +kernel
theorem dX7_down_48 : decode cX7_down 48 = .ok (.invokevirtual 325, 3) := by decide +kernel
theorem dX7_down_51 : decode cX7_down 51 = .ok (.istore 5, 2) := by decide +kernel
theorem dX7_down_53 : decode cX7_down 53 = .ok (.aload_n 0, 1) := by decide +kernel
theorem dX7_down_54 : decode cX7_down 54 = .ok (.iload 4, 2) := by decide +kernel
theorem dX7_down_56 : decode cX7_down 56 = .ok (.invokevirtual 356, 3) := by decide +kernel
theorem dX7_down_59 : decode cX7_down 59 = .ok (.iload_n 2, 1) := by decide +kernel
theorem dX7_down_60 : decode cX7_down 60 = .ok (.ifCond .lt 12, 3) := by decide +kernel
theorem dX7_down_63 : decode cX7_down 63 = .ok (.iload 5, 2) := by decide +kernel
theorem dX7_down_65 : decode cX7_down 65 = .ok (.iload_n 3, 1) := by decide +kernel
theorem dX7_down_66 : decode cX7_down 66 = .ok (.if_icmp .gt 6, 3) := by decide +kernel
theorem dX7_down_69 : decode cX7_down 69 = .ok (.goto 9, 3) := by decide +kernel
theorem dX7_down_72 : decode cX7_down 72 = .ok (.iload 4, 2) := by decide +kernel
theorem dX7_down_74 : decode cX7_down 74 = .ok (.istore_n 2, 1) := by decide +kernel
theorem dX7_down_75 : decode cX7_down 75 = .ok (.iload 5, 2) := by decide +kernel
theorem dX7_down_77 : decode cX7_down 77 = .ok (.istore_n 3, 1) := by decide +kernel
theorem dX7_down_78 : decode cX7_down 78 = .ok (.iinc 4 1, 3) := by decide +kernel
theorem dX7_down_81 : decode cX7_down 81 = .ok (.goto (-61), 3) := by decide +kernel
theorem dX7_down_84 : decode cX7_down 84 = .ok (.iload_n 2, 1) := by decide +kernel
theorem dX7_down_85 : decode cX7_down 85 = .ok (.ifCond .lt 7, 3) := by decide +kernel
theorem dX7_down_88 : decode cX7_down 88 = .ok (.iload_n 1, 1) := by decide +kernel
theorem dX7_down_89 : decode cX7_down 89 = .ok (.ifCond .ne 7, 3) := by decide +kernel
theorem dX7_down_92 : decode cX7_down 92 = .ok (.iload_n 2, 1) := by decide +kernel
theorem dX7_down_93 : decode cX7_down 93 = .ok (.goto 4, 3) := by decide +kernel
theorem dX7_down_96 : decode cX7_down 96 = .ok (.iload_n 3, 1) := by decide +kernel
theorem dX7_down_97 : decode cX7_down 97 = .ok (.ireturn, 1) := by decide +kernel
theorem dX7_opensWith_0 : decode cX7_opensWith 0 = .ok (.aload_n 0, 1) := by decide +kernel
theorem dX7_opensWith_1 : decode cX7_opensWith 1 = .ok (.iload_n 1, 1) := by decide +kernel
theorem dX7_opensWith_2 : decode cX7_opensWith 2 = .ok (.invokevirtual 350, 3) := by decide +kernel
theorem dX7_opensWith_5 : decode cX7_opensWith 5 = .ok (.aload_n 0, 1) := by decide +kernel
theorem dX7_opensWith_6 : decode cX7_opensWith 6 = .ok (.iload_n 1, 1) := by decide +kernel
theorem dX7_opensWith_7 : decode cX7_opensWith 7 = .ok (.bipush 7, 2) := by decide +kernel
theorem dX7_opensWith_9 : decode cX7_opensWith 9 = .ok (.invokevirtual 347, 3) := by decide +kernel
theorem dX7_opensWith_12 : decode cX7_opensWith 12 = .ok (.return_, 1) := by decide +kernel
theorem dX7_layValues_0 : decode cX7_layValues 0 = .ok (.aload_n 0, 1) := by decide +kernel
theorem dX7_layValues_1 : decode cX7_layValues 1 = .ok (.iconst 0, 1) := by decide +kernel
theorem dX7_layValues_2 : decode cX7_layValues 2 = .ok (.putfield 120, 3) := by decide +kernel
theorem dX7_layValues_5 : decode cX7_layValues 5 = .ok (.iconst 0, 1) := by decide +kernel
theorem dX7_layValues_6 : decode cX7_layValues 6 = .ok (.istore_n 1, 1) := by decide +kernel
theorem dX7_layValues_7 : decode cX7_layValues 7 = .ok (.iload_n 1, 1) := by decide +kernel
theorem dX7_layValues_8 : decode cX7_layValues 8 = .ok (.bipush 100, 2) := by decide +kernel
theorem dX7_layValues_10 : decode cX7_layValues 10 = .ok (.if_icmp .ge 74, 3) := by decide +kernel
theorem dX7_layValues_13 : decode cX7_layValues 13 = .ok (.iconst 0, 1) := by decide +kernel
theorem dX7_layValues_14 : decode cX7_layValues 14 = .ok (.istore_n 2, 1) := by decide +kernel
theorem dX7_layValues_15 : decode cX7_layValues 15 = .ok (.iconst 0, 1) := by decide +kernel
theorem dX7_layValues_16 : decode cX7_layValues 16 = .ok (.istore_n 3, 1) := by decide +kernel
theorem dX7_layValues_17 : decode cX7_layValues 17 = .ok (.iload_n 3, 1) := by decide +kernel
theorem dX7_layValues_18 : decode cX7_layValues 18 = .ok (.aload_n 0, 1) := by decide +kernel
theorem dX7_layValues_19 : decode cX7_layValues 19 = .ok (.getfield 7, 3) := by decide +kernel
theorem dX7_layValues_22 : decode cX7_layValues 22 = .ok (.if_icmp .ge 29, 3) := by decide +kernel
theorem dX7_layValues_25 : decode cX7_layValues 25 = .ok (.iload_n 2, 1) := by decide +kernel
theorem dX7_layValues_26 : decode cX7_layValues 26 = .ok (.ifCond .ne 13, 3) := by decide +kernel
theorem dX7_layValues_29 : decode cX7_layValues 29 = .ok (.aload_n 0, 1) := by decide +kernel
theorem dX7_layValues_30 : decode cX7_layValues 30 = .ok (.getfield 23, 3) := by decide +kernel
theorem dX7_layValues_33 : decode cX7_layValues 33 = .ok (.iload_n 3, 1) := by decide +kernel
theorem dX7_layValues_34 : decode cX7_layValues 34 = .ok (.iaload, 1) := by decide +kernel
theorem dX7_layValues_35 : decode cX7_layValues 35 = .ok (.iload_n 1, 1) := by decide +kernel
theorem dX7_layValues_36 : decode cX7_layValues 36 = .ok (.if_icmp .ne 7, 3) := by decide +kernel
theorem dX7_layValues_39 : decode cX7_layValues 39 = .ok (.iconst 1, 1) := by decide +kernel
theorem dX7_layValues_40 : decode cX7_layValues 40 = .ok (.goto 4, 3) := by decide +kernel
theorem dX7_layValues_43 : decode cX7_layValues 43 = .ok (.iconst 0, 1) := by decide +kernel
theorem dX7_layValues_44 : decode cX7_layValues 44 = .ok (.istore_n 2, 1) := by decide +kernel
theorem dX7_layValues_45 : decode cX7_layValues 45 = .ok (.iinc 3 1, 3) := by decide +kernel
theorem dX7_layValues_48 : decode cX7_layValues 48 = .ok (.goto (-31), 3) := by decide +kernel
theorem dX7_layValues_51 : decode cX7_layValues 51 = .ok (.iload_n 2, 1) := by decide +kernel
theorem dX7_layValues_52 : decode cX7_layValues 52 = .ok (.ifCond .ne 6, 3) := by decide +kernel
theorem dX7_layValues_55 : decode cX7_layValues 55 = .ok (.goto 23, 3) := by decide +kernel
theorem dX7_layValues_58 : decode cX7_layValues 58 = .ok (.aload_n 0, 1) := by decide +kernel
theorem dX7_layValues_59 : decode cX7_layValues 59 = .ok (.getfield 108, 3) := by decide +kernel
theorem dX7_layValues_62 : decode cX7_layValues 62 = .ok (.aload_n 0, 1) := by decide +kernel
theorem dX7_layValues_63 : decode cX7_layValues 63 = .ok (.getfield 120, 3) := by decide +kernel
theorem dX7_layValues_66 : decode cX7_layValues 66 = .ok (.iload_n 1, 1) := by decide +kernel
theorem dX7_layValues_67 : decode cX7_layValues 67 = .ok (.iastore, 1) := by decide +kernel
theorem dX7_layValues_68 : decode cX7_layValues 68 = .ok (.aload_n 0, 1) := by decide +kernel
theorem dX7_layValues_69 : decode cX7_layValues 69 = .ok (.dup, 1) := by decide +kernel
theorem dX7_layValues_70 : decode cX7_layValues 70 = .ok (.getfield 120, 3) := by decide +kernel
theorem dX7_layValues_73 : decode cX7_layValues 73 = .ok (.iconst 1, 1) := by decide +kernel
theorem dX7_layValues_74 : decode cX7_layValues 74 = .ok (.iadd, 1) := by decide +kernel
theorem dX7_layValues_75 : decode cX7_layValues 75 = .ok (.putfield 120, 3) := by decide +kernel
theorem dX7_layValues_78 : decode cX7_layValues 78 = .ok (.iinc 1 1, 3) := by decide +kernel
theorem dX7_layValues_81 : decode cX7_layValues 81 = .ok (.goto (-74), 3) := by decide +kernel
theorem dX7_layValues_84 : decode cX7_layValues 84 = .ok (.return_, 1) := by decide +kernel
theorem dX7_nextRow_0 : decode cX7_nextRow 0 = .ok (.aload_n 0, 1) := by decide +kernel
theorem dX7_nextRow_1 : decode cX7_nextRow 1 = .ok (.getfield 7, 3) := by decide +kernel
theorem dX7_nextRow_4 : decode cX7_nextRow 4 = .ok (.iconst 1, 1) := by decide +kernel
theorem dX7_nextRow_5 : decode cX7_nextRow 5 = .ok (.isub, 1) := by decide +kernel
theorem dX7_nextRow_6 : decode cX7_nextRow 6 = .ok (.istore_n 1, 1) := by decide +kernel
theorem dX7_nextRow_7 : decode cX7_nextRow 7 = .ok (.iload_n 1, 1) := by decide +kernel
theorem dX7_nextRow_8 : decode cX7_nextRow 8 = .ok (.ifCond .lt 41, 3) := by decide +kernel
theorem dX7_nextRow_11 : decode cX7_nextRow 11 = .ok (.aload_n 0, 1) := by decide +kernel
theorem dX7_nextRow_12 : decode cX7_nextRow 12 = .ok (.getfield 117, 3) := by decide +kernel
theorem dX7_nextRow_15 : decode cX7_nextRow 15 = .ok (.iload_n 1, 1) := by decide +kernel
theorem dX7_nextRow_16 : decode cX7_nextRow 16 = .ok (.dup2, 1) := by decide +kernel
theorem dX7_nextRow_17 : decode cX7_nextRow 17 = .ok (.iaload, 1) := by decide +kernel
theorem dX7_nextRow_18 : decode cX7_nextRow 18 = .ok (.iconst 1, 1) := by decide +kernel
theorem dX7_nextRow_19 : decode cX7_nextRow 19 = .ok (.iadd, 1) := by decide +kernel
theorem dX7_nextRow_20 : decode cX7_nextRow 20 = .ok (.iastore, 1) := by decide +kernel
theorem dX7_nextRow_21 : decode cX7_nextRow 21 = .ok (.aload_n 0, 1) := by decide +kernel
theorem dX7_nextRow_22 : decode cX7_nextRow 22 = .ok (.getfield 117, 3) := by decide +kernel
theorem dX7_nextRow_25 : decode cX7_nextRow 25 = .ok (.iload_n 1, 1) := by decide +kernel
theorem dX7_nextRow_26 : decode cX7_nextRow 26 = .ok (.iaload, 1) := by decide +kernel
theorem dX7_nextRow_27 : decode cX7_nextRow 27 = .ok (.aload_n 0, 1) := by decide +kernel
theorem dX7_nextRow_28 : decode cX7_nextRow 28 = .ok (.getfield 120, 3) := by decide +kernel
theorem dX7_nextRow_31 : decode cX7_nextRow 31 = .ok (.if_icmp .ge 5, 3) := by decide +kernel
theorem dX7_nextRow_34 : decode cX7_nextRow 34 = .ok (.iconst 1, 1) := by decide +kernel
theorem dX7_nextRow_35 : decode cX7_nextRow 35 = .ok (.ireturn, 1) := by decide +kernel
theorem dX7_nextRow_36 : decode cX7_nextRow 36 = .ok (.aload_n 0, 1) := by decide +kernel
theorem dX7_nextRow_37 : decode cX7_nextRow 37 = .ok (.getfield 117, 3) := by decide +kernel
theorem dX7_nextRow_40 : decode cX7_nextRow 40 = .ok (.iload_n 1, 1) := by decide +kernel
theorem dX7_nextRow_41 : decode cX7_nextRow 41 = .ok (.iconst 0, 1) := by decide +kernel
theorem dX7_nextRow_42 : decode cX7_nextRow 42 = .ok (.iastore, 1) := by decide +kernel
theorem dX7_nextRow_43 : decode cX7_nextRow 43 = .ok (.iinc 1 (-1), 3) := by decide +kernel
theorem dX7_nextRow_46 : decode cX7_nextRow 46 = .ok (.goto (-39), 3) := by decide +kernel
theorem dX7_nextRow_49 : decode cX7_nextRow 49 = .ok (.iconst 0, 1) := by decide +kernel
theorem dX7_nextRow_50 : decode cX7_nextRow 50 = .ok (.ireturn, 1) := by decide +kernel
theorem dX7_bringsNow_0 : decode cX7_bringsNow 0 = .ok (.iconst 0, 1) := by decide +kernel
theorem dX7_bringsNow_1 : decode cX7_bringsNow 1 = .ok (.istore_n 1, 1) := by decide +kernel
theorem dX7_bringsNow_2 : decode cX7_bringsNow 2 = .ok (.iload_n 1, 1) := by decide +kernel
theorem dX7_bringsNow_3 : decode cX7_bringsNow 3 = .ok (.aload_n 0, 1) := by decide +kernel
theorem dX7_bringsNow_4 : decode cX7_bringsNow 4 = .ok (.getfield 7, 3) := by decide +kernel
theorem dX7_bringsNow_7 : decode cX7_bringsNow 7 = .ok (.if_icmp .ge 26, 3) := by decide +kernel
theorem dX7_bringsNow_10 : decode cX7_bringsNow 10 = .ok (.aload_n 0, 1) := by decide +kernel
theorem dX7_bringsNow_11 : decode cX7_bringsNow 11 = .ok (.getfield 23, 3) := by decide +kernel
theorem dX7_bringsNow_14 : decode cX7_bringsNow 14 = .ok (.iload_n 1, 1) := by decide +kernel
theorem dX7_bringsNow_15 : decode cX7_bringsNow 15 = .ok (.aload_n 0, 1) := by decide +kernel
theorem dX7_bringsNow_16 : decode cX7_bringsNow 16 = .ok (.getfield 108, 3) := by decide +kernel
theorem dX7_bringsNow_19 : decode cX7_bringsNow 19 = .ok (.aload_n 0, 1) := by decide +kernel
theorem dX7_bringsNow_20 : decode cX7_bringsNow 20 = .ok (.getfield 117, 3) := by decide +kernel
theorem dX7_bringsNow_23 : decode cX7_bringsNow 23 = .ok (.iload_n 1, 1) := by decide +kernel
theorem dX7_bringsNow_24 : decode cX7_bringsNow 24 = .ok (.iaload, 1) := by decide +kernel
theorem dX7_bringsNow_25 : decode cX7_bringsNow 25 = .ok (.iaload, 1) := by decide +kernel
theorem dX7_bringsNow_26 : decode cX7_bringsNow 26 = .ok (.iastore, 1) := by decide +kernel
theorem dX7_bringsNow_27 : decode cX7_bringsNow 27 = .ok (.iinc 1 1, 3) := by decide +kernel
theorem dX7_bringsNow_30 : decode cX7_bringsNow 30 = .ok (.goto (-28), 3) := by decide +kernel
theorem dX7_bringsNow_33 : decode cX7_bringsNow 33 = .ok (.aload_n 0, 1) := by decide +kernel
theorem dX7_bringsNow_34 : decode cX7_bringsNow 34 = .ok (.invokevirtual 313, 3) := by decide +kernel
theorem dX7_bringsNow_37 : decode cX7_bringsNow 37 = .ok (.iconst 0, 1) := by decide +kernel
theorem dX7_bringsNow_38 : decode cX7_bringsNow 38 = .ok (.istore_n 1, 1) := by decide +kernel
theorem dX7_bringsNow_39 : decode cX7_bringsNow 39 = .ok (.iload_n 1, 1) := by decide +kernel
theorem dX7_bringsNow_40 : decode cX7_bringsNow 40 = .ok (.aload_n 0, 1) := by decide +kernel
theorem dX7_bringsNow_41 : decode cX7_bringsNow 41 = .ok (.getfield 7, 3) := by decide +kernel
theorem dX7_bringsNow_44 : decode cX7_bringsNow 44 = .ok (.if_icmp .ge 26, 3) := by decide +kernel
theorem dX7_bringsNow_47 : decode cX7_bringsNow 47 = .ok (.aload_n 0, 1) := by decide +kernel
theorem dX7_bringsNow_48 : decode cX7_bringsNow 48 = .ok (.getfield 93, 3) := by decide +kernel
theorem dX7_bringsNow_51 : decode cX7_bringsNow 51 = .ok (.iload_n 1, 1) := by decide +kernel
theorem dX7_bringsNow_52 : decode cX7_bringsNow 52 = .ok (.iaload, 1) := by decide +kernel
theorem dX7_bringsNow_53 : decode cX7_bringsNow 53 = .ok (.aload_n 0, 1) := by decide +kernel
theorem dX7_bringsNow_54 : decode cX7_bringsNow 54 = .ok (.getfield 111, 3) := by decide +kernel
theorem dX7_bringsNow_57 : decode cX7_bringsNow 57 = .ok (.iload_n 1, 1) := by decide +kernel
theorem dX7_bringsNow_58 : decode cX7_bringsNow 58 = .ok (.iaload, 1) := by decide +kernel
theorem dX7_bringsNow_59 : decode cX7_bringsNow 59 = .ok (.if_icmp .eq 5, 3) := by decide +kernel
theorem dX7_bringsNow_62 : decode cX7_bringsNow 62 = .ok (.iconst 0, 1) := by decide +kernel
theorem dX7_bringsNow_63 : decode cX7_bringsNow 63 = .ok (.ireturn, 1) := by decide +kernel
theorem dX7_bringsNow_64 : decode cX7_bringsNow 64 = .ok (.iinc 1 1, 3) := by decide +kernel
theorem dX7_bringsNow_67 : decode cX7_bringsNow 67 = .ok (.goto (-28), 3) := by decide +kernel
theorem dX7_bringsNow_70 : decode cX7_bringsNow 70 = .ok (.iconst 1, 1) := by decide +kernel
theorem dX7_bringsNow_71 : decode cX7_bringsNow 71 = .ok (.ireturn, 1) := by decide +kernel
theorem dX7_before_0 : decode cX7_before 0 = .ok (.iload_n 1, 1) := by decide +kernel
theorem dX7_before_1 : decode cX7_before 1 = .ok (.iconst (-1), 1) := by decide +kernel
theorem dX7_before_2 : decode cX7_before 2 = .ok (.if_icmp .eq 13, 3) := by decide +kernel
theorem dX7_before_5 : decode cX7_before 5 = .ok (.aload_n 0, 1) := by decide +kernel
theorem dX7_before_6 : decode cX7_before 6 = .ok (.iload_n 1, 1) := by decide +kernel
theorem dX7_before_7 : decode cX7_before 7 = .ok (.invokevirtual 205, 3) := by decide +kernel
theorem dX7_before_10 : decode cX7_before 10 = .ok (.ifCond .ne 5, 3) := by decide +kernel
theorem dX7_before_13 : decode cX7_before 13 = .ok (.iconst (-1), 1) := by decide +kernel
theorem dX7_before_14 : decode cX7_before 14 = .ok (.ireturn, 1) := by decide +kernel
theorem dX7_before_15 : decode cX7_before 15 = .ok (.aload_n 0, 1) := by decide +kernel
theorem dX7_before_16 : decode cX7_before 16 = .ok (.getfield 7, 3) := by decide +kernel
theorem dX7_before_19 : decode cX7_before 19 = .ok (.iconst 4, 1) := by decide +kernel
theorem dX7_before_20 : decode cX7_before 20 = .ok (.if_icmp .le 6, 3) := by decide +kernel
theorem dX7_before_23 : decode cX7_before 23 = .ok (.bipush (-9), 2) := by decide +kernel
theorem dX7_before_25 : decode cX7_before 25 = .ok (.ireturn, 1) := by decide +kernel
theorem dX7_before_26 : decode cX7_before 26 = .ok (.aload_n 0, 1) := by decide +kernel
theorem dX7_before_27 : decode cX7_before 27 = .ok (.getfield 13, 3) := by decide +kernel
theorem dX7_before_30 : decode cX7_before 30 = .ok (.ifCond .ne 6, 3) := by decide +kernel
theorem dX7_before_33 : decode cX7_before 33 = .ok (.bipush (-8), 2) := by decide +kernel
theorem dX7_before_35 : decode cX7_before 35 = .ok (.ireturn, 1) := by decide +kernel
theorem dX7_before_36 : decode cX7_before 36 = .ok (.aload_n 0, 1) := by decide +kernel
theorem dX7_before_37 : decode cX7_before 37 = .ok (.invokevirtual 359, 3) := by decide +kernel
theorem dX7_before_40 : decode cX7_before 40 = .ok (.aload_n 0, 1) := by decide +kernel
theorem dX7_before_41 : decode cX7_before 41 = .ok (.invokevirtual 328, 3) := by decide +kernel
theorem dX7_before_44 : decode cX7_before 44 = .ok (.iconst 0, 1) := by decide +kernel
theorem dX7_before_45 : decode cX7_before 45 = .ok (.istore_n 2, 1) := by decide +kernel
theorem dX7_before_46 : decode cX7_before 46 = .ok (.iload_n 2, 1) := by decide +kernel
theorem dX7_before_47 : decode cX7_before 47 = .ok (.bipush 8, 2) := by decide +kernel
theorem dX7_before_49 : decode cX7_before 49 = .ok (.if_icmp .ge 28, 3) := by decide +kernel
theorem dX7_before_52 : decode cX7_before 52 = .ok (.aload_n 0, 1) := by decide +kernel
theorem dX7_before_53 : decode cX7_before 53 = .ok (.getfield 111, 3) := by decide +kernel
theorem dX7_before_56 : decode cX7_before 56 = .ok (.iload_n 2, 1) := by decide +kernel
theorem dX7_before_57 : decode cX7_before 57 = .ok (.aload_n 0, 1) := by decide +kernel
theorem dX7_before_58 : decode cX7_before 58 = .ok (.getfield 23, 3) := by decide +kernel
theorem dX7_before_61 : decode cX7_before 61 = .ok (.iload_n 2, 1) := by decide +kernel
theorem dX7_before_62 : decode cX7_before 62 = .ok (.iaload, 1) := by decide +kernel
theorem dX7_before_63 : decode cX7_before 63 = .ok (.iastore, 1) := by decide +kernel
theorem dX7_before_64 : decode cX7_before 64 = .ok (.aload_n 0, 1) := by decide +kernel
theorem dX7_before_65 : decode cX7_before 65 = .ok (.getfield 117, 3) := by decide +kernel
theorem dX7_before_68 : decode cX7_before 68 = .ok (.iload_n 2, 1) := by decide +kernel
theorem dX7_before_69 : decode cX7_before 69 = .ok (.iconst 0, 1) := by decide +kernel
theorem dX7_before_70 : decode cX7_before 70 = .ok (.iastore, 1) := by decide +kernel
theorem dX7_before_71 : decode cX7_before 71 = .ok (.iinc 2 1, 3) := by decide +kernel
theorem dX7_before_74 : decode cX7_before 74 = .ok (.goto (-28), 3) := by decide +kernel
theorem dX7_before_77 : decode cX7_before 77 = .ok (.aload_n 0, 1) := by decide +kernel
theorem dX7_before_78 : decode cX7_before 78 = .ok (.dup, 1) := by decide +kernel
theorem dX7_before_79 : decode cX7_before 79 = .ok (.getfield 13, 3) := by decide +kernel
theorem dX7_before_82 : decode cX7_before 82 = .ok (.iconst 1, 1) := by decide +kernel
theorem dX7_before_83 : decode cX7_before 83 = .ok (.isub, 1) := by decide +kernel
theorem dX7_before_84 : decode cX7_before 84 = .ok (.putfield 13, 3) := by decide +kernel
theorem dX7_before_87 : decode cX7_before 87 = .ok (.iconst 0, 1) := by decide +kernel
theorem dX7_before_88 : decode cX7_before 88 = .ok (.istore_n 2, 1) := by decide +kernel
theorem dX7_before_89 : decode cX7_before 89 = .ok (.iconst 1, 1) := by decide +kernel
theorem dX7_before_90 : decode cX7_before 90 = .ok (.istore_n 3, 1) := by decide +kernel
theorem dX7_before_91 : decode cX7_before 91 = .ok (.iload_n 3, 1) := by decide +kernel
theorem dX7_before_92 : decode cX7_before 92 = .ok (.ifCond .eq 57, 3) := by decide +kernel
theorem dX7_before_95 : decode cX7_before 95 = .ok (.aload_n 0, 1) := by decide +kernel
theorem dX7_before_96 : decode cX7_before 96 = .ok (.invokevirtual 362, 3) := by decide +kernel
theorem dX7_before_99 : decode cX7_before 99 = .ok (.ifCond .eq 42, 3) := by decide +kernel
theorem dX7_before_102 : decode cX7_before 102 = .ok (.iconst 0, 1) := by decide +kernel
theorem dX7_before_103 : decode cX7_before 103 = .ok (.istore 4, 2) := by decide +kernel
theorem dX7_before_105 : decode cX7_before 105 = .ok (.iload 4, 2) := by decide +kernel
theorem dX7_before_107 : decode cX7_before 107 = .ok (.aload_n 0, 1) := by decide +kernel
theorem dX7_before_108 : decode cX7_before 108 = .ok (.getfield 7, 3) := by decide +kernel
theorem dX7_before_111 : decode cX7_before 111 = .ok (.if_icmp .ge 27, 3) := by decide +kernel
theorem dX7_before_114 : decode cX7_before 114 = .ok (.iload_n 2, 1) := by decide +kernel
theorem dX7_before_115 : decode cX7_before 115 = .ok (.ifCond .ne 23, 3) := by decide +kernel
theorem dX7_before_118 : decode cX7_before 118 = .ok (.aload_n 0, 1) := by decide +kernel
theorem dX7_before_119 : decode cX7_before 119 = .ok (.getfield 114, 3) := by decide +kernel
theorem dX7_before_122 : decode cX7_before 122 = .ok (.iload 4, 2) := by decide +kernel
theorem dX7_before_124 : decode cX7_before 124 = .ok (.aload_n 0, 1) := by decide +kernel
theorem dX7_before_125 : decode cX7_before 125 = .ok (.getfield 23, 3) := by decide +kernel
theorem dX7_before_128 : decode cX7_before 128 = .ok (.iload 4, 2) := by decide +kernel
theorem dX7_before_130 : decode cX7_before 130 = .ok (.iaload, 1) := by decide +kernel
theorem dX7_before_131 : decode cX7_before 131 = .ok (.iastore, 1) := by decide +kernel
theorem dX7_before_132 : decode cX7_before 132 = .ok (.iinc 4 1, 3) := by decide +kernel
theorem dX7_before_135 : decode cX7_before 135 = .ok (.goto (-30), 3) := by decide +kernel
theorem dX7_before_138 : decode cX7_before 138 = .ok (.iinc 2 1, 3) := by decide +kernel
theorem dX7_before_141 : decode cX7_before 141 = .ok (.aload_n 0, 1) := by decide +kernel
theorem dX7_before_142 : decode cX7_before 142 = .ok (.invokevirtual 365, 3) := by decide +kernel
theorem dX7_before_145 : decode cX7_before 145 = .ok (.istore_n 3, 1) := by decide +kernel
theorem dX7_before_146 : decode cX7_before 146 = .ok (.goto (-55), 3) := by decide +kernel
theorem dX7_before_149 : decode cX7_before 149 = .ok (.aload_n 0, 1) := by decide +kernel
theorem dX7_before_150 : decode cX7_before 150 = .ok (.invokevirtual 334, 3) := by decide +kernel
theorem dX7_before_153 : decode cX7_before 153 = .ok (.iload_n 1, 1) := by decide +kernel
theorem dX7_before_154 : decode cX7_before 154 = .ok (.ifCond .ge 7, 3) := by decide +kernel
theorem dX7_before_157 : decode cX7_before 157 = .ok (.iload_n 2, 1) := by decide +kernel
theorem dX7_before_158 : decode cX7_before 158 = .ok (.goto 18, 3) := by decide +kernel
theorem dX7_before_161 : decode cX7_before 161 = .ok (.iload_n 2, 1) := by decide +kernel
theorem dX7_before_162 : decode cX7_before 162 = .ok (.ifCond .ne 8, 3) := by decide +kernel
theorem dX7_before_165 : decode cX7_before 165 = .ok (.bipush (-5), 2) := by decide +kernel
theorem dX7_before_167 : decode cX7_before 167 = .ok (.goto 9, 3) := by decide +kernel
theorem dX7_before_170 : decode cX7_before 170 = .ok (.aload_n 0, 1) := by decide +kernel
theorem dX7_before_171 : decode cX7_before 171 = .ok (.getfield 114, 3) := by decide +kernel
theorem dX7_before_174 : decode cX7_before 174 = .ok (.iload_n 1, 1) := by decide +kernel
theorem dX7_before_175 : decode cX7_before 175 = .ok (.iaload, 1) := by decide +kernel
theorem dX7_before_176 : decode cX7_before 176 = .ok (.ireturn, 1) := by decide +kernel
theorem dX7_see_0 : decode cX7_see 0 = .ok (.iload_n 1, 1) := by decide +kernel
theorem dX7_see_1 : decode cX7_see 1 = .ok (.iconst (-1), 1) := by decide +kernel
theorem dX7_see_2 : decode cX7_see 2 = .ok (.if_icmp .ne 10, 3) := by decide +kernel
theorem dX7_see_5 : decode cX7_see 5 = .ok (.aload_n 0, 1) := by decide +kernel
theorem dX7_see_6 : decode cX7_see 6 = .ok (.iconst 0, 1) := by decide +kernel
theorem dX7_see_7 : decode cX7_see 7 = .ok (.putfield 123, 3) := by decide +kernel
theorem dX7_see_10 : decode cX7_see 10 = .ok (.iconst 0, 1) := by decide +kernel
theorem dX7_see_11 : decode cX7_see 11 = .ok (.ireturn, 1) := by decide +kernel
theorem dX7_see_12 : decode cX7_see 12 = .ok (.aload_n 0, 1) := by decide +kernel
theorem dX7_see_13 : decode cX7_see 13 = .ok (.iload_n 1, 1) := by decide +kernel
theorem dX7_see_14 : decode cX7_see 14 = .ok (.invokevirtual 205, 3) := by decide +kernel
theorem dX7_see_17 : decode cX7_see 17 = .ok (.ifCond .ne 5, 3) := by decide +kernel
theorem dX7_see_20 : decode cX7_see 20 = .ok (.iconst (-1), 1) := by decide +kernel
theorem dX7_see_21 : decode cX7_see 21 = .ok (.ireturn, 1) := by decide +kernel
theorem dX7_see_22 : decode cX7_see 22 = .ok (.aload_n 0, 1) := by decide +kernel
theorem dX7_see_23 : decode cX7_see 23 = .ok (.iload_n 2, 1) := by decide +kernel
theorem dX7_see_24 : decode cX7_see 24 = .ok (.iconst 0, 1) := by decide +kernel
theorem dX7_see_25 : decode cX7_see 25 = .ok (.bipush 99, 2) := by decide +kernel
theorem dX7_see_27 : decode cX7_see 27 = .ok (.invokevirtual 197, 3) := by decide +kernel
theorem dX7_see_30 : decode cX7_see 30 = .ok (.ifCond .ne 6, 3) := by decide +kernel
theorem dX7_see_33 : decode cX7_see 33 = .ok (.bipush (-2), 2) := by decide +kernel
theorem dX7_see_35 : decode cX7_see 35 = .ok (.ireturn, 1) := by decide +kernel
theorem dX7_see_36 : decode cX7_see 36 = .ok (.aload_n 0, 1) := by decide +kernel
theorem dX7_see_37 : decode cX7_see 37 = .ok (.getfield 123, 3) := by decide +kernel
theorem dX7_see_40 : decode cX7_see 40 = .ok (.bipush 8, 2) := by decide +kernel
theorem dX7_see_42 : decode cX7_see 42 = .ok (.if_icmp .ne 6, 3) := by decide +kernel
theorem dX7_see_45 : decode cX7_see 45 = .ok (.bipush (-4), 2) := by decide +kernel
theorem dX7_see_47 : decode cX7_see 47 = .ok (.ireturn, 1) := by decide +kernel
theorem dX7_see_48 : decode cX7_see 48 = .ok (.aload_n 0, 1) := by decide +kernel
theorem dX7_see_49 : decode cX7_see 49 = .ok (.getfield 126, 3) := by decide +kernel
theorem dX7_see_52 : decode cX7_see 52 = .ok (.aload_n 0, 1) := by decide +kernel
theorem dX7_see_53 : decode cX7_see 53 = .ok (.getfield 123, 3) := by decide +kernel
theorem dX7_see_56 : decode cX7_see 56 = .ok (.iload_n 1, 1) := by decide +kernel
theorem dX7_see_57 : decode cX7_see 57 = .ok (.iastore, 1) := by decide +kernel
theorem dX7_see_58 : decode cX7_see 58 = .ok (.aload_n 0, 1) := by decide +kernel
theorem dX7_see_59 : decode cX7_see 59 = .ok (.getfield 129, 3) := by decide +kernel
theorem dX7_see_62 : decode cX7_see 62 = .ok (.aload_n 0, 1) := by decide +kernel
theorem dX7_see_63 : decode cX7_see 63 = .ok (.getfield 123, 3) := by decide +kernel
theorem dX7_see_66 : decode cX7_see 66 = .ok (.iload_n 2, 1) := by decide +kernel
theorem dX7_see_67 : decode cX7_see 67 = .ok (.iastore, 1) := by decide +kernel
theorem dX7_see_68 : decode cX7_see 68 = .ok (.aload_n 0, 1) := by decide +kernel
theorem dX7_see_69 : decode cX7_see 69 = .ok (.dup, 1) := by decide +kernel
theorem dX7_see_70 : decode cX7_see 70 = .ok (.getfield 123, 3) := by decide +kernel
theorem dX7_see_73 : decode cX7_see 73 = .ok (.iconst 1, 1) := by decide +kernel
theorem dX7_see_74 : decode cX7_see 74 = .ok (.iadd, 1) := by decide +kernel
theorem dX7_see_75 : decode cX7_see 75 = .ok (.putfield 123, 3) := by decide +kernel
theorem dX7_see_78 : decode cX7_see 78 = .ok (.aload_n 0, 1) := by decide +kernel
theorem dX7_see_79 : decode cX7_see 79 = .ok (.getfield 123, 3) := by decide +kernel
theorem dX7_see_82 : decode cX7_see 82 = .ok (.ireturn, 1) := by decide +kernel
theorem dX7_isSeen_0 : decode cX7_isSeen 0 = .ok (.aload_n 0, 1) := by decide +kernel
theorem dX7_isSeen_1 : decode cX7_isSeen 1 = .ok (.iload_n 1, 1) := by decide +kernel
theorem dX7_isSeen_2 : decode cX7_isSeen 2 = .ok (.putfield 84, 3) := by decide +kernel
theorem dX7_isSeen_5 : decode cX7_isSeen 5 = .ok (.aload_n 0, 1) := by decide +kernel
theorem dX7_isSeen_6 : decode cX7_isSeen 6 = .ok (.invokevirtual 313, 3) := by decide +kernel
theorem dX7_isSeen_9 : decode cX7_isSeen 9 = .ok (.aload_n 0, 1) := by decide +kernel
theorem dX7_isSeen_10 : decode cX7_isSeen 10 = .ok (.iconst (-1), 1) := by decide +kernel
theorem dX7_isSeen_11 : decode cX7_isSeen 11 = .ok (.putfield 84, 3) := by decide +kernel
theorem dX7_isSeen_14 : decode cX7_isSeen 14 = .ok (.iconst 0, 1) := by decide +kernel
theorem dX7_isSeen_15 : decode cX7_isSeen 15 = .ok (.istore_n 2, 1) := by decide +kernel
theorem dX7_isSeen_16 : decode cX7_isSeen 16 = .ok (.iload_n 2, 1) := by decide +kernel
theorem dX7_isSeen_17 : decode cX7_isSeen 17 = .ok (.aload_n 0, 1) := by decide +kernel
theorem dX7_isSeen_18 : decode cX7_isSeen 18 = .ok (.getfield 123, 3) := by decide +kernel
theorem dX7_isSeen_21 : decode cX7_isSeen 21 = .ok (.if_icmp .ge 31, 3) := by decide +kernel
theorem dX7_isSeen_24 : decode cX7_isSeen 24 = .ok (.aload_n 0, 1) := by decide +kernel
theorem dX7_isSeen_25 : decode cX7_isSeen 25 = .ok (.getfield 93, 3) := by decide +kernel
theorem dX7_isSeen_28 : decode cX7_isSeen 28 = .ok (.aload_n 0, 1) := by decide +kernel
theorem dX7_isSeen_29 : decode cX7_isSeen 29 = .ok (.getfield 126, 3) := by decide +kernel
theorem dX7_isSeen_32 : decode cX7_isSeen 32 = .ok (.iload_n 2, 1) := by decide +kernel
theorem dX7_isSeen_33 : decode cX7_isSeen 33 = .ok (.iaload, 1) := by decide +kernel
theorem dX7_isSeen_34 : decode cX7_isSeen 34 = .ok (.iaload, 1) := by decide +kernel
theorem dX7_isSeen_35 : decode cX7_isSeen 35 = .ok (.aload_n 0, 1) := by decide +kernel
theorem dX7_isSeen_36 : decode cX7_isSeen 36 = .ok (.getfield 129, 3) := by decide +kernel
theorem dX7_isSeen_39 : decode cX7_isSeen 39 = .ok (.iload_n 2, 1) := by decide +kernel
theorem dX7_isSeen_40 : decode cX7_isSeen 40 = .ok (.iaload, 1) := by decide +kernel
theorem dX7_isSeen_41 : decode cX7_isSeen 41 = .ok (.if_icmp .eq 5, 3) := by decide +kernel
theorem dX7_isSeen_44 : decode cX7_isSeen 44 = .ok (.iconst 0, 1) := by decide +kernel
theorem dX7_isSeen_45 : decode cX7_isSeen 45 = .ok (.ireturn, 1) := by decide +kernel
theorem dX7_isSeen_46 : decode cX7_isSeen 46 = .ok (.iinc 2 1, 3) := by decide +kernel
theorem dX7_isSeen_49 : decode cX7_isSeen 49 = .ok (.goto (-33), 3) := by decide +kernel
theorem dX7_isSeen_52 : decode cX7_isSeen 52 = .ok (.iconst 1, 1) := by decide +kernel
theorem dX7_isSeen_53 : decode cX7_isSeen 53 = .ok (.ireturn, 1) := by decide +kernel
theorem dX7_lied_0 : decode cX7_lied 0 = .ok (.aload_n 0, 1) := by decide +kernel
theorem dX7_lied_1 : decode cX7_lied 1 = .ok (.iload_n 1, 1) := by decide +kernel
theorem dX7_lied_2 : decode cX7_lied 2 = .ok (.iconst 0, 1) := by decide +kernel
theorem dX7_lied_3 : decode cX7_lied 3 = .ok (.iconst 1, 1) := by decide +kernel
theorem dX7_lied_4 : decode cX7_lied 4 = .ok (.invokevirtual 197, 3) := by decide +kernel
theorem dX7_lied_7 : decode cX7_lied 7 = .ok (.ifCond .ne 5, 3) := by decide +kernel
theorem dX7_lied_10 : decode cX7_lied 10 = .ok (.iconst (-1), 1) := by decide +kernel
theorem dX7_lied_11 : decode cX7_lied 11 = .ok (.ireturn, 1) := by decide +kernel
theorem dX7_lied_12 : decode cX7_lied 12 = .ok (.iload_n 1, 1) := by decide +kernel
theorem dX7_lied_13 : decode cX7_lied 13 = .ok (.iconst 1, 1) := by decide +kernel
theorem dX7_lied_14 : decode cX7_lied 14 = .ok (.if_icmp .ne 18, 3) := by decide +kernel
theorem dX7_lied_17 : decode cX7_lied 17 = .ok (.aload_n 0, 1) := by decide +kernel
theorem dX7_lied_18 : decode cX7_lied 18 = .ok (.bipush 7, 2) := by decide +kernel
theorem dX7_lied_20 : decode cX7_lied 20 = .ok (.invokevirtual 368, 3) := by decide +kernel
theorem dX7_lied_23 : decode cX7_lied 23 = .ok (.ifCond .eq 7, 3) := by decide +kernel
theorem dX7_lied_26 : decode cX7_lied 26 = .ok (.iconst 1, 1) := by decide +kernel
theorem dX7_lied_27 : decode cX7_lied 27 = .ok (.goto 4, 3) := by decide +kernel
theorem dX7_lied_30 : decode cX7_lied 30 = .ok (.iconst 0, 1) := by decide +kernel
theorem dX7_lied_31 : decode cX7_lied 31 = .ok (.ireturn, 1) := by decide +kernel
theorem dX7_lied_32 : decode cX7_lied 32 = .ok (.iconst 0, 1) := by decide +kernel
theorem dX7_lied_33 : decode cX7_lied 33 = .ok (.istore_n 2, 1) := by decide +kernel
theorem dX7_lied_34 : decode cX7_lied 34 = .ok (.iconst 0, 1) := by decide +kernel
theorem dX7_lied_35 : decode cX7_lied 35 = .ok (.istore_n 3, 1) := by decide +kernel
theorem dX7_lied_36 : decode cX7_lied 36 = .ok (.iload_n 3, 1) := by decide +kernel
theorem dX7_lied_37 : decode cX7_lied 37 = .ok (.aload_n 0, 1) := by decide +kernel
theorem dX7_lied_38 : decode cX7_lied 38 = .ok (.getfield 7, 3) := by decide +kernel
theorem dX7_lied_41 : decode cX7_lied 41 = .ok (.if_icmp .ge 27, 3) := by decide +kernel
theorem dX7_lied_44 : decode cX7_lied 44 = .ok (.iload_n 2, 1) := by decide +kernel
theorem dX7_lied_45 : decode cX7_lied 45 = .ok (.aload_n 0, 1) := by decide +kernel
theorem dX7_lied_46 : decode cX7_lied 46 = .ok (.iload_n 3, 1) := by decide +kernel
theorem dX7_lied_47 : decode cX7_lied 47 = .ok (.invokevirtual 368, 3) := by decide +kernel
theorem dX7_lied_50 : decode cX7_lied 50 = .ok (.ifCond .eq 9, 3) := by decide +kernel
theorem dX7_lied_53 : decode cX7_lied 53 = .ok (.iconst 1, 1) := by decide +kernel
theorem dX7_lied_54 : decode cX7_lied 54 = .ok (.iload_n 3, 1) := by decide +kernel
theorem dX7_lied_55 : decode cX7_lied 55 = .ok (.ishl, 1) := by decide +kernel
theorem dX7_lied_56 : decode cX7_lied 56 = .ok (.goto 4, 3) := by decide +kernel
theorem dX7_lied_59 : decode cX7_lied 59 = .ok (.iconst 0, 1) := by decide +kernel
theorem dX7_lied_60 : decode cX7_lied 60 = .ok (.ior, 1) := by decide +kernel
theorem dX7_lied_61 : decode cX7_lied 61 = .ok (.istore_n 2, 1) := by decide +kernel
theorem dX7_lied_62 : decode cX7_lied 62 = .ok (.iinc 3 1, 3) := by decide +kernel
theorem dX7_lied_65 : decode cX7_lied 65 = .ok (.goto (-29), 3) := by decide +kernel
theorem dX7_lied_68 : decode cX7_lied 68 = .ok (.iload_n 2, 1) := by decide +kernel
theorem dX7_lied_69 : decode cX7_lied 69 = .ok (.ireturn, 1) := by decide +kernel
theorem dX7_wed_0 : decode cX7_wed 0 = .ok (.aload_n 0, 1) := by decide +kernel
theorem dX7_wed_1 : decode cX7_wed 1 = .ok (.iload_n 1, 1) := by decide +kernel
theorem dX7_wed_2 : decode cX7_wed 2 = .ok (.invokevirtual 205, 3) := by decide +kernel
theorem dX7_wed_5 : decode cX7_wed 5 = .ok (.ifCond .eq 11, 3) := by decide +kernel
theorem dX7_wed_8 : decode cX7_wed 8 = .ok (.aload_n 0, 1) := by decide +kernel
theorem dX7_wed_9 : decode cX7_wed 9 = .ok (.iload_n 2, 1) := by decide +kernel
theorem dX7_wed_10 : decode cX7_wed 10 = .ok (.invokevirtual 205, 3) := by decide +kernel
theorem dX7_wed_13 : decode cX7_wed 13 = .ok (.ifCond .ne 5, 3) := by decide +kernel
theorem dX7_wed_16 : decode cX7_wed 16 = .ok (.iconst (-1), 1) := by decide +kernel
theorem dX7_wed_17 : decode cX7_wed 17 = .ok (.ireturn, 1) := by decide +kernel
theorem dX7_wed_18 : decode cX7_wed 18 = .ok (.iload_n 1, 1) := by decide +kernel
theorem dX7_wed_19 : decode cX7_wed 19 = .ok (.iload_n 2, 1) := by decide +kernel
theorem dX7_wed_20 : decode cX7_wed 20 = .ok (.if_icmp .ne 6, 3) := by decide +kernel
theorem dX7_wed_23 : decode cX7_wed 23 = .ok (.bipush (-2), 2) := by decide +kernel
theorem dX7_wed_25 : decode cX7_wed 25 = .ok (.ireturn, 1) := by decide +kernel
theorem dX7_wed_26 : decode cX7_wed 26 = .ok (.aload_n 0, 1) := by decide +kernel
theorem dX7_wed_27 : decode cX7_wed 27 = .ok (.invokevirtual 328, 3) := by decide +kernel
theorem dX7_wed_30 : decode cX7_wed 30 = .ok (.aload_n 0, 1) := by decide +kernel
theorem dX7_wed_31 : decode cX7_wed 31 = .ok (.bipush 10, 2) := by decide +kernel
theorem dX7_wed_33 : decode cX7_wed 33 = .ok (.invokevirtual 322, 3) := by decide +kernel
theorem dX7_wed_36 : decode cX7_wed 36 = .ok (.iconst 0, 1) := by decide +kernel
theorem dX7_wed_37 : decode cX7_wed 37 = .ok (.istore_n 3, 1) := by decide +kernel
theorem dX7_wed_38 : decode cX7_wed 38 = .ok (.iload_n 3, 1) := by decide +kernel
theorem dX7_wed_39 : decode cX7_wed 39 = .ok (.bipush 8, 2) := by decide +kernel
theorem dX7_wed_41 : decode cX7_wed 41 = .ok (.if_icmp .ge 21, 3) := by decide +kernel
theorem dX7_wed_44 : decode cX7_wed 44 = .ok (.aload_n 0, 1) := by decide +kernel
theorem dX7_wed_45 : decode cX7_wed 45 = .ok (.getfield 105, 3) := by decide +kernel
theorem dX7_wed_48 : decode cX7_wed 48 = .ok (.iload_n 3, 1) := by decide +kernel
theorem dX7_wed_49 : decode cX7_wed 49 = .ok (.aload_n 0, 1) := by decide +kernel
theorem dX7_wed_50 : decode cX7_wed 50 = .ok (.getfield 23, 3) := by decide +kernel
theorem dX7_wed_53 : decode cX7_wed 53 = .ok (.iload_n 3, 1) := by decide +kernel
theorem dX7_wed_54 : decode cX7_wed 54 = .ok (.iaload, 1) := by decide +kernel
theorem dX7_wed_55 : decode cX7_wed 55 = .ok (.iastore, 1) := by decide +kernel
theorem dX7_wed_56 : decode cX7_wed 56 = .ok (.iinc 3 1, 3) := by decide +kernel
theorem dX7_wed_59 : decode cX7_wed 59 = .ok (.goto (-21), 3) := by decide +kernel
theorem dX7_wed_62 : decode cX7_wed 62 = .ok (.aload_n 0, 1) := by decide +kernel
theorem dX7_wed_63 : decode cX7_wed 63 = .ok (.invokevirtual 334, 3) := by decide +kernel
theorem dX7_wed_66 : decode cX7_wed 66 = .ok (.aload_n 0, 1) := by decide +kernel
theorem dX7_wed_67 : decode cX7_wed 67 = .ok (.getfield 23, 3) := by decide +kernel
theorem dX7_wed_70 : decode cX7_wed 70 = .ok (.iload_n 1, 1) := by decide +kernel
theorem dX7_wed_71 : decode cX7_wed 71 = .ok (.iaload, 1) := by decide +kernel
theorem dX7_wed_72 : decode cX7_wed 72 = .ok (.aload_n 0, 1) := by decide +kernel
theorem dX7_wed_73 : decode cX7_wed 73 = .ok (.getfield 23, 3) := by decide +kernel
theorem dX7_wed_76 : decode cX7_wed 76 = .ok (.iload_n 2, 1) := by decide +kernel
theorem dX7_wed_77 : decode cX7_wed 77 = .ok (.iaload, 1) := by decide +kernel
theorem dX7_wed_78 : decode cX7_wed 78 = .ok (.iadd, 1) := by decide +kernel
theorem dX7_wed_79 : decode cX7_wed 79 = .ok (.iconst 2, 1) := by decide +kernel
theorem dX7_wed_80 : decode cX7_wed 80 = .ok (.idiv, 1) := by decide +kernel
theorem dX7_wed_81 : decode cX7_wed 81 = .ok (.istore_n 3, 1) := by decide +kernel
theorem dX7_wed_82 : decode cX7_wed 82 = .ok (.aload_n 0, 1) := by decide +kernel
theorem dX7_wed_83 : decode cX7_wed 83 = .ok (.getfield 23, 3) := by decide +kernel
theorem dX7_wed_86 : decode cX7_wed 86 = .ok (.iload_n 1, 1) := by decide +kernel
theorem dX7_wed_87 : decode cX7_wed 87 = .ok (.iload_n 3, 1) := by decide +kernel
theorem dX7_wed_88 : decode cX7_wed 88 = .ok (.iastore, 1) := by decide +kernel
theorem dX7_wed_89 : decode cX7_wed 89 = .ok (.aload_n 0, 1) := by decide +kernel
theorem dX7_wed_90 : decode cX7_wed 90 = .ok (.getfield 23, 3) := by decide +kernel
theorem dX7_wed_93 : decode cX7_wed 93 = .ok (.iload_n 2, 1) := by decide +kernel
theorem dX7_wed_94 : decode cX7_wed 94 = .ok (.iload_n 3, 1) := by decide +kernel
theorem dX7_wed_95 : decode cX7_wed 95 = .ok (.iastore, 1) := by decide +kernel
theorem dX7_wed_96 : decode cX7_wed 96 = .ok (.aload_n 0, 1) := by decide +kernel
theorem dX7_wed_97 : decode cX7_wed 97 = .ok (.bipush 10, 2) := by decide +kernel
theorem dX7_wed_99 : decode cX7_wed 99 = .ok (.invokevirtual 322, 3) := by decide +kernel
theorem dX7_wed_102 : decode cX7_wed 102 = .ok (.iconst 0, 1) := by decide +kernel
theorem dX7_wed_103 : decode cX7_wed 103 = .ok (.istore 4, 2) := by decide +kernel
theorem dX7_wed_105 : decode cX7_wed 105 = .ok (.iconst 0, 1) := by decide +kernel
theorem dX7_wed_106 : decode cX7_wed 106 = .ok (.istore 5, 2) := by decide +kernel
theorem dX7_wed_108 : decode cX7_wed 108 = .ok (.iload 5, 2) := by decide +kernel
theorem dX7_wed_110 : decode cX7_wed 110 = .ok (.aload_n 0, 1) := by decide +kernel
theorem dX7_wed_111 : decode cX7_wed 111 = .ok (.getfield 7, 3) := by decide +kernel
theorem dX7_wed_114 : decode cX7_wed 114 = .ok (.if_icmp .ge 36, 3) := by decide +kernel
theorem dX7_wed_117 : decode cX7_wed 117 = .ok (.iload 4, 2) := by decide +kernel
theorem dX7_wed_119 : decode cX7_wed 119 = .ok (.aload_n 0, 1) := by decide +kernel
theorem dX7_wed_120 : decode cX7_wed 120 = .ok (.getfield 23, 3) := by decide +kernel
theorem dX7_wed_123 : decode cX7_wed 123 = .ok (.iload 5, 2) := by decide +kernel
theorem dX7_wed_125 : decode cX7_wed 125 = .ok (.iaload, 1) := by decide +kernel
theorem dX7_wed_126 : decode cX7_wed 126 = .ok (.aload_n 0, 1) := by decide +kernel
theorem dX7_wed_127 : decode cX7_wed 127 = .ok (.getfield 105, 3) := by decide +kernel
theorem dX7_wed_130 : decode cX7_wed 130 = .ok (.iload 5, 2) := by decide +kernel
theorem dX7_wed_132 : decode cX7_wed 132 = .ok (.iaload, 1) := by decide +kernel
theorem dX7_wed_133 : decode cX7_wed 133 = .ok (.if_icmp .ne 7, 3) := by decide +kernel
theorem dX7_wed_136 : decode cX7_wed 136 = .ok (.iconst 0, 1) := by decide +kernel
theorem dX7_wed_137 : decode cX7_wed 137 = .ok (.goto 4, 3) := by decide +kernel
theorem dX7_wed_140 : decode cX7_wed 140 = .ok (.iconst 1, 1) := by decide +kernel
theorem dX7_wed_141 : decode cX7_wed 141 = .ok (.iadd, 1) := by decide +kernel
theorem dX7_wed_142 : decode cX7_wed 142 = .ok (.istore 4, 2) := by decide +kernel
theorem dX7_wed_144 : decode cX7_wed 144 = .ok (.iinc 5 1, 3) := by decide +kernel
theorem dX7_wed_147 : decode cX7_wed 147 = .ok (.goto (-39), 3) := by decide +kernel
theorem dX7_wed_150 : decode cX7_wed 150 = .ok (.aload_n 0, 1) := by decide +kernel
theorem dX7_wed_151 : decode cX7_wed 151 = .ok (.invokevirtual 334, 3) := by decide +kernel
theorem dX7_wed_154 : decode cX7_wed 154 = .ok (.iload 4, 2) := by decide +kernel
theorem dX7_wed_156 : decode cX7_wed 156 = .ok (.ireturn, 1) := by decide +kernel
theorem dX7_divisor_0 : decode cX7_divisor 0 = .ok (.iload_n 1, 1) := by decide +kernel
theorem dX7_divisor_1 : decode cX7_divisor 1 = .ok (.istore_n 3, 1) := by decide +kernel
theorem dX7_divisor_2 : decode cX7_divisor 2 = .ok (.iload_n 2, 1) := by decide +kernel
theorem dX7_divisor_3 : decode cX7_divisor 3 = .ok (.istore 4, 2) := by decide +kernel
theorem dX7_divisor_5 : decode cX7_divisor 5 = .ok (.iload 4, 2) := by decide +kernel
theorem dX7_divisor_7 : decode cX7_divisor 7 = .ok (.ifCond .eq 19, 3) := by decide +kernel
theorem dX7_divisor_10 : decode cX7_divisor 10 = .ok (.iload_n 3, 1) := by decide +kernel
theorem dX7_divisor_11 : decode cX7_divisor 11 = .ok (.iload 4, 2) := by decide +kernel
theorem dX7_divisor_13 : decode cX7_divisor 13 = .ok (.irem, 1) := by decide +kernel
theorem dX7_divisor_14 : decode cX7_divisor 14 = .ok (.istore 5, 2) := by decide +kernel
theorem dX7_divisor_16 : decode cX7_divisor 16 = .ok (.iload 4, 2) := by decide +kernel
theorem dX7_divisor_18 : decode cX7_divisor 18 = .ok (.istore_n 3, 1) := by decide +kernel
theorem dX7_divisor_19 : decode cX7_divisor 19 = .ok (.iload 5, 2) := by decide +kernel
theorem dX7_divisor_21 : decode cX7_divisor 21 = .ok (.istore 4, 2) := by decide +kernel
theorem dX7_divisor_23 : decode cX7_divisor 23 = .ok (.goto (-18), 3) := by decide +kernel
theorem dX7_divisor_26 : decode cX7_divisor 26 = .ok (.iload_n 3, 1) := by decide +kernel
theorem dX7_divisor_27 : decode cX7_divisor 27 = .ok (.ireturn, 1) := by decide +kernel
theorem dX7_lowest_0 : decode cX7_lowest 0 = .ok (.aload_n 0, 1) := by decide +kernel
theorem dX7_lowest_1 : decode cX7_lowest 1 = .ok (.iload_n 1, 1) := by decide +kernel
theorem dX7_lowest_2 : decode cX7_lowest 2 = .ok (.iload_n 2, 1) := by decide +kernel
theorem dX7_lowest_3 : decode cX7_lowest 3 = .ok (.invokevirtual 371, 3) := by decide +kernel
theorem dX7_lowest_6 : decode cX7_lowest 6 = .ok (.istore 4, 2) := by decide +kernel
theorem dX7_lowest_8 : decode cX7_lowest 8 = .ok (.iload_n 3, 1) := by decide +kernel
theorem dX7_lowest_9 : decode cX7_lowest 9 = .ok (.ifCond .ne 11, 3) := by decide +kernel
theorem dX7_lowest_12 : decode cX7_lowest 12 = .ok (.iload_n 1, 1) := by decide +kernel
theorem dX7_lowest_13 : decode cX7_lowest 13 = .ok (.iload 4, 2) := by decide +kernel
theorem dX7_lowest_15 : decode cX7_lowest 15 = .ok (.idiv, 1) := by decide +kernel
theorem dX7_lowest_16 : decode cX7_lowest 16 = .ok (.i2l, 1) := by decide +kernel
theorem dX7_lowest_17 : decode cX7_lowest 17 = .ok (.goto 8, 3) := by decide +kernel
theorem dX7_lowest_20 : decode cX7_lowest 20 = .ok (.iload_n 2, 1) := by decide +kernel
theorem dX7_lowest_21 : decode cX7_lowest 21 = .ok (.iload 4, 2) := by decide +kernel
theorem dX7_lowest_23 : decode cX7_lowest 23 = .ok (.idiv, 1) := by decide +kernel
theorem dX7_lowest_24 : decode cX7_lowest 24 = .ok (.i2l, 1) := by decide +kernel
theorem dX7_lowest_25 : decode cX7_lowest 25 = .ok (.lreturn, 1) := by decide +kernel
theorem dX7_odds_0 : decode cX7_odds 0 = .ok (.aload_n 0, 1) := by decide +kernel
theorem dX7_odds_1 : decode cX7_odds 1 = .ok (.iload_n 1, 1) := by decide +kernel
theorem dX7_odds_2 : decode cX7_odds 2 = .ok (.invokevirtual 205, 3) := by decide +kernel
theorem dX7_odds_5 : decode cX7_odds 5 = .ok (.ifCond .eq 24, 3) := by decide +kernel
theorem dX7_odds_8 : decode cX7_odds 8 = .ok (.aload_n 0, 1) := by decide +kernel
theorem dX7_odds_9 : decode cX7_odds 9 = .ok (.iload_n 2, 1) := by decide +kernel
theorem dX7_odds_10 : decode cX7_odds 10 = .ok (.iconst 0, 1) := by decide +kernel
theorem dX7_odds_11 : decode cX7_odds 11 = .ok (.bipush 99, 2) := by decide +kernel
theorem dX7_odds_13 : decode cX7_odds 13 = .ok (.invokevirtual 197, 3) := by decide +kernel
theorem dX7_odds_16 : decode cX7_odds 16 = .ok (.ifCond .eq 13, 3) := by decide +kernel
theorem dX7_odds_19 : decode cX7_odds 19 = .ok (.aload_n 0, 1) := by decide +kernel
theorem dX7_odds_20 : decode cX7_odds 20 = .ok (.iload_n 3, 1) := by decide +kernel
theorem dX7_odds_21 : decode cX7_odds 21 = .ok (.iconst 0, 1) := by decide +kernel
theorem dX7_odds_22 : decode cX7_odds 22 = .ok (.iconst 1, 1) := by decide +kernel
theorem dX7_odds_23 : decode cX7_odds 23 = .ok (.invokevirtual 197, 3) := by decide +kernel
theorem dX7_odds_26 : decode cX7_odds 26 = .ok (.ifCond .ne 7, 3) := by decide +kernel
theorem dX7_odds_29 : decode cX7_odds 29 = .ok (.ldc2_w 374, 3) := by decide +kernel
theorem dX7_odds_32 : decode cX7_odds 32 = .ok (.lreturn, 1) := by decide +kernel
theorem dX7_odds_33 : decode cX7_odds 33 = .ok (.iconst 0, 1) := by decide +kernel
theorem dX7_odds_34 : decode cX7_odds 34 = .ok (.istore 4, 2) := by decide +kernel
theorem dX7_odds_36 : decode cX7_odds 36 = .ok (.iconst 0, 1) := by decide +kernel
theorem dX7_odds_37 : decode cX7_odds 37 = .ok (.istore 5, 2) := by decide +kernel
theorem dX7_odds_39 : decode cX7_odds 39 = .ok (.iload 5, 2) := by decide +kernel
theorem dX7_odds_41 : decode cX7_odds 41 = .ok (.aload_n 0, 1) := by decide +kernel
theorem dX7_odds_42 : decode cX7_odds 42 = .ok (.getfield 7, 3) := by decide +kernel
theorem dX7_odds_45 : decode cX7_odds 45 = .ok (.if_icmp .ge 32, 3) := by decide +kernel
theorem dX7_odds_48 : decode cX7_odds 48 = .ok (.iload 4, 2) := by decide +kernel
theorem dX7_odds_50 : decode cX7_odds 50 = .ok (.aload_n 0, 1) := by decide +kernel
theorem dX7_odds_51 : decode cX7_odds 51 = .ok (.iload 5, 2) := by decide +kernel
theorem dX7_odds_53 : decode cX7_odds 53 = .ok (.bipush 9, 2) := by decide +kernel
theorem dX7_odds_55 : decode cX7_odds 55 = .ok (.iload_n 1, 1) := by decide +kernel
theorem dX7_odds_56 : decode cX7_odds 56 = .ok (.invokevirtual 340, 3) := by decide +kernel
theorem dX7_odds_59 : decode cX7_odds 59 = .ok (.iload_n 2, 1) := by decide +kernel
theorem dX7_odds_60 : decode cX7_odds 60 = .ok (.if_icmp .lt 7, 3) := by decide +kernel
theorem dX7_odds_63 : decode cX7_odds 63 = .ok (.iconst 1, 1) := by decide +kernel
theorem dX7_odds_64 : decode cX7_odds 64 = .ok (.goto 4, 3) := by decide +kernel
theorem dX7_odds_67 : decode cX7_odds 67 = .ok (.iconst 0, 1) := by decide +kernel
theorem dX7_odds_68 : decode cX7_odds 68 = .ok (.iadd, 1) := by decide +kernel
theorem dX7_odds_69 : decode cX7_odds 69 = .ok (.istore 4, 2) := by decide +kernel
theorem dX7_odds_71 : decode cX7_odds 71 = .ok (.iinc 5 1, 3) := by decide +kernel
theorem dX7_odds_74 : decode cX7_odds 74 = .ok (.goto (-35), 3) := by decide +kernel
theorem dX7_odds_77 : decode cX7_odds 77 = .ok (.aload_n 0, 1) := by decide +kernel
theorem dX7_odds_78 : decode cX7_odds 78 = .ok (.iload 4, 2) := by decide +kernel
theorem dX7_odds_80 : decode cX7_odds 80 = .ok (.aload_n 0, 1) := by decide +kernel
theorem dX7_odds_81 : decode cX7_odds 81 = .ok (.getfield 7, 3) := by decide +kernel
theorem dX7_odds_84 : decode cX7_odds 84 = .ok (.iload_n 3, 1) := by decide +kernel
theorem dX7_odds_85 : decode cX7_odds 85 = .ok (.invokevirtual 376, 3) := by decide +kernel
theorem dX7_odds_88 : decode cX7_odds 88 = .ok (.lreturn, 1) := by decide +kernel
theorem dX7_mean_0 : decode cX7_mean 0 = .ok (.aload_n 0, 1) := by decide +kernel
theorem dX7_mean_1 : decode cX7_mean 1 = .ok (.iload_n 1, 1) := by decide +kernel
theorem dX7_mean_2 : decode cX7_mean 2 = .ok (.iconst 1, 1) := by decide +kernel
theorem dX7_mean_3 : decode cX7_mean 3 = .ok (.bipush 60, 2) := by decide +kernel
theorem dX7_mean_5 : decode cX7_mean 5 = .ok (.invokevirtual 197, 3) := by decide +kernel
theorem dX7_mean_8 : decode cX7_mean 8 = .ok (.ifCond .eq 20, 3) := by decide +kernel
theorem dX7_mean_11 : decode cX7_mean 11 = .ok (.aload_n 0, 1) := by decide +kernel
theorem dX7_mean_12 : decode cX7_mean 12 = .ok (.iload_n 2, 1) := by decide +kernel
theorem dX7_mean_13 : decode cX7_mean 13 = .ok (.iconst 0, 1) := by decide +kernel
theorem dX7_mean_14 : decode cX7_mean 14 = .ok (.iconst 1, 1) := by decide +kernel
theorem dX7_mean_15 : decode cX7_mean 15 = .ok (.invokevirtual 197, 3) := by decide +kernel
theorem dX7_mean_18 : decode cX7_mean 18 = .ok (.ifCond .eq 10, 3) := by decide +kernel
theorem dX7_mean_21 : decode cX7_mean 21 = .ok (.aload_n 0, 1) := by decide +kernel
theorem dX7_mean_22 : decode cX7_mean 22 = .ok (.getfield 7, 3) := by decide +kernel
theorem dX7_mean_25 : decode cX7_mean 25 = .ok (.ifCond .ne 7, 3) := by decide +kernel
theorem dX7_mean_28 : decode cX7_mean 28 = .ok (.ldc2_w 374, 3) := by decide +kernel
theorem dX7_mean_31 : decode cX7_mean 31 = .ok (.lreturn, 1) := by decide +kernel
theorem dX7_mean_32 : decode cX7_mean 32 = .ok (.aload_n 0, 1) := by decide +kernel
theorem dX7_mean_33 : decode cX7_mean 33 = .ok (.invokevirtual 328, 3) := by decide +kernel
theorem dX7_mean_36 : decode cX7_mean 36 = .ok (.iconst 0, 1) := by decide +kernel
theorem dX7_mean_37 : decode cX7_mean 37 = .ok (.istore_n 3, 1) := by decide +kernel
theorem dX7_mean_38 : decode cX7_mean 38 = .ok (.iconst 0, 1) := by decide +kernel
theorem dX7_mean_39 : decode cX7_mean 39 = .ok (.istore 4, 2) := by decide +kernel
theorem dX7_mean_41 : decode cX7_mean 41 = .ok (.iload 4, 2) := by decide +kernel
theorem dX7_mean_43 : decode cX7_mean 43 = .ok (.iload_n 1, 1) := by decide +kernel
theorem dX7_mean_44 : decode cX7_mean 44 = .ok (.if_icmp .ge 20, 3) := by decide +kernel
theorem dX7_mean_47 : decode cX7_mean 47 = .ok (.aload_n 0, 1) := by decide +kernel
theorem dX7_mean_48 : decode cX7_mean 48 = .ok (.invokevirtual 316, 3) := by decide +kernel
theorem dX7_mean_51 : decode cX7_mean 51 = .ok (.iload_n 3, 1) := by decide +kernel
theorem dX7_mean_52 : decode cX7_mean 52 = .ok (.aload_n 0, 1) := by decide +kernel
theorem dX7_mean_53 : decode cX7_mean 53 = .ok (.invokevirtual 319, 3) := by decide +kernel
theorem dX7_mean_56 : decode cX7_mean 56 = .ok (.iadd, 1) := by decide +kernel
theorem dX7_mean_57 : decode cX7_mean 57 = .ok (.istore_n 3, 1) := by decide +kernel
theorem dX7_mean_58 : decode cX7_mean 58 = .ok (.iinc 4 1, 3) := by decide +kernel
theorem dX7_mean_61 : decode cX7_mean 61 = .ok (.goto (-20), 3) := by decide +kernel
theorem dX7_mean_64 : decode cX7_mean 64 = .ok (.aload_n 0, 1) := by decide +kernel
theorem dX7_mean_65 : decode cX7_mean 65 = .ok (.invokevirtual 334, 3) := by decide +kernel
theorem dX7_mean_68 : decode cX7_mean 68 = .ok (.aload_n 0, 1) := by decide +kernel
theorem dX7_mean_69 : decode cX7_mean 69 = .ok (.iload_n 3, 1) := by decide +kernel
theorem dX7_mean_70 : decode cX7_mean 70 = .ok (.iload_n 1, 1) := by decide +kernel
theorem dX7_mean_71 : decode cX7_mean 71 = .ok (.aload_n 0, 1) := by decide +kernel
theorem dX7_mean_72 : decode cX7_mean 72 = .ok (.getfield 7, 3) := by decide +kernel
theorem dX7_mean_75 : decode cX7_mean 75 = .ok (.imul, 1) := by decide +kernel
theorem dX7_mean_76 : decode cX7_mean 76 = .ok (.iload_n 2, 1) := by decide +kernel
theorem dX7_mean_77 : decode cX7_mean 77 = .ok (.invokevirtual 376, 3) := by decide +kernel
theorem dX7_mean_80 : decode cX7_mean 80 = .ok (.lreturn, 1) := by decide +kernel
theorem dX7_book_0 : decode cX7_book 0 = .ok (.iload_n 1, 1) := by decide +kernel
theorem dX7_book_1 : decode cX7_book 1 = .ok (.iconst (-1), 1) := by decide +kernel
theorem dX7_book_2 : decode cX7_book 2 = .ok (.if_icmp .ne 10, 3) := by decide +kernel
theorem dX7_book_5 : decode cX7_book 5 = .ok (.aload_n 0, 1) := by decide +kernel
theorem dX7_book_6 : decode cX7_book 6 = .ok (.iconst 0, 1) := by decide +kernel
theorem dX7_book_7 : decode cX7_book 7 = .ok (.putfield 132, 3) := by decide +kernel
theorem dX7_book_10 : decode cX7_book 10 = .ok (.iconst 0, 1) := by decide +kernel
theorem dX7_book_11 : decode cX7_book 11 = .ok (.ireturn, 1) := by decide +kernel
theorem dX7_book_12 : decode cX7_book 12 = .ok (.aload_n 0, 1) := by decide +kernel
theorem dX7_book_13 : decode cX7_book 13 = .ok (.iload_n 1, 1) := by decide +kernel
theorem dX7_book_14 : decode cX7_book 14 = .ok (.iconst 0, 1) := by decide +kernel
theorem dX7_book_15 : decode cX7_book 15 = .ok (.bipush 99, 2) := by decide +kernel
theorem dX7_book_17 : decode cX7_book 17 = .ok (.invokevirtual 197, 3) := by decide +kernel
theorem dX7_book_20 : decode cX7_book 20 = .ok (.ifCond .ne 12, 3) := by decide +kernel
theorem dX7_book_23 : decode cX7_book 23 = .ok (.iload_n 1, 1) := by decide +kernel
theorem dX7_book_24 : decode cX7_book 24 = .ok (.bipush (-2), 2) := by decide +kernel
theorem dX7_book_26 : decode cX7_book 26 = .ok (.if_icmp .eq 6, 3) := by decide +kernel
theorem dX7_book_29 : decode cX7_book 29 = .ok (.bipush (-2), 2) := by decide +kernel
theorem dX7_book_31 : decode cX7_book 31 = .ok (.ireturn, 1) := by decide +kernel
theorem dX7_book_32 : decode cX7_book 32 = .ok (.aload_n 0, 1) := by decide +kernel
theorem dX7_book_33 : decode cX7_book 33 = .ok (.getfield 132, 3) := by decide +kernel
theorem dX7_book_36 : decode cX7_book 36 = .ok (.bipush 12, 2) := by decide +kernel
theorem dX7_book_38 : decode cX7_book 38 = .ok (.if_icmp .ne 6, 3) := by decide +kernel
theorem dX7_book_41 : decode cX7_book 41 = .ok (.bipush (-4), 2) := by decide +kernel
theorem dX7_book_43 : decode cX7_book 43 = .ok (.ireturn, 1) := by decide +kernel
theorem dX7_book_44 : decode cX7_book 44 = .ok (.aload_n 0, 1) := by decide +kernel
theorem dX7_book_45 : decode cX7_book 45 = .ok (.getfield 135, 3) := by decide +kernel
theorem dX7_book_48 : decode cX7_book 48 = .ok (.aload_n 0, 1) := by decide +kernel
theorem dX7_book_49 : decode cX7_book 49 = .ok (.getfield 132, 3) := by decide +kernel
theorem dX7_book_52 : decode cX7_book 52 = .ok (.iload_n 1, 1) := by decide +kernel
theorem dX7_book_53 : decode cX7_book 53 = .ok (.iastore, 1) := by decide +kernel
theorem dX7_book_54 : decode cX7_book 54 = .ok (.aload_n 0, 1) := by decide +kernel
theorem dX7_book_55 : decode cX7_book 55 = .ok (.dup, 1) := by decide +kernel
theorem dX7_book_56 : decode cX7_book 56 = .ok (.getfield 132, 3) := by decide +kernel
theorem dX7_book_59 : decode cX7_book 59 = .ok (.iconst 1, 1) := by decide +kernel
theorem dX7_book_60 : decode cX7_book 60 = .ok (.iadd, 1) := by decide +kernel
theorem dX7_book_61 : decode cX7_book 61 = .ok (.putfield 132, 3) := by decide +kernel
theorem dX7_book_64 : decode cX7_book 64 = .ok (.aload_n 0, 1) := by decide +kernel
theorem dX7_book_65 : decode cX7_book 65 = .ok (.getfield 132, 3) := by decide +kernel
theorem dX7_book_68 : decode cX7_book 68 = .ok (.ireturn, 1) := by decide +kernel
theorem dX7_looked_0 : decode cX7_looked 0 = .ok (.aload_n 0, 1) := by decide +kernel
theorem dX7_looked_1 : decode cX7_looked 1 = .ok (.getfield 7, 3) := by decide +kernel
theorem dX7_looked_4 : decode cX7_looked 4 = .ok (.ifCond .ne 6, 3) := by decide +kernel
theorem dX7_looked_7 : decode cX7_looked 7 = .ok (.bipush (-3), 2) := by decide +kernel
theorem dX7_looked_9 : decode cX7_looked 9 = .ok (.ireturn, 1) := by decide +kernel
theorem dX7_looked_10 : decode cX7_looked 10 = .ok (.aload_n 0, 1) := by decide +kernel
theorem dX7_looked_11 : decode cX7_looked 11 = .ok (.invokevirtual 328, 3) := by decide +kernel
theorem dX7_looked_14 : decode cX7_looked 14 = .ok (.bipush (-5), 2) := by decide +kernel
theorem dX7_looked_16 : decode cX7_looked 16 = .ok (.istore_n 1, 1) := by decide +kernel
theorem dX7_looked_17 : decode cX7_looked 17 = .ok (.iconst 0, 1) := by decide +kernel
theorem dX7_looked_18 : decode cX7_looked 18 = .ok (.istore_n 2, 1) := by decide +kernel
theorem dX7_looked_19 : decode cX7_looked 19 = .ok (.iload_n 2, 1) := by decide +kernel
theorem dX7_looked_20 : decode cX7_looked 20 = .ok (.aload_n 0, 1) := by decide +kernel
theorem dX7_looked_21 : decode cX7_looked 21 = .ok (.getfield 132, 3) := by decide +kernel
theorem dX7_looked_24 : decode cX7_looked 24 = .ok (.if_icmp .ge 50, 3) := by decide +kernel
theorem dX7_looked_27 : decode cX7_looked 27 = .ok (.iload_n 1, 1) := by decide +kernel
theorem dX7_looked_28 : decode cX7_looked 28 = .ok (.ifCond .ge 46, 3) := by decide +kernel
theorem dX7_looked_31 : decode cX7_looked 31 = .ok (.aload_n 0, 1) := by decide +kernel
theorem dX7_looked_32 : decode cX7_looked 32 = .ok (.invokevirtual 316, 3) := by decide +kernel
theorem dX7_looked_35 : decode cX7_looked 35 = .ok (.aload_n 0, 1) := by decide +kernel
theorem dX7_looked_36 : decode cX7_looked 36 = .ok (.getfield 135, 3) := by decide +kernel
theorem dX7_looked_39 : decode cX7_looked 39 = .ok (.iload_n 2, 1) := by decide +kernel
theorem dX7_looked_40 : decode cX7_looked 40 = .ok (.iaload, 1) := by decide +kernel
theorem dX7_looked_41 : decode cX7_looked 41 = .ok (.bipush (-2), 2) := by decide +kernel
theorem dX7_looked_43 : decode cX7_looked 43 = .ok (.if_icmp .eq 18, 3) := by decide +kernel
theorem dX7_looked_46 : decode cX7_looked 46 = .ok (.aload_n 0, 1) := by decide +kernel
theorem dX7_looked_47 : decode cX7_looked 47 = .ok (.getfield 135, 3) := by decide +kernel
theorem dX7_looked_50 : decode cX7_looked 50 = .ok (.iload_n 2, 1) := by decide +kernel
theorem dX7_looked_51 : decode cX7_looked 51 = .ok (.iaload, 1) := by decide +kernel
theorem dX7_looked_52 : decode cX7_looked 52 = .ok (.aload_n 0, 1) := by decide +kernel
theorem dX7_looked_53 : decode cX7_looked 53 = .ok (.getfield 23, 3) := by decide +kernel
theorem dX7_looked_56 : decode cX7_looked 56 = .ok (.iconst 0, 1) := by decide +kernel
theorem dX7_looked_57 : decode cX7_looked 57 = .ok (.iaload, 1) := by decide +kernel
theorem dX7_looked_58 : decode cX7_looked 58 = .ok (.if_icmp .ne 8, 3) := by decide +kernel
theorem dX7_looked_61 : decode cX7_looked 61 = .ok (.bipush (-5), 2) := by decide +kernel
theorem dX7_looked_63 : decode cX7_looked 63 = .ok (.goto 4, 3) := by decide +kernel
theorem dX7_looked_66 : decode cX7_looked 66 = .ok (.iload_n 2, 1) := by decide +kernel
theorem dX7_looked_67 : decode cX7_looked 67 = .ok (.istore_n 1, 1) := by decide +kernel
theorem dX7_looked_68 : decode cX7_looked 68 = .ok (.iinc 2 1, 3) := by decide +kernel
theorem dX7_looked_71 : decode cX7_looked 71 = .ok (.goto (-52), 3) := by decide +kernel
theorem dX7_looked_74 : decode cX7_looked 74 = .ok (.aload_n 0, 1) := by decide +kernel
theorem dX7_looked_75 : decode cX7_looked 75 = .ok (.invokevirtual 334, 3) := by decide +kernel
theorem dX7_looked_78 : decode cX7_looked 78 = .ok (.iload_n 1, 1) := by decide +kernel
theorem dX7_looked_79 : decode cX7_looked 79 = .ok (.ireturn, 1) := by decide +kernel
theorem dX7_judge_0 : decode cX7_judge 0 = .ok (.aload_n 0, 1) := by decide +kernel
theorem dX7_judge_1 : decode cX7_judge 1 = .ok (.iload_n 1, 1) := by decide +kernel
theorem dX7_judge_2 : decode cX7_judge 2 = .ok (.invokevirtual 380, 3) := by decide +kernel
theorem dX7_judge_5 : decode cX7_judge 5 = .ok (.ifCond .ne 5, 3) := by decide +kernel
theorem dX7_judge_8 : decode cX7_judge 8 = .ok (.iconst (-1), 1) := by decide +kernel
theorem dX7_judge_9 : decode cX7_judge 9 = .ok (.ireturn, 1) := by decide +kernel
theorem dX7_judge_10 : decode cX7_judge 10 = .ok (.aload_n 0, 1) := by decide +kernel
theorem dX7_judge_11 : decode cX7_judge 11 = .ok (.getfield 184, 3) := by decide +kernel
theorem dX7_judge_14 : decode cX7_judge 14 = .ok (.iload_n 1, 1) := by decide +kernel
theorem dX7_judge_15 : decode cX7_judge 15 = .ok (.iaload, 1) := by decide +kernel
theorem dX7_judge_16 : decode cX7_judge 16 = .ok (.ifCond .lt 16, 3) := by decide +kernel
theorem dX7_judge_19 : decode cX7_judge 19 = .ok (.aload_n 0, 1) := by decide +kernel
theorem dX7_judge_20 : decode cX7_judge 20 = .ok (.getfield 184, 3) := by decide +kernel
theorem dX7_judge_23 : decode cX7_judge 23 = .ok (.iload_n 1, 1) := by decide +kernel
theorem dX7_judge_24 : decode cX7_judge 24 = .ok (.iaload, 1) := by decide +kernel
theorem dX7_judge_25 : decode cX7_judge 25 = .ok (.iconst 1, 1) := by decide +kernel
theorem dX7_judge_26 : decode cX7_judge 26 = .ok (.if_icmp .eq 6, 3) := by decide +kernel
theorem dX7_judge_29 : decode cX7_judge 29 = .ok (.bipush (-12), 2) := by decide +kernel
theorem dX7_judge_31 : decode cX7_judge 31 = .ok (.ireturn, 1) := by decide +kernel
theorem dX7_judge_32 : decode cX7_judge 32 = .ok (.iconst 0, 1) := by decide +kernel
theorem dX7_judge_33 : decode cX7_judge 33 = .ok (.istore_n 3, 1) := by decide +kernel
theorem dX7_judge_34 : decode cX7_judge 34 = .ok (.iload_n 3, 1) := by decide +kernel
theorem dX7_judge_35 : decode cX7_judge 35 = .ok (.aload_n 0, 1) := by decide +kernel
theorem dX7_judge_36 : decode cX7_judge 36 = .ok (.getfield 7, 3) := by decide +kernel
theorem dX7_judge_39 : decode cX7_judge 39 = .ok (.if_icmp .ge 67, 3) := by decide +kernel
theorem dX7_judge_42 : decode cX7_judge 42 = .ok (.aload_n 0, 1) := by decide +kernel
theorem dX7_judge_43 : decode cX7_judge 43 = .ok (.getfield 184, 3) := by decide +kernel
theorem dX7_judge_46 : decode cX7_judge 46 = .ok (.iload_n 1, 1) := by decide +kernel
theorem dX7_judge_47 : decode cX7_judge 47 = .ok (.iaload, 1) := by decide +kernel
theorem dX7_judge_48 : decode cX7_judge 48 = .ok (.ifCond .lt 21, 3) := by decide +kernel
theorem dX7_judge_51 : decode cX7_judge 51 = .ok (.iload_n 2, 1) := by decide +kernel
theorem dX7_judge_52 : decode cX7_judge 52 = .ok (.ifCond .lt 17, 3) := by decide +kernel
theorem dX7_judge_55 : decode cX7_judge 55 = .ok (.iload_n 2, 1) := by decide +kernel
theorem dX7_judge_56 : decode cX7_judge 56 = .ok (.aload_n 0, 1) := by decide +kernel
theorem dX7_judge_57 : decode cX7_judge 57 = .ok (.getfield 187, 3) := by decide +kernel
theorem dX7_judge_60 : decode cX7_judge 60 = .ok (.iload_n 1, 1) := by decide +kernel
theorem dX7_judge_61 : decode cX7_judge 61 = .ok (.iaload, 1) := by decide +kernel
theorem dX7_judge_62 : decode cX7_judge 62 = .ok (.iload_n 3, 1) := by decide +kernel
theorem dX7_judge_63 : decode cX7_judge 63 = .ok (.isub, 1) := by decide +kernel
theorem dX7_judge_64 : decode cX7_judge 64 = .ok (.iconst 1, 1) := by decide +kernel
theorem dX7_judge_65 : decode cX7_judge 65 = .ok (.isub, 1) := by decide +kernel
theorem dX7_judge_66 : decode cX7_judge 66 = .ok (.if_icmp .le 8, 3) := by decide +kernel
theorem dX7_judge_69 : decode cX7_judge 69 = .ok (.bipush 100, 2) := by decide +kernel
theorem dX7_judge_71 : decode cX7_judge 71 = .ok (.iload_n 3, 1) := by decide +kernel
theorem dX7_judge_72 : decode cX7_judge 72 = .ok (.iadd, 1) := by decide +kernel
theorem dX7_judge_73 : decode cX7_judge 73 = .ok (.ireturn, 1) := by decide +kernel
theorem dX7_judge_74 : decode cX7_judge 74 = .ok (.aload_n 0, 1) := by decide +kernel
theorem dX7_judge_75 : decode cX7_judge 75 = .ok (.getfield 190, 3) := by decide +kernel
theorem dX7_judge_78 : decode cX7_judge 78 = .ok (.bipush 60, 2) := by decide +kernel
theorem dX7_judge_80 : decode cX7_judge 80 = .ok (.iload_n 1, 1) := by decide +kernel
theorem dX7_judge_81 : decode cX7_judge 81 = .ok (.imul, 1) := by decide +kernel
theorem dX7_judge_82 : decode cX7_judge 82 = .ok (.iload_n 2, 1) := by decide +kernel
theorem dX7_judge_83 : decode cX7_judge 83 = .ok (.iadd, 1) := by decide +kernel
theorem dX7_judge_84 : decode cX7_judge 84 = .ok (.iload_n 3, 1) := by decide +kernel
theorem dX7_judge_85 : decode cX7_judge 85 = .ok (.iadd, 1) := by decide +kernel
theorem dX7_judge_86 : decode cX7_judge 86 = .ok (.laload, 1) := by decide +kernel
theorem dX7_judge_87 : decode cX7_judge 87 = .ok (.aload_n 0, 1) := by decide +kernel
theorem dX7_judge_88 : decode cX7_judge 88 = .ok (.getfield 23, 3) := by decide +kernel
theorem dX7_judge_91 : decode cX7_judge 91 = .ok (.iload_n 3, 1) := by decide +kernel
theorem dX7_judge_92 : decode cX7_judge 92 = .ok (.iaload, 1) := by decide +kernel
theorem dX7_judge_93 : decode cX7_judge 93 = .ok (.i2l, 1) := by decide +kernel
theorem dX7_judge_94 : decode cX7_judge 94 = .ok (.lcmp, 1) := by decide +kernel
theorem dX7_judge_95 : decode cX7_judge 95 = .ok (.ifCond .eq 5, 3) := by decide +kernel
theorem dX7_judge_98 : decode cX7_judge 98 = .ok (.iload_n 3, 1) := by decide +kernel
theorem dX7_judge_99 : decode cX7_judge 99 = .ok (.ireturn, 1) := by decide +kernel
theorem dX7_judge_100 : decode cX7_judge 100 = .ok (.iinc 3 1, 3) := by decide +kernel
theorem dX7_judge_103 : decode cX7_judge 103 = .ok (.goto (-69), 3) := by decide +kernel
theorem dX7_judge_106 : decode cX7_judge 106 = .ok (.bipush (-5), 2) := by decide +kernel
theorem dX7_judge_108 : decode cX7_judge 108 = .ok (.ireturn, 1) := by decide +kernel
theorem dX7_image_0 : decode cX7_image 0 = .ok (.aload_n 0, 1) := by decide +kernel
theorem dX7_image_1 : decode cX7_image 1 = .ok (.iconst 1, 1) := by decide +kernel
theorem dX7_image_2 : decode cX7_image 2 = .ok (.putfield 138, 3) := by decide +kernel
theorem dX7_image_5 : decode cX7_image 5 = .ok (.aload_n 0, 1) := by decide +kernel
theorem dX7_image_6 : decode cX7_image 6 = .ok (.aload_n 0, 1) := by decide +kernel
theorem dX7_image_7 : decode cX7_image 7 = .ok (.getfield 32, 3) := by decide +kernel
theorem dX7_image_10 : decode cX7_image 10 = .ok (.putfield 142, 3) := by decide +kernel
theorem dX7_image_13 : decode cX7_image 13 = .ok (.aload_n 0, 1) := by decide +kernel
theorem dX7_image_14 : decode cX7_image 14 = .ok (.aload_n 0, 1) := by decide +kernel
theorem dX7_image_15 : decode cX7_image 15 = .ok (.getfield 7, 3) := by decide +kernel
theorem dX7_image_18 : decode cX7_image 18 = .ok (.putfield 145, 3) := by decide +kernel
theorem dX7_image_21 : decode cX7_image 21 = .ok (.aload_n 0, 1) := by decide +kernel
theorem dX7_image_22 : decode cX7_image 22 = .ok (.aload_n 0, 1) := by decide +kernel
theorem dX7_image_23 : decode cX7_image 23 = .ok (.getfield 13, 3) := by decide +kernel
theorem dX7_image_26 : decode cX7_image 26 = .ok (.putfield 148, 3) := by decide +kernel
theorem dX7_image_29 : decode cX7_image 29 = .ok (.aload_n 0, 1) := by decide +kernel
theorem dX7_image_30 : decode cX7_image 30 = .ok (.aload_n 0, 1) := by decide +kernel
theorem dX7_image_31 : decode cX7_image 31 = .ok (.getfield 123, 3) := by decide +kernel
theorem dX7_image_34 : decode cX7_image 34 = .ok (.putfield 151, 3) := by decide +kernel
theorem dX7_image_37 : decode cX7_image 37 = .ok (.aload_n 0, 1) := by decide +kernel
theorem dX7_image_38 : decode cX7_image 38 = .ok (.aload_n 0, 1) := by decide +kernel
theorem dX7_image_39 : decode cX7_image 39 = .ok (.getfield 132, 3) := by decide +kernel
theorem dX7_image_42 : decode cX7_image 42 = .ok (.putfield 154, 3) := by decide +kernel
theorem dX7_image_45 : decode cX7_image 45 = .ok (.iconst 0, 1) := by decide +kernel
theorem dX7_image_46 : decode cX7_image 46 = .ok (.istore_n 1, 1) := by decide +kernel
theorem dX7_image_47 : decode cX7_image 47 = .ok (.iload_n 1, 1) := by decide +kernel
theorem dX7_image_48 : decode cX7_image 48 = .ok (.bipush 8, 2) := by decide +kernel
theorem dX7_image_50 : decode cX7_image 50 = .ok (.if_icmp .ge 69, 3) := by decide +kernel
theorem dX7_image_53 : decode cX7_image 53 = .ok (.aload_n 0, 1) := by decide +kernel
theorem dX7_image_54 : decode cX7_image 54 = .ok (.getfield 157, 3) := by decide +kernel
theorem dX7_image_57 : decode cX7_image 57 = .ok (.iload_n 1, 1) := by decide +kernel
theorem dX7_image_58 : decode cX7_image 58 = .ok (.aload_n 0, 1) := by decide +kernel
theorem dX7_image_59 : decode cX7_image 59 = .ok (.getfield 16, 3) := by decide +kernel
theorem dX7_image_62 : decode cX7_image 62 = .ok (.iload_n 1, 1) := by decide +kernel
theorem dX7_image_63 : decode cX7_image 63 = .ok (.iaload, 1) := by decide +kernel
theorem dX7_image_64 : decode cX7_image 64 = .ok (.iastore, 1) := by decide +kernel
theorem dX7_image_65 : decode cX7_image 65 = .ok (.aload_n 0, 1) := by decide +kernel
theorem dX7_image_66 : decode cX7_image 66 = .ok (.getfield 160, 3) := by decide +kernel
theorem dX7_image_69 : decode cX7_image 69 = .ok (.iload_n 1, 1) := by decide +kernel
theorem dX7_image_70 : decode cX7_image 70 = .ok (.aload_n 0, 1) := by decide +kernel
theorem dX7_image_71 : decode cX7_image 71 = .ok (.getfield 20, 3) := by decide +kernel
theorem dX7_image_74 : decode cX7_image 74 = .ok (.iload_n 1, 1) := by decide +kernel
theorem dX7_image_75 : decode cX7_image 75 = .ok (.iaload, 1) := by decide +kernel
theorem dX7_image_76 : decode cX7_image 76 = .ok (.iastore, 1) := by decide +kernel
theorem dX7_image_77 : decode cX7_image 77 = .ok (.aload_n 0, 1) := by decide +kernel
theorem dX7_image_78 : decode cX7_image 78 = .ok (.getfield 163, 3) := by decide +kernel
theorem dX7_image_81 : decode cX7_image 81 = .ok (.iload_n 1, 1) := by decide +kernel
theorem dX7_image_82 : decode cX7_image 82 = .ok (.aload_n 0, 1) := by decide +kernel
theorem dX7_image_83 : decode cX7_image 83 = .ok (.getfield 23, 3) := by decide +kernel
theorem dX7_image_86 : decode cX7_image 86 = .ok (.iload_n 1, 1) := by decide +kernel
theorem dX7_image_87 : decode cX7_image 87 = .ok (.iaload, 1) := by decide +kernel
theorem dX7_image_88 : decode cX7_image 88 = .ok (.iastore, 1) := by decide +kernel
theorem dX7_image_89 : decode cX7_image 89 = .ok (.aload_n 0, 1) := by decide +kernel
theorem dX7_image_90 : decode cX7_image 90 = .ok (.getfield 169, 3) := by decide +kernel
theorem dX7_image_93 : decode cX7_image 93 = .ok (.iload_n 1, 1) := by decide +kernel
theorem dX7_image_94 : decode cX7_image 94 = .ok (.aload_n 0, 1) := by decide +kernel
theorem dX7_image_95 : decode cX7_image 95 = .ok (.getfield 126, 3) := by decide +kernel
theorem dX7_image_98 : decode cX7_image 98 = .ok (.iload_n 1, 1) := by decide +kernel
theorem dX7_image_99 : decode cX7_image 99 = .ok (.iaload, 1) := by decide +kernel
theorem dX7_image_100 : decode cX7_image 100 = .ok (.iastore, 1) := by decide +kernel
theorem dX7_image_101 : decode cX7_image 101 = .ok (.aload_n 0, 1) := by decide +kernel
theorem dX7_image_102 : decode cX7_image 102 = .ok (.getfield 172, 3) := by decide +kernel
theorem dX7_image_105 : decode cX7_image 105 = .ok (.iload_n 1, 1) := by decide +kernel
theorem dX7_image_106 : decode cX7_image 106 = .ok (.aload_n 0, 1) := by decide +kernel
theorem dX7_image_107 : decode cX7_image 107 = .ok (.getfield 129, 3) := by decide +kernel
theorem dX7_image_110 : decode cX7_image 110 = .ok (.iload_n 1, 1) := by decide +kernel
theorem dX7_image_111 : decode cX7_image 111 = .ok (.iaload, 1) := by decide +kernel
theorem dX7_image_112 : decode cX7_image 112 = .ok (.iastore, 1) := by decide +kernel
theorem dX7_image_113 : decode cX7_image 113 = .ok (.iinc 1 1, 3) := by decide +kernel
theorem dX7_image_116 : decode cX7_image 116 = .ok (.goto (-69), 3) := by decide +kernel
theorem dX7_image_119 : decode cX7_image 119 = .ok (.iconst 0, 1) := by decide +kernel
theorem dX7_image_120 : decode cX7_image 120 = .ok (.istore_n 1, 1) := by decide +kernel
theorem dX7_image_121 : decode cX7_image 121 = .ok (.iload_n 1, 1) := by decide +kernel
theorem dX7_image_122 : decode cX7_image 122 = .ok (.bipush 32, 2) := by decide +kernel
theorem dX7_image_124 : decode cX7_image 124 = .ok (.if_icmp .ge 21, 3) := by decide +kernel
theorem dX7_image_127 : decode cX7_image 127 = .ok (.aload_n 0, 1) := by decide +kernel
theorem dX7_image_128 : decode cX7_image 128 = .ok (.getfield 166, 3) := by decide +kernel
theorem dX7_image_131 : decode cX7_image 131 = .ok (.iload_n 1, 1) := by decide +kernel
theorem dX7_image_132 : decode cX7_image 132 = .ok (.aload_n 0, 1) := by decide +kernel
theorem dX7_image_133 : decode cX7_image 133 = .ok (.getfield 26, 3) := by decide +kernel
theorem dX7_image_136 : decode cX7_image 136 = .ok (.iload_n 1, 1) := by decide +kernel
theorem dX7_image_137 : decode cX7_image 137 = .ok (.iaload, 1) := by decide +kernel
theorem dX7_image_138 : decode cX7_image 138 = .ok (.iastore, 1) := by decide +kernel
theorem dX7_image_139 : decode cX7_image 139 = .ok (.iinc 1 1, 3) := by decide +kernel
theorem dX7_image_142 : decode cX7_image 142 = .ok (.goto (-21), 3) := by decide +kernel
theorem dX7_image_145 : decode cX7_image 145 = .ok (.iconst 0, 1) := by decide +kernel
theorem dX7_image_146 : decode cX7_image 146 = .ok (.istore_n 1, 1) := by decide +kernel
theorem dX7_image_147 : decode cX7_image 147 = .ok (.iload_n 1, 1) := by decide +kernel
theorem dX7_image_148 : decode cX7_image 148 = .ok (.bipush 12, 2) := by decide +kernel
theorem dX7_image_150 : decode cX7_image 150 = .ok (.if_icmp .ge 21, 3) := by decide +kernel
theorem dX7_image_153 : decode cX7_image 153 = .ok (.aload_n 0, 1) := by decide +kernel
theorem dX7_image_154 : decode cX7_image 154 = .ok (.getfield 175, 3) := by decide +kernel
theorem dX7_image_157 : decode cX7_image 157 = .ok (.iload_n 1, 1) := by decide +kernel
theorem dX7_image_158 : decode cX7_image 158 = .ok (.aload_n 0, 1) := by decide +kernel
theorem dX7_image_159 : decode cX7_image 159 = .ok (.getfield 135, 3) := by decide +kernel
theorem dX7_image_162 : decode cX7_image 162 = .ok (.iload_n 1, 1) := by decide +kernel
theorem dX7_image_163 : decode cX7_image 163 = .ok (.iaload, 1) := by decide +kernel
theorem dX7_image_164 : decode cX7_image 164 = .ok (.iastore, 1) := by decide +kernel
theorem dX7_image_165 : decode cX7_image 165 = .ok (.iinc 1 1, 3) := by decide +kernel
theorem dX7_image_168 : decode cX7_image 168 = .ok (.goto (-21), 3) := by decide +kernel
theorem dX7_image_171 : decode cX7_image 171 = .ok (.aload_n 0, 1) := by decide +kernel
theorem dX7_image_172 : decode cX7_image 172 = .ok (.getfield 7, 3) := by decide +kernel
theorem dX7_image_175 : decode cX7_image 175 = .ok (.ireturn, 1) := by decide +kernel
theorem dX7_undo_0 : decode cX7_undo 0 = .ok (.aload_n 0, 1) := by decide +kernel
theorem dX7_undo_1 : decode cX7_undo 1 = .ok (.getfield 138, 3) := by decide +kernel
theorem dX7_undo_4 : decode cX7_undo 4 = .ok (.ifCond .ne 6, 3) := by decide +kernel
theorem dX7_undo_7 : decode cX7_undo 7 = .ok (.bipush (-3), 2) := by decide +kernel
theorem dX7_undo_9 : decode cX7_undo 9 = .ok (.ireturn, 1) := by decide +kernel
theorem dX7_undo_10 : decode cX7_undo 10 = .ok (.aload_n 0, 1) := by decide +kernel
theorem dX7_undo_11 : decode cX7_undo 11 = .ok (.aload_n 0, 1) := by decide +kernel
theorem dX7_undo_12 : decode cX7_undo 12 = .ok (.getfield 142, 3) := by decide +kernel
theorem dX7_undo_15 : decode cX7_undo 15 = .ok (.putfield 32, 3) := by decide +kernel
theorem dX7_undo_18 : decode cX7_undo 18 = .ok (.aload_n 0, 1) := by decide +kernel
theorem dX7_undo_19 : decode cX7_undo 19 = .ok (.aload_n 0, 1) := by decide +kernel
theorem dX7_undo_20 : decode cX7_undo 20 = .ok (.getfield 145, 3) := by decide +kernel
theorem dX7_undo_23 : decode cX7_undo 23 = .ok (.putfield 7, 3) := by decide +kernel
theorem dX7_undo_26 : decode cX7_undo 26 = .ok (.aload_n 0, 1) := by decide +kernel
theorem dX7_undo_27 : decode cX7_undo 27 = .ok (.aload_n 0, 1) := by decide +kernel
theorem dX7_undo_28 : decode cX7_undo 28 = .ok (.getfield 148, 3) := by decide +kernel
theorem dX7_undo_31 : decode cX7_undo 31 = .ok (.putfield 13, 3) := by decide +kernel
theorem dX7_undo_34 : decode cX7_undo 34 = .ok (.aload_n 0, 1) := by decide +kernel
theorem dX7_undo_35 : decode cX7_undo 35 = .ok (.aload_n 0, 1) := by decide +kernel
theorem dX7_undo_36 : decode cX7_undo 36 = .ok (.getfield 151, 3) := by decide +kernel
theorem dX7_undo_39 : decode cX7_undo 39 = .ok (.putfield 123, 3) := by decide +kernel
theorem dX7_undo_42 : decode cX7_undo 42 = .ok (.aload_n 0, 1) := by decide +kernel
theorem dX7_undo_43 : decode cX7_undo 43 = .ok (.aload_n 0, 1) := by decide +kernel
theorem dX7_undo_44 : decode cX7_undo 44 = .ok (.getfield 154, 3) := by decide +kernel
theorem dX7_undo_47 : decode cX7_undo 47 = .ok (.putfield 132, 3) := by decide +kernel
theorem dX7_undo_50 : decode cX7_undo 50 = .ok (.iconst 0, 1) := by decide +kernel
theorem dX7_undo_51 : decode cX7_undo 51 = .ok (.istore_n 1, 1) := by decide +kernel
theorem dX7_undo_52 : decode cX7_undo 52 = .ok (.iload_n 1, 1) := by decide +kernel
theorem dX7_undo_53 : decode cX7_undo 53 = .ok (.bipush 8, 2) := by decide +kernel
theorem dX7_undo_55 : decode cX7_undo 55 = .ok (.if_icmp .ge 69, 3) := by decide +kernel
theorem dX7_undo_58 : decode cX7_undo 58 = .ok (.aload_n 0, 1) := by decide +kernel
theorem dX7_undo_59 : decode cX7_undo 59 = .ok (.getfield 16, 3) := by decide +kernel
theorem dX7_undo_62 : decode cX7_undo 62 = .ok (.iload_n 1, 1) := by decide +kernel
theorem dX7_undo_63 : decode cX7_undo 63 = .ok (.aload_n 0, 1) := by decide +kernel
theorem dX7_undo_64 : decode cX7_undo 64 = .ok (.getfield 157, 3) := by decide +kernel
theorem dX7_undo_67 : decode cX7_undo 67 = .ok (.iload_n 1, 1) := by decide +kernel
theorem dX7_undo_68 : decode cX7_undo 68 = .ok (.iaload, 1) := by decide +kernel
theorem dX7_undo_69 : decode cX7_undo 69 = .ok (.iastore, 1) := by decide +kernel
theorem dX7_undo_70 : decode cX7_undo 70 = .ok (.aload_n 0, 1) := by decide +kernel
theorem dX7_undo_71 : decode cX7_undo 71 = .ok (.getfield 20, 3) := by decide +kernel
theorem dX7_undo_74 : decode cX7_undo 74 = .ok (.iload_n 1, 1) := by decide +kernel
theorem dX7_undo_75 : decode cX7_undo 75 = .ok (.aload_n 0, 1) := by decide +kernel
theorem dX7_undo_76 : decode cX7_undo 76 = .ok (.getfield 160, 3) := by decide +kernel
theorem dX7_undo_79 : decode cX7_undo 79 = .ok (.iload_n 1, 1) := by decide +kernel
theorem dX7_undo_80 : decode cX7_undo 80 = .ok (.iaload, 1) := by decide +kernel
theorem dX7_undo_81 : decode cX7_undo 81 = .ok (.iastore, 1) := by decide +kernel
theorem dX7_undo_82 : decode cX7_undo 82 = .ok (.aload_n 0, 1) := by decide +kernel
theorem dX7_undo_83 : decode cX7_undo 83 = .ok (.getfield 23, 3) := by decide +kernel
theorem dX7_undo_86 : decode cX7_undo 86 = .ok (.iload_n 1, 1) := by decide +kernel
theorem dX7_undo_87 : decode cX7_undo 87 = .ok (.aload_n 0, 1) := by decide +kernel
theorem dX7_undo_88 : decode cX7_undo 88 = .ok (.getfield 163, 3) := by decide +kernel
theorem dX7_undo_91 : decode cX7_undo 91 = .ok (.iload_n 1, 1) := by decide +kernel
theorem dX7_undo_92 : decode cX7_undo 92 = .ok (.iaload, 1) := by decide +kernel
theorem dX7_undo_93 : decode cX7_undo 93 = .ok (.iastore, 1) := by decide +kernel
theorem dX7_undo_94 : decode cX7_undo 94 = .ok (.aload_n 0, 1) := by decide +kernel
theorem dX7_undo_95 : decode cX7_undo 95 = .ok (.getfield 126, 3) := by decide +kernel
theorem dX7_undo_98 : decode cX7_undo 98 = .ok (.iload_n 1, 1) := by decide +kernel
theorem dX7_undo_99 : decode cX7_undo 99 = .ok (.aload_n 0, 1) := by decide +kernel
theorem dX7_undo_100 : decode cX7_undo 100 = .ok (.getfield 169, 3) := by decide +kernel
theorem dX7_undo_103 : decode cX7_undo 103 = .ok (.iload_n 1, 1) := by decide +kernel
theorem dX7_undo_104 : decode cX7_undo 104 = .ok (.iaload, 1) := by decide +kernel
theorem dX7_undo_105 : decode cX7_undo 105 = .ok (.iastore, 1) := by decide +kernel
theorem dX7_undo_106 : decode cX7_undo 106 = .ok (.aload_n 0, 1) := by decide +kernel
theorem dX7_undo_107 : decode cX7_undo 107 = .ok (.getfield 129, 3) := by decide +kernel
theorem dX7_undo_110 : decode cX7_undo 110 = .ok (.iload_n 1, 1) := by decide +kernel
theorem dX7_undo_111 : decode cX7_undo 111 = .ok (.aload_n 0, 1) := by decide +kernel
theorem dX7_undo_112 : decode cX7_undo 112 = .ok (.getfield 172, 3) := by decide +kernel
theorem dX7_undo_115 : decode cX7_undo 115 = .ok (.iload_n 1, 1) := by decide +kernel
theorem dX7_undo_116 : decode cX7_undo 116 = .ok (.iaload, 1) := by decide +kernel
theorem dX7_undo_117 : decode cX7_undo 117 = .ok (.iastore, 1) := by decide +kernel
theorem dX7_undo_118 : decode cX7_undo 118 = .ok (.iinc 1 1, 3) := by decide +kernel
theorem dX7_undo_121 : decode cX7_undo 121 = .ok (.goto (-69), 3) := by decide +kernel
theorem dX7_undo_124 : decode cX7_undo 124 = .ok (.iconst 0, 1) := by decide +kernel
theorem dX7_undo_125 : decode cX7_undo 125 = .ok (.istore_n 1, 1) := by decide +kernel
theorem dX7_undo_126 : decode cX7_undo 126 = .ok (.iload_n 1, 1) := by decide +kernel
theorem dX7_undo_127 : decode cX7_undo 127 = .ok (.bipush 32, 2) := by decide +kernel
theorem dX7_undo_129 : decode cX7_undo 129 = .ok (.if_icmp .ge 21, 3) := by decide +kernel
theorem dX7_undo_132 : decode cX7_undo 132 = .ok (.aload_n 0, 1) := by decide +kernel
theorem dX7_undo_133 : decode cX7_undo 133 = .ok (.getfield 26, 3) := by decide +kernel
theorem dX7_undo_136 : decode cX7_undo 136 = .ok (.iload_n 1, 1) := by decide +kernel
theorem dX7_undo_137 : decode cX7_undo 137 = .ok (.aload_n 0, 1) := by decide +kernel
theorem dX7_undo_138 : decode cX7_undo 138 = .ok (.getfield 166, 3) := by decide +kernel
theorem dX7_undo_141 : decode cX7_undo 141 = .ok (.iload_n 1, 1) := by decide +kernel
theorem dX7_undo_142 : decode cX7_undo 142 = .ok (.iaload, 1) := by decide +kernel
theorem dX7_undo_143 : decode cX7_undo 143 = .ok (.iastore, 1) := by decide +kernel
theorem dX7_undo_144 : decode cX7_undo 144 = .ok (.iinc 1 1, 3) := by decide +kernel
theorem dX7_undo_147 : decode cX7_undo 147 = .ok (.goto (-21), 3) := by decide +kernel
theorem dX7_undo_150 : decode cX7_undo 150 = .ok (.iconst 0, 1) := by decide +kernel
theorem dX7_undo_151 : decode cX7_undo 151 = .ok (.istore_n 1, 1) := by decide +kernel
theorem dX7_undo_152 : decode cX7_undo 152 = .ok (.iload_n 1, 1) := by decide +kernel
theorem dX7_undo_153 : decode cX7_undo 153 = .ok (.bipush 12, 2) := by decide +kernel
theorem dX7_undo_155 : decode cX7_undo 155 = .ok (.if_icmp .ge 21, 3) := by decide +kernel
theorem dX7_undo_158 : decode cX7_undo 158 = .ok (.aload_n 0, 1) := by decide +kernel
theorem dX7_undo_159 : decode cX7_undo 159 = .ok (.getfield 135, 3) := by decide +kernel
theorem dX7_undo_162 : decode cX7_undo 162 = .ok (.iload_n 1, 1) := by decide +kernel
theorem dX7_undo_163 : decode cX7_undo 163 = .ok (.aload_n 0, 1) := by decide +kernel
theorem dX7_undo_164 : decode cX7_undo 164 = .ok (.getfield 175, 3) := by decide +kernel
theorem dX7_undo_167 : decode cX7_undo 167 = .ok (.iload_n 1, 1) := by decide +kernel
theorem dX7_undo_168 : decode cX7_undo 168 = .ok (.iaload, 1) := by decide +kernel
theorem dX7_undo_169 : decode cX7_undo 169 = .ok (.iastore, 1) := by decide +kernel
theorem dX7_undo_170 : decode cX7_undo 170 = .ok (.iinc 1 1, 3) := by decide +kernel
theorem dX7_undo_173 : decode cX7_undo 173 = .ok (.goto (-21), 3) := by decide +kernel
theorem dX7_undo_176 : decode cX7_undo 176 = .ok (.aload_n 0, 1) := by decide +kernel
theorem dX7_undo_177 : decode cX7_undo 177 = .ok (.getfield 7, 3) := by decide +kernel
theorem dX7_undo_180 : decode cX7_undo 180 = .ok (.ireturn, 1) := by decide +kernel
theorem dX7_body_0 : decode cX7_body 0 = .ok (.aload_n 0, 1) := by decide +kernel
theorem dX7_body_1 : decode cX7_body 1 = .ok (.getfield 178, 3) := by decide +kernel
theorem dX7_body_4 : decode cX7_body 4 = .ok (.bipush 20, 2) := by decide +kernel
theorem dX7_body_6 : decode cX7_body 6 = .ok (.if_icmp .ge 13, 3) := by decide +kernel
theorem dX7_body_9 : decode cX7_body 9 = .ok (.aload_n 0, 1) := by decide +kernel
theorem dX7_body_10 : decode cX7_body 10 = .ok (.getfield 181, 3) := by decide +kernel
theorem dX7_body_13 : decode cX7_body 13 = .ok (.aload_n 0, 1) := by decide +kernel
theorem dX7_body_14 : decode cX7_body 14 = .ok (.getfield 178, 3) := by decide +kernel
theorem dX7_body_17 : decode cX7_body 17 = .ok (.iload_n 1, 1) := by decide +kernel
theorem dX7_body_18 : decode cX7_body 18 = .ok (.iastore, 1) := by decide +kernel
theorem dX7_body_19 : decode cX7_body 19 = .ok (.aload_n 0, 1) := by decide +kernel
theorem dX7_body_20 : decode cX7_body 20 = .ok (.dup, 1) := by decide +kernel
theorem dX7_body_21 : decode cX7_body 21 = .ok (.getfield 178, 3) := by decide +kernel
theorem dX7_body_24 : decode cX7_body 24 = .ok (.iconst 1, 1) := by decide +kernel
theorem dX7_body_25 : decode cX7_body 25 = .ok (.iadd, 1) := by decide +kernel
theorem dX7_body_26 : decode cX7_body 26 = .ok (.putfield 178, 3) := by decide +kernel
theorem dX7_body_29 : decode cX7_body 29 = .ok (.return_, 1) := by decide +kernel
theorem dX7_houseEarns_0 : decode cX7_houseEarns 0 = .ok (.aload_n 0, 1) := by decide +kernel
theorem dX7_houseEarns_1 : decode cX7_houseEarns 1 = .ok (.bipush 10, 2) := by decide +kernel
theorem dX7_houseEarns_3 : decode cX7_houseEarns 3 = .ok (.invokevirtual 383, 3) := by decide +kernel
theorem dX7_houseEarns_6 : decode cX7_houseEarns 6 = .ok (.iload_n 2, 1) := by decide +kernel
theorem dX7_houseEarns_7 : decode cX7_houseEarns 7 = .ok (.iload_n 1, 1) := by decide +kernel
theorem dX7_houseEarns_8 : decode cX7_houseEarns 8 = .ok (.iadd, 1) := by decide +kernel
theorem dX7_houseEarns_9 : decode cX7_houseEarns 9 = .ok (.ireturn, 1) := by decide +kernel
theorem dX7_earnsAct_0 : decode cX7_earnsAct 0 = .ok (.aload_n 0, 1) := by decide +kernel
theorem dX7_earnsAct_1 : decode cX7_earnsAct 1 = .ok (.getfield 16, 3) := by decide +kernel
theorem dX7_earnsAct_4 : decode cX7_earnsAct 4 = .ok (.iload_n 1, 1) := by decide +kernel
theorem dX7_earnsAct_5 : decode cX7_earnsAct 5 = .ok (.iaload, 1) := by decide +kernel
theorem dX7_earnsAct_6 : decode cX7_earnsAct 6 = .ok (.tableswitch 83 2 6 #[34, 83, 49, 34, 63], 34) := by decide +kernel
theorem dX7_earnsAct_40 : decode cX7_earnsAct 40 = .ok (.aload_n 0, 1) := by decide +kernel
theorem dX7_earnsAct_41 : decode cX7_earnsAct 41 = .ok (.bipush 30, 2) := by decide +kernel
theorem dX7_earnsAct_43 : decode cX7_earnsAct 43 = .ok (.invokevirtual 383, 3) := by decide +kernel
theorem dX7_earnsAct_46 : decode cX7_earnsAct 46 = .ok (.aload_n 0, 1) := by decide +kernel
theorem dX7_earnsAct_47 : decode cX7_earnsAct 47 = .ok (.iload_n 1, 1) := by decide +kernel
theorem dX7_earnsAct_48 : decode cX7_earnsAct 48 = .ok (.iload_n 2, 1) := by decide +kernel
theorem dX7_earnsAct_49 : decode cX7_earnsAct 49 = .ok (.iconst 3, 1) := by decide +kernel
theorem dX7_earnsAct_50 : decode cX7_earnsAct 50 = .ok (.imul, 1) := by decide +kernel
theorem dX7_earnsAct_51 : decode cX7_earnsAct 51 = .ok (.invokevirtual 386, 3) := by decide +kernel
theorem dX7_earnsAct_54 : decode cX7_earnsAct 54 = .ok (.ireturn, 1) := by decide +kernel
theorem dX7_earnsAct_55 : decode cX7_earnsAct 55 = .ok (.aload_n 0, 1) := by decide +kernel
theorem dX7_earnsAct_56 : decode cX7_earnsAct 56 = .ok (.bipush 50, 2) := by decide +kernel
theorem dX7_earnsAct_58 : decode cX7_earnsAct 58 = .ok (.invokevirtual 383, 3) := by decide +kernel
theorem dX7_earnsAct_61 : decode cX7_earnsAct 61 = .ok (.aload_n 0, 1) := by decide +kernel
theorem dX7_earnsAct_62 : decode cX7_earnsAct 62 = .ok (.iload_n 1, 1) := by decide +kernel
theorem dX7_earnsAct_63 : decode cX7_earnsAct 63 = .ok (.iload_n 2, 1) := by decide +kernel
theorem dX7_earnsAct_64 : decode cX7_earnsAct 64 = .ok (.invokevirtual 386, 3) := by decide +kernel
theorem dX7_earnsAct_67 : decode cX7_earnsAct 67 = .ok (.ineg, 1) := by decide +kernel
theorem dX7_earnsAct_68 : decode cX7_earnsAct 68 = .ok (.ireturn, 1) := by decide +kernel
theorem dX7_earnsAct_69 : decode cX7_earnsAct 69 = .ok (.aload_n 0, 1) := by decide +kernel
theorem dX7_earnsAct_70 : decode cX7_earnsAct 70 = .ok (.bipush 71, 2) := by decide +kernel
theorem dX7_earnsAct_72 : decode cX7_earnsAct 72 = .ok (.invokevirtual 383, 3) := by decide +kernel
theorem dX7_earnsAct_75 : decode cX7_earnsAct 75 = .ok (.aload_n 0, 1) := by decide +kernel
theorem dX7_earnsAct_76 : decode cX7_earnsAct 76 = .ok (.iload_n 1, 1) := by decide +kernel
theorem dX7_earnsAct_77 : decode cX7_earnsAct 77 = .ok (.iload_n 2, 1) := by decide +kernel
theorem dX7_earnsAct_78 : decode cX7_earnsAct 78 = .ok (.invokevirtual 386, 3) := by decide +kernel
theorem dX7_earnsAct_81 : decode cX7_earnsAct 81 = .ok (.aload_n 0, 1) := by decide +kernel
theorem dX7_earnsAct_82 : decode cX7_earnsAct 82 = .ok (.getfield 20, 3) := by decide +kernel
theorem dX7_earnsAct_85 : decode cX7_earnsAct 85 = .ok (.iload_n 1, 1) := by decide +kernel
theorem dX7_earnsAct_86 : decode cX7_earnsAct 86 = .ok (.iaload, 1) := by decide +kernel
theorem dX7_earnsAct_87 : decode cX7_earnsAct 87 = .ok (.ixor, 1) := by decide +kernel
theorem dX7_earnsAct_88 : decode cX7_earnsAct 88 = .ok (.ireturn, 1) := by decide +kernel
theorem dX7_earnsAct_89 : decode cX7_earnsAct 89 = .ok (.aload_n 0, 1) := by decide +kernel
theorem dX7_earnsAct_90 : decode cX7_earnsAct 90 = .ok (.iload_n 1, 1) := by decide +kernel
theorem dX7_earnsAct_91 : decode cX7_earnsAct 91 = .ok (.iload_n 2, 1) := by decide +kernel
theorem dX7_earnsAct_92 : decode cX7_earnsAct 92 = .ok (.invokevirtual 386, 3) := by decide +kernel
theorem dX7_earnsAct_95 : decode cX7_earnsAct 95 = .ok (.ireturn, 1) := by decide +kernel
theorem dX7_houseSays_0 : decode cX7_houseSays 0 = .ok (.aload_n 0, 1) := by decide +kernel
theorem dX7_houseSays_1 : decode cX7_houseSays 1 = .ok (.bipush 11, 2) := by decide +kernel
theorem dX7_houseSays_3 : decode cX7_houseSays 3 = .ok (.invokevirtual 383, 3) := by decide +kernel
theorem dX7_houseSays_6 : decode cX7_houseSays 6 = .ok (.aload_n 0, 1) := by decide +kernel
theorem dX7_houseSays_7 : decode cX7_houseSays 7 = .ok (.iload_n 1, 1) := by decide +kernel
theorem dX7_houseSays_8 : decode cX7_houseSays 8 = .ok (.iload_n 2, 1) := by decide +kernel
theorem dX7_houseSays_9 : decode cX7_houseSays 9 = .ok (.invokevirtual 389, 3) := by decide +kernel
theorem dX7_houseSays_12 : decode cX7_houseSays 12 = .ok (.aload_n 0, 1) := by decide +kernel
theorem dX7_houseSays_13 : decode cX7_houseSays 13 = .ok (.getfield 20, 3) := by decide +kernel
theorem dX7_houseSays_16 : decode cX7_houseSays 16 = .ok (.iload_n 1, 1) := by decide +kernel
theorem dX7_houseSays_17 : decode cX7_houseSays 17 = .ok (.iaload, 1) := by decide +kernel
theorem dX7_houseSays_18 : decode cX7_houseSays 18 = .ok (.isub, 1) := by decide +kernel
theorem dX7_houseSays_19 : decode cX7_houseSays 19 = .ok (.ireturn, 1) := by decide +kernel
theorem dX7_proudSays_0 : decode cX7_proudSays 0 = .ok (.aload_n 0, 1) := by decide +kernel
theorem dX7_proudSays_1 : decode cX7_proudSays 1 = .ok (.bipush 20, 2) := by decide +kernel
theorem dX7_proudSays_3 : decode cX7_proudSays 3 = .ok (.invokevirtual 383, 3) := by decide +kernel
theorem dX7_proudSays_6 : decode cX7_proudSays 6 = .ok (.aload_n 0, 1) := by decide +kernel
theorem dX7_proudSays_7 : decode cX7_proudSays 7 = .ok (.iload_n 1, 1) := by decide +kernel
theorem dX7_proudSays_8 : decode cX7_proudSays 8 = .ok (.iload_n 2, 1) := by decide +kernel
theorem dX7_proudSays_9 : decode cX7_proudSays 9 = .ok (.invokevirtual 392, 3) := by decide +kernel
theorem dX7_proudSays_12 : decode cX7_proudSays 12 = .ok (.bipush 6, 2) := by decide +kernel
theorem dX7_proudSays_14 : decode cX7_proudSays 14 = .ok (.ixor, 1) := by decide +kernel
theorem dX7_proudSays_15 : decode cX7_proudSays 15 = .ok (.ireturn, 1) := by decide +kernel
theorem dX7_saysAct_0 : decode cX7_saysAct 0 = .ok (.aload_n 0, 1) := by decide +kernel
theorem dX7_saysAct_1 : decode cX7_saysAct 1 = .ok (.getfield 16, 3) := by decide +kernel
theorem dX7_saysAct_4 : decode cX7_saysAct 4 = .ok (.iload_n 1, 1) := by decide +kernel
theorem dX7_saysAct_5 : decode cX7_saysAct 5 = .ok (.iaload, 1) := by decide +kernel
theorem dX7_saysAct_6 : decode cX7_saysAct 6 = .ok (.lookupswitch 78 #[(1, 34), (4, 41), (6, 56)], 34) := by decide +kernel
theorem dX7_saysAct_40 : decode cX7_saysAct 40 = .ok (.aload_n 0, 1) := by decide +kernel
theorem dX7_saysAct_41 : decode cX7_saysAct 41 = .ok (.iload_n 1, 1) := by decide +kernel
theorem dX7_saysAct_42 : decode cX7_saysAct 42 = .ok (.iload_n 2, 1) := by decide +kernel
theorem dX7_saysAct_43 : decode cX7_saysAct 43 = .ok (.invokevirtual 395, 3) := by decide +kernel
theorem dX7_saysAct_46 : decode cX7_saysAct 46 = .ok (.ireturn, 1) := by decide +kernel
theorem dX7_saysAct_47 : decode cX7_saysAct 47 = .ok (.aload_n 0, 1) := by decide +kernel
theorem dX7_saysAct_48 : decode cX7_saysAct 48 = .ok (.bipush 51, 2) := by decide +kernel
theorem dX7_saysAct_50 : decode cX7_saysAct 50 = .ok (.invokevirtual 383, 3) := by decide +kernel
theorem dX7_saysAct_53 : decode cX7_saysAct 53 = .ok (.aload_n 0, 1) := by decide +kernel
theorem dX7_saysAct_54 : decode cX7_saysAct 54 = .ok (.iload_n 1, 1) := by decide +kernel
theorem dX7_saysAct_55 : decode cX7_saysAct 55 = .ok (.iload_n 2, 1) := by decide +kernel
theorem dX7_saysAct_56 : decode cX7_saysAct 56 = .ok (.iconst 1, 1) := by decide +kernel
theorem dX7_saysAct_57 : decode cX7_saysAct 57 = .ok (.iadd, 1) := by decide +kernel
theorem dX7_saysAct_58 : decode cX7_saysAct 58 = .ok (.invokevirtual 395, 3) := by decide +kernel
theorem dX7_saysAct_61 : decode cX7_saysAct 61 = .ok (.ireturn, 1) := by decide +kernel
theorem dX7_saysAct_62 : decode cX7_saysAct 62 = .ok (.aload_n 0, 1) := by decide +kernel
theorem dX7_saysAct_63 : decode cX7_saysAct 63 = .ok (.bipush 70, 2) := by decide +kernel
theorem dX7_saysAct_65 : decode cX7_saysAct 65 = .ok (.invokevirtual 383, 3) := by decide +kernel
theorem dX7_saysAct_68 : decode cX7_saysAct 68 = .ok (.aload_n 0, 1) := by decide +kernel
theorem dX7_saysAct_69 : decode cX7_saysAct 69 = .ok (.iload_n 1, 1) := by decide +kernel
theorem dX7_saysAct_70 : decode cX7_saysAct 70 = .ok (.iload_n 2, 1) := by decide +kernel
theorem dX7_saysAct_71 : decode cX7_saysAct 71 = .ok (.invokevirtual 392, 3) := by decide +kernel
theorem dX7_saysAct_74 : decode cX7_saysAct 74 = .ok (.istore_n 3, 1) := by decide +kernel
theorem dX7_saysAct_75 : decode cX7_saysAct 75 = .ok (.iload_n 3, 1) := by decide +kernel
theorem dX7_saysAct_76 : decode cX7_saysAct 76 = .ok (.aload_n 0, 1) := by decide +kernel
theorem dX7_saysAct_77 : decode cX7_saysAct 77 = .ok (.iload_n 1, 1) := by decide +kernel
theorem dX7_saysAct_78 : decode cX7_saysAct 78 = .ok (.iconst 2, 1) := by decide +kernel
theorem dX7_saysAct_79 : decode cX7_saysAct 79 = .ok (.invokevirtual 386, 3) := by decide +kernel
theorem dX7_saysAct_82 : decode cX7_saysAct 82 = .ok (.iadd, 1) := by decide +kernel
theorem dX7_saysAct_83 : decode cX7_saysAct 83 = .ok (.ireturn, 1) := by decide +kernel
theorem dX7_saysAct_84 : decode cX7_saysAct 84 = .ok (.aload_n 0, 1) := by decide +kernel
theorem dX7_saysAct_85 : decode cX7_saysAct 85 = .ok (.iload_n 1, 1) := by decide +kernel
theorem dX7_saysAct_86 : decode cX7_saysAct 86 = .ok (.iload_n 2, 1) := by decide +kernel
theorem dX7_saysAct_87 : decode cX7_saysAct 87 = .ok (.invokevirtual 392, 3) := by decide +kernel
theorem dX7_saysAct_90 : decode cX7_saysAct 90 = .ok (.ireturn, 1) := by decide +kernel
theorem dX7_houseTells_0 : decode cX7_houseTells 0 = .ok (.aload_n 0, 1) := by decide +kernel
theorem dX7_houseTells_1 : decode cX7_houseTells 1 = .ok (.bipush 12, 2) := by decide +kernel
theorem dX7_houseTells_3 : decode cX7_houseTells 3 = .ok (.invokevirtual 383, 3) := by decide +kernel
theorem dX7_houseTells_6 : decode cX7_houseTells 6 = .ok (.aload_n 0, 1) := by decide +kernel
theorem dX7_houseTells_7 : decode cX7_houseTells 7 = .ok (.iload_n 1, 1) := by decide +kernel
theorem dX7_houseTells_8 : decode cX7_houseTells 8 = .ok (.iload_n 2, 1) := by decide +kernel
theorem dX7_houseTells_9 : decode cX7_houseTells 9 = .ok (.invokevirtual 398, 3) := by decide +kernel
theorem dX7_houseTells_12 : decode cX7_houseTells 12 = .ok (.iconst 2, 1) := by decide +kernel
theorem dX7_houseTells_13 : decode cX7_houseTells 13 = .ok (.imul, 1) := by decide +kernel
theorem dX7_houseTells_14 : decode cX7_houseTells 14 = .ok (.ireturn, 1) := by decide +kernel
theorem dX7_tellsAct_0 : decode cX7_tellsAct 0 = .ok (.aload_n 0, 1) := by decide +kernel
theorem dX7_tellsAct_1 : decode cX7_tellsAct 1 = .ok (.getfield 16, 3) := by decide +kernel
theorem dX7_tellsAct_4 : decode cX7_tellsAct 4 = .ok (.iload_n 1, 1) := by decide +kernel
theorem dX7_tellsAct_5 : decode cX7_tellsAct 5 = .ok (.iaload, 1) := by decide +kernel
theorem dX7_tellsAct_6 : decode cX7_tellsAct 6 = .ok (.tableswitch 67 3 6 #[30, 67, 52, 30], 30) := by decide +kernel
theorem dX7_tellsAct_36 : decode cX7_tellsAct 36 = .ok (.aload_n 0, 1) := by decide +kernel
theorem dX7_tellsAct_37 : decode cX7_tellsAct 37 = .ok (.bipush 40, 2) := by decide +kernel
theorem dX7_tellsAct_39 : decode cX7_tellsAct 39 = .ok (.invokevirtual 383, 3) := by decide +kernel
theorem dX7_tellsAct_42 : decode cX7_tellsAct 42 = .ok (.aload_n 0, 1) := by decide +kernel
theorem dX7_tellsAct_43 : decode cX7_tellsAct 43 = .ok (.iload_n 1, 1) := by decide +kernel
theorem dX7_tellsAct_44 : decode cX7_tellsAct 44 = .ok (.iload_n 2, 1) := by decide +kernel
theorem dX7_tellsAct_45 : decode cX7_tellsAct 45 = .ok (.invokevirtual 401, 3) := by decide +kernel
theorem dX7_tellsAct_48 : decode cX7_tellsAct 48 = .ok (.istore_n 3, 1) := by decide +kernel
theorem dX7_tellsAct_49 : decode cX7_tellsAct 49 = .ok (.iload_n 3, 1) := by decide +kernel
theorem dX7_tellsAct_50 : decode cX7_tellsAct 50 = .ok (.aload_n 0, 1) := by decide +kernel
theorem dX7_tellsAct_51 : decode cX7_tellsAct 51 = .ok (.iload_n 1, 1) := by decide +kernel
theorem dX7_tellsAct_52 : decode cX7_tellsAct 52 = .ok (.iconst 1, 1) := by decide +kernel
theorem dX7_tellsAct_53 : decode cX7_tellsAct 53 = .ok (.invokevirtual 398, 3) := by decide +kernel
theorem dX7_tellsAct_56 : decode cX7_tellsAct 56 = .ok (.iadd, 1) := by decide +kernel
theorem dX7_tellsAct_57 : decode cX7_tellsAct 57 = .ok (.ireturn, 1) := by decide +kernel
theorem dX7_tellsAct_58 : decode cX7_tellsAct 58 = .ok (.aload_n 0, 1) := by decide +kernel
theorem dX7_tellsAct_59 : decode cX7_tellsAct 59 = .ok (.bipush 60, 2) := by decide +kernel
theorem dX7_tellsAct_61 : decode cX7_tellsAct 61 = .ok (.invokevirtual 383, 3) := by decide +kernel
theorem dX7_tellsAct_64 : decode cX7_tellsAct 64 = .ok (.aload_n 0, 1) := by decide +kernel
theorem dX7_tellsAct_65 : decode cX7_tellsAct 65 = .ok (.iload_n 1, 1) := by decide +kernel
theorem dX7_tellsAct_66 : decode cX7_tellsAct 66 = .ok (.iload_n 2, 1) := by decide +kernel
theorem dX7_tellsAct_67 : decode cX7_tellsAct 67 = .ok (.iload_n 1, 1) := by decide +kernel
theorem dX7_tellsAct_68 : decode cX7_tellsAct 68 = .ok (.isub, 1) := by decide +kernel
theorem dX7_tellsAct_69 : decode cX7_tellsAct 69 = .ok (.invokevirtual 401, 3) := by decide +kernel
theorem dX7_tellsAct_72 : decode cX7_tellsAct 72 = .ok (.ireturn, 1) := by decide +kernel
theorem dX7_tellsAct_73 : decode cX7_tellsAct 73 = .ok (.aload_n 0, 1) := by decide +kernel
theorem dX7_tellsAct_74 : decode cX7_tellsAct 74 = .ok (.iload_n 1, 1) := by decide +kernel
theorem dX7_tellsAct_75 : decode cX7_tellsAct 75 = .ok (.iload_n 2, 1) := by decide +kernel
theorem dX7_tellsAct_76 : decode cX7_tellsAct 76 = .ok (.invokevirtual 401, 3) := by decide +kernel
theorem dX7_tellsAct_79 : decode cX7_tellsAct 79 = .ok (.ireturn, 1) := by decide +kernel
theorem dX7_act_0 : decode cX7_act 0 = .ok (.aload_n 0, 1) := by decide +kernel
theorem dX7_act_1 : decode cX7_act 1 = .ok (.iconst 0, 1) := by decide +kernel
theorem dX7_act_2 : decode cX7_act 2 = .ok (.putfield 178, 3) := by decide +kernel
theorem dX7_act_5 : decode cX7_act 5 = .ok (.aload_n 0, 1) := by decide +kernel
theorem dX7_act_6 : decode cX7_act 6 = .ok (.iload_n 1, 1) := by decide +kernel
theorem dX7_act_7 : decode cX7_act 7 = .ok (.invokevirtual 205, 3) := by decide +kernel
theorem dX7_act_10 : decode cX7_act 10 = .ok (.ifCond .eq 13, 3) := by decide +kernel
theorem dX7_act_13 : decode cX7_act 13 = .ok (.aload_n 0, 1) := by decide +kernel
theorem dX7_act_14 : decode cX7_act 14 = .ok (.iload_n 2, 1) := by decide +kernel
theorem dX7_act_15 : decode cX7_act 15 = .ok (.iconst 0, 1) := by decide +kernel
theorem dX7_act_16 : decode cX7_act 16 = .ok (.iconst 2, 1) := by decide +kernel
theorem dX7_act_17 : decode cX7_act 17 = .ok (.invokevirtual 197, 3) := by decide +kernel
theorem dX7_act_20 : decode cX7_act 20 = .ok (.ifCond .ne 5, 3) := by decide +kernel
theorem dX7_act_23 : decode cX7_act 23 = .ok (.iconst 0, 1) := by decide +kernel
theorem dX7_act_24 : decode cX7_act 24 = .ok (.ireturn, 1) := by decide +kernel
theorem dX7_act_25 : decode cX7_act 25 = .ok (.iload_n 2, 1) := by decide +kernel
theorem dX7_act_26 : decode cX7_act 26 = .ok (.ifCond .ne 12, 3) := by decide +kernel
theorem dX7_act_29 : decode cX7_act 29 = .ok (.aload_n 0, 1) := by decide +kernel
theorem dX7_act_30 : decode cX7_act 30 = .ok (.iload_n 1, 1) := by decide +kernel
theorem dX7_act_31 : decode cX7_act 31 = .ok (.iload_n 3, 1) := by decide +kernel
theorem dX7_act_32 : decode cX7_act 32 = .ok (.invokevirtual 389, 3) := by decide +kernel
theorem dX7_act_35 : decode cX7_act 35 = .ok (.goto 23, 3) := by decide +kernel
theorem dX7_act_38 : decode cX7_act 38 = .ok (.iload_n 2, 1) := by decide +kernel
theorem dX7_act_39 : decode cX7_act 39 = .ok (.iconst 1, 1) := by decide +kernel
theorem dX7_act_40 : decode cX7_act 40 = .ok (.if_icmp .ne 12, 3) := by decide +kernel
theorem dX7_act_43 : decode cX7_act 43 = .ok (.aload_n 0, 1) := by decide +kernel
theorem dX7_act_44 : decode cX7_act 44 = .ok (.iload_n 1, 1) := by decide +kernel
theorem dX7_act_45 : decode cX7_act 45 = .ok (.iload_n 3, 1) := by decide +kernel
theorem dX7_act_46 : decode cX7_act 46 = .ok (.invokevirtual 398, 3) := by decide +kernel
theorem dX7_act_49 : decode cX7_act 49 = .ok (.goto 9, 3) := by decide +kernel
theorem dX7_act_52 : decode cX7_act 52 = .ok (.aload_n 0, 1) := by decide +kernel
theorem dX7_act_53 : decode cX7_act 53 = .ok (.iload_n 1, 1) := by decide +kernel
theorem dX7_act_54 : decode cX7_act 54 = .ok (.iload_n 3, 1) := by decide +kernel
theorem dX7_act_55 : decode cX7_act 55 = .ok (.invokevirtual 404, 3) := by decide +kernel
theorem dX7_act_58 : decode cX7_act 58 = .ok (.ireturn, 1) := by decide +kernel
theorem dX7_trace_0 : decode cX7_trace 0 = .ok (.aload_n 0, 1) := by decide +kernel
theorem dX7_trace_1 : decode cX7_trace 1 = .ok (.iload_n 1, 1) := by decide +kernel
theorem dX7_trace_2 : decode cX7_trace 2 = .ok (.iconst 0, 1) := by decide +kernel
theorem dX7_trace_3 : decode cX7_trace 3 = .ok (.bipush 19, 2) := by decide +kernel
theorem dX7_trace_5 : decode cX7_trace 5 = .ok (.invokevirtual 197, 3) := by decide +kernel
theorem dX7_trace_8 : decode cX7_trace 8 = .ok (.ifCond .eq 20, 3) := by decide +kernel
theorem dX7_trace_11 : decode cX7_trace 11 = .ok (.iload_n 1, 1) := by decide +kernel
theorem dX7_trace_12 : decode cX7_trace 12 = .ok (.aload_n 0, 1) := by decide +kernel
theorem dX7_trace_13 : decode cX7_trace 13 = .ok (.getfield 178, 3) := by decide +kernel
theorem dX7_trace_16 : decode cX7_trace 16 = .ok (.if_icmp .ge 12, 3) := by decide +kernel
theorem dX7_trace_19 : decode cX7_trace 19 = .ok (.aload_n 0, 1) := by decide +kernel
theorem dX7_trace_20 : decode cX7_trace 20 = .ok (.getfield 181, 3) := by decide +kernel
theorem dX7_trace_23 : decode cX7_trace 23 = .ok (.iload_n 1, 1) := by decide +kernel
theorem dX7_trace_24 : decode cX7_trace 24 = .ok (.iaload, 1) := by decide +kernel
theorem dX7_trace_25 : decode cX7_trace 25 = .ok (.goto 4, 3) := by decide +kernel
theorem dX7_trace_28 : decode cX7_trace 28 = .ok (.iconst (-1), 1) := by decide +kernel
theorem dX7_trace_29 : decode cX7_trace 29 = .ok (.ireturn, 1) := by decide +kernel
theorem dX7_taken_0 : decode cX7_taken 0 = .ok (.aload_n 0, 1) := by decide +kernel
theorem dX7_taken_1 : decode cX7_taken 1 = .ok (.iload_n 2, 1) := by decide +kernel
theorem dX7_taken_2 : decode cX7_taken 2 = .ok (.iconst 0, 1) := by decide +kernel
theorem dX7_taken_3 : decode cX7_taken 3 = .ok (.bipush 6, 2) := by decide +kernel
theorem dX7_taken_5 : decode cX7_taken 5 = .ok (.invokevirtual 197, 3) := by decide +kernel
theorem dX7_taken_8 : decode cX7_taken 8 = .ok (.ifCond .ne 6, 3) := by decide +kernel
theorem dX7_taken_11 : decode cX7_taken 11 = .ok (.bipush (-2), 2) := by decide +kernel
theorem dX7_taken_13 : decode cX7_taken 13 = .ok (.ireturn, 1) := by decide +kernel
theorem dX7_taken_14 : decode cX7_taken 14 = .ok (.aload_n 0, 1) := by decide +kernel
theorem dX7_taken_15 : decode cX7_taken 15 = .ok (.iload_n 1, 1) := by decide +kernel
theorem dX7_taken_16 : decode cX7_taken 16 = .ok (.invokevirtual 205, 3) := by decide +kernel
theorem dX7_taken_19 : decode cX7_taken 19 = .ok (.ifCond .ne 6, 3) := by decide +kernel
theorem dX7_taken_22 : decode cX7_taken 22 = .ok (.bipush (-11), 2) := by decide +kernel
theorem dX7_taken_24 : decode cX7_taken 24 = .ok (.ireturn, 1) := by decide +kernel
theorem dX7_taken_25 : decode cX7_taken 25 = .ok (.aload_n 0, 1) := by decide +kernel
theorem dX7_taken_26 : decode cX7_taken 26 = .ok (.getfield 16, 3) := by decide +kernel
theorem dX7_taken_29 : decode cX7_taken 29 = .ok (.iload_n 1, 1) := by decide +kernel
theorem dX7_taken_30 : decode cX7_taken 30 = .ok (.iaload, 1) := by decide +kernel
theorem dX7_taken_31 : decode cX7_taken 31 = .ok (.istore_n 3, 1) := by decide +kernel
theorem dX7_taken_32 : decode cX7_taken 32 = .ok (.iload_n 2, 1) := by decide +kernel
theorem dX7_taken_33 : decode cX7_taken 33 = .ok (.ifCond .eq 39, 3) := by decide +kernel
theorem dX7_taken_36 : decode cX7_taken 36 = .ok (.iload_n 3, 1) := by decide +kernel
theorem dX7_taken_37 : decode cX7_taken 37 = .ok (.iload_n 2, 1) := by decide +kernel
theorem dX7_taken_38 : decode cX7_taken 38 = .ok (.if_icmp .eq 34, 3) := by decide +kernel
theorem dX7_taken_41 : decode cX7_taken 41 = .ok (.iload_n 2, 1) := by decide +kernel
theorem dX7_taken_42 : decode cX7_taken 42 = .ok (.iconst 1, 1) := by decide +kernel
theorem dX7_taken_43 : decode cX7_taken 43 = .ok (.if_icmp .ne 8, 3) := by decide +kernel
theorem dX7_taken_46 : decode cX7_taken 46 = .ok (.iload_n 3, 1) := by decide +kernel
theorem dX7_taken_47 : decode cX7_taken 47 = .ok (.iconst 4, 1) := by decide +kernel
theorem dX7_taken_48 : decode cX7_taken 48 = .ok (.if_icmp .eq 24, 3) := by decide +kernel
theorem dX7_taken_51 : decode cX7_taken 51 = .ok (.iload_n 2, 1) := by decide +kernel
theorem dX7_taken_52 : decode cX7_taken 52 = .ok (.iconst 2, 1) := by decide +kernel
theorem dX7_taken_53 : decode cX7_taken 53 = .ok (.if_icmp .ne 8, 3) := by decide +kernel
theorem dX7_taken_56 : decode cX7_taken 56 = .ok (.iload_n 3, 1) := by decide +kernel
theorem dX7_taken_57 : decode cX7_taken 57 = .ok (.iconst 5, 1) := by decide +kernel
theorem dX7_taken_58 : decode cX7_taken 58 = .ok (.if_icmp .eq 14, 3) := by decide +kernel
theorem dX7_taken_61 : decode cX7_taken 61 = .ok (.iload_n 2, 1) := by decide +kernel
theorem dX7_taken_62 : decode cX7_taken 62 = .ok (.iconst 3, 1) := by decide +kernel
theorem dX7_taken_63 : decode cX7_taken 63 = .ok (.if_icmp .ne 13, 3) := by decide +kernel
theorem dX7_taken_66 : decode cX7_taken 66 = .ok (.iload_n 3, 1) := by decide +kernel
theorem dX7_taken_67 : decode cX7_taken 67 = .ok (.bipush 6, 2) := by decide +kernel
theorem dX7_taken_69 : decode cX7_taken 69 = .ok (.if_icmp .ne 7, 3) := by decide +kernel
theorem dX7_taken_72 : decode cX7_taken 72 = .ok (.iload_n 3, 1) := by decide +kernel
theorem dX7_taken_73 : decode cX7_taken 73 = .ok (.goto 5, 3) := by decide +kernel
theorem dX7_taken_76 : decode cX7_taken 76 = .ok (.bipush (-12), 2) := by decide +kernel
theorem dX7_taken_78 : decode cX7_taken 78 = .ok (.ireturn, 1) := by decide +kernel
theorem dX7_count_0 : decode cX7_count 0 = .ok (.iload_n 1, 1) := by decide +kernel
theorem dX7_count_1 : decode cX7_count 1 = .ok (.tableswitch 69 0 5 #[39, 44, 49, 54, 59, 64], 39) := by decide +kernel
theorem dX7_count_40 : decode cX7_count 40 = .ok (.aload_n 0, 1) := by decide +kernel
theorem dX7_count_41 : decode cX7_count 41 = .ok (.getfield 7, 3) := by decide +kernel
theorem dX7_count_44 : decode cX7_count 44 = .ok (.ireturn, 1) := by decide +kernel
theorem dX7_count_45 : decode cX7_count 45 = .ok (.aload_n 0, 1) := by decide +kernel
theorem dX7_count_46 : decode cX7_count 46 = .ok (.getfield 29, 3) := by decide +kernel
theorem dX7_count_49 : decode cX7_count 49 = .ok (.ireturn, 1) := by decide +kernel
theorem dX7_count_50 : decode cX7_count 50 = .ok (.aload_n 0, 1) := by decide +kernel
theorem dX7_count_51 : decode cX7_count 51 = .ok (.getfield 123, 3) := by decide +kernel
theorem dX7_count_54 : decode cX7_count 54 = .ok (.ireturn, 1) := by decide +kernel
theorem dX7_count_55 : decode cX7_count 55 = .ok (.aload_n 0, 1) := by decide +kernel
theorem dX7_count_56 : decode cX7_count 56 = .ok (.getfield 132, 3) := by decide +kernel
theorem dX7_count_59 : decode cX7_count 59 = .ok (.ireturn, 1) := by decide +kernel
theorem dX7_count_60 : decode cX7_count 60 = .ok (.aload_n 0, 1) := by decide +kernel
theorem dX7_count_61 : decode cX7_count 61 = .ok (.getfield 35, 3) := by decide +kernel
theorem dX7_count_64 : decode cX7_count 64 = .ok (.ireturn, 1) := by decide +kernel
theorem dX7_count_65 : decode cX7_count 65 = .ok (.aload_n 0, 1) := by decide +kernel
theorem dX7_count_66 : decode cX7_count 66 = .ok (.getfield 178, 3) := by decide +kernel
theorem dX7_count_69 : decode cX7_count 69 = .ok (.ireturn, 1) := by decide +kernel
theorem dX7_count_70 : decode cX7_count 70 = .ok (.bipush (-2), 2) := by decide +kernel
theorem dX7_count_72 : decode cX7_count 72 = .ok (.ireturn, 1) := by decide +kernel
theorem dX7_isTape_0 : decode cX7_isTape 0 = .ok (.aload_n 0, 1) := by decide +kernel
theorem dX7_isTape_1 : decode cX7_isTape 1 = .ok (.iload_n 1, 1) := by decide +kernel
theorem dX7_isTape_2 : decode cX7_isTape 2 = .ok (.iconst 0, 1) := by decide +kernel
theorem dX7_isTape_3 : decode cX7_isTape 3 = .ok (.iconst 5, 1) := by decide +kernel
theorem dX7_isTape_4 : decode cX7_isTape 4 = .ok (.invokevirtual 197, 3) := by decide +kernel
theorem dX7_isTape_7 : decode cX7_isTape 7 = .ok (.ireturn, 1) := by decide +kernel
theorem dX7_tape_0 : decode cX7_tape 0 = .ok (.aload_n 0, 1) := by decide +kernel
theorem dX7_tape_1 : decode cX7_tape 1 = .ok (.iload_n 1, 1) := by decide +kernel
theorem dX7_tape_2 : decode cX7_tape 2 = .ok (.invokevirtual 380, 3) := by decide +kernel
theorem dX7_tape_5 : decode cX7_tape 5 = .ok (.ifCond .ne 5, 3) := by decide +kernel
theorem dX7_tape_8 : decode cX7_tape 8 = .ok (.iconst (-1), 1) := by decide +kernel
theorem dX7_tape_9 : decode cX7_tape 9 = .ok (.ireturn, 1) := by decide +kernel
theorem dX7_tape_10 : decode cX7_tape 10 = .ok (.aload_n 0, 1) := by decide +kernel
theorem dX7_tape_11 : decode cX7_tape 11 = .ok (.iload_n 2, 1) := by decide +kernel
theorem dX7_tape_12 : decode cX7_tape 12 = .ok (.iconst (-1), 1) := by decide +kernel
theorem dX7_tape_13 : decode cX7_tape 13 = .ok (.iconst 4, 1) := by decide +kernel
theorem dX7_tape_14 : decode cX7_tape 14 = .ok (.invokevirtual 197, 3) := by decide +kernel
theorem dX7_tape_17 : decode cX7_tape 17 = .ok (.ifCond .eq 13, 3) := by decide +kernel
theorem dX7_tape_20 : decode cX7_tape 20 = .ok (.iload_n 2, 1) := by decide +kernel
theorem dX7_tape_21 : decode cX7_tape 21 = .ok (.ifCond .lt 12, 3) := by decide +kernel
theorem dX7_tape_24 : decode cX7_tape 24 = .ok (.iload_n 3, 1) := by decide +kernel
theorem dX7_tape_25 : decode cX7_tape 25 = .ok (.bipush 60, 2) := by decide +kernel
theorem dX7_tape_27 : decode cX7_tape 27 = .ok (.if_icmp .le 6, 3) := by decide +kernel
theorem dX7_tape_30 : decode cX7_tape 30 = .ok (.bipush (-2), 2) := by decide +kernel
theorem dX7_tape_32 : decode cX7_tape 32 = .ok (.ireturn, 1) := by decide +kernel
theorem dX7_tape_33 : decode cX7_tape 33 = .ok (.iload_n 2, 1) := by decide +kernel
theorem dX7_tape_34 : decode cX7_tape 34 = .ok (.ifCond .lt 10, 3) := by decide +kernel
theorem dX7_tape_37 : decode cX7_tape 37 = .ok (.iload_n 3, 1) := by decide +kernel
theorem dX7_tape_38 : decode cX7_tape 38 = .ok (.ifCond .ge 6, 3) := by decide +kernel
theorem dX7_tape_41 : decode cX7_tape 41 = .ok (.bipush (-14), 2) := by decide +kernel
theorem dX7_tape_43 : decode cX7_tape 43 = .ok (.ireturn, 1) := by decide +kernel
theorem dX7_tape_44 : decode cX7_tape 44 = .ok (.aload_n 0, 1) := by decide +kernel
theorem dX7_tape_45 : decode cX7_tape 45 = .ok (.getfield 184, 3) := by decide +kernel
theorem dX7_tape_48 : decode cX7_tape 48 = .ok (.iload_n 1, 1) := by decide +kernel
theorem dX7_tape_49 : decode cX7_tape 49 = .ok (.iload_n 2, 1) := by decide +kernel
theorem dX7_tape_50 : decode cX7_tape 50 = .ok (.iastore, 1) := by decide +kernel
theorem dX7_tape_51 : decode cX7_tape 51 = .ok (.aload_n 0, 1) := by decide +kernel
theorem dX7_tape_52 : decode cX7_tape 52 = .ok (.getfield 187, 3) := by decide +kernel
theorem dX7_tape_55 : decode cX7_tape 55 = .ok (.iload_n 1, 1) := by decide +kernel
theorem dX7_tape_56 : decode cX7_tape 56 = .ok (.iload_n 2, 1) := by decide +kernel
theorem dX7_tape_57 : decode cX7_tape 57 = .ok (.ifCond .ge 7, 3) := by decide +kernel
theorem dX7_tape_60 : decode cX7_tape 60 = .ok (.iconst 0, 1) := by decide +kernel
theorem dX7_tape_61 : decode cX7_tape 61 = .ok (.goto 4, 3) := by decide +kernel
theorem dX7_tape_64 : decode cX7_tape 64 = .ok (.iload_n 3, 1) := by decide +kernel
theorem dX7_tape_65 : decode cX7_tape 65 = .ok (.iastore, 1) := by decide +kernel
theorem dX7_tape_66 : decode cX7_tape 66 = .ok (.iconst 0, 1) := by decide +kernel
theorem dX7_tape_67 : decode cX7_tape 67 = .ok (.istore 4, 2) := by decide +kernel
theorem dX7_tape_69 : decode cX7_tape 69 = .ok (.iload 4, 2) := by decide +kernel
theorem dX7_tape_71 : decode cX7_tape 71 = .ok (.bipush 60, 2) := by decide +kernel
theorem dX7_tape_73 : decode cX7_tape 73 = .ok (.if_icmp .ge 22, 3) := by decide +kernel
theorem dX7_tape_76 : decode cX7_tape 76 = .ok (.aload_n 0, 1) := by decide +kernel
theorem dX7_tape_77 : decode cX7_tape 77 = .ok (.getfield 190, 3) := by decide +kernel
theorem dX7_tape_80 : decode cX7_tape 80 = .ok (.bipush 60, 2) := by decide +kernel
theorem dX7_tape_82 : decode cX7_tape 82 = .ok (.iload_n 1, 1) := by decide +kernel
theorem dX7_tape_83 : decode cX7_tape 83 = .ok (.imul, 1) := by decide +kernel
theorem dX7_tape_84 : decode cX7_tape 84 = .ok (.iload 4, 2) := by decide +kernel
theorem dX7_tape_86 : decode cX7_tape 86 = .ok (.iadd, 1) := by decide +kernel
theorem dX7_tape_87 : decode cX7_tape 87 = .ok (.lconst 0, 1) := by decide +kernel
theorem dX7_tape_88 : decode cX7_tape 88 = .ok (.lastore, 1) := by decide +kernel
theorem dX7_tape_89 : decode cX7_tape 89 = .ok (.iinc 4 1, 3) := by decide +kernel
theorem dX7_tape_92 : decode cX7_tape 92 = .ok (.goto (-23), 3) := by decide +kernel
theorem dX7_tape_95 : decode cX7_tape 95 = .ok (.iconst 1, 1) := by decide +kernel
theorem dX7_tape_96 : decode cX7_tape 96 = .ok (.ireturn, 1) := by decide +kernel
theorem dX7_narrow_0 : decode cX7_narrow 0 = .ok (.iload_n 1, 1) := by decide +kernel
theorem dX7_narrow_1 : decode cX7_narrow 1 = .ok (.ifCond .ne 10, 3) := by decide +kernel
theorem dX7_narrow_4 : decode cX7_narrow 4 = .ok (.lload_n 2, 1) := by decide +kernel
theorem dX7_narrow_5 : decode cX7_narrow 5 = .ok (.l2i, 1) := by decide +kernel
theorem dX7_narrow_6 : decode cX7_narrow 6 = .ok (.i2b, 1) := by decide +kernel
theorem dX7_narrow_7 : decode cX7_narrow 7 = .ok (.i2l, 1) := by decide +kernel
theorem dX7_narrow_8 : decode cX7_narrow 8 = .ok (.goto 46, 3) := by decide +kernel
theorem dX7_narrow_11 : decode cX7_narrow 11 = .ok (.iload_n 1, 1) := by decide +kernel
theorem dX7_narrow_12 : decode cX7_narrow 12 = .ok (.iconst 1, 1) := by decide +kernel
theorem dX7_narrow_13 : decode cX7_narrow 13 = .ok (.if_icmp .ne 10, 3) := by decide +kernel
theorem dX7_narrow_16 : decode cX7_narrow 16 = .ok (.lload_n 2, 1) := by decide +kernel
theorem dX7_narrow_17 : decode cX7_narrow 17 = .ok (.l2i, 1) := by decide +kernel
theorem dX7_narrow_18 : decode cX7_narrow 18 = .ok (.i2s, 1) := by decide +kernel
theorem dX7_narrow_19 : decode cX7_narrow 19 = .ok (.i2l, 1) := by decide +kernel
theorem dX7_narrow_20 : decode cX7_narrow 20 = .ok (.goto 34, 3) := by decide +kernel
theorem dX7_narrow_23 : decode cX7_narrow 23 = .ok (.iload_n 1, 1) := by decide +kernel
theorem dX7_narrow_24 : decode cX7_narrow 24 = .ok (.iconst 2, 1) := by decide +kernel
theorem dX7_narrow_25 : decode cX7_narrow 25 = .ok (.if_icmp .ne 9, 3) := by decide +kernel
theorem dX7_narrow_28 : decode cX7_narrow 28 = .ok (.lload_n 2, 1) := by decide +kernel
theorem dX7_narrow_29 : decode cX7_narrow 29 = .ok (.l2i, 1) := by decide +kernel
theorem dX7_narrow_30 : decode cX7_narrow 30 = .ok (.i2l, 1) := by decide +kernel
theorem dX7_narrow_31 : decode cX7_narrow 31 = .ok (.goto 23, 3) := by decide +kernel
theorem dX7_narrow_34 : decode cX7_narrow 34 = .ok (.iload_n 1, 1) := by decide +kernel
theorem dX7_narrow_35 : decode cX7_narrow 35 = .ok (.iconst 4, 1) := by decide +kernel
theorem dX7_narrow_36 : decode cX7_narrow 36 = .ok (.if_icmp .ne 17, 3) := by decide +kernel
theorem dX7_narrow_39 : decode cX7_narrow 39 = .ok (.lload_n 2, 1) := by decide +kernel
theorem dX7_narrow_40 : decode cX7_narrow 40 = .ok (.lconst 0, 1) := by decide +kernel
theorem dX7_narrow_41 : decode cX7_narrow 41 = .ok (.lcmp, 1) := by decide +kernel
theorem dX7_narrow_42 : decode cX7_narrow 42 = .ok (.ifCond .eq 7, 3) := by decide +kernel
theorem dX7_narrow_45 : decode cX7_narrow 45 = .ok (.lconst 1, 1) := by decide +kernel
theorem dX7_narrow_46 : decode cX7_narrow 46 = .ok (.goto 8, 3) := by decide +kernel
theorem dX7_narrow_49 : decode cX7_narrow 49 = .ok (.lconst 0, 1) := by decide +kernel
theorem dX7_narrow_50 : decode cX7_narrow 50 = .ok (.goto 4, 3) := by decide +kernel
theorem dX7_narrow_53 : decode cX7_narrow 53 = .ok (.lload_n 2, 1) := by decide +kernel
theorem dX7_narrow_54 : decode cX7_narrow 54 = .ok (.lreturn, 1) := by decide +kernel
theorem dX7_item_0 : decode cX7_item 0 = .ok (.aload_n 0, 1) := by decide +kernel
theorem dX7_item_1 : decode cX7_item 1 = .ok (.iload_n 1, 1) := by decide +kernel
theorem dX7_item_2 : decode cX7_item 2 = .ok (.invokevirtual 380, 3) := by decide +kernel
theorem dX7_item_5 : decode cX7_item 5 = .ok (.ifCond .ne 5, 3) := by decide +kernel
theorem dX7_item_8 : decode cX7_item 8 = .ok (.iconst (-1), 1) := by decide +kernel
theorem dX7_item_9 : decode cX7_item 9 = .ok (.ireturn, 1) := by decide +kernel
theorem dX7_item_10 : decode cX7_item 10 = .ok (.aload_n 0, 1) := by decide +kernel
theorem dX7_item_11 : decode cX7_item 11 = .ok (.getfield 184, 3) := by decide +kernel
theorem dX7_item_14 : decode cX7_item 14 = .ok (.iload_n 1, 1) := by decide +kernel
theorem dX7_item_15 : decode cX7_item 15 = .ok (.iaload, 1) := by decide +kernel
theorem dX7_item_16 : decode cX7_item 16 = .ok (.ifCond .ge 6, 3) := by decide +kernel
theorem dX7_item_19 : decode cX7_item 19 = .ok (.bipush (-11), 2) := by decide +kernel
theorem dX7_item_21 : decode cX7_item 21 = .ok (.ireturn, 1) := by decide +kernel
theorem dX7_item_22 : decode cX7_item 22 = .ok (.aload_n 0, 1) := by decide +kernel
theorem dX7_item_23 : decode cX7_item 23 = .ok (.iload_n 2, 1) := by decide +kernel
theorem dX7_item_24 : decode cX7_item 24 = .ok (.iconst 0, 1) := by decide +kernel
theorem dX7_item_25 : decode cX7_item 25 = .ok (.aload_n 0, 1) := by decide +kernel
theorem dX7_item_26 : decode cX7_item 26 = .ok (.getfield 187, 3) := by decide +kernel
theorem dX7_item_29 : decode cX7_item 29 = .ok (.iload_n 1, 1) := by decide +kernel
theorem dX7_item_30 : decode cX7_item 30 = .ok (.iaload, 1) := by decide +kernel
theorem dX7_item_31 : decode cX7_item 31 = .ok (.iconst 1, 1) := by decide +kernel
theorem dX7_item_32 : decode cX7_item 32 = .ok (.isub, 1) := by decide +kernel
theorem dX7_item_33 : decode cX7_item 33 = .ok (.invokevirtual 197, 3) := by decide +kernel
theorem dX7_item_36 : decode cX7_item 36 = .ok (.ifCond .ne 6, 3) := by decide +kernel
theorem dX7_item_39 : decode cX7_item 39 = .ok (.bipush (-13), 2) := by decide +kernel
theorem dX7_item_41 : decode cX7_item 41 = .ok (.ireturn, 1) := by decide +kernel
theorem dX7_item_42 : decode cX7_item 42 = .ok (.aload_n 0, 1) := by decide +kernel
theorem dX7_item_43 : decode cX7_item 43 = .ok (.getfield 190, 3) := by decide +kernel
theorem dX7_item_46 : decode cX7_item 46 = .ok (.bipush 60, 2) := by decide +kernel
theorem dX7_item_48 : decode cX7_item 48 = .ok (.iload_n 1, 1) := by decide +kernel
theorem dX7_item_49 : decode cX7_item 49 = .ok (.imul, 1) := by decide +kernel
theorem dX7_item_50 : decode cX7_item 50 = .ok (.iload_n 2, 1) := by decide +kernel
theorem dX7_item_51 : decode cX7_item 51 = .ok (.iadd, 1) := by decide +kernel
theorem dX7_item_52 : decode cX7_item 52 = .ok (.aload_n 0, 1) := by decide +kernel
theorem dX7_item_53 : decode cX7_item 53 = .ok (.aload_n 0, 1) := by decide +kernel
theorem dX7_item_54 : decode cX7_item 54 = .ok (.getfield 184, 3) := by decide +kernel
theorem dX7_item_57 : decode cX7_item 57 = .ok (.iload_n 1, 1) := by decide +kernel
theorem dX7_item_58 : decode cX7_item 58 = .ok (.iaload, 1) := by decide +kernel
theorem dX7_item_59 : decode cX7_item 59 = .ok (.lload_n 3, 1) := by decide +kernel
theorem dX7_item_60 : decode cX7_item 60 = .ok (.invokevirtual 407, 3) := by decide +kernel
theorem dX7_item_63 : decode cX7_item 63 = .ok (.lastore, 1) := by decide +kernel
theorem dX7_item_64 : decode cX7_item 64 = .ok (.iconst 1, 1) := by decide +kernel
theorem dX7_item_65 : decode cX7_item 65 = .ok (.ireturn, 1) := by decide +kernel
theorem dX7_read_0 : decode cX7_read 0 = .ok (.aload_n 0, 1) := by decide +kernel
theorem dX7_read_1 : decode cX7_read 1 = .ok (.iload_n 1, 1) := by decide +kernel
theorem dX7_read_2 : decode cX7_read 2 = .ok (.invokevirtual 380, 3) := by decide +kernel
theorem dX7_read_5 : decode cX7_read 5 = .ok (.ifCond .eq 29, 3) := by decide +kernel
theorem dX7_read_8 : decode cX7_read 8 = .ok (.aload_n 0, 1) := by decide +kernel
theorem dX7_read_9 : decode cX7_read 9 = .ok (.getfield 184, 3) := by decide +kernel
theorem dX7_read_12 : decode cX7_read 12 = .ok (.iload_n 1, 1) := by decide +kernel
theorem dX7_read_13 : decode cX7_read 13 = .ok (.iaload, 1) := by decide +kernel
theorem dX7_read_14 : decode cX7_read 14 = .ok (.ifCond .lt 20, 3) := by decide +kernel
theorem dX7_read_17 : decode cX7_read 17 = .ok (.aload_n 0, 1) := by decide +kernel
theorem dX7_read_18 : decode cX7_read 18 = .ok (.iload_n 2, 1) := by decide +kernel
theorem dX7_read_19 : decode cX7_read 19 = .ok (.iconst 0, 1) := by decide +kernel
theorem dX7_read_20 : decode cX7_read 20 = .ok (.aload_n 0, 1) := by decide +kernel
theorem dX7_read_21 : decode cX7_read 21 = .ok (.getfield 187, 3) := by decide +kernel
theorem dX7_read_24 : decode cX7_read 24 = .ok (.iload_n 1, 1) := by decide +kernel
theorem dX7_read_25 : decode cX7_read 25 = .ok (.iaload, 1) := by decide +kernel
theorem dX7_read_26 : decode cX7_read 26 = .ok (.iconst 1, 1) := by decide +kernel
theorem dX7_read_27 : decode cX7_read 27 = .ok (.isub, 1) := by decide +kernel
theorem dX7_read_28 : decode cX7_read 28 = .ok (.invokevirtual 197, 3) := by decide +kernel
theorem dX7_read_31 : decode cX7_read 31 = .ok (.ifCond .ne 9, 3) := by decide +kernel
theorem dX7_read_34 : decode cX7_read 34 = .ok (.ldc2_w 374, 3) := by decide +kernel
theorem dX7_read_37 : decode cX7_read 37 = .ok (.goto 14, 3) := by decide +kernel
theorem dX7_read_40 : decode cX7_read 40 = .ok (.aload_n 0, 1) := by decide +kernel
theorem dX7_read_41 : decode cX7_read 41 = .ok (.getfield 190, 3) := by decide +kernel
theorem dX7_read_44 : decode cX7_read 44 = .ok (.bipush 60, 2) := by decide +kernel
theorem dX7_read_46 : decode cX7_read 46 = .ok (.iload_n 1, 1) := by decide +kernel
theorem dX7_read_47 : decode cX7_read 47 = .ok (.imul, 1) := by decide +kernel
theorem dX7_read_48 : decode cX7_read 48 = .ok (.iload_n 2, 1) := by decide +kernel
theorem dX7_read_49 : decode cX7_read 49 = .ok (.iadd, 1) := by decide +kernel
theorem dX7_read_50 : decode cX7_read 50 = .ok (.laload, 1) := by decide +kernel
theorem dX7_read_51 : decode cX7_read 51 = .ok (.lreturn, 1) := by decide +kernel
theorem dX7_shift_0 : decode cX7_shift 0 = .ok (.aload_n 0, 1) := by decide +kernel
theorem dX7_shift_1 : decode cX7_shift 1 = .ok (.iload_n 1, 1) := by decide +kernel
theorem dX7_shift_2 : decode cX7_shift 2 = .ok (.invokevirtual 380, 3) := by decide +kernel
theorem dX7_shift_5 : decode cX7_shift 5 = .ok (.ifCond .eq 11, 3) := by decide +kernel
theorem dX7_shift_8 : decode cX7_shift 8 = .ok (.aload_n 0, 1) := by decide +kernel
theorem dX7_shift_9 : decode cX7_shift 9 = .ok (.iload_n 3, 1) := by decide +kernel
theorem dX7_shift_10 : decode cX7_shift 10 = .ok (.invokevirtual 380, 3) := by decide +kernel
theorem dX7_shift_13 : decode cX7_shift 13 = .ok (.ifCond .ne 5, 3) := by decide +kernel
theorem dX7_shift_16 : decode cX7_shift 16 = .ok (.iconst (-1), 1) := by decide +kernel
theorem dX7_shift_17 : decode cX7_shift 17 = .ok (.ireturn, 1) := by decide +kernel
theorem dX7_shift_18 : decode cX7_shift 18 = .ok (.aload_n 0, 1) := by decide +kernel
theorem dX7_shift_19 : decode cX7_shift 19 = .ok (.getfield 184, 3) := by decide +kernel
theorem dX7_shift_22 : decode cX7_shift 22 = .ok (.iload_n 1, 1) := by decide +kernel
theorem dX7_shift_23 : decode cX7_shift 23 = .ok (.iaload, 1) := by decide +kernel
theorem dX7_shift_24 : decode cX7_shift 24 = .ok (.ifCond .lt 12, 3) := by decide +kernel
theorem dX7_shift_27 : decode cX7_shift 27 = .ok (.aload_n 0, 1) := by decide +kernel
theorem dX7_shift_28 : decode cX7_shift 28 = .ok (.getfield 184, 3) := by decide +kernel
theorem dX7_shift_31 : decode cX7_shift 31 = .ok (.iload_n 3, 1) := by decide +kernel
theorem dX7_shift_32 : decode cX7_shift 32 = .ok (.iaload, 1) := by decide +kernel
theorem dX7_shift_33 : decode cX7_shift 33 = .ok (.ifCond .ge 6, 3) := by decide +kernel
theorem dX7_shift_36 : decode cX7_shift 36 = .ok (.bipush (-11), 2) := by decide +kernel
theorem dX7_shift_38 : decode cX7_shift 38 = .ok (.ireturn, 1) := by decide +kernel
theorem dX7_shift_39 : decode cX7_shift 39 = .ok (.aload_n 0, 1) := by decide +kernel
theorem dX7_shift_40 : decode cX7_shift 40 = .ok (.getfield 184, 3) := by decide +kernel
theorem dX7_shift_43 : decode cX7_shift 43 = .ok (.iload_n 1, 1) := by decide +kernel
theorem dX7_shift_44 : decode cX7_shift 44 = .ok (.iaload, 1) := by decide +kernel
theorem dX7_shift_45 : decode cX7_shift 45 = .ok (.aload_n 0, 1) := by decide +kernel
theorem dX7_shift_46 : decode cX7_shift 46 = .ok (.getfield 184, 3) := by decide +kernel
theorem dX7_shift_49 : decode cX7_shift 49 = .ok (.iload_n 3, 1) := by decide +kernel
theorem dX7_shift_50 : decode cX7_shift 50 = .ok (.iaload, 1) := by decide +kernel
theorem dX7_shift_51 : decode cX7_shift 51 = .ok (.if_icmp .eq 6, 3) := by decide +kernel
theorem dX7_shift_54 : decode cX7_shift 54 = .ok (.bipush (-12), 2) := by decide +kernel
theorem dX7_shift_56 : decode cX7_shift 56 = .ok (.ireturn, 1) := by decide +kernel
theorem dX7_shift_57 : decode cX7_shift 57 = .ok (.iload 5, 2) := by decide +kernel
theorem dX7_shift_59 : decode cX7_shift 59 = .ok (.ifCond .lt 39, 3) := by decide +kernel
theorem dX7_shift_62 : decode cX7_shift 62 = .ok (.iload_n 2, 1) := by decide +kernel
theorem dX7_shift_63 : decode cX7_shift 63 = .ok (.ifCond .lt 35, 3) := by decide +kernel
theorem dX7_shift_66 : decode cX7_shift 66 = .ok (.iload 4, 2) := by decide +kernel
theorem dX7_shift_68 : decode cX7_shift 68 = .ok (.ifCond .lt 30, 3) := by decide +kernel
theorem dX7_shift_71 : decode cX7_shift 71 = .ok (.iload_n 2, 1) := by decide +kernel
theorem dX7_shift_72 : decode cX7_shift 72 = .ok (.aload_n 0, 1) := by decide +kernel
theorem dX7_shift_73 : decode cX7_shift 73 = .ok (.getfield 187, 3) := by decide +kernel
theorem dX7_shift_76 : decode cX7_shift 76 = .ok (.iload_n 1, 1) := by decide +kernel
theorem dX7_shift_77 : decode cX7_shift 77 = .ok (.iaload, 1) := by decide +kernel
theorem dX7_shift_78 : decode cX7_shift 78 = .ok (.iload 5, 2) := by decide +kernel
theorem dX7_shift_80 : decode cX7_shift 80 = .ok (.isub, 1) := by decide +kernel
theorem dX7_shift_81 : decode cX7_shift 81 = .ok (.if_icmp .gt 17, 3) := by decide +kernel
theorem dX7_shift_84 : decode cX7_shift 84 = .ok (.iload 4, 2) := by decide +kernel
theorem dX7_shift_86 : decode cX7_shift 86 = .ok (.aload_n 0, 1) := by decide +kernel
theorem dX7_shift_87 : decode cX7_shift 87 = .ok (.getfield 187, 3) := by decide +kernel
theorem dX7_shift_90 : decode cX7_shift 90 = .ok (.iload_n 3, 1) := by decide +kernel
theorem dX7_shift_91 : decode cX7_shift 91 = .ok (.iaload, 1) := by decide +kernel
theorem dX7_shift_92 : decode cX7_shift 92 = .ok (.iload 5, 2) := by decide +kernel
theorem dX7_shift_94 : decode cX7_shift 94 = .ok (.isub, 1) := by decide +kernel
theorem dX7_shift_95 : decode cX7_shift 95 = .ok (.if_icmp .le 6, 3) := by decide +kernel
theorem dX7_shift_98 : decode cX7_shift 98 = .ok (.bipush (-13), 2) := by decide +kernel
theorem dX7_shift_100 : decode cX7_shift 100 = .ok (.ireturn, 1) := by decide +kernel
theorem dX7_shift_101 : decode cX7_shift 101 = .ok (.iconst 0, 1) := by decide +kernel
theorem dX7_shift_102 : decode cX7_shift 102 = .ok (.istore 6, 2) := by decide +kernel
theorem dX7_shift_104 : decode cX7_shift 104 = .ok (.iload 6, 2) := by decide +kernel
theorem dX7_shift_106 : decode cX7_shift 106 = .ok (.iload 5, 2) := by decide +kernel
theorem dX7_shift_108 : decode cX7_shift 108 = .ok (.if_icmp .ge 30, 3) := by decide +kernel
theorem dX7_shift_111 : decode cX7_shift 111 = .ok (.aload_n 0, 1) := by decide +kernel
theorem dX7_shift_112 : decode cX7_shift 112 = .ok (.getfield 194, 3) := by decide +kernel
theorem dX7_shift_115 : decode cX7_shift 115 = .ok (.iload 6, 2) := by decide +kernel
theorem dX7_shift_117 : decode cX7_shift 117 = .ok (.aload_n 0, 1) := by decide +kernel
theorem dX7_shift_118 : decode cX7_shift 118 = .ok (.getfield 190, 3) := by decide +kernel
theorem dX7_shift_121 : decode cX7_shift 121 = .ok (.bipush 60, 2) := by decide +kernel
theorem dX7_shift_123 : decode cX7_shift 123 = .ok (.iload_n 1, 1) := by decide +kernel
theorem dX7_shift_124 : decode cX7_shift 124 = .ok (.imul, 1) := by decide +kernel
theorem dX7_shift_125 : decode cX7_shift 125 = .ok (.iload_n 2, 1) := by decide +kernel
theorem dX7_shift_126 : decode cX7_shift 126 = .ok (.iadd, 1) := by decide +kernel
theorem dX7_shift_127 : decode cX7_shift 127 = .ok (.iload 6, 2) := by decide +kernel
theorem dX7_shift_129 : decode cX7_shift 129 = .ok (.iadd, 1) := by decide +kernel
theorem dX7_shift_130 : decode cX7_shift 130 = .ok (.laload, 1) := by decide +kernel
theorem dX7_shift_131 : decode cX7_shift 131 = .ok (.lastore, 1) := by decide +kernel
theorem dX7_shift_132 : decode cX7_shift 132 = .ok (.iinc 6 1, 3) := by decide +kernel
theorem dX7_shift_135 : decode cX7_shift 135 = .ok (.goto (-31), 3) := by decide +kernel
theorem dX7_shift_138 : decode cX7_shift 138 = .ok (.iconst 0, 1) := by decide +kernel
theorem dX7_shift_139 : decode cX7_shift 139 = .ok (.istore 6, 2) := by decide +kernel
theorem dX7_shift_141 : decode cX7_shift 141 = .ok (.iload 6, 2) := by decide +kernel
theorem dX7_shift_143 : decode cX7_shift 143 = .ok (.iload 5, 2) := by decide +kernel
theorem dX7_shift_145 : decode cX7_shift 145 = .ok (.if_icmp .ge 31, 3) := by decide +kernel
theorem dX7_shift_148 : decode cX7_shift 148 = .ok (.aload_n 0, 1) := by decide +kernel
theorem dX7_shift_149 : decode cX7_shift 149 = .ok (.getfield 190, 3) := by decide +kernel
theorem dX7_shift_152 : decode cX7_shift 152 = .ok (.bipush 60, 2) := by decide +kernel
theorem dX7_shift_154 : decode cX7_shift 154 = .ok (.iload_n 3, 1) := by decide +kernel
theorem dX7_shift_155 : decode cX7_shift 155 = .ok (.imul, 1) := by decide +kernel
theorem dX7_shift_156 : decode cX7_shift 156 = .ok (.iload 4, 2) := by decide +kernel
theorem dX7_shift_158 : decode cX7_shift 158 = .ok (.iadd, 1) := by decide +kernel
theorem dX7_shift_159 : decode cX7_shift 159 = .ok (.iload 6, 2) := by decide +kernel
theorem dX7_shift_161 : decode cX7_shift 161 = .ok (.iadd, 1) := by decide +kernel
theorem dX7_shift_162 : decode cX7_shift 162 = .ok (.aload_n 0, 1) := by decide +kernel
theorem dX7_shift_163 : decode cX7_shift 163 = .ok (.getfield 194, 3) := by decide +kernel
theorem dX7_shift_166 : decode cX7_shift 166 = .ok (.iload 6, 2) := by decide +kernel
theorem dX7_shift_168 : decode cX7_shift 168 = .ok (.laload, 1) := by decide +kernel
theorem dX7_shift_169 : decode cX7_shift 169 = .ok (.lastore, 1) := by decide +kernel
theorem dX7_shift_170 : decode cX7_shift 170 = .ok (.iinc 6 1, 3) := by decide +kernel
theorem dX7_shift_173 : decode cX7_shift 173 = .ok (.goto (-32), 3) := by decide +kernel
theorem dX7_shift_176 : decode cX7_shift 176 = .ok (.iload 5, 2) := by decide +kernel
theorem dX7_shift_178 : decode cX7_shift 178 = .ok (.ireturn, 1) := by decide +kernel
end
section
/-! CORE: numbers -/
abbrev PS : Type := Nat → Int → Int
def oI (z : Int) : Int32 := Int32.ofInt z
def oL (z : Int) : Int64 := Int64.ofInt z
def wI (z : Int) : Int := z.bmod 4294967296
def wL (z : Int) : Int := z.bmod 18446744073709551616
def wB (z : Int) : Int := z.bmod 256
def wH (z : Int) : Int := z.bmod 65536
theorem oI_toInt (z : Int) : (oI z).toInt = wI z := by
  rw [oI, Int32.toInt_ofInt]; rfl
theorem oL_toInt (z : Int) : (oL z).toInt = wL z := by
  rw [oL, Int64.toInt_ofInt]; rfl
theorem oI_of (x : Int32) : oI x.toInt = x := Int32.ofInt_toInt x
theorem oL_of (x : Int64) : oL x.toInt = x := Int64.ofInt_toInt x
theorem oI_add (a b : Int) : oI a + oI b = oI (a + b) := (Int32.ofInt_add a b).symm
theorem oI_sub (a b : Int) : oI a - oI b = oI (a - b) := (Int32.ofInt_sub a b).symm
theorem oI_mul (a b : Int) : oI a * oI b = oI (a * b) := (Int32.ofInt_mul a b).symm
theorem oI_neg (a : Int) : -oI a = oI (-a) := (Int32.ofInt_neg a).symm
theorem oI_lt {a b : Int} : oI a < oI b ↔ wI a < wI b := by rw [Int32.lt_iff_toInt_lt, oI_toInt, oI_toInt]
theorem oI_le {a b : Int} : oI a ≤ oI b ↔ wI a ≤ wI b := by rw [Int32.le_iff_toInt_le, oI_toInt, oI_toInt]
theorem oI_eq {a b : Int} : oI a = oI b ↔ wI a = wI b := by rw [← Int32.toInt_inj, oI_toInt, oI_toInt]
theorem wI_id {z : Int} (h1 : -2147483648 ≤ z) (h2 : z < 2147483648) : wI z = z := Int.bmod_eq_of_le_mul_two (by omega) (by omega)
theorem wI_0 : wI 0 = 0 := by decide
theorem wI_wI (z : Int) : wI (wI z) = wI z := Int.bmod_bmod
theorem wI_rng (z : Int) : -2147483648 ≤ wI z ∧ wI z < 2147483648 := by
  have h1 := Int.le_bmod (x := z) (m := 4294967296) (by decide)
  have h2 := Int.bmod_lt (x := z) (m := 4294967296) (by decide)
  show -2147483648 ≤ Int.bmod z 4294967296 ∧ Int.bmod z 4294967296 < 2147483648
  omega
theorem oI_wI (z : Int) : oI (wI z) = oI z := by rw [← oI_toInt, oI_of]
theorem oI_lt0 {a : Int} : oI a < 0 ↔ wI a < 0 := by rw [show (0 : Int32) = oI 0 from rfl, oI_lt, wI_0]
theorem oI_le0 {a : Int} : oI a ≤ 0 ↔ wI a ≤ 0 := by rw [show (0 : Int32) = oI 0 from rfl, oI_le, wI_0]
theorem oI_ge0 {a : Int} : 0 ≤ oI a ↔ 0 ≤ wI a := by rw [show (0 : Int32) = oI 0 from rfl, oI_le, wI_0]
theorem oI_gt0 {a : Int} : 0 < oI a ↔ 0 < wI a := by rw [show (0 : Int32) = oI 0 from rfl, oI_lt, wI_0]
theorem oI_eq0 {a : Int} : oI a = 0 ↔ wI a = 0 := by rw [show (0 : Int32) = oI 0 from rfl, oI_eq, wI_0]
def zdiv (a b : Int) : Int := (wI a).tdiv (wI b)
def zrem (a b : Int) : Int := a - zdiv a b * b
theorem oI_div (a b : Int) : oI a / oI b = oI (zdiv a b) := by
  rw [← Int32.toInt_inj, Int32.toInt_div, oI_toInt, oI_toInt, oI_toInt]; rfl
theorem oI_rem (a b : Int) : oI a - oI a / oI b * oI b = oI (zrem a b) := by
  rw [oI_div, oI_mul, oI_sub]; rfl
def zand (a b : Int) : Int := (oI a &&& oI b).toInt
def zor (a b : Int) : Int := (oI a ||| oI b).toInt
def zxor (a b : Int) : Int := (oI a ^^^ oI b).toInt
def zshl (a b : Int) : Int := (oI a <<< (oI b &&& 31)).toInt
def zshr (a b : Int) : Int := (oI a >>> (oI b &&& 31)).toInt
theorem oI_l2i (z : Int) : (oL z).toInt32 = oI z := Int64.toInt32_ofInt
theorem oI_i2l (z : Int) : (oI z).toInt64 = oL (wI z) := by rw [oL, ← oI_toInt, Int64.ofInt_int32ToInt]
theorem oI_i2b (z : Int) : (oI z).toInt8.toInt32 = oI (wB z) := by
  rw [← Int32.toInt_inj, Int8.toInt_toInt32, oI, Int32.toInt8_ofInt, Int8.toInt_ofInt, oI_toInt]
  show wB z = _
  have h1 := Int.le_bmod (x := z) (m := 256) (by decide)
  have h2 := Int.bmod_lt (x := z) (m := 256) (by decide)
  exact (wI_id (by show _ ≤ Int.bmod z 256; omega) (by show Int.bmod z 256 < _; omega)).symm
theorem oI_i2s (z : Int) : (oI z).toInt16.toInt32 = oI (wH z) := by
  rw [← Int32.toInt_inj, Int16.toInt_toInt32, oI, Int32.toInt16_ofInt, Int16.toInt_ofInt, oI_toInt]
  show wH z = _
  have h1 := Int.le_bmod (x := z) (m := 65536) (by decide)
  have h2 := Int.bmod_lt (x := z) (m := 65536) (by decide)
  exact (wI_id (by show _ ≤ Int.bmod z 65536; omega) (by show Int.bmod z 65536 < _; omega)).symm
theorem oL_lt {a b : Int} : oL a < oL b ↔ wL a < wL b := by rw [Int64.lt_iff_toInt_lt, oL_toInt, oL_toInt]
theorem oL_eq {a b : Int} : oL a = oL b ↔ wL a = wL b := by rw [← Int64.toInt_inj, oL_toInt, oL_toInt]
def zcmp (a b : Int) : Int := if wL b < wL a then 1 else if wL a = wL b then 0 else -1
theorem oL_cmp (a b : Int) : lg_cmp (oL a) (oL b) = oI (zcmp a b) := by
  unfold lg_cmp zcmp
  by_cases h1 : wL b < wL a
  · rw [if_pos h1, if_pos (oL_lt.mpr h1)]; rfl
  · rw [if_neg h1, if_neg (fun q => h1 (oL_lt.mp q))]
    by_cases h2 : wL a = wL b
    · rw [if_pos h2, if_pos (oL_eq.mpr h2)]; rfl
    · rw [if_neg h2, if_neg (fun q => h2 (oL_eq.mp q))]; rfl
/-! memory -/
def zu (st : PS) (a : Nat) (i x : Int) : PS := fun b j => if b = a ∧ j = i then x else st b j
def zrd (st : PS) (a n : Nat) (i : Int) : Option Int := if 0 ≤ wI i ∧ wI i < n then some (st a (wI i)) else none
def zwr (st : PS) (a n : Nat) (i x : Int) : Option PS := if 0 ≤ wI i ∧ wI i < n then some (zu st a (wI i) x) else none
def zcpf (st : PS) (a b : Nat) (sp dp n : Int) : PS := fun q j => if q = b ∧ dp ≤ j ∧ j < dp + n then st a (sp + (j - dp)) else st q j
def zcp (st : PS) (a na b nb : Nat) (sp dp n : Int) : Option PS := if 0 ≤ wI sp ∧ 0 ≤ wI dp ∧ 0 ≤ wI n ∧ wI sp + wI n ≤ na ∧ wI dp + wI n ≤ nb then some (zcpf st a b (wI sp) (wI dp) (wI n)) else none
def zchk {R : Type} (i : Int) (n : Nat) (k : Option R) : Option R := if 0 ≤ i ∧ i < n then k else none
def zbit {R : Type} (i : Int) (k : Option R) : Option R := if i = 0 ∨ i = 1 then k else none
def znz {R : Type} (i : Int) (k : Option R) : Option R := if wI i = 0 then none else k
def bP {R : Type} (o : Option (Int × PS)) (k : Int → PS → Option R) : Option R := match o with
  | none => none
  | some r => k r.1 r.2
def bI {α R : Type} (o : Option α) (k : α → Option R) : Option R := match o with
  | none => none
  | some r => k r
theorem bP_some {R : Type} (v : Int) (st : PS) (k : Int → PS → Option R) : bP (some (v, st)) k = k v st := rfl
theorem bI_some {α R : Type} (v : α) (k : α → Option R) : bI (some v) k = k v := rfl
def FU : Nat := 100000
/-! worlds: labels, their addresses, their cells -/
abbrev SD : Type := List Nat × ((Nat → ClassId) → (Nat → Nat) → Nat → (Int → Int) → va_E) × Bool
abbrev GD : Type := va_G × (Nat → ClassId) × (Nat → Nat) × (Nat → Nat) × (Nat → Nat) × Nat
abbrev zW (K : SD) (G : GD) (st : PS) : va_W := K.1.map fun a => (G.2.2.1 a, K.2.1 G.2.1 G.2.2.1 a (st a))
def zA (K : SD) (G : GD) : Nat → Prop := fun q => ∃ a, a ∈ K.1 ∧ G.2.2.1 a = q
def zInj (K : SD) (G : GD) : Prop := K.1.Nodup ∧ ∀ a b, a ∈ K.1 → b ∈ K.1 → G.2.2.1 a = G.2.2.1 b → a = b
abbrev zTy (G : GD) : List (ClassId × FieldType) := [(G.2.1 0, .int), (G.2.1 1, .byte), (G.2.1 2, .boolean), (G.2.1 3, .long), (G.2.1 4, .object "MiddleThree$Street"), (G.2.1 5, .object "MiddleThree$Tape")]
abbrev zCl : List vw_C := [(RX0, TX0, 5), (RX1, TX1, 5), (RX2, TX2, 8), (RX3, TX3, 4), (RX4, TX4, 3), (RX5, TX5, 12), (RX6, TX6, 13), (RX7, TX7, 61)]
/-- what nobody writes: String constants, a static row, statics of the JDK's -/
def nS : Nat := 8
def lenS : List Nat := [6, 3, 2, 4, 4, 1, 1, 1]
def bytS : List (List Int32) := [[104, 107, 118, 101, 98, 121], [105, 110, 103], [111, 119], [116, 97, 120, 32], [97, 100, 100, 32], [32], [41], [59]]
def aboveF : Nat → Int32 := fun j => [-1, 0, 0, 0, 1, 2, 3].getD j 0
def zRO1 (A : Nat → Prop) (adK adV : Nat → Nat) (aB : Nat) (U : State) (H : Heap) : Prop :=
  vk_S nS lenS bytS adK adV A U H ∧ va_Z RX6 "ABOVE" "[I" (.ref aB) A U H ∧ va_T .int aB 7 (fun j => .int (aboveF j)) A U H ∧ va_Z "java/lang/String" "COMPACT_STRINGS" "Z" (.int 1) A U H ∧ va_Zq "jdk/internal/util/Preconditions" "SIOOBE_FORMATTER" "Ljava/util/function/BiFunction;" A U H
def zRO2 (adK : Nat → Nat) (U : State) : Prop :=
  vk_R RX3 100 "hkveby" (adK 0) U ∧ vk_R RX3 69 "ing" (adK 1) U ∧ vk_R RX3 71 "ow" (adK 2) U ∧ vk_R RX3 49 "tax " (adK 3) U ∧ vk_R RX3 51 "add " (adK 4) U ∧ vk_R RX3 56 " " (adK 5) U ∧ vk_R RX3 98 ")" (adK 6) U ∧ vk_R RX3 36 ";" (adK 7) U ∧ vk_R RX5 33 "hkveby" (adK 0) U
def zRO (K : SD) (G : GD) (U : State) (H : Heap) : Prop := K.2.2 = true → zRO1 (zA K G) G.2.2.2.1 G.2.2.2.2.1 G.2.2.2.2.2 U H ∧ zRO2 G.2.2.2.1 U
theorem zRO1.moved {A : Nat → Prop} {adK adV : Nat → Nat} {aB : Nat} {u U : State} {H : Heap} (hvm : u.vm.Alike U.vm) (h : zRO1 A adK adV aB u H) : zRO1 A adK adV aB U H := ⟨h.1.moved hvm, h.2.1.moved hvm, h.2.2.1.moved hvm, h.2.2.2.1.moved hvm, h.2.2.2.2.moved hvm⟩
theorem zRO1.kept {A : Nat → Prop} {adK adV : Nat → Nat} {aB : Nat} {U : State} {H H1 : Heap} (h : zRO1 A adK adV aB U H) (hq : ∀ a : Nat, a < H.size → ¬ A a → H1[a]? = H[a]?) : zRO1 A adK adV aB U H1 := ⟨h.1.kept hq, h.2.1.kept hq, h.2.2.1.kept hq, h.2.2.2.1.kept hq, h.2.2.2.2.kept hq⟩
theorem zRO1.narrow {A B : Nat → Prop} {adK adV : Nat → Nat} {aB : Nat} {U : State} {H : Heap} (h : zRO1 A adK adV aB U H) (hAB : ∀ q, B q → A q) : zRO1 B adK adV aB U H := ⟨h.1.narrow hAB, h.2.1.narrow hAB, h.2.2.1.narrow hAB, h.2.2.2.1.narrow hAB, h.2.2.2.2.narrow hAB⟩
theorem zRO2.same {adK : Nat → Nat} {u U : State} (hv : U.vm = u.vm) (h : zRO2 adK u) : zRO2 adK U := ⟨h.1.same hv, h.2.1.same hv, h.2.2.1.same hv, h.2.2.2.1.same hv, h.2.2.2.2.1.same hv, h.2.2.2.2.2.1.same hv, h.2.2.2.2.2.2.1.same hv, h.2.2.2.2.2.2.2.1.same hv, h.2.2.2.2.2.2.2.2.same hv⟩
theorem zRO2.warm {adK : Nat → Nat} {s U : State} (hW : s.WarmedH U.vm) (h : zRO2 adK s) : zRO2 adK U := ⟨h.1.warm hW, h.2.1.warm hW, h.2.2.1.warm hW, h.2.2.2.1.warm hW, h.2.2.2.2.1.warm hW, h.2.2.2.2.2.1.warm hW, h.2.2.2.2.2.2.1.warm hW, h.2.2.2.2.2.2.2.1.warm hW, h.2.2.2.2.2.2.2.2.warm hW⟩
theorem zRO.call {K : SD} {G : GD} {U : State} {H : Heap} {g : JFrame} {mk : MethodId} {a : Array Value} (h : zRO K G U H) : zRO K G (U.calling g mk a) H := fun hb => ⟨(h hb).1.moved (Vm.Alike.refl U.vm), (h hb).2.same rfl⟩
theorem zRO.warm {K : SD} {G : GD} {s U : State} {H H1 : Heap} (hW : s.WarmedH U.vm) (h : zRO K G s H) (hq : ∀ a : Nat, a < H.size → ¬ zA K G a → H1[a]? = H[a]?) : zRO K G U H1 := fun hb => ⟨((h hb).1.kept hq).moved hW.alike, (h hb).2.warm hW⟩
def zI (K : SD) (G : GD) (s : State) (st : PS) (H : Heap) (locs : List Loc) : Prop := va_P G.1 zCl (zW K G st) H ∧ va_S (zA K G) s.heap H locs
theorem zu_same (st : PS) (a : Nat) (i x : Int) : zu st a i x a = fun j => if j = i then x else st a j := by
  funext j; simp [zu]
theorem zu_ne (st : PS) {a b : Nat} (h : b ≠ a) (i x : Int) : zu st a i x b = st b := by
  funext j; simp [zu, h]
theorem zW_get {K : SD} {G : GD} {a : Nat} (h : a ∈ K.1) : ∃ q0 : Nat, K.1[q0]? = some a ∧ ∀ st, (zW K G st)[q0]? = some (G.2.2.1 a, K.2.1 G.2.1 G.2.2.1 a (st a)) := by
  obtain ⟨q, hq⟩ := List.getElem?_of_mem h
  exact ⟨q, hq, fun st => by simp [zW, hq]⟩
theorem zW_set {K : SD} {G : GD} {a q0 : Nat} {st st' : PS} (hj : zInj K G) (hq : K.1[q0]? = some a) (hs : ∀ b, b ≠ a → st' b = st b) {e : va_E} (he : e = K.2.1 G.2.1 G.2.2.1 a (st' a)) : (zW K G st).set q0 (G.2.2.1 a, e) = zW K G st' := by
  subst he
  apply List.ext_getElem?
  intro i
  rw [List.getElem?_set]
  have hl : q0 < K.1.length := (List.getElem?_eq_some_iff.mp hq).1
  by_cases hi : q0 = i
  · subst hi
    rw [if_pos rfl, if_pos (by simpa [zW] using hl)]
    simp only [zW, List.getElem?_map, hq, Option.map_some]
  · rw [if_neg hi]
    simp only [zW, List.getElem?_map]
    cases hb : K.1[i]? with
    | none => rfl
    | some b =>
      have hne : b ≠ a := by
        intro e
        subst e
        exact hi (((List.getElem?_inj hl hj.1).mp (hq.trans hb.symm)))
      simp [hs b hne]
theorem zW_D {K : SD} {G : GD} (hj : zInj K G) (st : PS) : va_D (zA K G) (zW K G st) := by
  refine ⟨fun i j p q hi hk e => ?_, fun k q hk => ?_⟩
  · simp only [zW, List.getElem?_map, Option.map_eq_some_iff] at hi hk
    obtain ⟨a, ha, rfl⟩ := hi
    obtain ⟨b, hb, rfl⟩ := hk
    have hab := hj.2 a b (List.mem_of_getElem? ha) (List.mem_of_getElem? hb) e
    subst hab
    exact (List.getElem?_inj (List.getElem?_eq_some_iff.mp ha).1 hj.1).mp (ha.trans hb.symm)
  · simp only [zW, List.getElem?_map, Option.map_eq_some_iff] at hk
    obtain ⟨a, ha, rfl⟩ := hk
    exact ⟨a, List.mem_of_getElem? ha, rfl⟩
/-! the walk -/
abbrev JX : Type := Program × Launch × Env × Room × State × MethodId × Array Value × List Frame × Method × Code × Nat × Nat × Nat
def J {σ R : Type} (X : JX) (WR : State → σ → Heap → List Loc → Prop) (Q : JX → R → State → Prop) (st : σ) (lv : List (Nat × Value)) (pc : Nat) (stk : List Value) (o : Option R) : Prop := match X with
  | (p, l, e, R, s, m, args, below, meth, c, cells, slots, nL) => ∀ r, o = some r → ∀ (H : Heap) (locs : List Loc) (ls : Array Slot), WR s st H locs → lv_has ls nL lv → W p l e R s m args below meth c H locs cells slots (Q (p, l, e, R, s, m, args, below, meth, c, cells, slots, nL) r) (F0 m pc ls stk)
def zT : List Cond := lw_tbl.filter goodWord
theorem zT_of {i : Nat} {w : Cond} (h : lw_tbl[i]? = some w) (g : goodWord w = true) : w ∈ zT := List.mem_filter.mpr ⟨List.mem_of_getElem? h, g⟩
def zroom (d : Nat) : Room := { frames := d + 2, cells := 0, slots := 0, locals := 60 * (d + 2) }
/-- what a method's walk stands on: room rank d, own class, code, return type -/
def zC (X : JX) (K : SD) (G : GD) (own : String) (cc : ByteArray) (rt : Option FieldType) (d : Nat) : Prop := match X with
  | (p, _, _, R, s, m, args, _, meth, c, cells, slots, nL) => (p.tables.exec = Jvm.exec ∧ c.code = cc ∧ c.maxLocals = nL ∧ s.vm.findClass own = some m.cls ∧ ∀ w ∈ zT, w.before args s = true) ∧ va_K G.1 zCl (zTy G) s ∧ zInj K G ∧ zRO K G s s.heap ∧ (d + 2 ≤ R.frames ∧ 60 * (d + 2) ≤ R.locals ∧ cells ≤ R.cells ∧ slots ≤ R.slots) ∧ meth.sig.returnType = rt ∧ meth.locks = false
def zQc (K : SD) (G : GD) (ov : Option Value) (st : PS) : Array Value → State → Outcome → State → Prop := fun _ s0 oc t => (oc = .returned ov ∧ va_P G.1 zCl (zW K G st) t.heap) ∧ va_F (zA K G) s0 t
def zM (l : Launch) (K : SD) (G : GD) (y : MethodName) (b : ByteArray) (n : Nat) (rt : Option FieldType) (d : Nat) (av : List Value) (st : PS) (ov : Option Value) (st' : PS) : Prop :=
  Met l y (.code y b n rt :: zT) (zroom d) (va_Pc av (fun U => va_P G.1 zCl (zW K G st) U.heap ∧ va_K G.1 zCl (zTy G) U ∧ zRO K G U U.heap)) (zQc K G ov st') 0 0 (zA K G)
def zQ {R : Type} (K : SD) (G : GD) (f : R → Option Value × PS) (X : JX) (r : R) : State → Prop := match X with
  | (_, _, _, _, s, _, args, below, _, _, cells, slots, _) => MQ below (zQc K G (f r).1 (f r).2) args s cells slots (zA K G)
theorem zEnter {R : Type} {K : SD} {G : GD} {l : Launch} {y : MethodName} {own : String} {b : ByteArray} {n d : Nat} {rt : Option FieldType} {av : List Value} {st : PS} {f : R → Option Value × PS} {o : Option R} {r : R} {lv : List (Nat × Value)} (hr : o = some r) (hj : zInj K G) (hy : plainName y.cls = true) (how : y.cls = own) (hlv : lv_args 0 av = lv) (hn : (lg_sl av).length ≤ n)
    (body : ∀ X : JX, X.2.1 = l → X.2.2.2.2.2.2.2.2.2.2.2.2 = n → zC X K G own b rt d → J X (zI K G) (zQ K G f) st lv 0 [] o) : zM l K G y b n rt d av st (f r).1 (f r).2 := by
  refine Met.ofW (cc := b) (maxL := n) (ret := rt) hy rfl ?_
  intro p e s m args below meth c s₁ B hml hv
  obtain ⟨rfl, hP, hK, hO⟩ := hv
  have hts := atoms_spec (ws := .code y b n rt :: zT) B.pre
  have hown : s.vm.findClass own = some m.cls := how ▸ findClass_of_methodNamed B.named
  have h1 := body (p, l, e, zroom d, s, m, av.toArray, below, meth, c, 0, 0, n) rfl rfl
    ⟨⟨B.exec, B.bytes, hml, hown, fun w hw => hts w (List.mem_cons_of_mem _ hw)⟩, hK, hj, hO, ⟨Nat.le_refl _, Nat.le_refl _, Nat.le_refl _, Nat.le_refl _⟩, B.returns, B.notSynchronized⟩ r hr s.heap []
  have hl := lv_entry av (n := n) hn
  rw [lg_entry_eq]
  exact h1 _ ⟨hP, va_S.rf⟩ (hlv ▸ hl)
end
section
/-! ROWS: a row an instruction, over J -/
def zmax (a b : Int) : Int := if wI a < wI b then b else a
def zmin (a b : Int) : Int := if wI b < wI a then b else a
def zabs (a : Int) : Int := if 0 ≤ wI a then a else 0 - a
theorem oI_zmax (a b : Int) : (if oI a < oI b then oI b else oI a) = oI (zmax a b) := by
  unfold zmax
  by_cases h : wI a < wI b
  · rw [if_pos h, if_pos (oI_lt.mpr h)]
  · rw [if_neg h, if_neg (fun q => h (oI_lt.mp q))]
theorem oI_zmin (a b : Int) : (if oI b < oI a then oI b else oI a) = oI (zmin a b) := by
  unfold zmin
  by_cases h : wI b < wI a
  · rw [if_pos h, if_pos (oI_lt.mpr h)]
  · rw [if_neg h, if_neg (fun q => h (oI_lt.mp q))]
theorem oI_zabs (a : Int) : (if 0 ≤ oI a then oI a else 0 - oI a) = oI (zabs a) := by
  unfold zabs
  by_cases h : 0 ≤ wI a
  · rw [if_pos h, if_pos (oI_ge0.mpr h)]
  · rw [if_neg h, if_neg (fun q => h (oI_ge0.mp q)), show (0 : Int32) = oI 0 from rfl, oI_sub]
section ZROWS
variable {σ T : Type} {X : JX} {K : SD} {G : GD} {own : String} {cc : ByteArray} {rt : Option FieldType} {d : Nat} {WR : State → σ → Heap → List Loc → Prop} {Q : JX → T → State → Prop} {st : σ} {lv lv' : List (Nat × Value)} {pc : Nat} {stk : List Value} {o A B : Option T}
theorem j_none : J X WR Q st lv pc stk (none : Option T) := by
  obtain ⟨p, l, e, R, s, m, args, below, meth, c, cells, slots, nL⟩ := X
  intro r hr
  cases hr
theorem j_if {c : Prop} [Decidable c] (kt : c → J X WR Q st lv pc stk A) (kf : ¬ c → J X WR Q st lv pc stk B) : J X WR Q st lv pc stk (if c then A else B) := by
  by_cases h : c
  · rw [if_pos h]; exact kt h
  · rw [if_neg h]; exact kf h
theorem j_chk {i : Int} {n : Nat} (kk : 0 ≤ i ∧ i < n → J X WR Q st lv pc stk A) : J X WR Q st lv pc stk (zchk i n A) := j_if kk (fun _ => j_none)
theorem j_bit {i : Int} (kk : i = 0 ∨ i = 1 → J X WR Q st lv pc stk A) : J X WR Q st lv pc stk (zbit i A) := j_if kk (fun _ => j_none)
theorem j_nz {i : Int} (kk : ¬ wI i = 0 → J X WR Q st lv pc stk A) : J X WR Q st lv pc stk (znz i A) := j_if (fun _ => j_none) kk
theorem j_bP {p : Option (Int × PS)} {k : Int → PS → Option T} (kk : ∀ v st1, p = some (v, st1) → J X WR Q st lv pc stk (k v st1)) : J X WR Q st lv pc stk (bP p k) := by
  cases p with
  | none => exact j_none
  | some r => exact kk r.1 r.2 rfl
theorem j_bI {α : Type} {p : Option α} {k : α → Option T} (kk : ∀ v, p = some v → J X WR Q st lv pc stk (k v)) : J X WR Q st lv pc stk (bI p k) := by
  cases p with
  | none => exact j_none
  | some r => exact kk r rfl
theorem j_sub (ks : List Nat) (hl : lv_pick lv ks = lv') (kk : J X WR Q st lv' pc stk o) : J X WR Q st lv pc stk o := by
  obtain ⟨p, l, e, R, s, m, args, below, meth, c, cells, slots, nL⟩ := X
  intro r hr H locs ls hI h
  exact kk r hr H locs ls hI (lv_sub h ks hl)


theorem j_iconst  (C : zC X K G own cc rt d) {n : Int} (hd : decode cc pc = .ok (.iconst n, 1)) (kk : J X WR Q st lv (pc + 1) (.int (oI n) :: stk) o) : J X WR Q st lv pc stk o := by
  obtain ⟨p, l, e, R, s, m, args, below, meth, c, cells, slots, nL⟩ := X
  obtain ⟨⟨hx, hb, hml, hown, hts⟩, hK, hj, hO, hR, hr0, hlk⟩ := C
  intro r hr H locs ls hI hl
  exact lv_iconst hx hb hd rfl (kk r hr H locs ls hI hl)

theorem j_bipush  (C : zC X K G own cc rt d) {n : Int} (hd : decode cc pc = .ok (.bipush n, 2)) (hn : (Int8.ofInt n).toInt32 = oI n) (kk : J X WR Q st lv (pc + 2) (.int (oI n) :: stk) o) : J X WR Q st lv pc stk o := by
  obtain ⟨p, l, e, R, s, m, args, below, meth, c, cells, slots, nL⟩ := X
  obtain ⟨⟨hx, hb, hml, hown, hts⟩, hK, hj, hO, hR, hr0, hlk⟩ := C
  intro r hr H locs ls hI hl
  exact lv_bipush hx hb hd hn (kk r hr H locs ls hI hl)

theorem j_sipush  (C : zC X K G own cc rt d) {n : Int} (hd : decode cc pc = .ok (.sipush n, 3)) (hn : (Int16.ofInt n).toInt32 = oI n) (kk : J X WR Q st lv (pc + 3) (.int (oI n) :: stk) o) : J X WR Q st lv pc stk o := by
  obtain ⟨p, l, e, R, s, m, args, below, meth, c, cells, slots, nL⟩ := X
  obtain ⟨⟨hx, hb, hml, hown, hts⟩, hK, hj, hO, hR, hr0, hlk⟩ := C
  intro r hr H locs ls hI hl
  exact lv_sipush hx hb hd hn (kk r hr H locs ls hI hl)

theorem j_lconst  (C : zC X K G own cc rt d) {n : Fin 2} {z : Int} (hd : decode cc pc = .ok (.lconst n, 1)) (hn : Int64.ofNat (n : Nat) = oL z) (kk : J X WR Q st lv (pc + 1) (.long (oL z) :: stk) o) : J X WR Q st lv pc stk o := by
  obtain ⟨p, l, e, R, s, m, args, below, meth, c, cells, slots, nL⟩ := X
  obtain ⟨⟨hx, hb, hml, hown, hts⟩, hK, hj, hO, hR, hr0, hlk⟩ := C
  intro r hr H locs ls hI hl
  exact lv_lconst hx hb hd hn (kk r hr H locs ls hI hl)

theorem j_ldc2  (C : zC X K G own cc rt d) {index : Nat} {z : Int} {v : Int64} (hw : Cond.constantLong own index v ∈ zT) (hv : v = oL z) (hd : decode cc pc = .ok (.ldc2_w index, 3)) (kk : J X WR Q st lv (pc + 3) (.long (oL z) :: stk) o) : J X WR Q st lv pc stk o := by
  obtain ⟨p, l, e, R, s, m, args, below, meth, c, cells, slots, nL⟩ := X
  obtain ⟨⟨hx, hb, hml, hown, hts⟩, hK, hj, hO, hR, hr0, hlk⟩ := C
  intro r hr H locs ls hI hl
  subst hv
  exact lv_ldc2 hx hb hown (hts _ hw) hd (kk r hr H locs ls hI hl)

theorem j_iload_n  (C : zC X K G own cc rt d) {kf : Fin 4} {i : Nat} {x : Int32} (hd : decode cc pc = .ok (.iload_n kf, 1)) (hi : (kf : Nat) = i) (k : Nat) (hk : lv[k]? = some (i, .int x)) (kk : J X WR Q st lv (pc + 1) (.int x :: stk) o) : J X WR Q st lv pc stk o := by
  obtain ⟨p, l, e, R, s, m, args, below, meth, c, cells, slots, nL⟩ := X
  obtain ⟨⟨hx, hb, hml, hown, hts⟩, hK, hj, hO, hR, hr0, hlk⟩ := C
  intro r hr H locs ls hI hl
  exact lv_iload_n hx hb hd hi (lv_at hl k hk) (kk r hr H locs ls hI hl)

theorem j_iload  (C : zC X K G own cc rt d) {i : Nat} {x : Int32} (hd : decode cc pc = .ok (.iload i, 2)) (k : Nat) (hk : lv[k]? = some (i, .int x)) (kk : J X WR Q st lv (pc + 2) (.int x :: stk) o) : J X WR Q st lv pc stk o := by
  obtain ⟨p, l, e, R, s, m, args, below, meth, c, cells, slots, nL⟩ := X
  obtain ⟨⟨hx, hb, hml, hown, hts⟩, hK, hj, hO, hR, hr0, hlk⟩ := C
  intro r hr H locs ls hI hl
  exact lv_iload hx hb hd (lv_at hl k hk) (kk r hr H locs ls hI hl)

theorem j_lload_n  (C : zC X K G own cc rt d) {kf : Fin 4} {i : Nat} {x : Int64} (hd : decode cc pc = .ok (.lload_n kf, 1)) (hi : (kf : Nat) = i) (k : Nat) (hk : lv[k]? = some (i, .long x)) (kk : J X WR Q st lv (pc + 1) (.long x :: stk) o) : J X WR Q st lv pc stk o := by
  obtain ⟨p, l, e, R, s, m, args, below, meth, c, cells, slots, nL⟩ := X
  obtain ⟨⟨hx, hb, hml, hown, hts⟩, hK, hj, hO, hR, hr0, hlk⟩ := C
  intro r hr H locs ls hI hl
  exact lv_lload_n hx hb hd hi (lv_at hl k hk) (kk r hr H locs ls hI hl)

theorem j_aload_n  (C : zC X K G own cc rt d) {kf : Fin 4} {i x : Nat} (hd : decode cc pc = .ok (.aload_n kf, 1)) (hi : (kf : Nat) = i) (k : Nat) (hk : lv[k]? = some (i, .ref x)) (kk : J X WR Q st lv (pc + 1) (.ref x :: stk) o) : J X WR Q st lv pc stk o := by
  obtain ⟨p, l, e, R, s, m, args, below, meth, c, cells, slots, nL⟩ := X
  obtain ⟨⟨hx, hb, hml, hown, hts⟩, hK, hj, hO, hR, hr0, hlk⟩ := C
  intro r hr H locs ls hI hl
  exact lv_aload_n hx hb hd hi (lv_at hl k hk) (kk r hr H locs ls hI hl)

theorem j_aload  (C : zC X K G own cc rt d) {i x : Nat} (hd : decode cc pc = .ok (.aload i, 2)) (k : Nat) (hk : lv[k]? = some (i, .ref x)) (kk : J X WR Q st lv (pc + 2) (.ref x :: stk) o) : J X WR Q st lv pc stk o := by
  obtain ⟨p, l, e, R, s, m, args, below, meth, c, cells, slots, nL⟩ := X
  obtain ⟨⟨hx, hb, hml, hown, hts⟩, hK, hj, hO, hR, hr0, hlk⟩ := C
  intro r hr H locs ls hI hl
  exact lv_aload hx hb hd (lv_at hl k hk) (kk r hr H locs ls hI hl)

theorem j_istore_n  (C : zC X K G own cc rt d) {nn : Nat} (hN : X.2.2.2.2.2.2.2.2.2.2.2.2 = nn) {kf : Fin 4} {i : Nat} {x : Int32} (hd : decode cc pc = .ok (.istore_n kf, 1)) (hi : (kf : Nat) = i) (hn : i < nn) (hf : (i, Value.int x) :: lv.filter (fun q => !(q.1 == i) && !(q.1 + 1 == i && q.2.category == 2)) = lv') (kk : J X WR Q st lv' (pc + 1) stk o) : J X WR Q st lv pc (.int x :: stk) o := by
  obtain ⟨p, l, e, R, s, m, args, below, meth, c, cells, slots, nL⟩ := X
  obtain ⟨⟨hx, hb, hml, hown, hts⟩, hK, hj, hO, hR, hr0, hlk⟩ := C
  intro r hr H locs ls hI hl
  subst hN
  exact lv_istore_n hx hb hd hi hl hn hf (fun ls' hl' => kk r hr H locs ls' hI hl')

theorem j_istore  (C : zC X K G own cc rt d) {nn : Nat} (hN : X.2.2.2.2.2.2.2.2.2.2.2.2 = nn) {i : Nat} {x : Int32} (hd : decode cc pc = .ok (.istore i, 2)) (hn : i < nn) (hf : (i, Value.int x) :: lv.filter (fun q => !(q.1 == i) && !(q.1 + 1 == i && q.2.category == 2)) = lv') (kk : J X WR Q st lv' (pc + 2) stk o) : J X WR Q st lv pc (.int x :: stk) o := by
  obtain ⟨p, l, e, R, s, m, args, below, meth, c, cells, slots, nL⟩ := X
  obtain ⟨⟨hx, hb, hml, hown, hts⟩, hK, hj, hO, hR, hr0, hlk⟩ := C
  intro r hr H locs ls hI hl
  subst hN
  exact lv_istore hx hb hd hl hn hf (fun ls' hl' => kk r hr H locs ls' hI hl')

theorem j_astore_n  (C : zC X K G own cc rt d) {nn : Nat} (hN : X.2.2.2.2.2.2.2.2.2.2.2.2 = nn) {kf : Fin 4} {i x : Nat} (hd : decode cc pc = .ok (.astore_n kf, 1)) (hi : (kf : Nat) = i) (hn : i < nn) (hf : (i, Value.ref x) :: lv.filter (fun q => !(q.1 == i) && !(q.1 + 1 == i && q.2.category == 2)) = lv') (kk : J X WR Q st lv' (pc + 1) stk o) : J X WR Q st lv pc (.ref x :: stk) o := by
  obtain ⟨p, l, e, R, s, m, args, below, meth, c, cells, slots, nL⟩ := X
  obtain ⟨⟨hx, hb, hml, hown, hts⟩, hK, hj, hO, hR, hr0, hlk⟩ := C
  intro r hr H locs ls hI hl
  subst hN
  exact lv_astore_n hx hb hd hi hl hn hf (fun ls' hl' => kk r hr H locs ls' hI hl')

theorem j_astore  (C : zC X K G own cc rt d) {nn : Nat} (hN : X.2.2.2.2.2.2.2.2.2.2.2.2 = nn) {i x : Nat} (hd : decode cc pc = .ok (.astore i, 2)) (hn : i < nn) (hf : (i, Value.ref x) :: lv.filter (fun q => !(q.1 == i) && !(q.1 + 1 == i && q.2.category == 2)) = lv') (kk : J X WR Q st lv' (pc + 2) stk o) : J X WR Q st lv pc (.ref x :: stk) o := by
  obtain ⟨p, l, e, R, s, m, args, below, meth, c, cells, slots, nL⟩ := X
  obtain ⟨⟨hx, hb, hml, hown, hts⟩, hK, hj, hO, hR, hr0, hlk⟩ := C
  intro r hr H locs ls hI hl
  subst hN
  exact lv_astore hx hb hd hl hn hf (fun ls' hl' => kk r hr H locs ls' hI hl')

theorem j_iinc  (C : zC X K G own cc rt d) {nn : Nat} (hN : X.2.2.2.2.2.2.2.2.2.2.2.2 = nn) {i : Nat} {n z : Int} (hd : decode cc pc = .ok (.iinc i n, 3)) (k : Nat) (hk : lv[k]? = some (i, .int (oI z))) (hn : i < nn) (hf : (i, Value.int (oI (z + n))) :: lv.filter (fun q => !(q.1 == i) && !(q.1 + 1 == i && q.2.category == 2)) = lv') (kk : J X WR Q st lv' (pc + 3) stk o) : J X WR Q st lv pc stk o := by
  obtain ⟨p, l, e, R, s, m, args, below, meth, c, cells, slots, nL⟩ := X
  obtain ⟨⟨hx, hb, hml, hown, hts⟩, hK, hj, hO, hR, hr0, hlk⟩ := C
  intro r hr H locs ls hI hl
  subst hN
  exact lv_iinc hx hb hd hl hk (oI_add z n) hn hf (fun ls' hl' => kk r hr H locs ls' hI hl')

theorem j_iadd  (C : zC X K G own cc rt d) {a b : Int} (hd : decode cc pc = .ok (.iadd, 1)) (kk : J X WR Q st lv (pc + 1) (.int (oI (a + b)) :: stk) o) : J X WR Q st lv pc (.int (oI b) :: .int (oI a) :: stk) o := by
  obtain ⟨p, l, e, R, s, m, args, below, meth, c, cells, slots, nL⟩ := X
  obtain ⟨⟨hx, hb, hml, hown, hts⟩, hK, hj, hO, hR, hr0, hlk⟩ := C
  intro r hr H locs ls hI hl
  refine lv_iadd hx hb hd ?_
  rw [oI_add]
  exact kk r hr H locs ls hI hl

theorem j_isub  (C : zC X K G own cc rt d) {a b : Int} (hd : decode cc pc = .ok (.isub, 1)) (kk : J X WR Q st lv (pc + 1) (.int (oI (a - b)) :: stk) o) : J X WR Q st lv pc (.int (oI b) :: .int (oI a) :: stk) o := by
  obtain ⟨p, l, e, R, s, m, args, below, meth, c, cells, slots, nL⟩ := X
  obtain ⟨⟨hx, hb, hml, hown, hts⟩, hK, hj, hO, hR, hr0, hlk⟩ := C
  intro r hr H locs ls hI hl
  refine lv_isub hx hb hd ?_
  rw [oI_sub]
  exact kk r hr H locs ls hI hl

theorem j_imul  (C : zC X K G own cc rt d) {a b : Int} (hd : decode cc pc = .ok (.imul, 1)) (kk : J X WR Q st lv (pc + 1) (.int (oI (a * b)) :: stk) o) : J X WR Q st lv pc (.int (oI b) :: .int (oI a) :: stk) o := by
  obtain ⟨p, l, e, R, s, m, args, below, meth, c, cells, slots, nL⟩ := X
  obtain ⟨⟨hx, hb, hml, hown, hts⟩, hK, hj, hO, hR, hr0, hlk⟩ := C
  intro r hr H locs ls hI hl
  refine lv_imul hx hb hd ?_
  rw [oI_mul]
  exact kk r hr H locs ls hI hl

theorem j_iand  (C : zC X K G own cc rt d) {a b : Int} (hd : decode cc pc = .ok (.iand, 1)) (kk : J X WR Q st lv (pc + 1) (.int (oI (zand a b)) :: stk) o) : J X WR Q st lv pc (.int (oI b) :: .int (oI a) :: stk) o := by
  obtain ⟨p, l, e, R, s, m, args, below, meth, c, cells, slots, nL⟩ := X
  obtain ⟨⟨hx, hb, hml, hown, hts⟩, hK, hj, hO, hR, hr0, hlk⟩ := C
  intro r hr H locs ls hI hl
  refine lv_iand hx hb hd ?_
  rw [show oI a &&& oI b = oI (zand a b) from (oI_of _).symm]
  exact kk r hr H locs ls hI hl

theorem j_ior  (C : zC X K G own cc rt d) {a b : Int} (hd : decode cc pc = .ok (.ior, 1)) (kk : J X WR Q st lv (pc + 1) (.int (oI (zor a b)) :: stk) o) : J X WR Q st lv pc (.int (oI b) :: .int (oI a) :: stk) o := by
  obtain ⟨p, l, e, R, s, m, args, below, meth, c, cells, slots, nL⟩ := X
  obtain ⟨⟨hx, hb, hml, hown, hts⟩, hK, hj, hO, hR, hr0, hlk⟩ := C
  intro r hr H locs ls hI hl
  refine lv_ior hx hb hd ?_
  rw [show oI a ||| oI b = oI (zor a b) from (oI_of _).symm]
  exact kk r hr H locs ls hI hl

theorem j_ixor  (C : zC X K G own cc rt d) {a b : Int} (hd : decode cc pc = .ok (.ixor, 1)) (kk : J X WR Q st lv (pc + 1) (.int (oI (zxor a b)) :: stk) o) : J X WR Q st lv pc (.int (oI b) :: .int (oI a) :: stk) o := by
  obtain ⟨p, l, e, R, s, m, args, below, meth, c, cells, slots, nL⟩ := X
  obtain ⟨⟨hx, hb, hml, hown, hts⟩, hK, hj, hO, hR, hr0, hlk⟩ := C
  intro r hr H locs ls hI hl
  refine lv_ixor hx hb hd ?_
  rw [show oI a ^^^ oI b = oI (zxor a b) from (oI_of _).symm]
  exact kk r hr H locs ls hI hl

theorem j_ishl  (C : zC X K G own cc rt d) {a b : Int} (hd : decode cc pc = .ok (.ishl, 1)) (kk : J X WR Q st lv (pc + 1) (.int (oI (zshl a b)) :: stk) o) : J X WR Q st lv pc (.int (oI b) :: .int (oI a) :: stk) o := by
  obtain ⟨p, l, e, R, s, m, args, below, meth, c, cells, slots, nL⟩ := X
  obtain ⟨⟨hx, hb, hml, hown, hts⟩, hK, hj, hO, hR, hr0, hlk⟩ := C
  intro r hr H locs ls hI hl
  refine lv_ishl hx hb hd ?_
  rw [show oI a <<< (oI b &&& 31) = oI (zshl a b) from (oI_of _).symm]
  exact kk r hr H locs ls hI hl

theorem j_ishr  (C : zC X K G own cc rt d) {a b : Int} (hd : decode cc pc = .ok (.ishr, 1)) (kk : J X WR Q st lv (pc + 1) (.int (oI (zshr a b)) :: stk) o) : J X WR Q st lv pc (.int (oI b) :: .int (oI a) :: stk) o := by
  obtain ⟨p, l, e, R, s, m, args, below, meth, c, cells, slots, nL⟩ := X
  obtain ⟨⟨hx, hb, hml, hown, hts⟩, hK, hj, hO, hR, hr0, hlk⟩ := C
  intro r hr H locs ls hI hl
  refine lv_ishr hx hb hd ?_
  rw [show oI a >>> (oI b &&& 31) = oI (zshr a b) from (oI_of _).symm]
  exact kk r hr H locs ls hI hl

theorem j_ineg  (C : zC X K G own cc rt d) {a : Int} (hd : decode cc pc = .ok (.ineg, 1)) (kk : J X WR Q st lv (pc + 1) (.int (oI (-a)) :: stk) o) : J X WR Q st lv pc (.int (oI a) :: stk) o := by
  obtain ⟨p, l, e, R, s, m, args, below, meth, c, cells, slots, nL⟩ := X
  obtain ⟨⟨hx, hb, hml, hown, hts⟩, hK, hj, hO, hR, hr0, hlk⟩ := C
  intro r hr H locs ls hI hl
  refine lv_ineg hx hb hd ?_
  rw [oI_neg]
  exact kk r hr H locs ls hI hl

theorem j_idiv  (C : zC X K G own cc rt d) {a b : Int} (hne : ¬ wI b = 0) (hd : decode cc pc = .ok (.idiv, 1)) (kk : J X WR Q st lv (pc + 1) (.int (oI (zdiv a b)) :: stk) o) : J X WR Q st lv pc (.int (oI b) :: .int (oI a) :: stk) o := by
  obtain ⟨p, l, e, R, s, m, args, below, meth, c, cells, slots, nL⟩ := X
  obtain ⟨⟨hx, hb, hml, hown, hts⟩, hK, hj, hO, hR, hr0, hlk⟩ := C
  intro r hr H locs ls hI hl
  refine lv_idiv hx hb hd (fun h => hne (oI_eq0.mp h)) ?_
  rw [oI_div]
  exact kk r hr H locs ls hI hl

theorem j_irem  (C : zC X K G own cc rt d) {a b : Int} (hne : ¬ wI b = 0) (hd : decode cc pc = .ok (.irem, 1)) (kk : J X WR Q st lv (pc + 1) (.int (oI (zrem a b)) :: stk) o) : J X WR Q st lv pc (.int (oI b) :: .int (oI a) :: stk) o := by
  obtain ⟨p, l, e, R, s, m, args, below, meth, c, cells, slots, nL⟩ := X
  obtain ⟨⟨hx, hb, hml, hown, hts⟩, hK, hj, hO, hR, hr0, hlk⟩ := C
  intro r hr H locs ls hI hl
  refine lv_irem hx hb hd (fun h => hne (oI_eq0.mp h)) ?_
  rw [oI_rem]
  exact kk r hr H locs ls hI hl

theorem j_i2l  (C : zC X K G own cc rt d) {a : Int} (hd : decode cc pc = .ok (.i2l, 1)) (kk : J X WR Q st lv (pc + 1) (.long (oL (wI a)) :: stk) o) : J X WR Q st lv pc (.int (oI a) :: stk) o := by
  obtain ⟨p, l, e, R, s, m, args, below, meth, c, cells, slots, nL⟩ := X
  obtain ⟨⟨hx, hb, hml, hown, hts⟩, hK, hj, hO, hR, hr0, hlk⟩ := C
  intro r hr H locs ls hI hl
  exact lv_i2l hx hb hd (oI_i2l a) (kk r hr H locs ls hI hl)

theorem j_l2i  (C : zC X K G own cc rt d) {a : Int} (hd : decode cc pc = .ok (.l2i, 1)) (kk : J X WR Q st lv (pc + 1) (.int (oI a) :: stk) o) : J X WR Q st lv pc (.long (oL a) :: stk) o := by
  obtain ⟨p, l, e, R, s, m, args, below, meth, c, cells, slots, nL⟩ := X
  obtain ⟨⟨hx, hb, hml, hown, hts⟩, hK, hj, hO, hR, hr0, hlk⟩ := C
  intro r hr H locs ls hI hl
  exact lv_l2i hx hb hd (oI_l2i a) (kk r hr H locs ls hI hl)

theorem j_i2b  (C : zC X K G own cc rt d) {a : Int} (hd : decode cc pc = .ok (.i2b, 1)) (kk : J X WR Q st lv (pc + 1) (.int (oI (wB a)) :: stk) o) : J X WR Q st lv pc (.int (oI a) :: stk) o := by
  obtain ⟨p, l, e, R, s, m, args, below, meth, c, cells, slots, nL⟩ := X
  obtain ⟨⟨hx, hb, hml, hown, hts⟩, hK, hj, hO, hR, hr0, hlk⟩ := C
  intro r hr H locs ls hI hl
  exact lv_i2b hx hb hd (oI_i2b a) (kk r hr H locs ls hI hl)

theorem j_i2s  (C : zC X K G own cc rt d) {a : Int} (hd : decode cc pc = .ok (.i2s, 1)) (kk : J X WR Q st lv (pc + 1) (.int (oI (wH a)) :: stk) o) : J X WR Q st lv pc (.int (oI a) :: stk) o := by
  obtain ⟨p, l, e, R, s, m, args, below, meth, c, cells, slots, nL⟩ := X
  obtain ⟨⟨hx, hb, hml, hown, hts⟩, hK, hj, hO, hR, hr0, hlk⟩ := C
  intro r hr H locs ls hI hl
  exact lv_i2s hx hb hd (oI_i2s a) (kk r hr H locs ls hI hl)

theorem j_dup  (C : zC X K G own cc rt d) {v : Value} (hd : decode cc pc = .ok (.dup, 1)) (hv : v.category = 1) (kk : J X WR Q st lv (pc + 1) (v :: v :: stk) o) : J X WR Q st lv pc (v :: stk) o := by
  obtain ⟨p, l, e, R, s, m, args, below, meth, c, cells, slots, nL⟩ := X
  obtain ⟨⟨hx, hb, hml, hown, hts⟩, hK, hj, hO, hR, hr0, hlk⟩ := C
  intro r hr H locs ls hI hl
  exact lv_dup hx hb hd hv (kk r hr H locs ls hI hl)

theorem j_dup2  (C : zC X K G own cc rt d) {v w : Value} (hd : decode cc pc = .ok (.dup2, 1)) (hv : v.category = 1) (hw : w.category = 1) (kk : J X WR Q st lv (pc + 1) (v :: w :: v :: w :: stk) o) : J X WR Q st lv pc (v :: w :: stk) o := by
  obtain ⟨p, l, e, R, s, m, args, below, meth, c, cells, slots, nL⟩ := X
  obtain ⟨⟨hx, hb, hml, hown, hts⟩, hK, hj, hO, hR, hr0, hlk⟩ := C
  intro r hr H locs ls hI hl
  exact lv_dup2_11 hx hb hd hv hw (kk r hr H locs ls hI hl)

theorem j_pop  (C : zC X K G own cc rt d) {v : Value} (hd : decode cc pc = .ok (.pop, 1)) (hv : v.category = 1) (kk : J X WR Q st lv (pc + 1) stk o) : J X WR Q st lv pc (v :: stk) o := by
  obtain ⟨p, l, e, R, s, m, args, below, meth, c, cells, slots, nL⟩ := X
  obtain ⟨⟨hx, hb, hml, hown, hts⟩, hK, hj, hO, hR, hr0, hlk⟩ := C
  intro r hr H locs ls hI hl
  exact lv_pop hx hb hd hv (kk r hr H locs ls hI hl)

theorem j_goto  (C : zC X K G own cc rt d) {off : Int} {tgt : Nat} (hd : decode cc pc = .ok (.goto off, 3)) (ht : (pc : Int) + off = (tgt : Int)) (kk : J X WR Q st lv tgt stk o) : J X WR Q st lv pc stk o := by
  obtain ⟨p, l, e, R, s, m, args, below, meth, c, cells, slots, nL⟩ := X
  obtain ⟨⟨hx, hb, hml, hown, hts⟩, hK, hj, hO, hR, hr0, hlk⟩ := C
  intro r hr H locs ls hI hl
  exact lv_goto hx hb hd ht (kk r hr H locs ls hI hl)

theorem j_icmp_lt  (C : zC X K G own cc rt d) {a b : Int} {off : Int} {tgt : Nat} (hd : decode cc pc = .ok (.if_icmp .lt off, 3)) (ht : (pc : Int) + off = (tgt : Int)) (kt : J X WR Q st lv tgt stk A) (kf : J X WR Q st lv (pc + 3) stk B) : J X WR Q st lv pc (.int (oI b) :: .int (oI a) :: stk) (if wI a < wI b then A else B) := by
  obtain ⟨p, l, e, R, s, m, args, below, meth, c, cells, slots, nL⟩ := X
  obtain ⟨⟨hx, hb, hml, hown, hts⟩, hK, hj, hO, hR, hr0, hlk⟩ := C
  intro r hr H locs ls hI hl
  refine lv_icmp_lt hx hb hd ht (fun h => ?_) (fun h => ?_)
  · rw [if_pos (oI_lt.mp h)] at hr; exact kt r hr H locs ls hI hl
  · rw [if_neg (fun q => h (oI_lt.mpr q))] at hr; exact kf r hr H locs ls hI hl

theorem j_if_lt  (C : zC X K G own cc rt d) {a : Int} {off : Int} {tgt : Nat} (hd : decode cc pc = .ok (.ifCond .lt off, 3)) (ht : (pc : Int) + off = (tgt : Int)) (kt : J X WR Q st lv tgt stk A) (kf : J X WR Q st lv (pc + 3) stk B) : J X WR Q st lv pc (.int (oI a) :: stk) (if wI a < 0 then A else B) := by
  obtain ⟨p, l, e, R, s, m, args, below, meth, c, cells, slots, nL⟩ := X
  obtain ⟨⟨hx, hb, hml, hown, hts⟩, hK, hj, hO, hR, hr0, hlk⟩ := C
  intro r hr H locs ls hI hl
  refine lv_if_lt hx hb hd ht (fun h => ?_) (fun h => ?_)
  · rw [if_pos (oI_lt0.mp h)] at hr; exact kt r hr H locs ls hI hl
  · rw [if_neg (fun q => h (oI_lt0.mpr q))] at hr; exact kf r hr H locs ls hI hl

theorem j_icmp_le  (C : zC X K G own cc rt d) {a b : Int} {off : Int} {tgt : Nat} (hd : decode cc pc = .ok (.if_icmp .le off, 3)) (ht : (pc : Int) + off = (tgt : Int)) (kt : J X WR Q st lv tgt stk A) (kf : J X WR Q st lv (pc + 3) stk B) : J X WR Q st lv pc (.int (oI b) :: .int (oI a) :: stk) (if wI a ≤ wI b then A else B) := by
  obtain ⟨p, l, e, R, s, m, args, below, meth, c, cells, slots, nL⟩ := X
  obtain ⟨⟨hx, hb, hml, hown, hts⟩, hK, hj, hO, hR, hr0, hlk⟩ := C
  intro r hr H locs ls hI hl
  refine lv_icmp_le hx hb hd ht (fun h => ?_) (fun h => ?_)
  · rw [if_pos (oI_le.mp h)] at hr; exact kt r hr H locs ls hI hl
  · rw [if_neg (fun q => h (oI_le.mpr q))] at hr; exact kf r hr H locs ls hI hl

theorem j_if_le  (C : zC X K G own cc rt d) {a : Int} {off : Int} {tgt : Nat} (hd : decode cc pc = .ok (.ifCond .le off, 3)) (ht : (pc : Int) + off = (tgt : Int)) (kt : J X WR Q st lv tgt stk A) (kf : J X WR Q st lv (pc + 3) stk B) : J X WR Q st lv pc (.int (oI a) :: stk) (if wI a ≤ 0 then A else B) := by
  obtain ⟨p, l, e, R, s, m, args, below, meth, c, cells, slots, nL⟩ := X
  obtain ⟨⟨hx, hb, hml, hown, hts⟩, hK, hj, hO, hR, hr0, hlk⟩ := C
  intro r hr H locs ls hI hl
  refine lv_if_le hx hb hd ht (fun h => ?_) (fun h => ?_)
  · rw [if_pos (oI_le0.mp h)] at hr; exact kt r hr H locs ls hI hl
  · rw [if_neg (fun q => h (oI_le0.mpr q))] at hr; exact kf r hr H locs ls hI hl

theorem j_icmp_eq  (C : zC X K G own cc rt d) {a b : Int} {off : Int} {tgt : Nat} (hd : decode cc pc = .ok (.if_icmp .eq off, 3)) (ht : (pc : Int) + off = (tgt : Int)) (kt : J X WR Q st lv tgt stk A) (kf : J X WR Q st lv (pc + 3) stk B) : J X WR Q st lv pc (.int (oI b) :: .int (oI a) :: stk) (if wI a = wI b then A else B) := by
  obtain ⟨p, l, e, R, s, m, args, below, meth, c, cells, slots, nL⟩ := X
  obtain ⟨⟨hx, hb, hml, hown, hts⟩, hK, hj, hO, hR, hr0, hlk⟩ := C
  intro r hr H locs ls hI hl
  refine lv_icmp_eq hx hb hd ht (fun h => ?_) (fun h => ?_)
  · rw [if_pos (oI_eq.mp h)] at hr; exact kt r hr H locs ls hI hl
  · rw [if_neg (fun q => h (oI_eq.mpr q))] at hr; exact kf r hr H locs ls hI hl

theorem j_if_eq  (C : zC X K G own cc rt d) {a : Int} {off : Int} {tgt : Nat} (hd : decode cc pc = .ok (.ifCond .eq off, 3)) (ht : (pc : Int) + off = (tgt : Int)) (kt : J X WR Q st lv tgt stk A) (kf : J X WR Q st lv (pc + 3) stk B) : J X WR Q st lv pc (.int (oI a) :: stk) (if wI a = 0 then A else B) := by
  obtain ⟨p, l, e, R, s, m, args, below, meth, c, cells, slots, nL⟩ := X
  obtain ⟨⟨hx, hb, hml, hown, hts⟩, hK, hj, hO, hR, hr0, hlk⟩ := C
  intro r hr H locs ls hI hl
  refine lv_if_eq hx hb hd ht (fun h => ?_) (fun h => ?_)
  · rw [if_pos (oI_eq0.mp h)] at hr; exact kt r hr H locs ls hI hl
  · rw [if_neg (fun q => h (oI_eq0.mpr q))] at hr; exact kf r hr H locs ls hI hl

theorem j_icmp_ge  (C : zC X K G own cc rt d) {a b : Int} {off : Int} {tgt : Nat} (hd : decode cc pc = .ok (.if_icmp .ge off, 3)) (ht : (pc : Int) + off = (tgt : Int)) (kt : J X WR Q st lv tgt stk A) (kf : J X WR Q st lv (pc + 3) stk B) : J X WR Q st lv pc (.int (oI b) :: .int (oI a) :: stk) (if wI b ≤ wI a then A else B) := by
  obtain ⟨p, l, e, R, s, m, args, below, meth, c, cells, slots, nL⟩ := X
  obtain ⟨⟨hx, hb, hml, hown, hts⟩, hK, hj, hO, hR, hr0, hlk⟩ := C
  intro r hr H locs ls hI hl
  refine lv_icmp_ge hx hb hd ht (fun h => ?_) (fun h => ?_)
  · rw [if_pos (oI_le.mp h)] at hr; exact kt r hr H locs ls hI hl
  · rw [if_neg (fun q => h (oI_le.mpr q))] at hr; exact kf r hr H locs ls hI hl

theorem j_if_ge  (C : zC X K G own cc rt d) {a : Int} {off : Int} {tgt : Nat} (hd : decode cc pc = .ok (.ifCond .ge off, 3)) (ht : (pc : Int) + off = (tgt : Int)) (kt : J X WR Q st lv tgt stk A) (kf : J X WR Q st lv (pc + 3) stk B) : J X WR Q st lv pc (.int (oI a) :: stk) (if 0 ≤ wI a then A else B) := by
  obtain ⟨p, l, e, R, s, m, args, below, meth, c, cells, slots, nL⟩ := X
  obtain ⟨⟨hx, hb, hml, hown, hts⟩, hK, hj, hO, hR, hr0, hlk⟩ := C
  intro r hr H locs ls hI hl
  refine lv_if_ge hx hb hd ht (fun h => ?_) (fun h => ?_)
  · rw [if_pos (oI_ge0.mp h)] at hr; exact kt r hr H locs ls hI hl
  · rw [if_neg (fun q => h (oI_ge0.mpr q))] at hr; exact kf r hr H locs ls hI hl

theorem j_icmp_gt  (C : zC X K G own cc rt d) {a b : Int} {off : Int} {tgt : Nat} (hd : decode cc pc = .ok (.if_icmp .gt off, 3)) (ht : (pc : Int) + off = (tgt : Int)) (kt : J X WR Q st lv tgt stk A) (kf : J X WR Q st lv (pc + 3) stk B) : J X WR Q st lv pc (.int (oI b) :: .int (oI a) :: stk) (if wI b < wI a then A else B) := by
  obtain ⟨p, l, e, R, s, m, args, below, meth, c, cells, slots, nL⟩ := X
  obtain ⟨⟨hx, hb, hml, hown, hts⟩, hK, hj, hO, hR, hr0, hlk⟩ := C
  intro r hr H locs ls hI hl
  refine lv_icmp_gt hx hb hd ht (fun h => ?_) (fun h => ?_)
  · rw [if_pos (oI_lt.mp h)] at hr; exact kt r hr H locs ls hI hl
  · rw [if_neg (fun q => h (oI_lt.mpr q))] at hr; exact kf r hr H locs ls hI hl

theorem j_if_gt  (C : zC X K G own cc rt d) {a : Int} {off : Int} {tgt : Nat} (hd : decode cc pc = .ok (.ifCond .gt off, 3)) (ht : (pc : Int) + off = (tgt : Int)) (kt : J X WR Q st lv tgt stk A) (kf : J X WR Q st lv (pc + 3) stk B) : J X WR Q st lv pc (.int (oI a) :: stk) (if 0 < wI a then A else B) := by
  obtain ⟨p, l, e, R, s, m, args, below, meth, c, cells, slots, nL⟩ := X
  obtain ⟨⟨hx, hb, hml, hown, hts⟩, hK, hj, hO, hR, hr0, hlk⟩ := C
  intro r hr H locs ls hI hl
  refine lv_if_gt hx hb hd ht (fun h => ?_) (fun h => ?_)
  · rw [if_pos (oI_gt0.mp h)] at hr; exact kt r hr H locs ls hI hl
  · rw [if_neg (fun q => h (oI_gt0.mpr q))] at hr; exact kf r hr H locs ls hI hl

theorem j_icmp_ne  (C : zC X K G own cc rt d) {a b : Int} {off : Int} {tgt : Nat} (hd : decode cc pc = .ok (.if_icmp .ne off, 3)) (ht : (pc : Int) + off = (tgt : Int)) (kt : J X WR Q st lv (pc + 3) stk A) (kf : J X WR Q st lv tgt stk B) : J X WR Q st lv pc (.int (oI b) :: .int (oI a) :: stk) (if wI a = wI b then A else B) := by
  obtain ⟨p, l, e, R, s, m, args, below, meth, c, cells, slots, nL⟩ := X
  obtain ⟨⟨hx, hb, hml, hown, hts⟩, hK, hj, hO, hR, hr0, hlk⟩ := C
  intro r hr H locs ls hI hl
  refine lv_icmp_ne hx hb hd ht (fun h => ?_) (fun h => ?_)
  · rw [if_neg (fun q => h (oI_eq.mpr q))] at hr; exact kf r hr H locs ls hI hl
  · rw [if_pos (oI_eq.mp h)] at hr; exact kt r hr H locs ls hI hl

theorem j_if_ne  (C : zC X K G own cc rt d) {a : Int} {off : Int} {tgt : Nat} (hd : decode cc pc = .ok (.ifCond .ne off, 3)) (ht : (pc : Int) + off = (tgt : Int)) (kt : J X WR Q st lv (pc + 3) stk A) (kf : J X WR Q st lv tgt stk B) : J X WR Q st lv pc (.int (oI a) :: stk) (if wI a = 0 then A else B) := by
  obtain ⟨p, l, e, R, s, m, args, below, meth, c, cells, slots, nL⟩ := X
  obtain ⟨⟨hx, hb, hml, hown, hts⟩, hK, hj, hO, hR, hr0, hlk⟩ := C
  intro r hr H locs ls hI hl
  refine lv_if_ne hx hb hd ht (fun h => ?_) (fun h => ?_)
  · rw [if_neg (fun q => h (oI_eq0.mpr q))] at hr; exact kf r hr H locs ls hI hl
  · rw [if_pos (oI_eq0.mp h)] at hr; exact kt r hr H locs ls hI hl

theorem j_if_eq_t  (C : zC X K G own cc rt d) {a : Int} {off : Int} {tgt : Nat} (hd : decode cc pc = .ok (.ifCond .eq off, 3)) (ht : (pc : Int) + off = (tgt : Int)) (hc : wI a = 0) (kk : J X WR Q st lv tgt stk o) : J X WR Q st lv pc (.int (oI a) :: stk) o := by
  obtain ⟨p, l, e, R, s, m, args, below, meth, c, cells, slots, nL⟩ := X
  obtain ⟨⟨hx, hb, hml, hown, hts⟩, hK, hj, hO, hR, hr0, hlk⟩ := C
  intro r hr H locs ls hI hl
  refine lv_if_eq hx hb hd ht (fun h => ?_) (fun h => ?_)
  · exact kk r hr H locs ls hI hl
  · exact absurd (oI_eq0.mpr hc) h

theorem j_if_eq_f  (C : zC X K G own cc rt d) {a : Int} {off : Int} {tgt : Nat} (hd : decode cc pc = .ok (.ifCond .eq off, 3)) (ht : (pc : Int) + off = (tgt : Int)) (hc : ¬ wI a = 0) (kk : J X WR Q st lv (pc + 3) stk o) : J X WR Q st lv pc (.int (oI a) :: stk) o := by
  obtain ⟨p, l, e, R, s, m, args, below, meth, c, cells, slots, nL⟩ := X
  obtain ⟨⟨hx, hb, hml, hown, hts⟩, hK, hj, hO, hR, hr0, hlk⟩ := C
  intro r hr H locs ls hI hl
  refine lv_if_eq hx hb hd ht (fun h => ?_) (fun h => ?_)
  · exact absurd (oI_eq0.mp h) hc
  · exact kk r hr H locs ls hI hl

theorem j_if_ne_t  (C : zC X K G own cc rt d) {a : Int} {off : Int} {tgt : Nat} (hd : decode cc pc = .ok (.ifCond .ne off, 3)) (ht : (pc : Int) + off = (tgt : Int)) (hc : ¬ wI a = 0) (kk : J X WR Q st lv tgt stk o) : J X WR Q st lv pc (.int (oI a) :: stk) o := by
  obtain ⟨p, l, e, R, s, m, args, below, meth, c, cells, slots, nL⟩ := X
  obtain ⟨⟨hx, hb, hml, hown, hts⟩, hK, hj, hO, hR, hr0, hlk⟩ := C
  intro r hr H locs ls hI hl
  refine lv_if_ne hx hb hd ht (fun h => ?_) (fun h => ?_)
  · exact kk r hr H locs ls hI hl
  · exact absurd (oI_eq0.mp h) hc

theorem j_if_ne_f  (C : zC X K G own cc rt d) {a : Int} {off : Int} {tgt : Nat} (hd : decode cc pc = .ok (.ifCond .ne off, 3)) (ht : (pc : Int) + off = (tgt : Int)) (hc : wI a = 0) (kk : J X WR Q st lv (pc + 3) stk o) : J X WR Q st lv pc (.int (oI a) :: stk) o := by
  obtain ⟨p, l, e, R, s, m, args, below, meth, c, cells, slots, nL⟩ := X
  obtain ⟨⟨hx, hb, hml, hown, hts⟩, hK, hj, hO, hR, hr0, hlk⟩ := C
  intro r hr H locs ls hI hl
  refine lv_if_ne hx hb hd ht (fun h => ?_) (fun h => ?_)
  · exact absurd (oI_eq0.mpr hc) h
  · exact kk r hr H locs ls hI hl

theorem j_lcmp  (C : zC X K G own cc rt d) {a b : Int} (hd : decode cc pc = .ok (.lcmp, 1)) (kk : J X WR Q st lv (pc + 1) (.int (oI (zcmp a b)) :: stk) o) : J X WR Q st lv pc (.long (oL b) :: .long (oL a) :: stk) o := by
  obtain ⟨p, l, e, R, s, m, args, below, meth, c, cells, slots, nL⟩ := X
  obtain ⟨⟨hx, hb, hml, hown, hts⟩, hK, hj, hO, hR, hr0, hlk⟩ := C
  intro r hr H locs ls hI hl
  refine W.lcmp hx hb hd ?_
  rw [oL_cmp]
  exact kk r hr H locs ls hI hl

theorem j_tabIn  (C : zC X K G own cc rt d) {dflt lo hi : Int} {offs : Array Int} {len : Nat} {z v : Int} {off : Int} {tgt : Nat} (hd : decode cc pc = .ok (.tableswitch dflt lo hi offs, len)) (hz : wI z = v) (h1 : ¬ v < lo) (h2 : ¬ hi < v) (ho : offs[(v - lo).toNat]? = some off) (ht : (pc : Int) + off = (tgt : Int)) (kk : J X WR Q st lv tgt stk o) : J X WR Q st lv pc (.int (oI z) :: stk) o := by
  obtain ⟨p, l, e, R, s, m, args, below, meth, c, cells, slots, nL⟩ := X
  obtain ⟨⟨hx, hb, hml, hown, hts⟩, hK, hj, hO, hR, hr0, hlk⟩ := C
  intro r hr H locs ls hI hl
  subst hz
  rw [← oI_toInt] at h1 h2 ho
  exact lv_tableIn hx hb hd h1 h2 ho ht (kk r hr H locs ls hI hl)

theorem j_tabOut  (C : zC X K G own cc rt d) {dflt lo hi : Int} {offs : Array Int} {len : Nat} {z : Int} {tgt : Nat} (hd : decode cc pc = .ok (.tableswitch dflt lo hi offs, len)) (h : wI z < lo ∨ hi < wI z) (ht : (pc : Int) + dflt = (tgt : Int)) (kk : J X WR Q st lv tgt stk o) : J X WR Q st lv pc (.int (oI z) :: stk) o := by
  obtain ⟨p, l, e, R, s, m, args, below, meth, c, cells, slots, nL⟩ := X
  obtain ⟨⟨hx, hb, hml, hown, hts⟩, hK, hj, hO, hR, hr0, hlk⟩ := C
  intro r hr H locs ls hI hl
  rw [← oI_toInt] at h
  exact lv_tableOut hx hb hd h ht (kk r hr H locs ls hI hl)

theorem j_look  (C : zC X K G own cc rt d) {dflt : Int} {ps : Array (Int × Int)} {len : Nat} {z : Int} {off : Int} {tgt : Nat} (hd : decode cc pc = .ok (.lookupswitch dflt ps, len)) (hp : (ps.toList.zip (ps.toList.drop 1)).all (fun (a, next) => a.1 < next.1) = true) (ho : Op.lookupswitch.offset ps.toList dflt (wI z) = off) (ht : (pc : Int) + off = (tgt : Int)) (kk : J X WR Q st lv tgt stk o) : J X WR Q st lv pc (.int (oI z) :: stk) o := by
  obtain ⟨p, l, e, R, s, m, args, below, meth, c, cells, slots, nL⟩ := X
  obtain ⟨⟨hx, hb, hml, hown, hts⟩, hK, hj, hO, hR, hr0, hlk⟩ := C
  intro r hr H locs ls hI hl
  rw [← oI_toInt] at ho
  exact lv_lookup hx hb hd hp ho ht (kk r hr H locs ls hI hl)

theorem j_mmax  (C : zC X K G own cc rt d) {index : Nat} {a b : Int} (hw : Cond.methodLink own index Lib.Math.max.name ∈ zT ∧ Cond.static Lib.Math.max.name ∈ zT ∧ Cond.initialized "java/lang/Math" ∈ zT ∧ Cond.code Lib.Math.max.name Lib.Math.max.code 2 (some .int) ∈ zT) (hsz : (stk.map fun v => v.category).sum ≤ 8) (hd : decode cc pc = .ok (.invokestatic index, 3)) (kk : J X WR Q st lv (pc + 3) (.int (oI (zmax a b)) :: stk) o) : J X WR Q st lv pc (.int (oI b) :: .int (oI a) :: stk) o := by
  obtain ⟨p, l, e, R, s, m, args, below, meth, c, cells, slots, nL⟩ := X
  obtain ⟨⟨hx, hb, hml, hown, hts⟩, hK, hj, hO, hR, hr0, hlk⟩ := C
  intro r hr H locs ls hI hl
  refine va_mmax hx hb (hml.trans hl.1.symm) hown (hts _ hw.1) (hts _ hw.2.1) (hts _ hw.2.2.1) (hts _ hw.2.2.2) (by omega) (by omega) hR.2.2.1 hR.2.2.2 hd ?_
  rw [oI_zmax]
  exact kk r hr H locs ls hI hl

theorem j_mmin  (C : zC X K G own cc rt d) {index : Nat} {a b : Int} (hw : Cond.methodLink own index Lib.Math.min.name ∈ zT ∧ Cond.static Lib.Math.min.name ∈ zT ∧ Cond.initialized "java/lang/Math" ∈ zT ∧ Cond.code Lib.Math.min.name Lib.Math.min.code 2 (some .int) ∈ zT) (hsz : (stk.map fun v => v.category).sum ≤ 8) (hd : decode cc pc = .ok (.invokestatic index, 3)) (kk : J X WR Q st lv (pc + 3) (.int (oI (zmin a b)) :: stk) o) : J X WR Q st lv pc (.int (oI b) :: .int (oI a) :: stk) o := by
  obtain ⟨p, l, e, R, s, m, args, below, meth, c, cells, slots, nL⟩ := X
  obtain ⟨⟨hx, hb, hml, hown, hts⟩, hK, hj, hO, hR, hr0, hlk⟩ := C
  intro r hr H locs ls hI hl
  refine va_mmin hx hb (hml.trans hl.1.symm) hown (hts _ hw.1) (hts _ hw.2.1) (hts _ hw.2.2.1) (hts _ hw.2.2.2) (by omega) (by omega) hR.2.2.1 hR.2.2.2 hd ?_
  rw [oI_zmin]
  exact kk r hr H locs ls hI hl

theorem j_mabs  (C : zC X K G own cc rt d) {index : Nat} {a b : Int} (hw : Cond.methodLink own index Lib.Math.abs.name ∈ zT ∧ Cond.static Lib.Math.abs.name ∈ zT ∧ Cond.initialized "java/lang/Math" ∈ zT ∧ Cond.code Lib.Math.abs.name Lib.Math.abs.code 1 (some .int) ∈ zT) (hsz : (stk.map fun v => v.category).sum ≤ 8) (hd : decode cc pc = .ok (.invokestatic index, 3)) (kk : J X WR Q st lv (pc + 3) (.int (oI (zabs a)) :: stk) o) : J X WR Q st lv pc (.int (oI a) :: stk) o := by
  obtain ⟨p, l, e, R, s, m, args, below, meth, c, cells, slots, nL⟩ := X
  obtain ⟨⟨hx, hb, hml, hown, hts⟩, hK, hj, hO, hR, hr0, hlk⟩ := C
  intro r hr H locs ls hI hl
  refine va_mabs hx hb (hml.trans hl.1.symm) hown (hts _ hw.1) (hts _ hw.2.1) (hts _ hw.2.2.1) (hts _ hw.2.2.2) (by omega) (by omega) hR.2.2.1 hR.2.2.2 hd ?_
  rw [oI_zabs]
  exact kk r hr H locs ls hI hl

end ZROWS
end
section
/-! MEMORY ROWS: fields, arrays, calls, ends -/
/-- label a is an object of class ci with these fields -/
def zOb (K : SD) (a ci : Nat) (fs : (Nat → Nat) → (Int → Int) → List Value) : Prop := a ∈ K.1 ∧ ∀ E ad f, K.2.1 E ad a f = .inr (ci, fs ad f)
/-- label a is an int-like array of n items, array class t -/
def zIA (K : SD) (a n t : Nat) : Prop := a ∈ K.1 ∧ ∀ E ad f, K.2.1 E ad a f = .inl (E t, n, .inl (fun j => oI (f (j : Int))))
def zLA (K : SD) (a n : Nat) : Prop := a ∈ K.1 ∧ ∀ E ad f, K.2.1 E ad a f = .inl (E 3, n, .inr (.inl (fun j => oL (f (j : Int)))))
def zRA (K : SD) (a n t base step : Nat) : Prop := a ∈ K.1 ∧ ∀ E ad f, K.2.1 E ad a f = .inl (E t, n, .inr (.inr (.inr (.inr (fun j => some (ad (base + step * j)))))))
def zm (ad : Nat → Nat) (k : Int) : Value := if k < 0 then .null else .ref (ad (100 + 10 * k.toNat))
theorem zin {i : Int} {n : Nat} (h : 0 ≤ wI i ∧ wI i < n) : vp_in (oI i) n := vp_in_iff.mpr (by rw [oI_toInt]; exact h)
theorem zcl (i : Int) : (oI i).toNatClampNeg = (wI i).toNat := by
  show (oI i).toInt.toNat = _
  rw [oI_toInt]
theorem zrd_some {st : PS} {a n : Nat} {i v : Int} (h : zrd st a n i = some v) : (0 ≤ wI i ∧ wI i < n) ∧ st a (wI i) = v := by
  unfold zrd at h
  by_cases c : 0 ≤ wI i ∧ wI i < n
  · rw [if_pos c] at h; exact ⟨c, Option.some.inj h⟩
  · rw [if_neg c] at h; cases h
theorem zwr_some {st st1 : PS} {a n : Nat} {i x : Int} (h : zwr st a n i x = some st1) : (0 ≤ wI i ∧ wI i < n) ∧ zu st a (wI i) x = st1 := by
  unfold zwr at h
  by_cases c : 0 ≤ wI i ∧ wI i < n
  · rw [if_pos c] at h; exact ⟨c, Option.some.inj h⟩
  · rw [if_neg c] at h; cases h
section ZMEM
variable {T : Type} {X : JX} {K : SD} {G : GD} {own : String} {cc : ByteArray} {rt : Option FieldType} {d : Nat} {Q : JX → T → State → Prop} {st : PS} {lv lv' : List (Nat × Value)} {pc : Nat} {stk : List Value} {o A B : Option T}
/-- getfield -/
theorem j_get (C : zC X K G own cc rt d) {a ci n index : Nat} {Cn : String} {TT : u_T} {fs : (Nat → Nat) → (Int → Int) → List Value} (hob : zOb K a ci fs) (hc : zCl[ci]? = some (Cn, TT, n)) (hin : ∀ w ∈ u_ws Cn TT n, w ∈ zT) (k : Nat) (hk : k < n) (hlink : Cond.fieldLink own index (TT k).1 (TT k).2.1 (TT k).2.2.1 ∈ zT) {v : Value} (hv : (fs G.2.2.1 (st a))[k]? = some v) (hd : decode cc pc = .ok (.getfield index, 3))
    (kk : J X (zI K G) Q st lv (pc + 3) (v :: stk) o) : J X (zI K G) Q st lv pc (.ref (G.2.2.1 a) :: stk) o := by
  obtain ⟨p, l, e, R, s, m, args, below, meth, c, cells, slots, nL⟩ := X
  obtain ⟨⟨hx, hb, hml, hown, hts⟩, hK, hj, hO, hR, hr0, hlk⟩ := C
  intro r hr H locs ls hI hl
  obtain ⟨q0, -, hq⟩ := zW_get (K := K) (G := G) hob.1
  have he := hq st
  rw [hob.2] at he
  exact va_get hx hb hts hin hown hK hI.1 q0 he hc k hk (hts _ hlink) (fun _ h => h) hv hd (kk r hr H locs ls hI hl)
/-- putfield -/
theorem j_put (C : zC X K G own cc rt d) {a ci n index : Nat} {Cn : String} {TT : u_T} {fs : (Nat → Nat) → (Int → Int) → List Value} (hob : zOb K a ci fs) (hc : zCl[ci]? = some (Cn, TT, n)) (hin : ∀ w ∈ u_ws Cn TT n, w ∈ zT) (ty0 : Nat → FieldType) (hty : ∀ k, k < n → parseFieldDescriptor (TT k).2.2.1 = some (ty0 k)) (hnm : ∀ a, a < n → ∀ b, b < n → a ≠ b → (TT a).2.1 ≠ (TT b).2.1) (k : Nat) (hk : k < n) (hlink : Cond.fieldLink own index (TT k).1 (TT k).2.1 (TT k).2.2.1 ∈ zT) (hfin : (TT k).2.2.2 = false) {v : Value} {x : Int} {ty : FieldType} (hdd : parseFieldDescriptor (TT k).2.2.1 = some ty) (hn : narrow ty v = v) (hfit : fits ty v = true) (hl0 : k < (fs G.2.2.1 (st a)).length)
    (hset : (fs G.2.2.1 (st a)).set k v = fs G.2.2.1 (fun j => if j = (k : Int) then x else st a j)) (hd : decode cc pc = .ok (.putfield index, 3))
    (kk : J X (zI K G) Q (zu st a (k : Int) x) lv (pc + 3) stk o) : J X (zI K G) Q st lv pc (v :: .ref (G.2.2.1 a) :: stk) o := by
  obtain ⟨p, l, e, R, s, m, args, below, meth, c, cells, slots, nL⟩ := X
  obtain ⟨⟨hx, hb, hml, hown, hts⟩, hK, hj, hO, hR, hr0, hlk⟩ := C
  intro r hr H locs ls hI hl
  obtain ⟨q0, hq0, hq⟩ := zW_get (K := K) (G := G) hob.1
  have he := hq st
  rw [hob.2] at he
  refine va_put hx hb hts hin ty0 hty hnm hown hK hI.1 (zW_D hj st) hI.2 q0 he hc k hk (hts _ hlink) (fun _ h => h) hfin hdd hn hfit hl0 hd (fun H1 locs1 hP1 _ hS1 => ?_)
  rw [zW_set hj hq0 (st' := zu st a (k : Int) x) (fun b hb => zu_ne st hb _ _) (by rw [hob.2, zu_same, hset])] at hP1
  exact kk r hr H1 locs1 ls ⟨hP1, hS1⟩ hl
theorem j_iald (C : zC X K G own cc rt d) {a n : Nat} {i v : Int} (ha : zIA K a n 0) (hv : zrd st a n i = some v) (hd : decode cc pc = .ok (.iaload, 1))
    (kk : J X (zI K G) Q st lv (pc + 1) (.int (oI v) :: stk) o) : J X (zI K G) Q st lv pc (.int (oI i) :: .ref (G.2.2.1 a) :: stk) o := by
  obtain ⟨p, l, e, R, s, m, args, below, meth, c, cells, slots, nL⟩ := X
  obtain ⟨⟨hx, hb, hml, hown, hts⟩, hK, hj, hO, hR, hr0, hlk⟩ := C
  intro r hr H locs ls hI hl
  obtain ⟨hi, rfl⟩ := zrd_some hv
  obtain ⟨q0, -, hq⟩ := zW_get (K := K) (G := G) ha.1
  have he := hq st
  rw [ha.2] at he
  refine va_iald hx hb hK hI.1 q0 0 he rfl (zin hi) hd ?_
  rw [zcl, Int.toNat_of_nonneg hi.1]
  exact kk r hr H locs ls hI hl
theorem j_bald (C : zC X K G own cc rt d) {a n : Nat} {i v : Int} (ha : zIA K a n 1) (hv : zrd st a n i = some v) (hd : decode cc pc = .ok (.baload, 1))
    (kk : J X (zI K G) Q st lv (pc + 1) (.int (oI v) :: stk) o) : J X (zI K G) Q st lv pc (.int (oI i) :: .ref (G.2.2.1 a) :: stk) o := by
  obtain ⟨p, l, e, R, s, m, args, below, meth, c, cells, slots, nL⟩ := X
  obtain ⟨⟨hx, hb, hml, hown, hts⟩, hK, hj, hO, hR, hr0, hlk⟩ := C
  intro r hr H locs ls hI hl
  obtain ⟨hi, rfl⟩ := zrd_some hv
  obtain ⟨q0, -, hq⟩ := zW_get (K := K) (G := G) ha.1
  have he := hq st
  rw [ha.2] at he
  refine va_bald hx hb hK hI.1 q0 1 he rfl (zin hi) hd ?_
  rw [zcl, Int.toNat_of_nonneg hi.1]
  exact kk r hr H locs ls hI hl
theorem j_zald (C : zC X K G own cc rt d) {a n : Nat} {i v : Int} (ha : zIA K a n 2) (hv : zrd st a n i = some v) (hd : decode cc pc = .ok (.baload, 1))
    (kk : J X (zI K G) Q st lv (pc + 1) (.int (oI v) :: stk) o) : J X (zI K G) Q st lv pc (.int (oI i) :: .ref (G.2.2.1 a) :: stk) o := by
  obtain ⟨p, l, e, R, s, m, args, below, meth, c, cells, slots, nL⟩ := X
  obtain ⟨⟨hx, hb, hml, hown, hts⟩, hK, hj, hO, hR, hr0, hlk⟩ := C
  intro r hr H locs ls hI hl
  obtain ⟨hi, rfl⟩ := zrd_some hv
  obtain ⟨q0, -, hq⟩ := zW_get (K := K) (G := G) ha.1
  have he := hq st
  rw [ha.2] at he
  refine va_zald hx hb hK hI.1 q0 2 he rfl (zin hi) hd ?_
  rw [zcl, Int.toNat_of_nonneg hi.1]
  exact kk r hr H locs ls hI hl
theorem j_lald (C : zC X K G own cc rt d) {a n : Nat} {i v : Int} (ha : zLA K a n) (hv : zrd st a n i = some v) (hd : decode cc pc = .ok (.laload, 1))
    (kk : J X (zI K G) Q st lv (pc + 1) (.long (oL v) :: stk) o) : J X (zI K G) Q st lv pc (.int (oI i) :: .ref (G.2.2.1 a) :: stk) o := by
  obtain ⟨p, l, e, R, s, m, args, below, meth, c, cells, slots, nL⟩ := X
  obtain ⟨⟨hx, hb, hml, hown, hts⟩, hK, hj, hO, hR, hr0, hlk⟩ := C
  intro r hr H locs ls hI hl
  obtain ⟨hi, rfl⟩ := zrd_some hv
  obtain ⟨q0, -, hq⟩ := zW_get (K := K) (G := G) ha.1
  have he := hq st
  rw [ha.2] at he
  refine va_lald hx hb hK hI.1 q0 3 he rfl (zin hi) hd ?_
  rw [zcl, Int.toNat_of_nonneg hi.1]
  exact kk r hr H locs ls hI hl
theorem j_aald (C : zC X K G own cc rt d) {a n t base step : Nat} {i : Int} {Cn : String} (ha : zRA K a n t base step) (ht : (zTy G)[t]? = some (G.2.1 t, .object Cn)) (hd : decode cc pc = .ok (.aaload, 1))
    (kk : 0 ≤ wI i ∧ wI i < n → J X (zI K G) Q st lv (pc + 1) (.ref (G.2.2.1 (base + step * (wI i).toNat)) :: stk) A) : J X (zI K G) Q st lv pc (.int (oI i) :: .ref (G.2.2.1 a) :: stk) (zchk (wI i) n A) := by
  refine j_chk (fun hi => ?_)
  have kk := kk hi
  obtain ⟨p, l, e, R, s, m, args, below, meth, c, cells, slots, nL⟩ := X
  obtain ⟨⟨hx, hb, hml, hown, hts⟩, hK, hj, hO, hR, hr0, hlk⟩ := C
  intro r hr H locs ls hI hl
  obtain ⟨q0, -, hq⟩ := zW_get (K := K) (G := G) ha.1
  have he := hq st
  rw [ha.2] at he
  refine va_aldq hx hb hK hI.1 q0 t he ht (zin hi) hd ?_
  rw [zcl]
  exact kk r hr H locs ls hI hl
theorem z_upd (f : Int → Int) (i x : Int) (h : 0 ≤ i) : upd (fun j : Nat => oI (f (j : Int))) i.toNat (oI x) = fun j : Nat => oI ((fun q : Int => if q = i then x else f q) (j : Int)) := by
  funext j
  unfold upd
  by_cases hj : j = i.toNat
  · rw [if_pos hj]; simp only []; rw [if_pos (by omega)]
  · rw [if_neg hj]; simp only []; rw [if_neg (by omega)]
theorem z_updL (f : Int → Int) (i x : Int) (h : 0 ≤ i) : vp_updL (fun j : Nat => oL (f (j : Int))) i.toNat (oL x) = fun j : Nat => oL ((fun q : Int => if q = i then x else f q) (j : Int)) := by
  funext j
  unfold vp_updL
  by_cases hj : j = i.toNat
  · rw [if_pos hj]; simp only []; rw [if_pos (by omega)]
  · rw [if_neg hj]; simp only []; rw [if_neg (by omega)]
theorem j_iast (C : zC X K G own cc rt d) {a n : Nat} {i x : Int} {st1 : PS} (ha : zIA K a n 0) (hv : zwr st a n i x = some st1) (hd : decode cc pc = .ok (.iastore, 1))
    (kk : J X (zI K G) Q st1 lv (pc + 1) stk o) : J X (zI K G) Q st lv pc (.int (oI x) :: .int (oI i) :: .ref (G.2.2.1 a) :: stk) o := by
  obtain ⟨p, l, e, R, s, m, args, below, meth, c, cells, slots, nL⟩ := X
  obtain ⟨⟨hx, hb, hml, hown, hts⟩, hK, hj, hO, hR, hr0, hlk⟩ := C
  intro r hr H locs ls hI hl
  obtain ⟨hi, rfl⟩ := zwr_some hv
  obtain ⟨q0, hq0, hq⟩ := zW_get (K := K) (G := G) ha.1
  have he := hq st
  rw [ha.2] at he
  refine va_iast hx hb hK hI.1 (zW_D hj st) hI.2 q0 0 he rfl (zin hi) hd (fun H1 locs1 hP1 _ hS1 => ?_)
  rw [zW_set hj hq0 (st' := zu st a (wI i) x) (fun b hb => zu_ne st hb _ _) (by rw [ha.2, zu_same, zcl, z_upd _ _ _ hi.1])] at hP1
  exact kk r hr H1 locs1 ls ⟨hP1, hS1⟩ hl
theorem j_bast (C : zC X K G own cc rt d) {a n : Nat} {i x : Int} {st1 : PS} (ha : zIA K a n 1) (hv : zwr st a n i (wB x) = some st1) (hd : decode cc pc = .ok (.bastore, 1))
    (kk : J X (zI K G) Q st1 lv (pc + 1) stk o) : J X (zI K G) Q st lv pc (.int (oI x) :: .int (oI i) :: .ref (G.2.2.1 a) :: stk) o := by
  obtain ⟨p, l, e, R, s, m, args, below, meth, c, cells, slots, nL⟩ := X
  obtain ⟨⟨hx, hb, hml, hown, hts⟩, hK, hj, hO, hR, hr0, hlk⟩ := C
  intro r hr H locs ls hI hl
  obtain ⟨hi, rfl⟩ := zwr_some hv
  obtain ⟨q0, hq0, hq⟩ := zW_get (K := K) (G := G) ha.1
  have he := hq st
  rw [ha.2] at he
  refine va_bast hx hb hK hI.1 (zW_D hj st) hI.2 q0 1 he rfl (zin hi) hd (fun H1 locs1 hP1 _ hS1 => ?_)
  rw [zW_set hj hq0 (st' := zu st a (wI i) (wB x)) (fun b hb => zu_ne st hb _ _) (by rw [ha.2, zu_same, zcl, vp_nar_byte, oI_i2b, z_upd _ _ _ hi.1])] at hP1
  exact kk r hr H1 locs1 ls ⟨hP1, hS1⟩ hl
theorem j_zast (C : zC X K G own cc rt d) {a n : Nat} {i x : Int} {st1 : PS} (ha : zIA K a n 2) (hx0 : vp_nar .boolean (oI x) = oI x) (hv : zwr st a n i x = some st1) (hd : decode cc pc = .ok (.bastore, 1))
    (kk : J X (zI K G) Q st1 lv (pc + 1) stk o) : J X (zI K G) Q st lv pc (.int (oI x) :: .int (oI i) :: .ref (G.2.2.1 a) :: stk) o := by
  obtain ⟨p, l, e, R, s, m, args, below, meth, c, cells, slots, nL⟩ := X
  obtain ⟨⟨hx, hb, hml, hown, hts⟩, hK, hj, hO, hR, hr0, hlk⟩ := C
  intro r hr H locs ls hI hl
  obtain ⟨hi, rfl⟩ := zwr_some hv
  obtain ⟨q0, hq0, hq⟩ := zW_get (K := K) (G := G) ha.1
  have he := hq st
  rw [ha.2] at he
  refine va_zast hx hb hK hI.1 (zW_D hj st) hI.2 q0 2 he rfl (zin hi) hd (fun H1 locs1 hP1 _ hS1 => ?_)
  rw [zW_set hj hq0 (st' := zu st a (wI i) x) (fun b hb => zu_ne st hb _ _) (by rw [ha.2, zu_same, zcl, hx0, z_upd _ _ _ hi.1])] at hP1
  exact kk r hr H1 locs1 ls ⟨hP1, hS1⟩ hl
theorem j_last (C : zC X K G own cc rt d) {a n : Nat} {i x : Int} {st1 : PS} (ha : zLA K a n) (hv : zwr st a n i x = some st1) (hd : decode cc pc = .ok (.lastore, 1))
    (kk : J X (zI K G) Q st1 lv (pc + 1) stk o) : J X (zI K G) Q st lv pc (.long (oL x) :: .int (oI i) :: .ref (G.2.2.1 a) :: stk) o := by
  obtain ⟨p, l, e, R, s, m, args, below, meth, c, cells, slots, nL⟩ := X
  obtain ⟨⟨hx, hb, hml, hown, hts⟩, hK, hj, hO, hR, hr0, hlk⟩ := C
  intro r hr H locs ls hI hl
  obtain ⟨hi, rfl⟩ := zwr_some hv
  obtain ⟨q0, hq0, hq⟩ := zW_get (K := K) (G := G) ha.1
  have he := hq st
  rw [ha.2] at he
  refine va_last hx hb hK hI.1 (zW_D hj st) hI.2 q0 3 he rfl (zin hi) hd (fun H1 locs1 hP1 _ hS1 => ?_)
  rw [zW_set hj hq0 (st' := zu st a (wI i) x) (fun b hb => zu_ne st hb _ _) (by rw [ha.2, zu_same, zcl, z_updL _ _ _ hi.1])] at hP1
  exact kk r hr H1 locs1 ls ⟨hP1, hS1⟩ hl
theorem j_alen (C : zC X K G own cc rt d) {a n t : Nat} {ty : FieldType} (ha : zIA K a n t) (ht : (zTy G)[t]? = some (G.2.1 t, ty)) (hd : decode cc pc = .ok (.arraylength, 1))
    (kk : J X (zI K G) Q st lv (pc + 1) (.int (oI (n : Int)) :: stk) o) : J X (zI K G) Q st lv pc (.ref (G.2.2.1 a) :: stk) o := by
  obtain ⟨p, l, e, R, s, m, args, below, meth, c, cells, slots, nL⟩ := X
  obtain ⟨⟨hx, hb, hml, hown, hts⟩, hK, hj, hO, hR, hr0, hlk⟩ := C
  intro r hr H locs ls hI hl
  obtain ⟨q0, -, hq⟩ := zW_get (K := K) (G := G) ha.1
  have he := hq st
  rw [ha.2] at he
  exact va_alen hx hb hK hI.1 q0 t he ht rfl hd (kk r hr H locs ls hI hl)
theorem z_cpy (st : PS) (a b : Nat) (sp dp n : Int) (h1 : 0 ≤ sp) (h2 : 0 ≤ dp) (h3 : 0 ≤ n) : zcpf st a b sp dp n b = fun j => if dp ≤ j ∧ j < dp + n then st a (sp + (j - dp)) else st b j := by
  funext j; simp [zcpf]
theorem z_cpyI (f g : Int → Int) (sp dp n : Int) (h1 : 0 ≤ sp) (h2 : 0 ≤ dp) (h3 : 0 ≤ n) : va_cpy (fun j : Nat => oI (f (j : Int))) (fun j : Nat => oI (g (j : Int))) sp.toNat dp.toNat n.toNat = fun j : Nat => oI ((fun j : Int => if dp ≤ j ∧ j < dp + n then f (sp + (j - dp)) else g j) (j : Int)) := by
  funext j
  unfold va_cpy
  by_cases hj : dp.toNat ≤ j ∧ j < dp.toNat + n.toNat
  · rw [if_pos hj]; simp only []; rw [if_pos (by omega)]; congr 2; omega
  · rw [if_neg hj]; simp only []; rw [if_neg (by omega)]
theorem z_cpyL (f g : Int → Int) (sp dp n : Int) (h1 : 0 ≤ sp) (h2 : 0 ≤ dp) (h3 : 0 ≤ n) : va_cpy (fun j : Nat => oL (f (j : Int))) (fun j : Nat => oL (g (j : Int))) sp.toNat dp.toNat n.toNat = fun j : Nat => oL ((fun j : Int => if dp ≤ j ∧ j < dp + n then f (sp + (j - dp)) else g j) (j : Int)) := by
  funext j
  unfold va_cpy
  by_cases hj : dp.toNat ≤ j ∧ j < dp.toNat + n.toNat
  · rw [if_pos hj]; simp only []; rw [if_pos (by omega)]; congr 2; omega
  · rw [if_neg hj]; simp only []; rw [if_neg (by omega)]
theorem zcp_some {st st1 : PS} {a na b nb : Nat} {sp dp n : Int} (h : zcp st a na b nb sp dp n = some st1) : (0 ≤ wI sp ∧ 0 ≤ wI dp ∧ 0 ≤ wI n ∧ wI sp + wI n ≤ na ∧ wI dp + wI n ≤ nb) ∧ zcpf st a b (wI sp) (wI dp) (wI n) = st1 := by
  unfold zcp at h
  by_cases c : 0 ≤ wI sp ∧ 0 ≤ wI dp ∧ 0 ≤ wI n ∧ wI sp + wI n ≤ na ∧ wI dp + wI n ≤ nb
  · rw [if_pos c] at h; exact ⟨c, Option.some.inj h⟩
  · rw [if_neg c] at h; cases h
theorem j_copy (C : zC X K G own cc rt d) {a na b nb index : Nat} {sp dp n : Int} {st1 : PS} (ha : zIA K a na 0) (hb0 : zIA K b nb 0) (hv : zcp st a na b nb sp dp n = some st1) (hw : Cond.methodLink own index arraycopyName ∈ zT ∧ Cond.native arraycopyName ∈ zT ∧ Cond.static arraycopyName ∈ zT ∧ Cond.initialized "java/lang/System" ∈ zT) (hsz : (stk.map fun v => v.category).sum ≤ 8) (hd : decode cc pc = .ok (.invokestatic index, 3))
    (kk : J X (zI K G) Q st1 lv (pc + 3) stk o) : J X (zI K G) Q st lv pc (.int (oI n) :: .int (oI dp) :: .ref (G.2.2.1 b) :: .int (oI sp) :: .ref (G.2.2.1 a) :: stk) o := by
  obtain ⟨p, l, e, R, s, m, args, below, meth, c, cells, slots, nL⟩ := X
  obtain ⟨⟨hx, hb, hml, hown, hts⟩, hK, hj, hO, hR, hr0, hlk⟩ := C
  intro r hr H locs ls hI hl
  obtain ⟨⟨h1, h2, h3, h4, h5⟩, rfl⟩ := zcp_some hv
  obtain ⟨q0, -, hq⟩ := zW_get (K := K) (G := G) ha.1
  obtain ⟨q1, hq1, hq'⟩ := zW_get (K := K) (G := G) hb0.1
  have he := hq st
  rw [ha.2] at he
  have he1 := hq' st
  rw [hb0.2] at he1
  have neg : ∀ z : Int, 0 ≤ wI z → ¬ oI z < 0 := fun z hz hh => absurd (oI_lt0.mp hh) (by omega)
  have hw8 : nativeFrameWords "java/lang/System" "arraycopy" 5 ≤ 30 := by decide
  refine va_copyi hx hb (hml.trans hl.1.symm) hown (hts _ hw.1) (hts _ hw.2.1) (hts _ hw.2.2.1) (hts _ hw.2.2.2) hK hI.1 (zW_D hj st) hI.2 q0 q1 0 0 he he1 rfl rfl rfl (neg _ h1) (neg _ h2) (neg _ h3) (by rw [zcl, zcl]; omega) (by rw [zcl, zcl]; omega) (fun _ _ => rfl) (by omega) (by omega) hd (fun H1 locs1 hP1 _ hS1 => ?_)
  rw [zW_set hj hq1 (st' := zcpf st a b (wI sp) (wI dp) (wI n)) (fun q hq => by funext j; simp [zcpf, hq]) (by rw [hb0.2, z_cpy _ _ _ _ _ _ h1 h2 h3, zcl, zcl, zcl, z_cpyI _ _ _ _ _ h1 h2 h3])] at hP1
  exact kk r hr H1 locs1 ls ⟨hP1, hS1⟩ hl
theorem j_copyL (C : zC X K G own cc rt d) {a na b nb index : Nat} {sp dp n : Int} {st1 : PS} (ha : zLA K a na) (hb0 : zLA K b nb) (hv : zcp st a na b nb sp dp n = some st1) (hw : Cond.methodLink own index arraycopyName ∈ zT ∧ Cond.native arraycopyName ∈ zT ∧ Cond.static arraycopyName ∈ zT ∧ Cond.initialized "java/lang/System" ∈ zT) (hsz : (stk.map fun v => v.category).sum ≤ 8) (hd : decode cc pc = .ok (.invokestatic index, 3))
    (kk : J X (zI K G) Q st1 lv (pc + 3) stk o) : J X (zI K G) Q st lv pc (.int (oI n) :: .int (oI dp) :: .ref (G.2.2.1 b) :: .int (oI sp) :: .ref (G.2.2.1 a) :: stk) o := by
  obtain ⟨p, l, e, R, s, m, args, below, meth, c, cells, slots, nL⟩ := X
  obtain ⟨⟨hx, hb, hml, hown, hts⟩, hK, hj, hO, hR, hr0, hlk⟩ := C
  intro r hr H locs ls hI hl
  obtain ⟨⟨h1, h2, h3, h4, h5⟩, rfl⟩ := zcp_some hv
  obtain ⟨q0, -, hq⟩ := zW_get (K := K) (G := G) ha.1
  obtain ⟨q1, hq1, hq'⟩ := zW_get (K := K) (G := G) hb0.1
  have he := hq st
  rw [ha.2] at he
  have he1 := hq' st
  rw [hb0.2] at he1
  have neg : ∀ z : Int, 0 ≤ wI z → ¬ oI z < 0 := fun z hz hh => absurd (oI_lt0.mp hh) (by omega)
  have hw8 : nativeFrameWords "java/lang/System" "arraycopy" 5 ≤ 30 := by decide
  refine va_copyl hx hb (hml.trans hl.1.symm) hown (hts _ hw.1) (hts _ hw.2.1) (hts _ hw.2.2.1) (hts _ hw.2.2.2) hK hI.1 (zW_D hj st) hI.2 q0 q1 3 3 he he1 rfl rfl rfl (neg _ h1) (neg _ h2) (neg _ h3) (by rw [zcl, zcl]; omega) (by rw [zcl, zcl]; omega) (fun _ _ => rfl) (by omega) (by omega) hd (fun H1 locs1 hP1 _ hS1 => ?_)
  rw [zW_set hj hq1 (st' := zcpf st a b (wI sp) (wI dp) (wI n)) (fun q hq => by funext j; simp [zcpf, hq]) (by rw [hb0.2, z_cpy _ _ _ _ _ _ h1 h2 h3, zcl, zcl, zcl, z_cpyL _ _ _ _ _ h1 h2 h3])] at hP1
  exact kk r hr H1 locs1 ls ⟨hP1, hS1⟩ hl
/-- a reference that may be null: the street that holds -/
theorem j_ifnull (C : zC X K G own cc rt d) {k : Int} {off : Int} {tgt : Nat} (hd : decode cc pc = .ok (.ifnull off, 3)) (ht : (pc : Int) + off = (tgt : Int)) (kt : J X (zI K G) Q st lv tgt stk A) (kf : J X (zI K G) Q st lv (pc + 3) stk B) : J X (zI K G) Q st lv pc (zm G.2.2.1 k :: stk) (if k < 0 then A else B) := by
  obtain ⟨p, l, e, R, s, m, args, below, meth, c, cells, slots, nL⟩ := X
  obtain ⟨⟨hx, hb, hml, hown, hts⟩, hK, hj, hO, hR, hr0, hlk⟩ := C
  intro r hr H locs ls hI hl
  by_cases h : k < 0
  · rw [if_pos h] at hr
    rw [zm, if_pos h]
    exact lv_ifnullN hx hb hd ht (kt r hr H locs ls hI hl)
  · rw [if_neg h] at hr
    rw [zm, if_neg h]
    exact lv_ifnull hx hb hd (kf r hr H locs ls hI hl)
theorem j_ifnonnull (C : zC X K G own cc rt d) {k : Int} {off : Int} {tgt : Nat} (hd : decode cc pc = .ok (.ifnonnull off, 3)) (ht : (pc : Int) + off = (tgt : Int)) (kt : J X (zI K G) Q st lv (pc + 3) stk A) (kf : J X (zI K G) Q st lv tgt stk B) : J X (zI K G) Q st lv pc (zm G.2.2.1 k :: stk) (if k < 0 then A else B) := by
  obtain ⟨p, l, e, R, s, m, args, below, meth, c, cells, slots, nL⟩ := X
  obtain ⟨⟨hx, hb, hml, hown, hts⟩, hK, hj, hO, hR, hr0, hlk⟩ := C
  intro r hr H locs ls hI hl
  by_cases h : k < 0
  · rw [if_pos h] at hr
    rw [zm, if_pos h]
    exact lv_ifnonnullN hx hb hd (kt r hr H locs ls hI hl)
  · rw [if_neg h] at hr
    rw [zm, if_neg h]
    exact lv_ifnonnull hx hb hd ht (kf r hr H locs ls hI hl)
theorem j_mres {k : Int} (kk : 0 ≤ k ∧ k < 6 → J X (zI K G) Q st lv pc (.ref (G.2.2.1 (100 + 10 * k.toNat)) :: stk) A) : J X (zI K G) Q st lv pc (zm G.2.2.1 k :: stk) (zchk k 6 A) := by
  refine j_chk (fun h => ?_)
  rw [zm, if_neg (by omega)]
  exact kk h
end ZMEM
section ZRET
variable {T : Type} {X : JX} {K : SD} {G : GD} {own : String} {cc : ByteArray} {rt : Option FieldType} {d : Nat} {st : PS} {lv : List (Nat × Value)} {pc : Nat} {f : T → Option Value × PS} {r0 : T}
theorem j_ireturn (C : zC X K G own cc rt d) {v : Value} {x : Int32} {ty : FieldType} (hv : v = .int x) (hrt : rt = some ty) (hn : narrow ty v = v) (hf : f r0 = (some v, st)) (hd : decode cc pc = .ok (.ireturn, 1)) : J X (zI K G) (zQ K G f) st lv pc [v] (some r0) := by
  subst hv
  obtain ⟨p, l, e, R, s, m, args, below, meth, c, cells, slots, nL⟩ := X
  obtain ⟨⟨hx, hb, hml, hown, hts⟩, hK, hj, hO, hR, hr0, hlk⟩ := C
  intro r hr H locs ls hI hl
  cases hr
  refine W.zret (ty := ty) hx hb (hr0.trans hrt) hn (fun t ht hW => ⟨⟨?_, ?_⟩, hI.2.F ht⟩) hI.2.2.2 hd hlk
  · rw [hf]
  · rw [hf, ht]; exact hI.1
theorem j_lreturn (C : zC X K G own cc rt d) {x : Int64} (hrt : rt = some .long) (hf : f r0 = (some (.long x), st)) (hd : decode cc pc = .ok (.lreturn, 1)) : J X (zI K G) (zQ K G f) st lv pc [.long x] (some r0) := by
  obtain ⟨p, l, e, R, s, m, args, below, meth, c, cells, slots, nL⟩ := X
  obtain ⟨⟨hx, hb, hml, hown, hts⟩, hK, hj, hO, hR, hr0, hlk⟩ := C
  intro r hr H locs ls hI hl
  cases hr
  refine W.lret hx hb (hr0.trans hrt) (fun t ht hW => ⟨⟨?_, ?_⟩, hI.2.F ht⟩) hI.2.2.2 hd hlk
  · rw [hf]
  · rw [hf, ht]; exact hI.1
theorem j_return (C : zC X K G own cc rt d) (hrt : rt = none) (hf : f r0 = (none, st)) (hd : decode cc pc = .ok (.return_, 1)) : J X (zI K G) (zQ K G f) st lv pc [] (some r0) := by
  obtain ⟨p, l, e, R, s, m, args, below, meth, c, cells, slots, nL⟩ := X
  obtain ⟨⟨hx, hb, hml, hown, hts⟩, hK, hj, hO, hR, hr0, hlk⟩ := C
  intro r hr H locs ls hI hl
  cases hr
  refine W.vret hx hb (hr0.trans hrt) (fun t ht hW => ⟨⟨?_, ?_⟩, hI.2.F ht⟩) hI.2.2.2 hd hlk
  · rw [hf]
  · rw [hf, ht]; exact hI.1
end ZRET
/-! calls -/
def zLV (own : String) (idx : Nat) (y : MethodName) (b : ByteArray) (n : Nat) (rt : Option FieldType) (k : Nat) : Prop := (Cond.methodLink own idx y ∈ zT ∧ Cond.instanceMethod y ∈ zT ∧ Cond.selects y.cls y y ∈ zT ∧ Cond.initialized y.cls ∈ zT) ∧ Cond.code y b n rt ∈ zT ∧ (y.cls ≠ "java/lang/invoke/MethodHandle" ∧ y.cls ≠ "java/lang/invoke/VarHandle" ∧ (parseMethodDescriptor y.desc).map (fun d => d.parameters.length) = some k) ∧ n ≤ 30
def zLS (own : String) (idx : Nat) (y : MethodName) (b : ByteArray) (n : Nat) (rt : Option FieldType) (k : Nat) : Prop := (Cond.methodLink own idx y ∈ zT ∧ Cond.static y ∈ zT ∧ Cond.initialized y.cls ∈ zT) ∧ Cond.code y b n rt ∈ zT ∧ (y.cls ≠ "java/lang/invoke/MethodHandle" ∧ y.cls ≠ "java/lang/invoke/VarHandle" ∧ (parseMethodDescriptor y.desc).map (fun d => d.parameters.length) = some k) ∧ n ≤ 30
theorem zT_good {w : Cond} (h : w ∈ zT) : goodWord w = true := (List.mem_filter.mp h).2
theorem zGood {ws : List Cond} (h : ∀ w ∈ ws, w ∈ zT) : GoodIn zT ws := fun w hw => ⟨h w hw, good_of_word (zT_good (h w hw))⟩
theorem zPc_blind {K : SD} {G : GD} {av : List Value} {st : PS} : FrameBlind (va_Pc av (fun U => va_P G.1 zCl (zW K G st) U.heap ∧ va_K G.1 zCl (zTy G) U ∧ zRO K G U U.heap)) := by
  intro a U g mk h
  obtain ⟨h0, h1, h2, h3⟩ := h
  exact ⟨h0, h1, va_K.moved (Vm.Alike.refl U.vm) h2, h3.call⟩
theorem zPc_at {K : SD} {G : GD} {av : List Value} {st : PS} {s U : State} {H : Heap} {locs : List Loc} (hI : zI K G s st H locs) (hK : va_K G.1 zCl (zTy G) s) (hO : zRO K G s s.heap) (hU : U.heap = H) (hW : s.WarmedH U.vm) : va_Pc av (fun U => va_P G.1 zCl (zW K G st) U.heap ∧ va_K G.1 zCl (zTy G) U ∧ zRO K G U U.heap) av.toArray U :=
  ⟨rfl, by rw [hU]; exact hI.1, va_K.moved hW.alike hK, by rw [hU]; exact hO.warm hW hI.2.2.1⟩
section ZCALL
variable {T : Type} {X : JX} {K : SD} {G : GD} {own : String} {cc : ByteArray} {rt : Option FieldType} {d : Nat} {Q : JX → T → State → Prop} {st st' : PS} {lv : List (Nat × Value)} {pc : Nat} {stk stk0 : List Value} {o : Option T} {y : MethodName} {b : ByteArray} {n d' idx k : Nat} {rt' : Option FieldType} {As : List Value} {ov : Option Value}
theorem j_after {p : Program} {l : Launch} {e : Env} {R : Room} {s : State} {m : MethodId} {args : Array Value} {below : List Frame} {meth : Method} {c : Code} {cells slots nL : Nat} {H : Heap} {locs : List Loc} {ls : Array Slot} {r : T} {av : Array Value}
    (hr : o = some r) (hI : zI K G s st H locs) (hl : lv_has ls nL lv)
    (run : va_Run p l e R s m args below meth c H locs cells slots 0 0 (F0 m pc ls stk0) stk (zQc K G ov st' av) (zA K G))
    (kk : J (p, l, e, R, s, m, args, below, meth, c, cells, slots, nL) (zI K G) Q st' lv (pc + 3) (ov.toList ++ stk) o) : W p l e R s m args below meth c H locs cells slots (Q (p, l, e, R, s, m, args, below, meth, c, cells, slots, nL) r) (F0 m pc ls stk0) := by
  intro Ts hT Xs
  obtain ⟨v, st₀, t, T', L, h0, X', hL, e1, e2, ⟨⟨hv, hp⟩, hz, hkk⟩, step⟩ := run Ts hT Xs
  cases hv
  rw [h0] at hz hkk
  have hS := hI.2
  obtain ⟨t2, a1, b1⟩ := kk r hr T'.heap (locs ++ L) ls ⟨by rw [e1]; exact hp, Nat.le_trans hS.1 (by rw [e1]; exact hz), fun q h1 h2 => by
      rw [e1, hkk q (Nat.lt_of_lt_of_le h1 hS.1) h2]; exact hS.2.1 q h1 h2, fun q hq => by
      rcases List.mem_append.mp hq with h | h
      · exact hS.2.2 q h
      · exact hL q h⟩ hl T' rfl X'
  exact ⟨t2, step t2 a1, b1⟩
theorem j_callV (C : zC X K G own cc rt d) {a ci : Nat} {q : vw_C} {fs : (Nat → Nat) → (Int → Int) → List Value} (hob : zOb K a ci fs) (hc : zCl[ci]? = some q) (hq : q.1 = y.cls) (hM : zM X.2.1 K G y b n rt' d' (.ref (G.2.2.1 a) :: As) st ov st') (hk : zLV own idx y b n rt' k) (hk2 : As.length = k) (hdd : d' < d) (hs : stk0 = As.reverse ++ .ref (G.2.2.1 a) :: stk) (hsz : (stk.map fun v => v.category).sum ≤ 8) (hd : decode cc pc = .ok (.invokevirtual idx, 3))
    (kk : J X (zI K G) Q st' lv (pc + 3) (ov.toList ++ stk) o) : J X (zI K G) Q st lv pc stk0 o := by
  obtain ⟨p, l, e, R, s, m, args, below, meth, c, cells, slots, nL⟩ := X
  obtain ⟨⟨hx, hb, hml, hown, hts⟩, hK, hj, hO, hR, hr0, hlk⟩ := C
  intro r hr H locs ls hI hl
  obtain ⟨hw, hcode, hnm, hn30⟩ := hk
  obtain ⟨q0, -, hq0⟩ := zW_get (K := K) (G := G) hob.1
  have he := hq0 st
  rw [hob.2] at he
  have hg : GoodIn zT (wsV own idx y.cls y (Cond.code y b n rt' :: zT)) := zGood (fun w hw' => by
    simp only [wsV, List.cons_append, List.nil_append, List.mem_cons] at hw'
    rcases hw' with h | h | h | h | h | h
    · rw [h]; exact hw.1
    · rw [h]; exact hw.2.1
    · rw [h]; exact hw.2.2.1
    · rw [h]; exact hw.2.2.2
    · rw [h]; exact hcode
    · exact h)
  refine j_after hr hI hl (va_runV (C := y.cls) ⟨hx, hb, hml, hown, hts⟩ hM (cwV k hts hg rfl rfl rfl ⟨rfl, hnm⟩ ⟨by show d' + 2 + 1 ≤ _; omega, by show 8 + (n + 11) + 60 * (d' + 2) ≤ _; omega⟩) ⟨zPc_blind, ?_, fun U hU hW => zPc_at hI hK hO hU hW⟩ rfl hk2 hl.1 hs (lv_room hsz) hd ⟨by omega, by omega⟩) kk
  rw [← hq]
  exact va_recv hK hI.1 hc he
theorem j_callS (C : zC X K G own cc rt d) (hM : zM X.2.1 K G y b n rt' d' As st ov st') (hk : zLS own idx y b n rt' k) (hk2 : As.length = k) (hdd : d' < d) (hs : stk0 = As.reverse ++ stk) (hsz : (stk.map fun v => v.category).sum ≤ 8) (hd : decode cc pc = .ok (.invokestatic idx, 3))
    (kk : J X (zI K G) Q st' lv (pc + 3) (ov.toList ++ stk) o) : J X (zI K G) Q st lv pc stk0 o := by
  obtain ⟨p, l, e, R, s, m, args, below, meth, c, cells, slots, nL⟩ := X
  obtain ⟨⟨hx, hb, hml, hown, hts⟩, hK, hj, hO, hR, hr0, hlk⟩ := C
  intro r hr H locs ls hI hl
  obtain ⟨hw, hcode, hnm, hn30⟩ := hk
  have hg : GoodIn zT (va_wsS own idx y (Cond.code y b n rt' :: zT)) := zGood (fun w hw' => by
    simp only [va_wsS, List.cons_append, List.nil_append, List.mem_cons] at hw'
    rcases hw' with h | h | h | h | h
    · rw [h]; exact hw.1
    · rw [h]; exact hw.2.1
    · rw [h]; exact hw.2.2
    · rw [h]; exact hcode
    · exact h)
  exact j_after hr hI hl (va_runS ⟨hx, hb, hml, hown, hts⟩ hM (va_cwS k hts hg rfl rfl rfl hnm ⟨by show d' + 2 + 1 ≤ _; omega, by show 8 + (n + 11) + 60 * (d' + 2) ≤ _; omega⟩) ⟨zPc_blind, fun U hU hW => zPc_at hI hK hO hU hW⟩ rfl hk2 hl.1 hs (lv_room hsz) hd ⟨by omega, by omega⟩) kk
end ZCALL
end
