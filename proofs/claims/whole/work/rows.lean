section
-- ===== PART A: goes FIRST, ahead of the names: the tables' words, and 'selects' of the private methods out of them =====
/-- a private method of a class that the tables say can be made, by its rows of tables_1 -/
def lw_okq (q : MethodName × Nat) : Prop := (q.1.cls ≠ "java/lang/invoke/MethodHandle" ∧ q.1.cls ≠ "java/lang/invoke/VarHandle") ∧ Cond.instantiable q.1.cls q.2 ∈ tables_1 ∧ Cond.privateMethod q.1 ∈ tables_1 ∧ Cond.instanceMethod q.1 ∈ tables_1
theorem lw_p0 : lw_okq (⟨"ChainUnwinder$Program", "insertFunction", "(II)V"⟩, 5) := ⟨⟨by decide +kernel, by decide +kernel⟩, List.mem_of_getElem? (i := 26) (by decide +kernel), List.mem_of_getElem? (i := 285) (by decide +kernel), List.mem_of_getElem? (i := 286) (by decide +kernel)⟩
theorem lw_p1 : lw_okq (⟨"ChainUnwinder$Finder", "forget", "()V"⟩, 9) := ⟨⟨by decide +kernel, by decide +kernel⟩, List.mem_of_getElem? (i := 104) (by decide +kernel), List.mem_of_getElem? (i := 309) (by decide +kernel), List.mem_of_getElem? (i := 310) (by decide +kernel)⟩
theorem lw_p2 : lw_okq (⟨"ChainUnwinder$Finder", "markBegins", "()V"⟩, 9) := ⟨⟨by decide +kernel, by decide +kernel⟩, List.mem_of_getElem? (i := 104) (by decide +kernel), List.mem_of_getElem? (i := 313) (by decide +kernel), List.mem_of_getElem? (i := 314) (by decide +kernel)⟩
theorem lw_p3 : lw_okq (⟨"ChainUnwinder$Finder", "learn", "(I)I"⟩, 9) := ⟨⟨by decide +kernel, by decide +kernel⟩, List.mem_of_getElem? (i := 104) (by decide +kernel), List.mem_of_getElem? (i := 330) (by decide +kernel), List.mem_of_getElem? (i := 331) (by decide +kernel)⟩
theorem lw_p4 : lw_okq (⟨"ChainUnwinder$Finder", "isKnown", "(I)Z"⟩, 9) := ⟨⟨by decide +kernel, by decide +kernel⟩, List.mem_of_getElem? (i := 104) (by decide +kernel), List.mem_of_getElem? (i := 334) (by decide +kernel), List.mem_of_getElem? (i := 335) (by decide +kernel)⟩
theorem lw_p5 : lw_okq (⟨"ChainUnwinder$Finder", "lowestToLookAt", "()I"⟩, 9) := ⟨⟨by decide +kernel, by decide +kernel⟩, List.mem_of_getElem? (i := 104) (by decide +kernel), List.mem_of_getElem? (i := 338) (by decide +kernel), List.mem_of_getElem? (i := 339) (by decide +kernel)⟩
theorem lw_p6 : lw_okq (⟨"ChainUnwinder$Finder", "lookAt", "(I)I"⟩, 9) := ⟨⟨by decide +kernel, by decide +kernel⟩, List.mem_of_getElem? (i := 104) (by decide +kernel), List.mem_of_getElem? (i := 342) (by decide +kernel), List.mem_of_getElem? (i := 343) (by decide +kernel)⟩
theorem lw_p7 : lw_okq (⟨"ChainUnwinder$Finder", "recall", "(I)V"⟩, 9) := ⟨⟨by decide +kernel, by decide +kernel⟩, List.mem_of_getElem? (i := 104) (by decide +kernel), List.mem_of_getElem? (i := 346) (by decide +kernel), List.mem_of_getElem? (i := 347) (by decide +kernel)⟩
theorem lw_p8 : lw_okq (⟨"ChainUnwinder$Finder", "effect", "(III)I"⟩, 9) := ⟨⟨by decide +kernel, by decide +kernel⟩, List.mem_of_getElem? (i := 104) (by decide +kernel), List.mem_of_getElem? (i := 351) (by decide +kernel), List.mem_of_getElem? (i := 352) (by decide +kernel)⟩
theorem lw_p9 : lw_okq (⟨"ChainUnwinder$Finder", "pushRegister", "(I)I"⟩, 9) := ⟨⟨by decide +kernel, by decide +kernel⟩, List.mem_of_getElem? (i := 104) (by decide +kernel), List.mem_of_getElem? (i := 355) (by decide +kernel), List.mem_of_getElem? (i := 356) (by decide +kernel)⟩
theorem lw_p10 : lw_okq (⟨"ChainUnwinder$Finder", "gain", "(I)I"⟩, 9) := ⟨⟨by decide +kernel, by decide +kernel⟩, List.mem_of_getElem? (i := 104) (by decide +kernel), List.mem_of_getElem? (i := 359) (by decide +kernel), List.mem_of_getElem? (i := 360) (by decide +kernel)⟩
theorem lw_p11 : lw_okq (⟨"ChainUnwinder$Finder", "save", "(II)V"⟩, 9) := ⟨⟨by decide +kernel, by decide +kernel⟩, List.mem_of_getElem? (i := 104) (by decide +kernel), List.mem_of_getElem? (i := 363) (by decide +kernel), List.mem_of_getElem? (i := 364) (by decide +kernel)⟩
theorem lw_p12 : lw_okq (⟨"ChainUnwinder$Finder", "popRegister", "(I)I"⟩, 9) := ⟨⟨by decide +kernel, by decide +kernel⟩, List.mem_of_getElem? (i := 104) (by decide +kernel), List.mem_of_getElem? (i := 367) (by decide +kernel), List.mem_of_getElem? (i := 368) (by decide +kernel)⟩
theorem lw_p13 : lw_okq (⟨"ChainUnwinder$Finder", "give", "(II)I"⟩, 9) := ⟨⟨by decide +kernel, by decide +kernel⟩, List.mem_of_getElem? (i := 104) (by decide +kernel), List.mem_of_getElem? (i := 371) (by decide +kernel), List.mem_of_getElem? (i := 372) (by decide +kernel)⟩
theorem lw_p14 : lw_okq (⟨"ChainUnwinder$Finder", "lose", "(I)I"⟩, 9) := ⟨⟨by decide +kernel, by decide +kernel⟩, List.mem_of_getElem? (i := 104) (by decide +kernel), List.mem_of_getElem? (i := 375) (by decide +kernel), List.mem_of_getElem? (i := 376) (by decide +kernel)⟩
theorem lw_p15 : lw_okq (⟨"ChainUnwinder$Finder", "setFrame", "()I"⟩, 9) := ⟨⟨by decide +kernel, by decide +kernel⟩, List.mem_of_getElem? (i := 104) (by decide +kernel), List.mem_of_getElem? (i := 379) (by decide +kernel), List.mem_of_getElem? (i := 380) (by decide +kernel)⟩
def lw_privs_1 : List (MethodName × Nat) := [(⟨"ChainUnwinder$Program", "insertFunction", "(II)V"⟩, 5), (⟨"ChainUnwinder$Finder", "forget", "()V"⟩, 9), (⟨"ChainUnwinder$Finder", "markBegins", "()V"⟩, 9), (⟨"ChainUnwinder$Finder", "learn", "(I)I"⟩, 9), (⟨"ChainUnwinder$Finder", "isKnown", "(I)Z"⟩, 9), (⟨"ChainUnwinder$Finder", "lowestToLookAt", "()I"⟩, 9), (⟨"ChainUnwinder$Finder", "lookAt", "(I)I"⟩, 9), (⟨"ChainUnwinder$Finder", "recall", "(I)V"⟩, 9), (⟨"ChainUnwinder$Finder", "effect", "(III)I"⟩, 9), (⟨"ChainUnwinder$Finder", "pushRegister", "(I)I"⟩, 9), (⟨"ChainUnwinder$Finder", "gain", "(I)I"⟩, 9), (⟨"ChainUnwinder$Finder", "save", "(II)V"⟩, 9), (⟨"ChainUnwinder$Finder", "popRegister", "(I)I"⟩, 9), (⟨"ChainUnwinder$Finder", "give", "(II)I"⟩, 9), (⟨"ChainUnwinder$Finder", "lose", "(I)I"⟩, 9), (⟨"ChainUnwinder$Finder", "setFrame", "()I"⟩, 9)]
theorem lw_r1 : ∀ q ∈ lw_privs_1, lw_okq q := List.forall_mem_cons.mpr ⟨lw_p0, List.forall_mem_cons.mpr ⟨lw_p1, List.forall_mem_cons.mpr ⟨lw_p2, List.forall_mem_cons.mpr ⟨lw_p3, List.forall_mem_cons.mpr ⟨lw_p4, List.forall_mem_cons.mpr ⟨lw_p5, List.forall_mem_cons.mpr ⟨lw_p6, List.forall_mem_cons.mpr ⟨lw_p7, List.forall_mem_cons.mpr ⟨lw_p8, List.forall_mem_cons.mpr ⟨lw_p9, List.forall_mem_cons.mpr ⟨lw_p10, List.forall_mem_cons.mpr ⟨lw_p11, List.forall_mem_cons.mpr ⟨lw_p12, List.forall_mem_cons.mpr ⟨lw_p13, List.forall_mem_cons.mpr ⟨lw_p14, List.forall_mem_cons.mpr ⟨lw_p15, fun _ h => absurd h List.not_mem_nil⟩⟩⟩⟩⟩⟩⟩⟩⟩⟩⟩⟩⟩⟩⟩⟩
theorem lw_p16 : lw_okq (⟨"ChainUnwinder$Finder", "spoil", "(I)I"⟩, 9) := ⟨⟨by decide +kernel, by decide +kernel⟩, List.mem_of_getElem? (i := 104) (by decide +kernel), List.mem_of_getElem? (i := 383) (by decide +kernel), List.mem_of_getElem? (i := 384) (by decide +kernel)⟩
theorem lw_p17 : lw_okq (⟨"ChainUnwinder$Finder", "dropToFrame", "()I"⟩, 9) := ⟨⟨by decide +kernel, by decide +kernel⟩, List.mem_of_getElem? (i := 104) (by decide +kernel), List.mem_of_getElem? (i := 387) (by decide +kernel), List.mem_of_getElem? (i := 388) (by decide +kernel)⟩
theorem lw_p18 : lw_okq (⟨"ChainUnwinder$Finder", "isAsBeforeCall", "()Z"⟩, 9) := ⟨⟨by decide +kernel, by decide +kernel⟩, List.mem_of_getElem? (i := 104) (by decide +kernel), List.mem_of_getElem? (i := 395) (by decide +kernel), List.mem_of_getElem? (i := 396) (by decide +kernel)⟩
theorem lw_p19 : lw_okq (⟨"ChainUnwinder$Finder", "jumpTo", "(I)I"⟩, 9) := ⟨⟨by decide +kernel, by decide +kernel⟩, List.mem_of_getElem? (i := 104) (by decide +kernel), List.mem_of_getElem? (i := 399) (by decide +kernel), List.mem_of_getElem? (i := 400) (by decide +kernel)⟩
theorem lw_p20 : lw_okq (⟨"ChainUnwinder$Finder", "inFunction", "(I)Z"⟩, 9) := ⟨⟨by decide +kernel, by decide +kernel⟩, List.mem_of_getElem? (i := 104) (by decide +kernel), List.mem_of_getElem? (i := 403) (by decide +kernel), List.mem_of_getElem? (i := 404) (by decide +kernel)⟩
theorem lw_p21 : lw_okq (⟨"ChainUnwinder$Finder", "store", "(II)I"⟩, 9) := ⟨⟨by decide +kernel, by decide +kernel⟩, List.mem_of_getElem? (i := 104) (by decide +kernel), List.mem_of_getElem? (i := 407) (by decide +kernel), List.mem_of_getElem? (i := 408) (by decide +kernel)⟩
theorem lw_p22 : lw_okq (⟨"ChainUnwinder$Finder", "holdsSaved", "(I)Z"⟩, 9) := ⟨⟨by decide +kernel, by decide +kernel⟩, List.mem_of_getElem? (i := 104) (by decide +kernel), List.mem_of_getElem? (i := 411) (by decide +kernel), List.mem_of_getElem? (i := 412) (by decide +kernel)⟩
theorem lw_p23 : lw_okq (⟨"ChainUnwinder$Packer", "writeFunction", "(II)V"⟩, 5) := ⟨⟨by decide +kernel, by decide +kernel⟩, List.mem_of_getElem? (i := 70) (by decide +kernel), List.mem_of_getElem? (i := 419) (by decide +kernel), List.mem_of_getElem? (i := 420) (by decide +kernel)⟩
theorem lw_p24 : lw_okq (⟨"ChainUnwinder$Packer", "writeProgram", "(II)V"⟩, 5) := ⟨⟨by decide +kernel, by decide +kernel⟩, List.mem_of_getElem? (i := 70) (by decide +kernel), List.mem_of_getElem? (i := 427) (by decide +kernel), List.mem_of_getElem? (i := 428) (by decide +kernel)⟩
theorem lw_p25 : lw_okq (⟨"ChainUnwinder$Packer", "writeAdvance", "(I)V"⟩, 5) := ⟨⟨by decide +kernel, by decide +kernel⟩, List.mem_of_getElem? (i := 70) (by decide +kernel), List.mem_of_getElem? (i := 443) (by decide +kernel), List.mem_of_getElem? (i := 444) (by decide +kernel)⟩
theorem lw_p26 : lw_okq (⟨"ChainUnwinder$Packer", "writeBase", "()V"⟩, 5) := ⟨⟨by decide +kernel, by decide +kernel⟩, List.mem_of_getElem? (i := 70) (by decide +kernel), List.mem_of_getElem? (i := 447) (by decide +kernel), List.mem_of_getElem? (i := 448) (by decide +kernel)⟩
theorem lw_p27 : lw_okq (⟨"ChainUnwinder$Packer", "writeSaved", "()V"⟩, 5) := ⟨⟨by decide +kernel, by decide +kernel⟩, List.mem_of_getElem? (i := 70) (by decide +kernel), List.mem_of_getElem? (i := 451) (by decide +kernel), List.mem_of_getElem? (i := 452) (by decide +kernel)⟩
theorem lw_p28 : lw_okq (⟨"ChainUnwinder$Reader", "countAt", "(I)I"⟩, 7) := ⟨⟨by decide +kernel, by decide +kernel⟩, List.mem_of_getElem? (i := 155) (by decide +kernel), List.mem_of_getElem? (i := 513) (by decide +kernel), List.mem_of_getElem? (i := 514) (by decide +kernel)⟩
theorem lw_p29 : lw_okq (⟨"ChainUnwinder$Reader", "readProgram", "(III)Z"⟩, 7) := ⟨⟨by decide +kernel, by decide +kernel⟩, List.mem_of_getElem? (i := 155) (by decide +kernel), List.mem_of_getElem? (i := 518) (by decide +kernel), List.mem_of_getElem? (i := 519) (by decide +kernel)⟩
theorem lw_p30 : lw_okq (⟨"ChainUnwinder$Reader", "follow", "(I)Z"⟩, 7) := ⟨⟨by decide +kernel, by decide +kernel⟩, List.mem_of_getElem? (i := 155) (by decide +kernel), List.mem_of_getElem? (i := 527) (by decide +kernel), List.mem_of_getElem? (i := 528) (by decide +kernel)⟩
theorem lw_p31 : lw_okq (⟨"ChainUnwinder$Reader", "moveBy", "(I)Z"⟩, 7) := ⟨⟨by decide +kernel, by decide +kernel⟩, List.mem_of_getElem? (i := 155) (by decide +kernel), List.mem_of_getElem? (i := 531) (by decide +kernel), List.mem_of_getElem? (i := 532) (by decide +kernel)⟩
def lw_privs_2 : List (MethodName × Nat) := [(⟨"ChainUnwinder$Finder", "spoil", "(I)I"⟩, 9), (⟨"ChainUnwinder$Finder", "dropToFrame", "()I"⟩, 9), (⟨"ChainUnwinder$Finder", "isAsBeforeCall", "()Z"⟩, 9), (⟨"ChainUnwinder$Finder", "jumpTo", "(I)I"⟩, 9), (⟨"ChainUnwinder$Finder", "inFunction", "(I)Z"⟩, 9), (⟨"ChainUnwinder$Finder", "store", "(II)I"⟩, 9), (⟨"ChainUnwinder$Finder", "holdsSaved", "(I)Z"⟩, 9), (⟨"ChainUnwinder$Packer", "writeFunction", "(II)V"⟩, 5), (⟨"ChainUnwinder$Packer", "writeProgram", "(II)V"⟩, 5), (⟨"ChainUnwinder$Packer", "writeAdvance", "(I)V"⟩, 5), (⟨"ChainUnwinder$Packer", "writeBase", "()V"⟩, 5), (⟨"ChainUnwinder$Packer", "writeSaved", "()V"⟩, 5), (⟨"ChainUnwinder$Reader", "countAt", "(I)I"⟩, 7), (⟨"ChainUnwinder$Reader", "readProgram", "(III)Z"⟩, 7), (⟨"ChainUnwinder$Reader", "follow", "(I)Z"⟩, 7), (⟨"ChainUnwinder$Reader", "moveBy", "(I)Z"⟩, 7)]
theorem lw_r2 : ∀ q ∈ lw_privs_2, lw_okq q := List.forall_mem_cons.mpr ⟨lw_p16, List.forall_mem_cons.mpr ⟨lw_p17, List.forall_mem_cons.mpr ⟨lw_p18, List.forall_mem_cons.mpr ⟨lw_p19, List.forall_mem_cons.mpr ⟨lw_p20, List.forall_mem_cons.mpr ⟨lw_p21, List.forall_mem_cons.mpr ⟨lw_p22, List.forall_mem_cons.mpr ⟨lw_p23, List.forall_mem_cons.mpr ⟨lw_p24, List.forall_mem_cons.mpr ⟨lw_p25, List.forall_mem_cons.mpr ⟨lw_p26, List.forall_mem_cons.mpr ⟨lw_p27, List.forall_mem_cons.mpr ⟨lw_p28, List.forall_mem_cons.mpr ⟨lw_p29, List.forall_mem_cons.mpr ⟨lw_p30, List.forall_mem_cons.mpr ⟨lw_p31, fun _ h => absurd h List.not_mem_nil⟩⟩⟩⟩⟩⟩⟩⟩⟩⟩⟩⟩⟩⟩⟩⟩
theorem lw_p32 : lw_okq (⟨"ChainUnwinder$Reader", "putOnPile", "()Z"⟩, 7) := ⟨⟨by decide +kernel, by decide +kernel⟩, List.mem_of_getElem? (i := 155) (by decide +kernel), List.mem_of_getElem? (i := 535) (by decide +kernel), List.mem_of_getElem? (i := 536) (by decide +kernel)⟩
theorem lw_p33 : lw_okq (⟨"ChainUnwinder$Reader", "takeOffPile", "()Z"⟩, 7) := ⟨⟨by decide +kernel, by decide +kernel⟩, List.mem_of_getElem? (i := 155) (by decide +kernel), List.mem_of_getElem? (i := 539) (by decide +kernel), List.mem_of_getElem? (i := 540) (by decide +kernel)⟩
theorem lw_p34 : lw_okq (⟨"ChainUnwinder$Reader", "setLink", "(I)Z"⟩, 7) := ⟨⟨by decide +kernel, by decide +kernel⟩, List.mem_of_getElem? (i := 155) (by decide +kernel), List.mem_of_getElem? (i := 543) (by decide +kernel), List.mem_of_getElem? (i := 544) (by decide +kernel)⟩
theorem lw_p35 : lw_okq (⟨"ChainUnwinder$Reader", "followRange", "(II)Z"⟩, 7) := ⟨⟨by decide +kernel, by decide +kernel⟩, List.mem_of_getElem? (i := 155) (by decide +kernel), List.mem_of_getElem? (i := 547) (by decide +kernel), List.mem_of_getElem? (i := 548) (by decide +kernel)⟩
theorem lw_p36 : lw_okq (⟨"ChainUnwinder$Chain", "addBehind", "(ILChainUnwinder$Row;)Z"⟩, 4) := ⟨⟨by decide +kernel, by decide +kernel⟩, List.mem_of_getElem? (i := 227) (by decide +kernel), List.mem_of_getElem? (i := 551) (by decide +kernel), List.mem_of_getElem? (i := 552) (by decide +kernel)⟩
theorem lw_p37 : lw_okq (⟨"java/lang/Throwable", "fillInStackTrace", "(I)Ljava/lang/Throwable;"⟩, 6) := ⟨⟨by decide +kernel, by decide +kernel⟩, List.mem_of_getElem? (i := 619) (by decide +kernel), List.mem_of_getElem? (i := 617) (by decide +kernel), List.mem_of_getElem? (i := 618) (by decide +kernel)⟩
theorem lw_p38 : lw_okq (⟨"ChainUnwinder$Machine", "callPlace", "(II)Z"⟩, 10) := ⟨⟨by decide +kernel, by decide +kernel⟩, List.mem_of_getElem? (i := 188) (by decide +kernel), List.mem_of_getElem? (i := 663) (by decide +kernel), List.mem_of_getElem? (i := 664) (by decide +kernel)⟩
theorem lw_p39 : lw_okq (⟨"ChainUnwinder$Machine", "pushWord", "(I)Z"⟩, 10) := ⟨⟨by decide +kernel, by decide +kernel⟩, List.mem_of_getElem? (i := 188) (by decide +kernel), List.mem_of_getElem? (i := 667) (by decide +kernel), List.mem_of_getElem? (i := 668) (by decide +kernel)⟩
theorem lw_p40 : lw_okq (⟨"ChainUnwinder$Machine", "storeWord", "(II)Z"⟩, 10) := ⟨⟨by decide +kernel, by decide +kernel⟩, List.mem_of_getElem? (i := 188) (by decide +kernel), List.mem_of_getElem? (i := 671) (by decide +kernel), List.mem_of_getElem? (i := 672) (by decide +kernel)⟩
theorem lw_p41 : lw_okq (⟨"ChainUnwinder$Machine", "setPointer", "(I)Z"⟩, 10) := ⟨⟨by decide +kernel, by decide +kernel⟩, List.mem_of_getElem? (i := 188) (by decide +kernel), List.mem_of_getElem? (i := 675) (by decide +kernel), List.mem_of_getElem? (i := 676) (by decide +kernel)⟩
theorem lw_p42 : lw_okq (⟨"ChainUnwinder$Machine", "goTo", "(I)Z"⟩, 10) := ⟨⟨by decide +kernel, by decide +kernel⟩, List.mem_of_getElem? (i := 188) (by decide +kernel), List.mem_of_getElem? (i := 679) (by decide +kernel), List.mem_of_getElem? (i := 680) (by decide +kernel)⟩
theorem lw_p43 : lw_okq (⟨"ChainUnwinder$Machine", "returnToCaller", "()Z"⟩, 10) := ⟨⟨by decide +kernel, by decide +kernel⟩, List.mem_of_getElem? (i := 188) (by decide +kernel), List.mem_of_getElem? (i := 683) (by decide +kernel), List.mem_of_getElem? (i := 684) (by decide +kernel)⟩
theorem lw_p44 : lw_okq (⟨"ChainUnwinder$Machine", "carryOut", "(III)Z"⟩, 10) := ⟨⟨by decide +kernel, by decide +kernel⟩, List.mem_of_getElem? (i := 188) (by decide +kernel), List.mem_of_getElem? (i := 688) (by decide +kernel), List.mem_of_getElem? (i := 689) (by decide +kernel)⟩
theorem lw_p45 : lw_okq (⟨"ChainUnwinder$Machine", "loadRegister", "(II)Z"⟩, 10) := ⟨⟨by decide +kernel, by decide +kernel⟩, List.mem_of_getElem? (i := 188) (by decide +kernel), List.mem_of_getElem? (i := 692) (by decide +kernel), List.mem_of_getElem? (i := 693) (by decide +kernel)⟩
theorem lw_p46 : lw_okq (⟨"ChainUnwinderModel", "over", "()V"⟩, 29) := ⟨⟨by decide +kernel, by decide +kernel⟩, List.mem_of_getElem? (i := 726) (by decide +kernel), List.mem_of_getElem? (i := 828) (by decide +kernel), List.mem_of_getElem? (i := 829) (by decide +kernel)⟩
theorem lw_p47 : lw_okq (⟨"ChainUnwinderModel", "findOut", "(I)I"⟩, 29) := ⟨⟨by decide +kernel, by decide +kernel⟩, List.mem_of_getElem? (i := 726) (by decide +kernel), List.mem_of_getElem? (i := 844) (by decide +kernel), List.mem_of_getElem? (i := 845) (by decide +kernel)⟩
def lw_privs_3 : List (MethodName × Nat) := [(⟨"ChainUnwinder$Reader", "putOnPile", "()Z"⟩, 7), (⟨"ChainUnwinder$Reader", "takeOffPile", "()Z"⟩, 7), (⟨"ChainUnwinder$Reader", "setLink", "(I)Z"⟩, 7), (⟨"ChainUnwinder$Reader", "followRange", "(II)Z"⟩, 7), (⟨"ChainUnwinder$Chain", "addBehind", "(ILChainUnwinder$Row;)Z"⟩, 4), (⟨"java/lang/Throwable", "fillInStackTrace", "(I)Ljava/lang/Throwable;"⟩, 6), (⟨"ChainUnwinder$Machine", "callPlace", "(II)Z"⟩, 10), (⟨"ChainUnwinder$Machine", "pushWord", "(I)Z"⟩, 10), (⟨"ChainUnwinder$Machine", "storeWord", "(II)Z"⟩, 10), (⟨"ChainUnwinder$Machine", "setPointer", "(I)Z"⟩, 10), (⟨"ChainUnwinder$Machine", "goTo", "(I)Z"⟩, 10), (⟨"ChainUnwinder$Machine", "returnToCaller", "()Z"⟩, 10), (⟨"ChainUnwinder$Machine", "carryOut", "(III)Z"⟩, 10), (⟨"ChainUnwinder$Machine", "loadRegister", "(II)Z"⟩, 10), (⟨"ChainUnwinderModel", "over", "()V"⟩, 29), (⟨"ChainUnwinderModel", "findOut", "(I)I"⟩, 29)]
theorem lw_r3 : ∀ q ∈ lw_privs_3, lw_okq q := List.forall_mem_cons.mpr ⟨lw_p32, List.forall_mem_cons.mpr ⟨lw_p33, List.forall_mem_cons.mpr ⟨lw_p34, List.forall_mem_cons.mpr ⟨lw_p35, List.forall_mem_cons.mpr ⟨lw_p36, List.forall_mem_cons.mpr ⟨lw_p37, List.forall_mem_cons.mpr ⟨lw_p38, List.forall_mem_cons.mpr ⟨lw_p39, List.forall_mem_cons.mpr ⟨lw_p40, List.forall_mem_cons.mpr ⟨lw_p41, List.forall_mem_cons.mpr ⟨lw_p42, List.forall_mem_cons.mpr ⟨lw_p43, List.forall_mem_cons.mpr ⟨lw_p44, List.forall_mem_cons.mpr ⟨lw_p45, List.forall_mem_cons.mpr ⟨lw_p46, List.forall_mem_cons.mpr ⟨lw_p47, fun _ h => absurd h List.not_mem_nil⟩⟩⟩⟩⟩⟩⟩⟩⟩⟩⟩⟩⟩⟩⟩⟩
theorem lw_p48 : lw_okq (⟨"ChainUnwinderModel", "isWhole", "(II)Z"⟩, 29) := ⟨⟨by decide +kernel, by decide +kernel⟩, List.mem_of_getElem? (i := 726) (by decide +kernel), List.mem_of_getElem? (i := 848) (by decide +kernel), List.mem_of_getElem? (i := 849) (by decide +kernel)⟩
theorem lw_p49 : lw_okq (⟨"ChainUnwinderModel", "learn", "(I)Z"⟩, 29) := ⟨⟨by decide +kernel, by decide +kernel⟩, List.mem_of_getElem? (i := 726) (by decide +kernel), List.mem_of_getElem? (i := 858) (by decide +kernel), List.mem_of_getElem? (i := 859) (by decide +kernel)⟩
theorem lw_p50 : lw_okq (⟨"ChainUnwinderModel", "effect", "(II)I"⟩, 29) := ⟨⟨by decide +kernel, by decide +kernel⟩, List.mem_of_getElem? (i := 726) (by decide +kernel), List.mem_of_getElem? (i := 862) (by decide +kernel), List.mem_of_getElem? (i := 863) (by decide +kernel)⟩
theorem lw_p51 : lw_okq (⟨"ChainUnwinderModel", "raise", "(I)I"⟩, 29) := ⟨⟨by decide +kernel, by decide +kernel⟩, List.mem_of_getElem? (i := 726) (by decide +kernel), List.mem_of_getElem? (i := 866) (by decide +kernel), List.mem_of_getElem? (i := 867) (by decide +kernel)⟩
theorem lw_p52 : lw_okq (⟨"ChainUnwinderModel", "save", "(II)V"⟩, 29) := ⟨⟨by decide +kernel, by decide +kernel⟩, List.mem_of_getElem? (i := 726) (by decide +kernel), List.mem_of_getElem? (i := 870) (by decide +kernel), List.mem_of_getElem? (i := 871) (by decide +kernel)⟩
theorem lw_p53 : lw_okq (⟨"ChainUnwinderModel", "give", "(II)I"⟩, 29) := ⟨⟨by decide +kernel, by decide +kernel⟩, List.mem_of_getElem? (i := 726) (by decide +kernel), List.mem_of_getElem? (i := 874) (by decide +kernel), List.mem_of_getElem? (i := 875) (by decide +kernel)⟩
theorem lw_p54 : lw_okq (⟨"ChainUnwinderModel", "spoil", "(I)I"⟩, 29) := ⟨⟨by decide +kernel, by decide +kernel⟩, List.mem_of_getElem? (i := 726) (by decide +kernel), List.mem_of_getElem? (i := 878) (by decide +kernel), List.mem_of_getElem? (i := 879) (by decide +kernel)⟩
theorem lw_p55 : lw_okq (⟨"ChainUnwinderModel", "lose", "(I)I"⟩, 29) := ⟨⟨by decide +kernel, by decide +kernel⟩, List.mem_of_getElem? (i := 726) (by decide +kernel), List.mem_of_getElem? (i := 882) (by decide +kernel), List.mem_of_getElem? (i := 883) (by decide +kernel)⟩
theorem lw_p56 : lw_okq (⟨"ChainUnwinderModel", "isFirst", "(I)Z"⟩, 29) := ⟨⟨by decide +kernel, by decide +kernel⟩, List.mem_of_getElem? (i := 726) (by decide +kernel), List.mem_of_getElem? (i := 886) (by decide +kernel), List.mem_of_getElem? (i := 887) (by decide +kernel)⟩
theorem lw_p57 : lw_okq (⟨"ChainUnwinderModel", "isClean", "()Z"⟩, 29) := ⟨⟨by decide +kernel, by decide +kernel⟩, List.mem_of_getElem? (i := 726) (by decide +kernel), List.mem_of_getElem? (i := 890) (by decide +kernel), List.mem_of_getElem? (i := 891) (by decide +kernel)⟩
theorem lw_p58 : lw_okq (⟨"ChainUnwinderModel", "isTarget", "(II)Z"⟩, 29) := ⟨⟨by decide +kernel, by decide +kernel⟩, List.mem_of_getElem? (i := 726) (by decide +kernel), List.mem_of_getElem? (i := 894) (by decide +kernel), List.mem_of_getElem? (i := 895) (by decide +kernel)⟩
theorem lw_p59 : lw_okq (⟨"ChainUnwinderModel", "packFunction", "(I)V"⟩, 29) := ⟨⟨by decide +kernel, by decide +kernel⟩, List.mem_of_getElem? (i := 726) (by decide +kernel), List.mem_of_getElem? (i := 898) (by decide +kernel), List.mem_of_getElem? (i := 899) (by decide +kernel)⟩
theorem lw_p60 : lw_okq (⟨"ChainUnwinderModel", "put", "(I)V"⟩, 29) := ⟨⟨by decide +kernel, by decide +kernel⟩, List.mem_of_getElem? (i := 726) (by decide +kernel), List.mem_of_getElem? (i := 902) (by decide +kernel), List.mem_of_getElem? (i := 903) (by decide +kernel)⟩
theorem lw_p61 : lw_okq (⟨"ChainUnwinderModel", "packPlace", "(II)V"⟩, 29) := ⟨⟨by decide +kernel, by decide +kernel⟩, List.mem_of_getElem? (i := 726) (by decide +kernel), List.mem_of_getElem? (i := 906) (by decide +kernel), List.mem_of_getElem? (i := 907) (by decide +kernel)⟩
theorem lw_p62 : lw_okq (⟨"ChainUnwinderModel", "findRow", "(I)I"⟩, 29) := ⟨⟨by decide +kernel, by decide +kernel⟩, List.mem_of_getElem? (i := 726) (by decide +kernel), List.mem_of_getElem? (i := 922) (by decide +kernel), List.mem_of_getElem? (i := 923) (by decide +kernel)⟩
theorem lw_p63 : lw_okq (⟨"ChainUnwinderModel", "readProgram", "(IIIII)Z"⟩, 29) := ⟨⟨by decide +kernel, by decide +kernel⟩, List.mem_of_getElem? (i := 726) (by decide +kernel), List.mem_of_getElem? (i := 926) (by decide +kernel), List.mem_of_getElem? (i := 927) (by decide +kernel)⟩
def lw_privs_4 : List (MethodName × Nat) := [(⟨"ChainUnwinderModel", "isWhole", "(II)Z"⟩, 29), (⟨"ChainUnwinderModel", "learn", "(I)Z"⟩, 29), (⟨"ChainUnwinderModel", "effect", "(II)I"⟩, 29), (⟨"ChainUnwinderModel", "raise", "(I)I"⟩, 29), (⟨"ChainUnwinderModel", "save", "(II)V"⟩, 29), (⟨"ChainUnwinderModel", "give", "(II)I"⟩, 29), (⟨"ChainUnwinderModel", "spoil", "(I)I"⟩, 29), (⟨"ChainUnwinderModel", "lose", "(I)I"⟩, 29), (⟨"ChainUnwinderModel", "isFirst", "(I)Z"⟩, 29), (⟨"ChainUnwinderModel", "isClean", "()Z"⟩, 29), (⟨"ChainUnwinderModel", "isTarget", "(II)Z"⟩, 29), (⟨"ChainUnwinderModel", "packFunction", "(I)V"⟩, 29), (⟨"ChainUnwinderModel", "put", "(I)V"⟩, 29), (⟨"ChainUnwinderModel", "packPlace", "(II)V"⟩, 29), (⟨"ChainUnwinderModel", "findRow", "(I)I"⟩, 29), (⟨"ChainUnwinderModel", "readProgram", "(IIIII)Z"⟩, 29)]
theorem lw_r4 : ∀ q ∈ lw_privs_4, lw_okq q := List.forall_mem_cons.mpr ⟨lw_p48, List.forall_mem_cons.mpr ⟨lw_p49, List.forall_mem_cons.mpr ⟨lw_p50, List.forall_mem_cons.mpr ⟨lw_p51, List.forall_mem_cons.mpr ⟨lw_p52, List.forall_mem_cons.mpr ⟨lw_p53, List.forall_mem_cons.mpr ⟨lw_p54, List.forall_mem_cons.mpr ⟨lw_p55, List.forall_mem_cons.mpr ⟨lw_p56, List.forall_mem_cons.mpr ⟨lw_p57, List.forall_mem_cons.mpr ⟨lw_p58, List.forall_mem_cons.mpr ⟨lw_p59, List.forall_mem_cons.mpr ⟨lw_p60, List.forall_mem_cons.mpr ⟨lw_p61, List.forall_mem_cons.mpr ⟨lw_p62, List.forall_mem_cons.mpr ⟨lw_p63, fun _ h => absurd h List.not_mem_nil⟩⟩⟩⟩⟩⟩⟩⟩⟩⟩⟩⟩⟩⟩⟩⟩
theorem lw_p64 : lw_okq (⟨"ChainUnwinderModel", "keep", "(Z)V"⟩, 29) := ⟨⟨by decide +kernel, by decide +kernel⟩, List.mem_of_getElem? (i := 726) (by decide +kernel), List.mem_of_getElem? (i := 930) (by decide +kernel), List.mem_of_getElem? (i := 931) (by decide +kernel)⟩
theorem lw_p65 : lw_okq (⟨"ChainUnwinderModel", "fails", "(III)Z"⟩, 29) := ⟨⟨by decide +kernel, by decide +kernel⟩, List.mem_of_getElem? (i := 726) (by decide +kernel), List.mem_of_getElem? (i := 942) (by decide +kernel), List.mem_of_getElem? (i := 943) (by decide +kernel)⟩
theorem lw_p66 : lw_okq (⟨"ChainUnwinderModel", "nextFrame", "()Z"⟩, 29) := ⟨⟨by decide +kernel, by decide +kernel⟩, List.mem_of_getElem? (i := 726) (by decide +kernel), List.mem_of_getElem? (i := 962) (by decide +kernel), List.mem_of_getElem? (i := 963) (by decide +kernel)⟩
def lw_privs_5 : List (MethodName × Nat) := [(⟨"ChainUnwinderModel", "keep", "(Z)V"⟩, 29), (⟨"ChainUnwinderModel", "fails", "(III)Z"⟩, 29), (⟨"ChainUnwinderModel", "nextFrame", "()Z"⟩, 29)]
theorem lw_r5 : ∀ q ∈ lw_privs_5, lw_okq q := List.forall_mem_cons.mpr ⟨lw_p64, List.forall_mem_cons.mpr ⟨lw_p65, List.forall_mem_cons.mpr ⟨lw_p66, fun _ h => absurd h List.not_mem_nil⟩⟩⟩
def lw_privs : List (MethodName × Nat) := lw_privs_1 ++ (lw_privs_2 ++ (lw_privs_3 ++ (lw_privs_4 ++ (lw_privs_5))))
def lw_tbl : List Cond := k2_sels lw_privs ++ tables_1
theorem lw_privs_ok : ∀ q ∈ lw_privs, lw_okq q := by
  show ∀ q ∈ lw_privs_1 ++ (lw_privs_2 ++ (lw_privs_3 ++ (lw_privs_4 ++ (lw_privs_5)))), lw_okq q
  exact List.forall_mem_append.mpr ⟨lw_r1, List.forall_mem_append.mpr ⟨lw_r2, List.forall_mem_append.mpr ⟨lw_r3, List.forall_mem_append.mpr ⟨lw_r4, lw_r5⟩⟩⟩⟩
end
section
def RX0 : String := "ChainUnwinder$Chain"
def TX0 : u_T := fun k => match k with
  | 0 => ("ChainUnwinder$Chain", "machine", "LChainUnwinder$Machine;", true)
  | 1 => ("ChainUnwinder$Chain", "reader", "LChainUnwinder$Reader;", true)
  | 2 => ("ChainUnwinder$Chain", "parts", "[I", true)
  | _ => ("ChainUnwinder$Chain", "frames", "I", false)
def tyX0 : Nat → FieldType := fun k => match k with
  | 0 => .object "ChainUnwinder$Machine"
  | 1 => .object "ChainUnwinder$Reader"
  | 2 => .array .int
  | _ => .int
theorem nmX0 : ∀ a, a < 4 → ∀ b, b < 4 → a ≠ b → (TX0 a).2.1 ≠ (TX0 b).2.1 := by decide +kernel
theorem tyX0_ok : ∀ k, k < 4 → parseFieldDescriptor (TX0 k).2.2.1 = some (tyX0 k) := by decide +kernel
abbrev cX0_init : ByteArray := prog_2_method_1_code
def yX0_init : MethodName := ⟨RX0, "<init>", "(LChainUnwinder$Machine;LChainUnwinder$Reader;)V"⟩
abbrev cX0_findFrames : ByteArray := prog_2_method_2_code
def yX0_findFrames : MethodName := ⟨RX0, "findFrames", "()I"⟩
abbrev cX0_addBehind : ByteArray := prog_2_method_3_code
def yX0_addBehind : MethodName := ⟨RX0, "addBehind", "(ILChainUnwinder$Row;)Z"⟩
abbrev cX0_part : ByteArray := prog_2_method_4_code
def yX0_part : MethodName := ⟨RX0, "part", "(II)I"⟩
def RX1 : String := "ChainUnwinder$Finder"
def TX1 : u_T := fun k => match k with
  | 0 => ("ChainUnwinder$Finder", "program", "LChainUnwinder$Program;", true)
  | 1 => ("ChainUnwinder$Finder", "marks", "[I", true)
  | 2 => ("ChainUnwinder$Finder", "begins", "[Z", true)
  | 3 => ("ChainUnwinder$Finder", "facts", "[I", true)
  | 4 => ("ChainUnwinder$Finder", "saved", "[I", true)
  | 5 => ("ChainUnwinder$Finder", "height", "I", false)
  | 6 => ("ChainUnwinder$Finder", "frame", "I", false)
  | 7 => ("ChainUnwinder$Finder", "first", "I", false)
  | _ => ("ChainUnwinder$Finder", "end", "I", false)
def tyX1 : Nat → FieldType := fun k => match k with
  | 0 => .object "ChainUnwinder$Program"
  | 1 => .array .int
  | 2 => .array .boolean
  | 3 => .array .int
  | 4 => .array .int
  | 5 => .int
  | 6 => .int
  | 7 => .int
  | _ => .int
theorem nmX1 : ∀ a, a < 9 → ∀ b, b < 9 → a ≠ b → (TX1 a).2.1 ≠ (TX1 b).2.1 := by decide +kernel
theorem tyX1_ok : ∀ k, k < 9 → parseFieldDescriptor (TX1 k).2.2.1 = some (tyX1 k) := by decide +kernel
abbrev cX1_init : ByteArray := prog_3_method_1_code
def yX1_init : MethodName := ⟨RX1, "<init>", "(LChainUnwinder$Program;)V"⟩
abbrev cX1_findOut : ByteArray := prog_3_method_2_code
def yX1_findOut : MethodName := ⟨RX1, "findOut", "(II)I"⟩
abbrev cX1_forget : ByteArray := prog_3_method_3_code
def yX1_forget : MethodName := ⟨RX1, "forget", "()V"⟩
abbrev cX1_markBegins : ByteArray := prog_3_method_4_code
def yX1_markBegins : MethodName := ⟨RX1, "markBegins", "()V"⟩
abbrev cX1_lowestToLookAt : ByteArray := prog_3_method_5_code
def yX1_lowestToLookAt : MethodName := ⟨RX1, "lowestToLookAt", "()I"⟩
abbrev cX1_lookAt : ByteArray := prog_3_method_6_code
def yX1_lookAt : MethodName := ⟨RX1, "lookAt", "(I)I"⟩
abbrev cX1_inFunction : ByteArray := prog_3_method_7_code
def yX1_inFunction : MethodName := ⟨RX1, "inFunction", "(I)Z"⟩
abbrev cX1_recall : ByteArray := prog_3_method_8_code
def yX1_recall : MethodName := ⟨RX1, "recall", "(I)V"⟩
abbrev cX1_learn : ByteArray := prog_3_method_9_code
def yX1_learn : MethodName := ⟨RX1, "learn", "(I)I"⟩
abbrev cX1_isKnown : ByteArray := prog_3_method_10_code
def yX1_isKnown : MethodName := ⟨RX1, "isKnown", "(I)Z"⟩
abbrev cX1_effect : ByteArray := prog_3_method_11_code
def yX1_effect : MethodName := ⟨RX1, "effect", "(III)I"⟩
abbrev cX1_pushRegister : ByteArray := prog_3_method_12_code
def yX1_pushRegister : MethodName := ⟨RX1, "pushRegister", "(I)I"⟩
abbrev cX1_popRegister : ByteArray := prog_3_method_13_code
def yX1_popRegister : MethodName := ⟨RX1, "popRegister", "(I)I"⟩
abbrev cX1_setFrame : ByteArray := prog_3_method_14_code
def yX1_setFrame : MethodName := ⟨RX1, "setFrame", "()I"⟩
abbrev cX1_dropToFrame : ByteArray := prog_3_method_15_code
def yX1_dropToFrame : MethodName := ⟨RX1, "dropToFrame", "()I"⟩
abbrev cX1_jumpTo : ByteArray := prog_3_method_16_code
def yX1_jumpTo : MethodName := ⟨RX1, "jumpTo", "(I)I"⟩
abbrev cX1_store : ByteArray := prog_3_method_17_code
def yX1_store : MethodName := ⟨RX1, "store", "(II)I"⟩
abbrev cX1_gain : ByteArray := prog_3_method_18_code
def yX1_gain : MethodName := ⟨RX1, "gain", "(I)I"⟩
abbrev cX1_lose : ByteArray := prog_3_method_19_code
def yX1_lose : MethodName := ⟨RX1, "lose", "(I)I"⟩
abbrev cX1_save : ByteArray := prog_3_method_20_code
def yX1_save : MethodName := ⟨RX1, "save", "(II)V"⟩
abbrev cX1_spoil : ByteArray := prog_3_method_21_code
def yX1_spoil : MethodName := ⟨RX1, "spoil", "(I)I"⟩
abbrev cX1_give : ByteArray := prog_3_method_22_code
def yX1_give : MethodName := ⟨RX1, "give", "(II)I"⟩
abbrev cX1_holdsSaved : ByteArray := prog_3_method_23_code
def yX1_holdsSaved : MethodName := ⟨RX1, "holdsSaved", "(I)Z"⟩
abbrev cX1_isAsBeforeCall : ByteArray := prog_3_method_24_code
def yX1_isAsBeforeCall : MethodName := ⟨RX1, "isAsBeforeCall", "()Z"⟩
abbrev cX1_fillRow : ByteArray := prog_3_method_25_code
def yX1_fillRow : MethodName := ⟨RX1, "fillRow", "(ILChainUnwinder$Row;)Z"⟩
def RX2 : String := "ChainUnwinder$Machine"
def TX2 : u_T := fun k => match k with
  | 0 => ("ChainUnwinder$Machine", "program", "LChainUnwinder$Program;", true)
  | 1 => ("ChainUnwinder$Machine", "words", "[I", true)
  | 2 => ("ChainUnwinder$Machine", "registers", "[I", true)
  | 3 => ("ChainUnwinder$Machine", "returns", "[I", true)
  | 4 => ("ChainUnwinder$Machine", "begun", "Z", false)
  | 5 => ("ChainUnwinder$Machine", "underWay", "Z", false)
  | 6 => ("ChainUnwinder$Machine", "place", "I", false)
  | 7 => ("ChainUnwinder$Machine", "pointer", "I", false)
  | 8 => ("ChainUnwinder$Machine", "a", "I", false)
  | _ => ("ChainUnwinder$Machine", "calls", "I", false)
def tyX2 : Nat → FieldType := fun k => match k with
  | 0 => .object "ChainUnwinder$Program"
  | 1 => .array .int
  | 2 => .array .int
  | 3 => .array .int
  | 4 => .boolean
  | 5 => .boolean
  | 6 => .int
  | 7 => .int
  | 8 => .int
  | _ => .int
theorem nmX2 : ∀ a, a < 10 → ∀ b, b < 10 → a ≠ b → (TX2 a).2.1 ≠ (TX2 b).2.1 := by decide +kernel
theorem tyX2_ok : ∀ k, k < 10 → parseFieldDescriptor (TX2 k).2.2.1 = some (tyX2 k) := by decide +kernel
abbrev cX2_init : ByteArray := prog_4_method_1_code
def yX2_init : MethodName := ⟨RX2, "<init>", "(LChainUnwinder$Program;)V"⟩
abbrev cX2_start : ByteArray := prog_4_method_2_code
def yX2_start : MethodName := ⟨RX2, "start", "(IIII)Z"⟩
abbrev cX2_end : ByteArray := prog_4_method_3_code
def yX2_end : MethodName := ⟨RX2, "end", "()V"⟩
abbrev cX2_advance : ByteArray := prog_4_method_4_code
def yX2_advance : MethodName := ⟨RX2, "advance", "()I"⟩
abbrev cX2_carryOut : ByteArray := prog_4_method_5_code
def yX2_carryOut : MethodName := ⟨RX2, "carryOut", "(III)Z"⟩
abbrev cX2_callPlace : ByteArray := prog_4_method_6_code
def yX2_callPlace : MethodName := ⟨RX2, "callPlace", "(II)Z"⟩
abbrev cX2_returnToCaller : ByteArray := prog_4_method_7_code
def yX2_returnToCaller : MethodName := ⟨RX2, "returnToCaller", "()Z"⟩
abbrev cX2_goTo : ByteArray := prog_4_method_8_code
def yX2_goTo : MethodName := ⟨RX2, "goTo", "(I)Z"⟩
abbrev cX2_setPointer : ByteArray := prog_4_method_9_code
def yX2_setPointer : MethodName := ⟨RX2, "setPointer", "(I)Z"⟩
abbrev cX2_pushWord : ByteArray := prog_4_method_10_code
def yX2_pushWord : MethodName := ⟨RX2, "pushWord", "(I)Z"⟩
abbrev cX2_storeWord : ByteArray := prog_4_method_11_code
def yX2_storeWord : MethodName := ⟨RX2, "storeWord", "(II)Z"⟩
abbrev cX2_loadRegister : ByteArray := prog_4_method_12_code
def yX2_loadRegister : MethodName := ⟨RX2, "loadRegister", "(II)Z"⟩
abbrev cX2_isWord : ByteArray := prog_4_method_13_code
def yX2_isWord : MethodName := ⟨RX2, "isWord", "(I)Z"⟩
abbrev cX2_wordAt : ByteArray := prog_4_method_14_code
def yX2_wordAt : MethodName := ⟨RX2, "wordAt", "(I)I"⟩
abbrev cX2_part : ByteArray := prog_4_method_15_code
def yX2_part : MethodName := ⟨RX2, "part", "(I)I"⟩
abbrev cX2_returnOf : ByteArray := prog_4_method_16_code
def yX2_returnOf : MethodName := ⟨RX2, "returnOf", "(I)I"⟩
def RX3 : String := "ChainUnwinder$Packer"
def TX3 : u_T := fun k => match k with
  | 0 => ("ChainUnwinder$Packer", "program", "LChainUnwinder$Program;", true)
  | 1 => ("ChainUnwinder$Packer", "section", "LChainUnwinder$Section;", true)
  | 2 => ("ChainUnwinder$Packer", "finder", "LChainUnwinder$Finder;", true)
  | 3 => ("ChainUnwinder$Packer", "before", "LChainUnwinder$Row;", true)
  | _ => ("ChainUnwinder$Packer", "now", "LChainUnwinder$Row;", true)
def tyX3 : Nat → FieldType := fun k => match k with
  | 0 => .object "ChainUnwinder$Program"
  | 1 => .object "ChainUnwinder$Section"
  | 2 => .object "ChainUnwinder$Finder"
  | 3 => .object "ChainUnwinder$Row"
  | _ => .object "ChainUnwinder$Row"
theorem nmX3 : ∀ a, a < 5 → ∀ b, b < 5 → a ≠ b → (TX3 a).2.1 ≠ (TX3 b).2.1 := by decide +kernel
theorem tyX3_ok : ∀ k, k < 5 → parseFieldDescriptor (TX3 k).2.2.1 = some (tyX3 k) := by decide +kernel
abbrev cX3_init : ByteArray := prog_5_method_1_code
def yX3_init : MethodName := ⟨RX3, "<init>", "(LChainUnwinder$Program;LChainUnwinder$Section;)V"⟩
abbrev cX3_packAll : ByteArray := prog_5_method_2_code
def yX3_packAll : MethodName := ⟨RX3, "packAll", "()I"⟩
abbrev cX3_writeFunction : ByteArray := prog_5_method_3_code
def yX3_writeFunction : MethodName := ⟨RX3, "writeFunction", "(II)V"⟩
abbrev cX3_writeProgram : ByteArray := prog_5_method_4_code
def yX3_writeProgram : MethodName := ⟨RX3, "writeProgram", "(II)V"⟩
abbrev cX3_writeAdvance : ByteArray := prog_5_method_5_code
def yX3_writeAdvance : MethodName := ⟨RX3, "writeAdvance", "(I)V"⟩
abbrev cX3_writeBase : ByteArray := prog_5_method_6_code
def yX3_writeBase : MethodName := ⟨RX3, "writeBase", "()V"⟩
abbrev cX3_writeSaved : ByteArray := prog_5_method_7_code
def yX3_writeSaved : MethodName := ⟨RX3, "writeSaved", "()V"⟩
def RX4 : String := "ChainUnwinder$Program"
def TX4 : u_T := fun k => match k with
  | 0 => ("ChainUnwinder$Program", "code", "[I", true)
  | 1 => ("ChainUnwinder$Program", "firsts", "[I", true)
  | 2 => ("ChainUnwinder$Program", "ends", "[I", true)
  | 3 => ("ChainUnwinder$Program", "length", "I", false)
  | _ => ("ChainUnwinder$Program", "functions", "I", false)
def tyX4 : Nat → FieldType := fun k => match k with
  | 0 => .array .int
  | 1 => .array .int
  | 2 => .array .int
  | 3 => .int
  | _ => .int
theorem nmX4 : ∀ a, a < 5 → ∀ b, b < 5 → a ≠ b → (TX4 a).2.1 ≠ (TX4 b).2.1 := by decide +kernel
theorem tyX4_ok : ∀ k, k < 5 → parseFieldDescriptor (TX4 k).2.2.1 = some (tyX4 k) := by decide +kernel
abbrev cX4_init : ByteArray := prog_6_method_1_code
def yX4_init : MethodName := ⟨RX4, "<init>", "()V"⟩
abbrev cX4_append : ByteArray := prog_6_method_2_code
def yX4_append : MethodName := ⟨RX4, "append", "(JI)I"⟩
abbrev cX4_addFunction : ByteArray := prog_6_method_3_code
def yX4_addFunction : MethodName := ⟨RX4, "addFunction", "(II)I"⟩
abbrev cX4_insertFunction : ByteArray := prog_6_method_4_code
def yX4_insertFunction : MethodName := ⟨RX4, "insertFunction", "(II)V"⟩
abbrev cX4_empty : ByteArray := prog_6_method_5_code
def yX4_empty : MethodName := ⟨RX4, "empty", "()I"⟩
abbrev cX4_codeAt : ByteArray := prog_6_method_6_code
def yX4_codeAt : MethodName := ⟨RX4, "codeAt", "(I)I"⟩
abbrev cX4_startsFunction : ByteArray := prog_6_method_7_code
def yX4_startsFunction : MethodName := ⟨RX4, "startsFunction", "(I)Z"⟩
abbrev cX4_wholeSize : ByteArray := prog_6_method_8_code
def yX4_wholeSize : MethodName := ⟨RX4, "wholeSize", "(II)I"⟩
abbrev cX4_namesRegister : ByteArray := prog_6_method_9_code
def yX4_namesRegister : MethodName := ⟨RX4, "namesRegister", "(I)Z"⟩
def RX5 : String := "ChainUnwinder$Reader"
def TX5 : u_T := fun k => match k with
  | 0 => ("ChainUnwinder$Reader", "section", "LChainUnwinder$Section;", true)
  | 1 => ("ChainUnwinder$Reader", "found", "LChainUnwinder$Row;", true)
  | 2 => ("ChainUnwinder$Reader", "now", "LChainUnwinder$Row;", true)
  | 3 => ("ChainUnwinder$Reader", "pile", "[LChainUnwinder$Row;", true)
  | 4 => ("ChainUnwinder$Reader", "piled", "I", false)
  | 5 => ("ChainUnwinder$Reader", "place", "I", false)
  | _ => ("ChainUnwinder$Reader", "end", "I", false)
def tyX5 : Nat → FieldType := fun k => match k with
  | 0 => .object "ChainUnwinder$Section"
  | 1 => .object "ChainUnwinder$Row"
  | 2 => .object "ChainUnwinder$Row"
  | 3 => .array (.object "ChainUnwinder$Row")
  | 4 => .int
  | 5 => .int
  | _ => .int
theorem nmX5 : ∀ a, a < 7 → ∀ b, b < 7 → a ≠ b → (TX5 a).2.1 ≠ (TX5 b).2.1 := by decide +kernel
theorem tyX5_ok : ∀ k, k < 7 → parseFieldDescriptor (TX5 k).2.2.1 = some (tyX5 k) := by decide +kernel
abbrev cX5_init : ByteArray := prog_7_method_1_code
def yX5_init : MethodName := ⟨RX5, "<init>", "(LChainUnwinder$Section;)V"⟩
abbrev cX5_lookUp : ByteArray := prog_7_method_2_code
def yX5_lookUp : MethodName := ⟨RX5, "lookUp", "(I)I"⟩
abbrev cX5_countAt : ByteArray := prog_7_method_3_code
def yX5_countAt : MethodName := ⟨RX5, "countAt", "(I)I"⟩
abbrev cX5_readProgram : ByteArray := prog_7_method_4_code
def yX5_readProgram : MethodName := ⟨RX5, "readProgram", "(III)Z"⟩
abbrev cX5_sizeOf : ByteArray := prog_7_method_5_code
def yX5_sizeOf : MethodName := ⟨RX5, "sizeOf", "(I)I"⟩
abbrev cX5_follow : ByteArray := prog_7_method_6_code
def yX5_follow : MethodName := ⟨RX5, "follow", "(I)Z"⟩
abbrev cX5_followRange : ByteArray := prog_7_method_7_code
def yX5_followRange : MethodName := ⟨RX5, "followRange", "(II)Z"⟩
abbrev cX5_moveBy : ByteArray := prog_7_method_8_code
def yX5_moveBy : MethodName := ⟨RX5, "moveBy", "(I)Z"⟩
abbrev cX5_setLink : ByteArray := prog_7_method_9_code
def yX5_setLink : MethodName := ⟨RX5, "setLink", "(I)Z"⟩
abbrev cX5_putOnPile : ByteArray := prog_7_method_10_code
def yX5_putOnPile : MethodName := ⟨RX5, "putOnPile", "()Z"⟩
abbrev cX5_takeOffPile : ByteArray := prog_7_method_11_code
def yX5_takeOffPile : MethodName := ⟨RX5, "takeOffPile", "()Z"⟩
def RX6 : String := "ChainUnwinder$Row"
def TX6 : u_T := fun k => match k with
  | 0 => ("ChainUnwinder$Row", "link", "I", false)
  | 1 => ("ChainUnwinder$Row", "number", "I", false)
  | _ => ("ChainUnwinder$Row", "saved", "[I", true)
def tyX6 : Nat → FieldType := fun k => match k with
  | 0 => .int
  | 1 => .int
  | _ => .array .int
theorem nmX6 : ∀ a, a < 3 → ∀ b, b < 3 → a ≠ b → (TX6 a).2.1 ≠ (TX6 b).2.1 := by decide +kernel
theorem tyX6_ok : ∀ k, k < 3 → parseFieldDescriptor (TX6 k).2.2.1 = some (tyX6 k) := by decide +kernel
abbrev cX6_init : ByteArray := prog_8_method_1_code
def yX6_init : MethodName := ⟨RX6, "<init>", "()V"⟩
abbrev cX6_setToFirst : ByteArray := prog_8_method_2_code
def yX6_setToFirst : MethodName := ⟨RX6, "setToFirst", "()V"⟩
abbrev cX6_copyFrom : ByteArray := prog_8_method_3_code
def yX6_copyFrom : MethodName := ⟨RX6, "copyFrom", "(LChainUnwinder$Row;)V"⟩
abbrev cX6_isSameAs : ByteArray := prog_8_method_4_code
def yX6_isSameAs : MethodName := ⟨RX6, "isSameAs", "(LChainUnwinder$Row;)Z"⟩
abbrev cX6_part : ByteArray := prog_8_method_5_code
def yX6_part : MethodName := ⟨RX6, "part", "(I)I"⟩
def RX7 : String := "ChainUnwinder$Section"
def TX7 : u_T := fun k => match k with
  | 0 => ("ChainUnwinder$Section", "bytes", "[I", true)
  | _ => ("ChainUnwinder$Section", "length", "I", false)
def tyX7 : Nat → FieldType := fun k => match k with
  | 0 => .array .int
  | _ => .int
theorem nmX7 : ∀ a, a < 2 → ∀ b, b < 2 → a ≠ b → (TX7 a).2.1 ≠ (TX7 b).2.1 := by decide +kernel
theorem tyX7_ok : ∀ k, k < 2 → parseFieldDescriptor (TX7 k).2.2.1 = some (tyX7 k) := by decide +kernel
abbrev cX7_init : ByteArray := prog_9_method_1_code
def yX7_init : MethodName := ⟨RX7, "<init>", "()V"⟩
abbrev cX7_empty : ByteArray := prog_9_method_2_code
def yX7_empty : MethodName := ⟨RX7, "empty", "()V"⟩
abbrev cX7_append : ByteArray := prog_9_method_3_code
def yX7_append : MethodName := ⟨RX7, "append", "(I)V"⟩
abbrev cX7_byteAt : ByteArray := prog_9_method_4_code
def yX7_byteAt : MethodName := ⟨RX7, "byteAt", "(I)I"⟩
abbrev cX7_change : ByteArray := prog_9_method_5_code
def yX7_change : MethodName := ⟨RX7, "change", "(II)Z"⟩
def RX8 : String := "ChainUnwinder"
def TX8 : u_T := fun k => match k with
  | 0 => ("ChainUnwinder", "program", "LChainUnwinder$Program;", true)
  | 1 => ("ChainUnwinder", "packer", "LChainUnwinder$Packer;", true)
  | 2 => ("ChainUnwinder", "packed", "LChainUnwinder$Section;", true)
  | 3 => ("ChainUnwinder", "reader", "LChainUnwinder$Reader;", true)
  | 4 => ("ChainUnwinder", "runner", "LChainUnwinder$Machine;", true)
  | _ => ("ChainUnwinder", "chain", "LChainUnwinder$Chain;", true)
def tyX8 : Nat → FieldType := fun k => match k with
  | 0 => .object "ChainUnwinder$Program"
  | 1 => .object "ChainUnwinder$Packer"
  | 2 => .object "ChainUnwinder$Section"
  | 3 => .object "ChainUnwinder$Reader"
  | 4 => .object "ChainUnwinder$Machine"
  | _ => .object "ChainUnwinder$Chain"
theorem nmX8 : ∀ a, a < 6 → ∀ b, b < 6 → a ≠ b → (TX8 a).2.1 ≠ (TX8 b).2.1 := by decide +kernel
theorem tyX8_ok : ∀ k, k < 6 → parseFieldDescriptor (TX8 k).2.2.1 = some (tyX8 k) := by decide +kernel
abbrev cX8_init : ByteArray := prog_1_method_1_code
def yX8_init : MethodName := ⟨RX8, "<init>", "()V"⟩
abbrev cX8_code : ByteArray := prog_1_method_2_code
def yX8_code : MethodName := ⟨RX8, "code", "(JI)I"⟩
abbrev cX8_function : ByteArray := prog_1_method_3_code
def yX8_function : MethodName := ⟨RX8, "function", "(II)I"⟩
abbrev cX8_clear : ByteArray := prog_1_method_4_code
def yX8_clear : MethodName := ⟨RX8, "clear", "()I"⟩
abbrev cX8_pack : ByteArray := prog_1_method_5_code
def yX8_pack : MethodName := ⟨RX8, "pack", "()I"⟩
abbrev cX8_section : ByteArray := prog_1_method_6_code
def yX8_section : MethodName := ⟨RX8, "section", "(I)I"⟩
abbrev cX8_poke : ByteArray := prog_1_method_7_code
def yX8_poke : MethodName := ⟨RX8, "poke", "(II)Z"⟩
abbrev cX8_row : ByteArray := prog_1_method_8_code
def yX8_row : MethodName := ⟨RX8, "row", "(II)I"⟩
abbrev cX8_begin : ByteArray := prog_1_method_9_code
def yX8_begin : MethodName := ⟨RX8, "begin", "(IIII)Z"⟩
abbrev cX8_step : ByteArray := prog_1_method_10_code
def yX8_step : MethodName := ⟨RX8, "step", "()I"⟩
abbrev cX8_machine : ByteArray := prog_1_method_11_code
def yX8_machine : MethodName := ⟨RX8, "machine", "(I)I"⟩
abbrev cX8_call : ByteArray := prog_1_method_12_code
def yX8_call : MethodName := ⟨RX8, "call", "(I)I"⟩
abbrev cX8_unwind : ByteArray := prog_1_method_13_code
def yX8_unwind : MethodName := ⟨RX8, "unwind", "()I"⟩
abbrev cX8_frame : ByteArray := prog_1_method_14_code
def yX8_frame : MethodName := ⟨RX8, "frame", "(II)I"⟩
def RX9 : String := "ChainUnwinderModel"
def TX9 : u_T := fun k => match k with
  | 0 => ("ChainUnwinderModel", "thrown", "I", false)
  | 1 => ("ChainUnwinderModel", "bytes", "[I", true)
  | 2 => ("ChainUnwinderModel", "size", "I", false)
  | 3 => ("ChainUnwinderModel", "functions", "I", false)
  | 4 => ("ChainUnwinderModel", "froms", "[I", true)
  | 5 => ("ChainUnwinderModel", "ends", "[I", true)
  | 6 => ("ChainUnwinderModel", "known", "[I", true)
  | 7 => ("ChainUnwinderModel", "looked", "[Z", true)
  | 8 => ("ChainUnwinderModel", "begins", "[Z", true)
  | 9 => ("ChainUnwinderModel", "now", "[I", true)
  | 10 => ("ChainUnwinderModel", "section", "[I", true)
  | 11 => ("ChainUnwinderModel", "fresh", "[I", true)
  | 12 => ("ChainUnwinderModel", "sectionSize", "I", false)
  | 13 => ("ChainUnwinderModel", "row", "[I", true)
  | 14 => ("ChainUnwinderModel", "held", "[I", true)
  | 15 => ("ChainUnwinderModel", "pile", "[I", true)
  | 16 => ("ChainUnwinderModel", "was", "Z", false)
  | 17 => ("ChainUnwinderModel", "runs", "Z", false)
  | 18 => ("ChainUnwinderModel", "place", "I", false)
  | 19 => ("ChainUnwinderModel", "sp", "I", false)
  | 20 => ("ChainUnwinderModel", "a", "I", false)
  | 21 => ("ChainUnwinderModel", "registers", "[I", true)
  | 22 => ("ChainUnwinderModel", "words", "[I", true)
  | 23 => ("ChainUnwinderModel", "calls", "I", false)
  | 24 => ("ChainUnwinderModel", "returns", "[I", true)
  | 25 => ("ChainUnwinderModel", "frames", "I", false)
  | 26 => ("ChainUnwinderModel", "frameRows", "[I", true)
  | 27 => ("ChainUnwinderModel", "freshSize", "I", false)
  | _ => ("ChainUnwinderModel", "told", "I", false)
def tyX9 : Nat → FieldType := fun k => match k with
  | 0 => .int
  | 1 => .array .int
  | 2 => .int
  | 3 => .int
  | 4 => .array .int
  | 5 => .array .int
  | 6 => .array .int
  | 7 => .array .boolean
  | 8 => .array .boolean
  | 9 => .array .int
  | 10 => .array .int
  | 11 => .array .int
  | 12 => .int
  | 13 => .array .int
  | 14 => .array .int
  | 15 => .array .int
  | 16 => .boolean
  | 17 => .boolean
  | 18 => .int
  | 19 => .int
  | 20 => .int
  | 21 => .array .int
  | 22 => .array .int
  | 23 => .int
  | 24 => .array .int
  | 25 => .int
  | 26 => .array .int
  | 27 => .int
  | _ => .int
theorem nmX9 : ∀ a, a < 29 → ∀ b, b < 29 → a ≠ b → (TX9 a).2.1 ≠ (TX9 b).2.1 := by decide +kernel
theorem tyX9_ok : ∀ k, k < 29 → parseFieldDescriptor (TX9 k).2.2.1 = some (tyX9 k) := by decide +kernel
abbrev cX9_init : ByteArray := prog_11_method_1_code
def yX9_init : MethodName := ⟨RX9, "<init>", "()V"⟩
abbrev cX9_thrown : ByteArray := prog_11_method_2_code
def yX9_thrown : MethodName := ⟨RX9, "thrown", "()I"⟩
abbrev cX9_over : ByteArray := prog_11_method_3_code
def yX9_over : MethodName := ⟨RX9, "over", "()V"⟩
abbrev cX9_code : ByteArray := prog_11_method_4_code
def yX9_code : MethodName := ⟨RX9, "code", "(JI)I"⟩
abbrev cX9_function : ByteArray := prog_11_method_5_code
def yX9_function : MethodName := ⟨RX9, "function", "(II)I"⟩
abbrev cX9_clear : ByteArray := prog_11_method_6_code
def yX9_clear : MethodName := ⟨RX9, "clear", "()I"⟩
abbrev cX9_lengthOf : ByteArray := prog_11_method_7_code
def yX9_lengthOf : MethodName := ⟨RX9, "lengthOf", "(I)I"⟩
abbrev cX9_hasRegister : ByteArray := prog_11_method_8_code
def yX9_hasRegister : MethodName := ⟨RX9, "hasRegister", "(I)Z"⟩
abbrev cX9_isWhole : ByteArray := prog_11_method_9_code
def yX9_isWhole : MethodName := ⟨RX9, "isWhole", "(II)Z"⟩
abbrev cX9_isFirst : ByteArray := prog_11_method_10_code
def yX9_isFirst : MethodName := ⟨RX9, "isFirst", "(I)Z"⟩
abbrev cX9_isClean : ByteArray := prog_11_method_11_code
def yX9_isClean : MethodName := ⟨RX9, "isClean", "()Z"⟩
abbrev cX9_spoil : ByteArray := prog_11_method_12_code
def yX9_spoil : MethodName := ⟨RX9, "spoil", "(I)I"⟩
abbrev cX9_give : ByteArray := prog_11_method_13_code
def yX9_give : MethodName := ⟨RX9, "give", "(II)I"⟩
abbrev cX9_lose : ByteArray := prog_11_method_14_code
def yX9_lose : MethodName := ⟨RX9, "lose", "(I)I"⟩
abbrev cX9_save : ByteArray := prog_11_method_15_code
def yX9_save : MethodName := ⟨RX9, "save", "(II)V"⟩
abbrev cX9_raise : ByteArray := prog_11_method_16_code
def yX9_raise : MethodName := ⟨RX9, "raise", "(I)I"⟩
abbrev cX9_isTarget : ByteArray := prog_11_method_17_code
def yX9_isTarget : MethodName := ⟨RX9, "isTarget", "(II)Z"⟩
abbrev cX9_effect : ByteArray := prog_11_method_18_code
def yX9_effect : MethodName := ⟨RX9, "effect", "(II)I"⟩
abbrev cX9_learn : ByteArray := prog_11_method_19_code
def yX9_learn : MethodName := ⟨RX9, "learn", "(I)Z"⟩
abbrev cX9_findOut : ByteArray := prog_11_method_20_code
def yX9_findOut : MethodName := ⟨RX9, "findOut", "(I)I"⟩
abbrev cX9_put : ByteArray := prog_11_method_21_code
def yX9_put : MethodName := ⟨RX9, "put", "(I)V"⟩
abbrev cX9_packPlace : ByteArray := prog_11_method_22_code
def yX9_packPlace : MethodName := ⟨RX9, "packPlace", "(II)V"⟩
abbrev cX9_packFunction : ByteArray := prog_11_method_23_code
def yX9_packFunction : MethodName := ⟨RX9, "packFunction", "(I)V"⟩
abbrev cX9_pack : ByteArray := prog_11_method_24_code
def yX9_pack : MethodName := ⟨RX9, "pack", "()I"⟩
abbrev cX9_section : ByteArray := prog_11_method_25_code
def yX9_section : MethodName := ⟨RX9, "section", "(I)I"⟩
abbrev cX9_poke : ByteArray := prog_11_method_26_code
def yX9_poke : MethodName := ⟨RX9, "poke", "(II)Z"⟩
abbrev cX9_readProgram : ByteArray := prog_11_method_27_code
def yX9_readProgram : MethodName := ⟨RX9, "readProgram", "(IIIII)Z"⟩
abbrev cX9_keep : ByteArray := prog_11_method_28_code
def yX9_keep : MethodName := ⟨RX9, "keep", "(Z)V"⟩
abbrev cX9_findRow : ByteArray := prog_11_method_29_code
def yX9_findRow : MethodName := ⟨RX9, "findRow", "(I)I"⟩
abbrev cX9_row : ByteArray := prog_11_method_30_code
def yX9_row : MethodName := ⟨RX9, "row", "(II)I"⟩
abbrev cX9_begin : ByteArray := prog_11_method_31_code
def yX9_begin : MethodName := ⟨RX9, "begin", "(IIII)Z"⟩
abbrev cX9_isWord : ByteArray := prog_11_method_32_code
def yX9_isWord : MethodName := ⟨RX9, "isWord", "(J)Z"⟩
abbrev cX9_fails : ByteArray := prog_11_method_33_code
def yX9_fails : MethodName := ⟨RX9, "fails", "(III)Z"⟩
abbrev cX9_step : ByteArray := prog_11_method_34_code
def yX9_step : MethodName := ⟨RX9, "step", "()I"⟩
abbrev cX9_machine : ByteArray := prog_11_method_35_code
def yX9_machine : MethodName := ⟨RX9, "machine", "(I)I"⟩
abbrev cX9_call : ByteArray := prog_11_method_36_code
def yX9_call : MethodName := ⟨RX9, "call", "(I)I"⟩
abbrev cX9_nextFrame : ByteArray := prog_11_method_37_code
def yX9_nextFrame : MethodName := ⟨RX9, "nextFrame", "()Z"⟩
abbrev cX9_unwind : ByteArray := prog_11_method_38_code
def yX9_unwind : MethodName := ⟨RX9, "unwind", "()I"⟩
abbrev cX9_frame : ByteArray := prog_11_method_39_code
def yX9_frame : MethodName := ⟨RX9, "frame", "(II)I"⟩
def RL : String := "ChainUnwinderLaw"
abbrev cL_row : ByteArray := method_3_code
def yL_row : MethodName := ⟨RL, "row", "(LChainUnwinder;II[J)I"⟩
abbrev cL_step : ByteArray := method_4_code
def yL_step : MethodName := ⟨RL, "step", "(LChainUnwinder;[J)I"⟩
abbrev cL_law : ByteArray := code
def yL_law : MethodName := ⟨RL, "law", "([I)Z"⟩
abbrev vwCl : List vw_C := [(RX0, TX0, 4), (RX1, TX1, 9), (RX2, TX2, 10), (RX3, TX3, 5), (RX4, TX4, 5), (RX5, TX5, 7), (RX6, TX6, 3), (RX7, TX7, 2), (RX8, TX8, 6), (RX9, TX9, 29)]

/-- all words of the tables that last -/
def wsAll : List Cond := lw_tbl.filter goodWord
theorem wa {w : Cond} (i : Nat) (h : lw_tbl[i]? = some w) (hg : goodWord w = true) : w ∈ wsAll := List.mem_filter.mpr ⟨List.mem_of_getElem? h, hg⟩
theorem wsAll_tbl : ∀ w ∈ wsAll, w ∈ lw_tbl := fun w h => (List.mem_filter.mp h).1
theorem wsAll_good : GoodIn wsAll wsAll := fun w h => ⟨h, good_of_word (List.mem_filter.mp h).2⟩
theorem gw1 {w : Cond} {ws : List Cond} (i : Nat) (h : lw_tbl[i]? = some w) (hg : goodWord w = true) (k : GoodIn wsAll ws) : GoodIn wsAll (w :: ws) := fun z hz => (List.mem_cons.mp hz).elim (fun e => by subst e; exact ⟨wa i h hg, good_of_word hg⟩) (k z)

theorem inw_X0 : ∀ z ∈ u_ws RX0 TX0 4, z ∈ wsAll := by
  intro z hz
  obtain ⟨k, hk, rfl⟩ := List.mem_map.mp hz
  have hk := List.mem_range.mp hk
  match k, hk with
  | 0, _ => exact wa 303 (by decide +kernel) (by decide +kernel)
  | 1, _ => exact wa 305 (by decide +kernel) (by decide +kernel)
  | 2, _ => exact wa 307 (by decide +kernel) (by decide +kernel)
  | 3, _ => exact wa 309 (by decide +kernel) (by decide +kernel)
  | k + 4, hk => exact absurd hk (by omega)
theorem inw_X1 : ∀ z ∈ u_ws RX1 TX1 9, z ∈ wsAll := by
  intro z hz
  obtain ⟨k, hk, rfl⟩ := List.mem_map.mp hz
  have hk := List.mem_range.mp hk
  match k, hk with
  | 0, _ => exact wa 185 (by decide +kernel) (by decide +kernel)
  | 1, _ => exact wa 187 (by decide +kernel) (by decide +kernel)
  | 2, _ => exact wa 189 (by decide +kernel) (by decide +kernel)
  | 3, _ => exact wa 191 (by decide +kernel) (by decide +kernel)
  | 4, _ => exact wa 193 (by decide +kernel) (by decide +kernel)
  | 5, _ => exact wa 195 (by decide +kernel) (by decide +kernel)
  | 6, _ => exact wa 197 (by decide +kernel) (by decide +kernel)
  | 7, _ => exact wa 199 (by decide +kernel) (by decide +kernel)
  | 8, _ => exact wa 201 (by decide +kernel) (by decide +kernel)
  | k + 9, hk => exact absurd hk (by omega)
theorem inw_X2 : ∀ z ∈ u_ws RX2 TX2 10, z ∈ wsAll := by
  intro z hz
  obtain ⟨k, hk, rfl⟩ := List.mem_map.mp hz
  have hk := List.mem_range.mp hk
  match k, hk with
  | 0, _ => exact wa 272 (by decide +kernel) (by decide +kernel)
  | 1, _ => exact wa 274 (by decide +kernel) (by decide +kernel)
  | 2, _ => exact wa 276 (by decide +kernel) (by decide +kernel)
  | 3, _ => exact wa 278 (by decide +kernel) (by decide +kernel)
  | 4, _ => exact wa 280 (by decide +kernel) (by decide +kernel)
  | 5, _ => exact wa 282 (by decide +kernel) (by decide +kernel)
  | 6, _ => exact wa 284 (by decide +kernel) (by decide +kernel)
  | 7, _ => exact wa 286 (by decide +kernel) (by decide +kernel)
  | 8, _ => exact wa 288 (by decide +kernel) (by decide +kernel)
  | 9, _ => exact wa 290 (by decide +kernel) (by decide +kernel)
  | k + 10, hk => exact absurd hk (by omega)
theorem inw_X3 : ∀ z ∈ u_ws RX3 TX3 5, z ∈ wsAll := by
  intro z hz
  obtain ⟨k, hk, rfl⟩ := List.mem_map.mp hz
  have hk := List.mem_range.mp hk
  match k, hk with
  | 0, _ => exact wa 210 (by decide +kernel) (by decide +kernel)
  | 1, _ => exact wa 212 (by decide +kernel) (by decide +kernel)
  | 2, _ => exact wa 214 (by decide +kernel) (by decide +kernel)
  | 3, _ => exact wa 216 (by decide +kernel) (by decide +kernel)
  | 4, _ => exact wa 218 (by decide +kernel) (by decide +kernel)
  | k + 5, hk => exact absurd hk (by omega)
theorem inw_X4 : ∀ z ∈ u_ws RX4 TX4 5, z ∈ wsAll := by
  intro z hz
  obtain ⟨k, hk, rfl⟩ := List.mem_map.mp hz
  have hk := List.mem_range.mp hk
  match k, hk with
  | 0, _ => exact wa 109 (by decide +kernel) (by decide +kernel)
  | 1, _ => exact wa 111 (by decide +kernel) (by decide +kernel)
  | 2, _ => exact wa 113 (by decide +kernel) (by decide +kernel)
  | 3, _ => exact wa 115 (by decide +kernel) (by decide +kernel)
  | 4, _ => exact wa 117 (by decide +kernel) (by decide +kernel)
  | k + 5, hk => exact absurd hk (by omega)
theorem inw_X5 : ∀ z ∈ u_ws RX5 TX5 7, z ∈ wsAll := by
  intro z hz
  obtain ⟨k, hk, rfl⟩ := List.mem_map.mp hz
  have hk := List.mem_range.mp hk
  match k, hk with
  | 0, _ => exact wa 239 (by decide +kernel) (by decide +kernel)
  | 1, _ => exact wa 241 (by decide +kernel) (by decide +kernel)
  | 2, _ => exact wa 243 (by decide +kernel) (by decide +kernel)
  | 3, _ => exact wa 245 (by decide +kernel) (by decide +kernel)
  | 4, _ => exact wa 247 (by decide +kernel) (by decide +kernel)
  | 5, _ => exact wa 249 (by decide +kernel) (by decide +kernel)
  | 6, _ => exact wa 251 (by decide +kernel) (by decide +kernel)
  | k + 7, hk => exact absurd hk (by omega)
theorem inw_X6 : ∀ z ∈ u_ws RX6 TX6 3, z ∈ wsAll := by
  intro z hz
  obtain ⟨k, hk, rfl⟩ := List.mem_map.mp hz
  have hk := List.mem_range.mp hk
  match k, hk with
  | 0, _ => exact wa 163 (by decide +kernel) (by decide +kernel)
  | 1, _ => exact wa 165 (by decide +kernel) (by decide +kernel)
  | 2, _ => exact wa 167 (by decide +kernel) (by decide +kernel)
  | k + 3, hk => exact absurd hk (by omega)
theorem inw_X7 : ∀ z ∈ u_ws RX7 TX7 2, z ∈ wsAll := by
  intro z hz
  obtain ⟨k, hk, rfl⟩ := List.mem_map.mp hz
  have hk := List.mem_range.mp hk
  match k, hk with
  | 0, _ => exact wa 131 (by decide +kernel) (by decide +kernel)
  | 1, _ => exact wa 133 (by decide +kernel) (by decide +kernel)
  | k + 2, hk => exact absurd hk (by omega)
theorem inw_X8 : ∀ z ∈ u_ws RX8 TX8 6, z ∈ wsAll := by
  intro z hz
  obtain ⟨k, hk, rfl⟩ := List.mem_map.mp hz
  have hk := List.mem_range.mp hk
  match k, hk with
  | 0, _ => exact wa 318 (by decide +kernel) (by decide +kernel)
  | 1, _ => exact wa 320 (by decide +kernel) (by decide +kernel)
  | 2, _ => exact wa 322 (by decide +kernel) (by decide +kernel)
  | 3, _ => exact wa 324 (by decide +kernel) (by decide +kernel)
  | 4, _ => exact wa 326 (by decide +kernel) (by decide +kernel)
  | 5, _ => exact wa 328 (by decide +kernel) (by decide +kernel)
  | k + 6, hk => exact absurd hk (by omega)
theorem inw_X9 : ∀ z ∈ u_ws RX9 TX9 29, z ∈ wsAll := by
  intro z hz
  obtain ⟨k, hk, rfl⟩ := List.mem_map.mp hz
  have hk := List.mem_range.mp hk
  match k, hk with
  | 0, _ => exact wa 827 (by decide +kernel) (by decide +kernel)
  | 1, _ => exact wa 829 (by decide +kernel) (by decide +kernel)
  | 2, _ => exact wa 831 (by decide +kernel) (by decide +kernel)
  | 3, _ => exact wa 833 (by decide +kernel) (by decide +kernel)
  | 4, _ => exact wa 835 (by decide +kernel) (by decide +kernel)
  | 5, _ => exact wa 837 (by decide +kernel) (by decide +kernel)
  | 6, _ => exact wa 839 (by decide +kernel) (by decide +kernel)
  | 7, _ => exact wa 841 (by decide +kernel) (by decide +kernel)
  | 8, _ => exact wa 843 (by decide +kernel) (by decide +kernel)
  | 9, _ => exact wa 845 (by decide +kernel) (by decide +kernel)
  | 10, _ => exact wa 847 (by decide +kernel) (by decide +kernel)
  | 11, _ => exact wa 849 (by decide +kernel) (by decide +kernel)
  | 12, _ => exact wa 851 (by decide +kernel) (by decide +kernel)
  | 13, _ => exact wa 853 (by decide +kernel) (by decide +kernel)
  | 14, _ => exact wa 855 (by decide +kernel) (by decide +kernel)
  | 15, _ => exact wa 857 (by decide +kernel) (by decide +kernel)
  | 16, _ => exact wa 859 (by decide +kernel) (by decide +kernel)
  | 17, _ => exact wa 861 (by decide +kernel) (by decide +kernel)
  | 18, _ => exact wa 863 (by decide +kernel) (by decide +kernel)
  | 19, _ => exact wa 865 (by decide +kernel) (by decide +kernel)
  | 20, _ => exact wa 867 (by decide +kernel) (by decide +kernel)
  | 21, _ => exact wa 869 (by decide +kernel) (by decide +kernel)
  | 22, _ => exact wa 871 (by decide +kernel) (by decide +kernel)
  | 23, _ => exact wa 873 (by decide +kernel) (by decide +kernel)
  | 24, _ => exact wa 875 (by decide +kernel) (by decide +kernel)
  | 25, _ => exact wa 877 (by decide +kernel) (by decide +kernel)
  | 26, _ => exact wa 879 (by decide +kernel) (by decide +kernel)
  | 27, _ => exact wa 881 (by decide +kernel) (by decide +kernel)
  | 28, _ => exact wa 883 (by decide +kernel) (by decide +kernel)
  | k + 29, hk => exact absurd hk (by omega)
end
section
theorem dX0_init_0 : decode cX0_init 0 = .ok (.aload_n 0, 1) := by decide +kernel
theorem dX0_init_1 : decode cX0_init 1 = .ok (.invokespecial 3, 3) := by decide +kernel
theorem dX0_init_4 : decode cX0_init 4 = .ok (.aload_n 0, 1) := by decide +kernel
theorem dX0_init_5 : decode cX0_init 5 = .ok (.bipush 100, 2) := by decide +kernel
theorem dX0_init_7 : decode cX0_init 7 = .ok (.newarray .int, 2) := by decide +kernel
theorem dX0_init_9 : decode cX0_init 9 = .ok (.putfield 11, 3) := by decide +kernel
theorem dX0_init_12 : decode cX0_init 12 = .ok (.aload_n 0, 1) := by decide +kernel
theorem dX0_init_13 : decode cX0_init 13 = .ok (.aload_n 1, 1) := by decide +kernel
theorem dX0_init_14 : decode cX0_init 14 = .ok (.putfield 15, 3) := by decide +kernel
theorem dX0_init_17 : decode cX0_init 17 = .ok (.aload_n 0, 1) := by decide +kernel
theorem dX0_init_18 : decode cX0_init 18 = .ok (.aload_n 2, 1) := by decide +kernel
theorem dX0_init_19 : decode cX0_init 19 = .ok (.putfield 19, 3) := by decide +kernel
theorem dX0_init_22 : decode cX0_init 22 = .ok (.return_, 1) := by decide +kernel
theorem dX0_findFrames_0 : decode cX0_findFrames 0 = .ok (.aload_n 0, 1) := by decide +kernel
theorem dX0_findFrames_1 : decode cX0_findFrames 1 = .ok (.iconst 0, 1) := by decide +kernel
theorem dX0_findFrames_2 : decode cX0_findFrames 2 = .ok (.putfield 23, 3) := by decide +kernel
theorem dX0_findFrames_5 : decode cX0_findFrames 5 = .ok (.aload_n 0, 1) := by decide +kernel
theorem dX0_findFrames_6 : decode cX0_findFrames 6 = .ok (.getfield 15, 3) := by decide +kernel
theorem dX0_findFrames_9 : decode cX0_findFrames 9 = .ok (.getfield 27, 3) := by decide +kernel
theorem dX0_findFrames_12 : decode cX0_findFrames 12 = .ok (.ifCond .ne 5, 3) := by decide +kernel
theorem dX0_findFrames_15 : decode cX0_findFrames 15 = .ok (.iconst (-1), 1) := by decide +kernel
theorem dX0_findFrames_16 : decode cX0_findFrames 16 = .ok (.ireturn, 1) := by decide +kernel
theorem dX0_findFrames_17 : decode cX0_findFrames 17 = .ok (.iconst 0, 1) := by decide +kernel
theorem dX0_findFrames_18 : decode cX0_findFrames 18 = .ok (.istore_n 1, 1) := by decide +kernel
theorem dX0_findFrames_19 : decode cX0_findFrames 19 = .ok (.iload_n 1, 1) := by decide +kernel
theorem dX0_findFrames_20 : decode cX0_findFrames 20 = .ok (.iconst 5, 1) := by decide +kernel
theorem dX0_findFrames_21 : decode cX0_findFrames 21 = .ok (.if_icmp .ge 23, 3) := by decide +kernel
theorem dX0_findFrames_24 : decode cX0_findFrames 24 = .ok (.aload_n 0, 1) := by decide +kernel
theorem dX0_findFrames_25 : decode cX0_findFrames 25 = .ok (.getfield 11, 3) := by decide +kernel
theorem dX0_findFrames_28 : decode cX0_findFrames 28 = .ok (.iload_n 1, 1) := by decide +kernel
theorem dX0_findFrames_29 : decode cX0_findFrames 29 = .ok (.aload_n 0, 1) := by decide +kernel
theorem dX0_findFrames_30 : decode cX0_findFrames 30 = .ok (.getfield 15, 3) := by decide +kernel
theorem dX0_findFrames_33 : decode cX0_findFrames 33 = .ok (.iload_n 1, 1) := by decide +kernel
theorem dX0_findFrames_34 : decode cX0_findFrames 34 = .ok (.invokevirtual 33, 3) := by decide +kernel
theorem dX0_findFrames_37 : decode cX0_findFrames 37 = .ok (.iastore, 1) := by decide +kernel
theorem dX0_findFrames_38 : decode cX0_findFrames 38 = .ok (.iinc 1 1, 3) := by decide +kernel
theorem dX0_findFrames_41 : decode cX0_findFrames 41 = .ok (.goto (-22), 3) := by decide +kernel
theorem dX0_findFrames_44 : decode cX0_findFrames 44 = .ok (.iconst 0, 1) := by decide +kernel
theorem dX0_findFrames_45 : decode cX0_findFrames 45 = .ok (.istore_n 1, 1) := by decide +kernel
theorem dX0_findFrames_46 : decode cX0_findFrames 46 = .ok (.iload_n 1, 1) := by decide +kernel
theorem dX0_findFrames_47 : decode cX0_findFrames 47 = .ok (.bipush 19, 2) := by decide +kernel
theorem dX0_findFrames_49 : decode cX0_findFrames 49 = .ok (.if_icmp .ge 68, 3) := by decide +kernel
theorem dX0_findFrames_52 : decode cX0_findFrames 52 = .ok (.aload_n 0, 1) := by decide +kernel
theorem dX0_findFrames_53 : decode cX0_findFrames 53 = .ok (.getfield 11, 3) := by decide +kernel
theorem dX0_findFrames_56 : decode cX0_findFrames 56 = .ok (.iload_n 1, 1) := by decide +kernel
theorem dX0_findFrames_57 : decode cX0_findFrames 57 = .ok (.iconst 5, 1) := by decide +kernel
theorem dX0_findFrames_58 : decode cX0_findFrames 58 = .ok (.imul, 1) := by decide +kernel
theorem dX0_findFrames_59 : decode cX0_findFrames 59 = .ok (.iaload, 1) := by decide +kernel
theorem dX0_findFrames_60 : decode cX0_findFrames 60 = .ok (.sipush 255, 3) := by decide +kernel
theorem dX0_findFrames_63 : decode cX0_findFrames 63 = .ok (.if_icmp .eq 54, 3) := by decide +kernel
theorem dX0_findFrames_66 : decode cX0_findFrames 66 = .ok (.aload_n 0, 1) := by decide +kernel
theorem dX0_findFrames_67 : decode cX0_findFrames 67 = .ok (.getfield 19, 3) := by decide +kernel
theorem dX0_findFrames_70 : decode cX0_findFrames 70 = .ok (.aload_n 0, 1) := by decide +kernel
theorem dX0_findFrames_71 : decode cX0_findFrames 71 = .ok (.getfield 11, 3) := by decide +kernel
theorem dX0_findFrames_74 : decode cX0_findFrames 74 = .ok (.iload_n 1, 1) := by decide +kernel
theorem dX0_findFrames_75 : decode cX0_findFrames 75 = .ok (.iconst 5, 1) := by decide +kernel
theorem dX0_findFrames_76 : decode cX0_findFrames 76 = .ok (.imul, 1) := by decide +kernel
theorem dX0_findFrames_77 : decode cX0_findFrames 77 = .ok (.iaload, 1) := by decide +kernel
theorem dX0_findFrames_78 : decode cX0_findFrames 78 = .ok (.invokevirtual 37, 3) := by decide +kernel
theorem dX0_findFrames_81 : decode cX0_findFrames 81 = .ok (.ifCond .ne 7, 3) := by decide +kernel
theorem dX0_findFrames_84 : decode cX0_findFrames 84 = .ok (.iconst 1, 1) := by decide +kernel
theorem dX0_findFrames_85 : decode cX0_findFrames 85 = .ok (.goto 4, 3) := by decide +kernel
theorem dX0_findFrames_88 : decode cX0_findFrames 88 = .ok (.iconst 0, 1) := by decide +kernel
theorem dX0_findFrames_89 : decode cX0_findFrames 89 = .ok (.istore_n 2, 1) := by decide +kernel
theorem dX0_findFrames_90 : decode cX0_findFrames 90 = .ok (.iload_n 2, 1) := by decide +kernel
theorem dX0_findFrames_91 : decode cX0_findFrames 91 = .ok (.ifCond .eq 18, 3) := by decide +kernel
theorem dX0_findFrames_94 : decode cX0_findFrames 94 = .ok (.aload_n 0, 1) := by decide +kernel
theorem dX0_findFrames_95 : decode cX0_findFrames 95 = .ok (.iload_n 1, 1) := by decide +kernel
theorem dX0_findFrames_96 : decode cX0_findFrames 96 = .ok (.aload_n 0, 1) := by decide +kernel
theorem dX0_findFrames_97 : decode cX0_findFrames 97 = .ok (.getfield 19, 3) := by decide +kernel
theorem dX0_findFrames_100 : decode cX0_findFrames 100 = .ok (.getfield 42, 3) := by decide +kernel
theorem dX0_findFrames_103 : decode cX0_findFrames 103 = .ok (.invokevirtual 46, 3) := by decide +kernel
theorem dX0_findFrames_106 : decode cX0_findFrames 106 = .ok (.ifCond .ne 5, 3) := by decide +kernel
theorem dX0_findFrames_109 : decode cX0_findFrames 109 = .ok (.iconst (-1), 1) := by decide +kernel
theorem dX0_findFrames_110 : decode cX0_findFrames 110 = .ok (.ireturn, 1) := by decide +kernel
theorem dX0_findFrames_111 : decode cX0_findFrames 111 = .ok (.iinc 1 1, 3) := by decide +kernel
theorem dX0_findFrames_114 : decode cX0_findFrames 114 = .ok (.goto (-68), 3) := by decide +kernel
theorem dX0_findFrames_117 : decode cX0_findFrames 117 = .ok (.aload_n 0, 1) := by decide +kernel
theorem dX0_findFrames_118 : decode cX0_findFrames 118 = .ok (.getfield 11, 3) := by decide +kernel
theorem dX0_findFrames_121 : decode cX0_findFrames 121 = .ok (.iload_n 1, 1) := by decide +kernel
theorem dX0_findFrames_122 : decode cX0_findFrames 122 = .ok (.iconst 5, 1) := by decide +kernel
theorem dX0_findFrames_123 : decode cX0_findFrames 123 = .ok (.imul, 1) := by decide +kernel
theorem dX0_findFrames_124 : decode cX0_findFrames 124 = .ok (.iaload, 1) := by decide +kernel
theorem dX0_findFrames_125 : decode cX0_findFrames 125 = .ok (.sipush 255, 3) := by decide +kernel
theorem dX0_findFrames_128 : decode cX0_findFrames 128 = .ok (.if_icmp .eq 5, 3) := by decide +kernel
theorem dX0_findFrames_131 : decode cX0_findFrames 131 = .ok (.iconst (-1), 1) := by decide +kernel
theorem dX0_findFrames_132 : decode cX0_findFrames 132 = .ok (.ireturn, 1) := by decide +kernel
theorem dX0_findFrames_133 : decode cX0_findFrames 133 = .ok (.aload_n 0, 1) := by decide +kernel
theorem dX0_findFrames_134 : decode cX0_findFrames 134 = .ok (.iload_n 1, 1) := by decide +kernel
theorem dX0_findFrames_135 : decode cX0_findFrames 135 = .ok (.iconst 1, 1) := by decide +kernel
theorem dX0_findFrames_136 : decode cX0_findFrames 136 = .ok (.iadd, 1) := by decide +kernel
theorem dX0_findFrames_137 : decode cX0_findFrames 137 = .ok (.putfield 23, 3) := by decide +kernel
theorem dX0_findFrames_140 : decode cX0_findFrames 140 = .ok (.aload_n 0, 1) := by decide +kernel
theorem dX0_findFrames_141 : decode cX0_findFrames 141 = .ok (.getfield 23, 3) := by decide +kernel
theorem dX0_findFrames_144 : decode cX0_findFrames 144 = .ok (.ireturn, 1) := by decide +kernel
theorem dX0_addBehind_0 : decode cX0_addBehind 0 = .ok (.iload_n 1, 1) := by decide +kernel
theorem dX0_addBehind_1 : decode cX0_addBehind 1 = .ok (.iconst 5, 1) := by decide +kernel
theorem dX0_addBehind_2 : decode cX0_addBehind 2 = .ok (.imul, 1) := by decide +kernel
theorem dX0_addBehind_3 : decode cX0_addBehind 3 = .ok (.istore_n 3, 1) := by decide +kernel
theorem dX0_addBehind_4 : decode cX0_addBehind 4 = .ok (.iload_n 3, 1) := by decide +kernel
theorem dX0_addBehind_5 : decode cX0_addBehind 5 = .ok (.iconst 5, 1) := by decide +kernel
theorem dX0_addBehind_6 : decode cX0_addBehind 6 = .ok (.iadd, 1) := by decide +kernel
theorem dX0_addBehind_7 : decode cX0_addBehind 7 = .ok (.istore 4, 2) := by decide +kernel
theorem dX0_addBehind_9 : decode cX0_addBehind 9 = .ok (.aload_n 2, 1) := by decide +kernel
theorem dX0_addBehind_10 : decode cX0_addBehind 10 = .ok (.getfield 50, 3) := by decide +kernel
theorem dX0_addBehind_13 : decode cX0_addBehind 13 = .ok (.aload_n 2, 1) := by decide +kernel
theorem dX0_addBehind_14 : decode cX0_addBehind 14 = .ok (.getfield 55, 3) := by decide +kernel
theorem dX0_addBehind_17 : decode cX0_addBehind 17 = .ok (.iconst 1, 1) := by decide +kernel
theorem dX0_addBehind_18 : decode cX0_addBehind 18 = .ok (.if_icmp .ne 16, 3) := by decide +kernel
theorem dX0_addBehind_21 : decode cX0_addBehind 21 = .ok (.aload_n 0, 1) := by decide +kernel
theorem dX0_addBehind_22 : decode cX0_addBehind 22 = .ok (.getfield 11, 3) := by decide +kernel
theorem dX0_addBehind_25 : decode cX0_addBehind 25 = .ok (.iload_n 3, 1) := by decide +kernel
theorem dX0_addBehind_26 : decode cX0_addBehind 26 = .ok (.iconst 2, 1) := by decide +kernel
theorem dX0_addBehind_27 : decode cX0_addBehind 27 = .ok (.iadd, 1) := by decide +kernel
theorem dX0_addBehind_28 : decode cX0_addBehind 28 = .ok (.iconst 0, 1) := by decide +kernel
theorem dX0_addBehind_29 : decode cX0_addBehind 29 = .ok (.iadd, 1) := by decide +kernel
theorem dX0_addBehind_30 : decode cX0_addBehind 30 = .ok (.iaload, 1) := by decide +kernel
theorem dX0_addBehind_31 : decode cX0_addBehind 31 = .ok (.goto 11, 3) := by decide +kernel
theorem dX0_addBehind_34 : decode cX0_addBehind 34 = .ok (.aload_n 0, 1) := by decide +kernel
theorem dX0_addBehind_35 : decode cX0_addBehind 35 = .ok (.getfield 11, 3) := by decide +kernel
theorem dX0_addBehind_38 : decode cX0_addBehind 38 = .ok (.iload_n 3, 1) := by decide +kernel
theorem dX0_addBehind_39 : decode cX0_addBehind 39 = .ok (.iconst 1, 1) := by decide +kernel
theorem dX0_addBehind_40 : decode cX0_addBehind 40 = .ok (.iadd, 1) := by decide +kernel
theorem dX0_addBehind_41 : decode cX0_addBehind 41 = .ok (.iaload, 1) := by decide +kernel
theorem dX0_addBehind_42 : decode cX0_addBehind 42 = .ok (.iadd, 1) := by decide +kernel
theorem dX0_addBehind_43 : decode cX0_addBehind 43 = .ok (.istore 5, 2) := by decide +kernel
theorem dX0_addBehind_45 : decode cX0_addBehind 45 = .ok (.aload_n 0, 1) := by decide +kernel
theorem dX0_addBehind_46 : decode cX0_addBehind 46 = .ok (.getfield 15, 3) := by decide +kernel
theorem dX0_addBehind_49 : decode cX0_addBehind 49 = .ok (.iload 5, 2) := by decide +kernel
theorem dX0_addBehind_51 : decode cX0_addBehind 51 = .ok (.iconst 1, 1) := by decide +kernel
theorem dX0_addBehind_52 : decode cX0_addBehind 52 = .ok (.isub, 1) := by decide +kernel
theorem dX0_addBehind_53 : decode cX0_addBehind 53 = .ok (.invokevirtual 58, 3) := by decide +kernel
theorem dX0_addBehind_56 : decode cX0_addBehind 56 = .ok (.ifCond .ne 5, 3) := by decide +kernel
theorem dX0_addBehind_59 : decode cX0_addBehind 59 = .ok (.iconst 0, 1) := by decide +kernel
theorem dX0_addBehind_60 : decode cX0_addBehind 60 = .ok (.ireturn, 1) := by decide +kernel
theorem dX0_addBehind_61 : decode cX0_addBehind 61 = .ok (.aload_n 0, 1) := by decide +kernel
theorem dX0_addBehind_62 : decode cX0_addBehind 62 = .ok (.getfield 11, 3) := by decide +kernel
theorem dX0_addBehind_65 : decode cX0_addBehind 65 = .ok (.iload 4, 2) := by decide +kernel
theorem dX0_addBehind_67 : decode cX0_addBehind 67 = .ok (.aload_n 0, 1) := by decide +kernel
theorem dX0_addBehind_68 : decode cX0_addBehind 68 = .ok (.getfield 15, 3) := by decide +kernel
theorem dX0_addBehind_71 : decode cX0_addBehind 71 = .ok (.iload 5, 2) := by decide +kernel
theorem dX0_addBehind_73 : decode cX0_addBehind 73 = .ok (.iconst 1, 1) := by decide +kernel
theorem dX0_addBehind_74 : decode cX0_addBehind 74 = .ok (.isub, 1) := by decide +kernel
theorem dX0_addBehind_75 : decode cX0_addBehind 75 = .ok (.invokevirtual 62, 3) := by decide +kernel
theorem dX0_addBehind_78 : decode cX0_addBehind 78 = .ok (.iastore, 1) := by decide +kernel
theorem dX0_addBehind_79 : decode cX0_addBehind 79 = .ok (.aload_n 0, 1) := by decide +kernel
theorem dX0_addBehind_80 : decode cX0_addBehind 80 = .ok (.getfield 11, 3) := by decide +kernel
theorem dX0_addBehind_83 : decode cX0_addBehind 83 = .ok (.iload 4, 2) := by decide +kernel
theorem dX0_addBehind_85 : decode cX0_addBehind 85 = .ok (.iconst 1, 1) := by decide +kernel
theorem dX0_addBehind_86 : decode cX0_addBehind 86 = .ok (.iadd, 1) := by decide +kernel
theorem dX0_addBehind_87 : decode cX0_addBehind 87 = .ok (.iload 5, 2) := by decide +kernel
theorem dX0_addBehind_89 : decode cX0_addBehind 89 = .ok (.iastore, 1) := by decide +kernel
theorem dX0_addBehind_90 : decode cX0_addBehind 90 = .ok (.iconst 0, 1) := by decide +kernel
theorem dX0_addBehind_91 : decode cX0_addBehind 91 = .ok (.istore 6, 2) := by decide +kernel
theorem dX0_addBehind_93 : decode cX0_addBehind 93 = .ok (.iload 6, 2) := by decide +kernel
theorem dX0_addBehind_95 : decode cX0_addBehind 95 = .ok (.iconst 3, 1) := by decide +kernel
theorem dX0_addBehind_96 : decode cX0_addBehind 96 = .ok (.if_icmp .ge 83, 3) := by decide +kernel
theorem dX0_addBehind_99 : decode cX0_addBehind 99 = .ok (.aload_n 2, 1) := by decide +kernel
theorem dX0_addBehind_100 : decode cX0_addBehind 100 = .ok (.getfield 65, 3) := by decide +kernel
theorem dX0_addBehind_103 : decode cX0_addBehind 103 = .ok (.iload 6, 2) := by decide +kernel
theorem dX0_addBehind_105 : decode cX0_addBehind 105 = .ok (.iaload, 1) := by decide +kernel
theorem dX0_addBehind_106 : decode cX0_addBehind 106 = .ok (.istore 7, 2) := by decide +kernel
theorem dX0_addBehind_108 : decode cX0_addBehind 108 = .ok (.iload 7, 2) := by decide +kernel
theorem dX0_addBehind_110 : decode cX0_addBehind 110 = .ok (.ifCond .eq 20, 3) := by decide +kernel
theorem dX0_addBehind_113 : decode cX0_addBehind 113 = .ok (.aload_n 0, 1) := by decide +kernel
theorem dX0_addBehind_114 : decode cX0_addBehind 114 = .ok (.getfield 15, 3) := by decide +kernel
theorem dX0_addBehind_117 : decode cX0_addBehind 117 = .ok (.iload 5, 2) := by decide +kernel
theorem dX0_addBehind_119 : decode cX0_addBehind 119 = .ok (.iload 7, 2) := by decide +kernel
theorem dX0_addBehind_121 : decode cX0_addBehind 121 = .ok (.isub, 1) := by decide +kernel
theorem dX0_addBehind_122 : decode cX0_addBehind 122 = .ok (.invokevirtual 58, 3) := by decide +kernel
theorem dX0_addBehind_125 : decode cX0_addBehind 125 = .ok (.ifCond .ne 5, 3) := by decide +kernel
theorem dX0_addBehind_128 : decode cX0_addBehind 128 = .ok (.iconst 0, 1) := by decide +kernel
theorem dX0_addBehind_129 : decode cX0_addBehind 129 = .ok (.ireturn, 1) := by decide +kernel
theorem dX0_addBehind_130 : decode cX0_addBehind 130 = .ok (.aload_n 0, 1) := by decide +kernel
theorem dX0_addBehind_131 : decode cX0_addBehind 131 = .ok (.getfield 11, 3) := by decide +kernel
theorem dX0_addBehind_134 : decode cX0_addBehind 134 = .ok (.iload 4, 2) := by decide +kernel
theorem dX0_addBehind_136 : decode cX0_addBehind 136 = .ok (.iconst 2, 1) := by decide +kernel
theorem dX0_addBehind_137 : decode cX0_addBehind 137 = .ok (.iadd, 1) := by decide +kernel
theorem dX0_addBehind_138 : decode cX0_addBehind 138 = .ok (.iload 6, 2) := by decide +kernel
theorem dX0_addBehind_140 : decode cX0_addBehind 140 = .ok (.iadd, 1) := by decide +kernel
theorem dX0_addBehind_141 : decode cX0_addBehind 141 = .ok (.iload 7, 2) := by decide +kernel
theorem dX0_addBehind_143 : decode cX0_addBehind 143 = .ok (.ifCond .eq 18, 3) := by decide +kernel
theorem dX0_addBehind_146 : decode cX0_addBehind 146 = .ok (.aload_n 0, 1) := by decide +kernel
theorem dX0_addBehind_147 : decode cX0_addBehind 147 = .ok (.getfield 15, 3) := by decide +kernel
theorem dX0_addBehind_150 : decode cX0_addBehind 150 = .ok (.iload 5, 2) := by decide +kernel
theorem dX0_addBehind_152 : decode cX0_addBehind 152 = .ok (.iload 7, 2) := by decide +kernel
theorem dX0_addBehind_154 : decode cX0_addBehind 154 = .ok (.isub, 1) := by decide +kernel
theorem dX0_addBehind_155 : decode cX0_addBehind 155 = .ok (.invokevirtual 62, 3) := by decide +kernel
theorem dX0_addBehind_158 : decode cX0_addBehind 158 = .ok (.goto 14, 3) := by decide +kernel
theorem dX0_addBehind_161 : decode cX0_addBehind 161 = .ok (.aload_n 0, 1) := by decide +kernel
theorem dX0_addBehind_162 : decode cX0_addBehind 162 = .ok (.getfield 11, 3) := by decide +kernel
theorem dX0_addBehind_165 : decode cX0_addBehind 165 = .ok (.iload_n 3, 1) := by decide +kernel
theorem dX0_addBehind_166 : decode cX0_addBehind 166 = .ok (.iconst 2, 1) := by decide +kernel
theorem dX0_addBehind_167 : decode cX0_addBehind 167 = .ok (.iadd, 1) := by decide +kernel
theorem dX0_addBehind_168 : decode cX0_addBehind 168 = .ok (.iload 6, 2) := by decide +kernel
theorem dX0_addBehind_170 : decode cX0_addBehind 170 = .ok (.iadd, 1) := by decide +kernel
theorem dX0_addBehind_171 : decode cX0_addBehind 171 = .ok (.iaload, 1) := by decide +kernel
theorem dX0_addBehind_172 : decode cX0_addBehind 172 = .ok (.iastore, 1) := by decide +kernel
theorem dX0_addBehind_173 : decode cX0_addBehind 173 = .ok (.iinc 6 1, 3) := by decide +kernel
theorem dX0_addBehind_176 : decode cX0_addBehind 176 = .ok (.goto (-83), 3) := by decide +kernel
theorem dX0_addBehind_179 : decode cX0_addBehind 179 = .ok (.iconst 1, 1) := by decide +kernel
theorem dX0_addBehind_180 : decode cX0_addBehind 180 = .ok (.ireturn, 1) := by decide +kernel
theorem dX0_part_0 : decode cX0_part 0 = .ok (.iload_n 1, 1) := by decide +kernel
theorem dX0_part_1 : decode cX0_part 1 = .ok (.ifCond .lt 20, 3) := by decide +kernel
theorem dX0_part_4 : decode cX0_part 4 = .ok (.iload_n 1, 1) := by decide +kernel
theorem dX0_part_5 : decode cX0_part 5 = .ok (.aload_n 0, 1) := by decide +kernel
theorem dX0_part_6 : decode cX0_part 6 = .ok (.getfield 23, 3) := by decide +kernel
theorem dX0_part_9 : decode cX0_part 9 = .ok (.if_icmp .ge 12, 3) := by decide +kernel
theorem dX0_part_12 : decode cX0_part 12 = .ok (.iload_n 2, 1) := by decide +kernel
theorem dX0_part_13 : decode cX0_part 13 = .ok (.ifCond .lt 8, 3) := by decide +kernel
theorem dX0_part_16 : decode cX0_part 16 = .ok (.iload_n 2, 1) := by decide +kernel
theorem dX0_part_17 : decode cX0_part 17 = .ok (.iconst 5, 1) := by decide +kernel
theorem dX0_part_18 : decode cX0_part 18 = .ok (.if_icmp .lt 5, 3) := by decide +kernel
theorem dX0_part_21 : decode cX0_part 21 = .ok (.iconst (-1), 1) := by decide +kernel
theorem dX0_part_22 : decode cX0_part 22 = .ok (.ireturn, 1) := by decide +kernel
theorem dX0_part_23 : decode cX0_part 23 = .ok (.aload_n 0, 1) := by decide +kernel
theorem dX0_part_24 : decode cX0_part 24 = .ok (.getfield 11, 3) := by decide +kernel
theorem dX0_part_27 : decode cX0_part 27 = .ok (.iload_n 1, 1) := by decide +kernel
theorem dX0_part_28 : decode cX0_part 28 = .ok (.iconst 5, 1) := by decide +kernel
theorem dX0_part_29 : decode cX0_part 29 = .ok (.imul, 1) := by decide +kernel
theorem dX0_part_30 : decode cX0_part 30 = .ok (.iload_n 2, 1) := by decide +kernel
theorem dX0_part_31 : decode cX0_part 31 = .ok (.iadd, 1) := by decide +kernel
theorem dX0_part_32 : decode cX0_part 32 = .ok (.iaload, 1) := by decide +kernel
theorem dX0_part_33 : decode cX0_part 33 = .ok (.ireturn, 1) := by decide +kernel
theorem dX1_init_0 : decode cX1_init 0 = .ok (.aload_n 0, 1) := by decide +kernel
theorem dX1_init_1 : decode cX1_init 1 = .ok (.invokespecial 3, 3) := by decide +kernel
theorem dX1_init_4 : decode cX1_init 4 = .ok (.aload_n 0, 1) := by decide +kernel
theorem dX1_init_5 : decode cX1_init 5 = .ok (.bipush 97, 2) := by decide +kernel
theorem dX1_init_7 : decode cX1_init 7 = .ok (.newarray .int, 2) := by decide +kernel
theorem dX1_init_9 : decode cX1_init 9 = .ok (.putfield 9, 3) := by decide +kernel
theorem dX1_init_12 : decode cX1_init 12 = .ok (.aload_n 0, 1) := by decide +kernel
theorem dX1_init_13 : decode cX1_init 13 = .ok (.bipush 97, 2) := by decide +kernel
theorem dX1_init_15 : decode cX1_init 15 = .ok (.newarray .boolean, 2) := by decide +kernel
theorem dX1_init_17 : decode cX1_init 17 = .ok (.putfield 15, 3) := by decide +kernel
theorem dX1_init_20 : decode cX1_init 20 = .ok (.aload_n 0, 1) := by decide +kernel
theorem dX1_init_21 : decode cX1_init 21 = .ok (.sipush 485, 3) := by decide +kernel
theorem dX1_init_24 : decode cX1_init 24 = .ok (.newarray .int, 2) := by decide +kernel
theorem dX1_init_26 : decode cX1_init 26 = .ok (.putfield 19, 3) := by decide +kernel
theorem dX1_init_29 : decode cX1_init 29 = .ok (.aload_n 0, 1) := by decide +kernel
theorem dX1_init_30 : decode cX1_init 30 = .ok (.iconst 3, 1) := by decide +kernel
theorem dX1_init_31 : decode cX1_init 31 = .ok (.newarray .int, 2) := by decide +kernel
theorem dX1_init_33 : decode cX1_init 33 = .ok (.putfield 22, 3) := by decide +kernel
theorem dX1_init_36 : decode cX1_init 36 = .ok (.aload_n 0, 1) := by decide +kernel
theorem dX1_init_37 : decode cX1_init 37 = .ok (.aload_n 1, 1) := by decide +kernel
theorem dX1_init_38 : decode cX1_init 38 = .ok (.putfield 25, 3) := by decide +kernel
theorem dX1_init_41 : decode cX1_init 41 = .ok (.return_, 1) := by decide +kernel
theorem dX1_findOut_0 : decode cX1_findOut 0 = .ok (.aload_n 0, 1) := by decide +kernel
theorem dX1_findOut_1 : decode cX1_findOut 1 = .ok (.iload_n 1, 1) := by decide +kernel
theorem dX1_findOut_2 : decode cX1_findOut 2 = .ok (.putfield 29, 3) := by decide +kernel
theorem dX1_findOut_5 : decode cX1_findOut 5 = .ok (.aload_n 0, 1) := by decide +kernel
theorem dX1_findOut_6 : decode cX1_findOut 6 = .ok (.iload_n 2, 1) := by decide +kernel
theorem dX1_findOut_7 : decode cX1_findOut 7 = .ok (.putfield 33, 3) := by decide +kernel
theorem dX1_findOut_10 : decode cX1_findOut 10 = .ok (.aload_n 0, 1) := by decide +kernel
theorem dX1_findOut_11 : decode cX1_findOut 11 = .ok (.invokevirtual 36, 3) := by decide +kernel
theorem dX1_findOut_14 : decode cX1_findOut 14 = .ok (.aload_n 0, 1) := by decide +kernel
theorem dX1_findOut_15 : decode cX1_findOut 15 = .ok (.invokevirtual 39, 3) := by decide +kernel
theorem dX1_findOut_18 : decode cX1_findOut 18 = .ok (.aload_n 0, 1) := by decide +kernel
theorem dX1_findOut_19 : decode cX1_findOut 19 = .ok (.iconst 1, 1) := by decide +kernel
theorem dX1_findOut_20 : decode cX1_findOut 20 = .ok (.putfield 42, 3) := by decide +kernel
theorem dX1_findOut_23 : decode cX1_findOut 23 = .ok (.aload_n 0, 1) := by decide +kernel
theorem dX1_findOut_24 : decode cX1_findOut 24 = .ok (.iconst 0, 1) := by decide +kernel
theorem dX1_findOut_25 : decode cX1_findOut 25 = .ok (.putfield 45, 3) := by decide +kernel
theorem dX1_findOut_28 : decode cX1_findOut 28 = .ok (.iconst 0, 1) := by decide +kernel
theorem dX1_findOut_29 : decode cX1_findOut 29 = .ok (.istore_n 3, 1) := by decide +kernel
theorem dX1_findOut_30 : decode cX1_findOut 30 = .ok (.iload_n 3, 1) := by decide +kernel
theorem dX1_findOut_31 : decode cX1_findOut 31 = .ok (.iconst 3, 1) := by decide +kernel
theorem dX1_findOut_32 : decode cX1_findOut 32 = .ok (.if_icmp .ge 16, 3) := by decide +kernel
theorem dX1_findOut_35 : decode cX1_findOut 35 = .ok (.aload_n 0, 1) := by decide +kernel
theorem dX1_findOut_36 : decode cX1_findOut 36 = .ok (.getfield 22, 3) := by decide +kernel
theorem dX1_findOut_39 : decode cX1_findOut 39 = .ok (.iload_n 3, 1) := by decide +kernel
theorem dX1_findOut_40 : decode cX1_findOut 40 = .ok (.iconst 0, 1) := by decide +kernel
theorem dX1_findOut_41 : decode cX1_findOut 41 = .ok (.iastore, 1) := by decide +kernel
theorem dX1_findOut_42 : decode cX1_findOut 42 = .ok (.iinc 3 1, 3) := by decide +kernel
theorem dX1_findOut_45 : decode cX1_findOut 45 = .ok (.goto (-15), 3) := by decide +kernel
theorem dX1_findOut_48 : decode cX1_findOut 48 = .ok (.aload_n 0, 1) := by decide +kernel
theorem dX1_findOut_49 : decode cX1_findOut 49 = .ok (.aload_n 0, 1) := by decide +kernel
theorem dX1_findOut_50 : decode cX1_findOut 50 = .ok (.getfield 29, 3) := by decide +kernel
theorem dX1_findOut_53 : decode cX1_findOut 53 = .ok (.invokevirtual 48, 3) := by decide +kernel
theorem dX1_findOut_56 : decode cX1_findOut 56 = .ok (.istore_n 3, 1) := by decide +kernel
theorem dX1_findOut_57 : decode cX1_findOut 57 = .ok (.aload_n 0, 1) := by decide +kernel
theorem dX1_findOut_58 : decode cX1_findOut 58 = .ok (.invokevirtual 52, 3) := by decide +kernel
theorem dX1_findOut_61 : decode cX1_findOut 61 = .ok (.istore 4, 2) := by decide +kernel
theorem dX1_findOut_63 : decode cX1_findOut 63 = .ok (.iconst 0, 1) := by decide +kernel
theorem dX1_findOut_64 : decode cX1_findOut 64 = .ok (.istore 5, 2) := by decide +kernel
theorem dX1_findOut_66 : decode cX1_findOut 66 = .ok (.iload 5, 2) := by decide +kernel
theorem dX1_findOut_68 : decode cX1_findOut 68 = .ok (.bipush 96, 2) := by decide +kernel
theorem dX1_findOut_70 : decode cX1_findOut 70 = .ok (.if_icmp .gt 32, 3) := by decide +kernel
theorem dX1_findOut_73 : decode cX1_findOut 73 = .ok (.iload_n 3, 1) := by decide +kernel
theorem dX1_findOut_74 : decode cX1_findOut 74 = .ok (.ifCond .ne 28, 3) := by decide +kernel
theorem dX1_findOut_77 : decode cX1_findOut 77 = .ok (.iload 4, 2) := by decide +kernel
theorem dX1_findOut_79 : decode cX1_findOut 79 = .ok (.iconst (-1), 1) := by decide +kernel
theorem dX1_findOut_80 : decode cX1_findOut 80 = .ok (.if_icmp .eq 22, 3) := by decide +kernel
theorem dX1_findOut_83 : decode cX1_findOut 83 = .ok (.aload_n 0, 1) := by decide +kernel
theorem dX1_findOut_84 : decode cX1_findOut 84 = .ok (.iload 4, 2) := by decide +kernel
theorem dX1_findOut_86 : decode cX1_findOut 86 = .ok (.invokevirtual 56, 3) := by decide +kernel
theorem dX1_findOut_89 : decode cX1_findOut 89 = .ok (.istore_n 3, 1) := by decide +kernel
theorem dX1_findOut_90 : decode cX1_findOut 90 = .ok (.aload_n 0, 1) := by decide +kernel
theorem dX1_findOut_91 : decode cX1_findOut 91 = .ok (.invokevirtual 52, 3) := by decide +kernel
theorem dX1_findOut_94 : decode cX1_findOut 94 = .ok (.istore 4, 2) := by decide +kernel
theorem dX1_findOut_96 : decode cX1_findOut 96 = .ok (.iinc 5 1, 3) := by decide +kernel
theorem dX1_findOut_99 : decode cX1_findOut 99 = .ok (.goto (-33), 3) := by decide +kernel
theorem dX1_findOut_102 : decode cX1_findOut 102 = .ok (.iload_n 3, 1) := by decide +kernel
theorem dX1_findOut_103 : decode cX1_findOut 103 = .ok (.ireturn, 1) := by decide +kernel
theorem dX1_forget_0 : decode cX1_forget 0 = .ok (.aload_n 0, 1) := by decide +kernel
theorem dX1_forget_1 : decode cX1_forget 1 = .ok (.getfield 29, 3) := by decide +kernel
theorem dX1_forget_4 : decode cX1_forget 4 = .ok (.istore_n 1, 1) := by decide +kernel
theorem dX1_forget_5 : decode cX1_forget 5 = .ok (.iload_n 1, 1) := by decide +kernel
theorem dX1_forget_6 : decode cX1_forget 6 = .ok (.aload_n 0, 1) := by decide +kernel
theorem dX1_forget_7 : decode cX1_forget 7 = .ok (.getfield 33, 3) := by decide +kernel
theorem dX1_forget_10 : decode cX1_forget 10 = .ok (.if_icmp .gt 23, 3) := by decide +kernel
theorem dX1_forget_13 : decode cX1_forget 13 = .ok (.aload_n 0, 1) := by decide +kernel
theorem dX1_forget_14 : decode cX1_forget 14 = .ok (.getfield 9, 3) := by decide +kernel
theorem dX1_forget_17 : decode cX1_forget 17 = .ok (.iload_n 1, 1) := by decide +kernel
theorem dX1_forget_18 : decode cX1_forget 18 = .ok (.iconst 0, 1) := by decide +kernel
theorem dX1_forget_19 : decode cX1_forget 19 = .ok (.iastore, 1) := by decide +kernel
theorem dX1_forget_20 : decode cX1_forget 20 = .ok (.aload_n 0, 1) := by decide +kernel
theorem dX1_forget_21 : decode cX1_forget 21 = .ok (.getfield 15, 3) := by decide +kernel
theorem dX1_forget_24 : decode cX1_forget 24 = .ok (.iload_n 1, 1) := by decide +kernel
theorem dX1_forget_25 : decode cX1_forget 25 = .ok (.iconst 0, 1) := by decide +kernel
theorem dX1_forget_26 : decode cX1_forget 26 = .ok (.bastore, 1) := by decide +kernel
theorem dX1_forget_27 : decode cX1_forget 27 = .ok (.iinc 1 1, 3) := by decide +kernel
theorem dX1_forget_30 : decode cX1_forget 30 = .ok (.goto (-25), 3) := by decide +kernel
theorem dX1_forget_33 : decode cX1_forget 33 = .ok (.return_, 1) := by decide +kernel
theorem dX1_markBegins_0 : decode cX1_markBegins 0 = .ok (.aload_n 0, 1) := by decide +kernel
theorem dX1_markBegins_1 : decode cX1_markBegins 1 = .ok (.getfield 29, 3) := by decide +kernel
theorem dX1_markBegins_4 : decode cX1_markBegins 4 = .ok (.istore_n 1, 1) := by decide +kernel
theorem dX1_markBegins_5 : decode cX1_markBegins 5 = .ok (.iconst 1, 1) := by decide +kernel
theorem dX1_markBegins_6 : decode cX1_markBegins 6 = .ok (.istore_n 2, 1) := by decide +kernel
theorem dX1_markBegins_7 : decode cX1_markBegins 7 = .ok (.iload_n 1, 1) := by decide +kernel
theorem dX1_markBegins_8 : decode cX1_markBegins 8 = .ok (.aload_n 0, 1) := by decide +kernel
theorem dX1_markBegins_9 : decode cX1_markBegins 9 = .ok (.getfield 33, 3) := by decide +kernel
theorem dX1_markBegins_12 : decode cX1_markBegins 12 = .ok (.if_icmp .ge 34, 3) := by decide +kernel
theorem dX1_markBegins_15 : decode cX1_markBegins 15 = .ok (.iload_n 2, 1) := by decide +kernel
theorem dX1_markBegins_16 : decode cX1_markBegins 16 = .ok (.ifCond .le 30, 3) := by decide +kernel
theorem dX1_markBegins_19 : decode cX1_markBegins 19 = .ok (.aload_n 0, 1) := by decide +kernel
theorem dX1_markBegins_20 : decode cX1_markBegins 20 = .ok (.getfield 15, 3) := by decide +kernel
theorem dX1_markBegins_23 : decode cX1_markBegins 23 = .ok (.iload_n 1, 1) := by decide +kernel
theorem dX1_markBegins_24 : decode cX1_markBegins 24 = .ok (.iconst 1, 1) := by decide +kernel
theorem dX1_markBegins_25 : decode cX1_markBegins 25 = .ok (.bastore, 1) := by decide +kernel
theorem dX1_markBegins_26 : decode cX1_markBegins 26 = .ok (.aload_n 0, 1) := by decide +kernel
theorem dX1_markBegins_27 : decode cX1_markBegins 27 = .ok (.getfield 25, 3) := by decide +kernel
theorem dX1_markBegins_30 : decode cX1_markBegins 30 = .ok (.iload_n 1, 1) := by decide +kernel
theorem dX1_markBegins_31 : decode cX1_markBegins 31 = .ok (.aload_n 0, 1) := by decide +kernel
theorem dX1_markBegins_32 : decode cX1_markBegins 32 = .ok (.getfield 33, 3) := by decide +kernel
theorem dX1_markBegins_35 : decode cX1_markBegins 35 = .ok (.invokevirtual 59, 3) := by decide +kernel
theorem dX1_markBegins_38 : decode cX1_markBegins 38 = .ok (.istore_n 2, 1) := by decide +kernel
theorem dX1_markBegins_39 : decode cX1_markBegins 39 = .ok (.iload_n 1, 1) := by decide +kernel
theorem dX1_markBegins_40 : decode cX1_markBegins 40 = .ok (.iload_n 2, 1) := by decide +kernel
theorem dX1_markBegins_41 : decode cX1_markBegins 41 = .ok (.iadd, 1) := by decide +kernel
theorem dX1_markBegins_42 : decode cX1_markBegins 42 = .ok (.istore_n 1, 1) := by decide +kernel
theorem dX1_markBegins_43 : decode cX1_markBegins 43 = .ok (.goto (-36), 3) := by decide +kernel
theorem dX1_markBegins_46 : decode cX1_markBegins 46 = .ok (.return_, 1) := by decide +kernel
theorem dX1_lowestToLookAt_0 : decode cX1_lowestToLookAt 0 = .ok (.aload_n 0, 1) := by decide +kernel
theorem dX1_lowestToLookAt_1 : decode cX1_lowestToLookAt 1 = .ok (.getfield 29, 3) := by decide +kernel
theorem dX1_lowestToLookAt_4 : decode cX1_lowestToLookAt 4 = .ok (.istore_n 1, 1) := by decide +kernel
theorem dX1_lowestToLookAt_5 : decode cX1_lowestToLookAt 5 = .ok (.iload_n 1, 1) := by decide +kernel
theorem dX1_lowestToLookAt_6 : decode cX1_lowestToLookAt 6 = .ok (.aload_n 0, 1) := by decide +kernel
theorem dX1_lowestToLookAt_7 : decode cX1_lowestToLookAt 7 = .ok (.getfield 33, 3) := by decide +kernel
theorem dX1_lowestToLookAt_10 : decode cX1_lowestToLookAt 10 = .ok (.if_icmp .gt 21, 3) := by decide +kernel
theorem dX1_lowestToLookAt_13 : decode cX1_lowestToLookAt 13 = .ok (.aload_n 0, 1) := by decide +kernel
theorem dX1_lowestToLookAt_14 : decode cX1_lowestToLookAt 14 = .ok (.getfield 9, 3) := by decide +kernel
theorem dX1_lowestToLookAt_17 : decode cX1_lowestToLookAt 17 = .ok (.iload_n 1, 1) := by decide +kernel
theorem dX1_lowestToLookAt_18 : decode cX1_lowestToLookAt 18 = .ok (.iaload, 1) := by decide +kernel
theorem dX1_lowestToLookAt_19 : decode cX1_lowestToLookAt 19 = .ok (.iconst 1, 1) := by decide +kernel
theorem dX1_lowestToLookAt_20 : decode cX1_lowestToLookAt 20 = .ok (.if_icmp .ne 5, 3) := by decide +kernel
theorem dX1_lowestToLookAt_23 : decode cX1_lowestToLookAt 23 = .ok (.iload_n 1, 1) := by decide +kernel
theorem dX1_lowestToLookAt_24 : decode cX1_lowestToLookAt 24 = .ok (.ireturn, 1) := by decide +kernel
theorem dX1_lowestToLookAt_25 : decode cX1_lowestToLookAt 25 = .ok (.iinc 1 1, 3) := by decide +kernel
theorem dX1_lowestToLookAt_28 : decode cX1_lowestToLookAt 28 = .ok (.goto (-23), 3) := by decide +kernel
theorem dX1_lowestToLookAt_31 : decode cX1_lowestToLookAt 31 = .ok (.iconst (-1), 1) := by decide +kernel
theorem dX1_lowestToLookAt_32 : decode cX1_lowestToLookAt 32 = .ok (.ireturn, 1) := by decide +kernel
theorem dX1_lookAt_0 : decode cX1_lookAt 0 = .ok (.aload_n 0, 1) := by decide +kernel
theorem dX1_lookAt_1 : decode cX1_lookAt 1 = .ok (.getfield 9, 3) := by decide +kernel
theorem dX1_lookAt_4 : decode cX1_lookAt 4 = .ok (.iload_n 1, 1) := by decide +kernel
theorem dX1_lookAt_5 : decode cX1_lookAt 5 = .ok (.iconst 2, 1) := by decide +kernel
theorem dX1_lookAt_6 : decode cX1_lookAt 6 = .ok (.iastore, 1) := by decide +kernel
theorem dX1_lookAt_7 : decode cX1_lookAt 7 = .ok (.iload_n 1, 1) := by decide +kernel
theorem dX1_lookAt_8 : decode cX1_lookAt 8 = .ok (.aload_n 0, 1) := by decide +kernel
theorem dX1_lookAt_9 : decode cX1_lookAt 9 = .ok (.getfield 33, 3) := by decide +kernel
theorem dX1_lookAt_12 : decode cX1_lookAt 12 = .ok (.if_icmp .ne 9, 3) := by decide +kernel
theorem dX1_lookAt_15 : decode cX1_lookAt 15 = .ok (.sipush 200, 3) := by decide +kernel
theorem dX1_lookAt_18 : decode cX1_lookAt 18 = .ok (.iload_n 1, 1) := by decide +kernel
theorem dX1_lookAt_19 : decode cX1_lookAt 19 = .ok (.iadd, 1) := by decide +kernel
theorem dX1_lookAt_20 : decode cX1_lookAt 20 = .ok (.ireturn, 1) := by decide +kernel
theorem dX1_lookAt_21 : decode cX1_lookAt 21 = .ok (.aload_n 0, 1) := by decide +kernel
theorem dX1_lookAt_22 : decode cX1_lookAt 22 = .ok (.getfield 25, 3) := by decide +kernel
theorem dX1_lookAt_25 : decode cX1_lookAt 25 = .ok (.iload_n 1, 1) := by decide +kernel
theorem dX1_lookAt_26 : decode cX1_lookAt 26 = .ok (.aload_n 0, 1) := by decide +kernel
theorem dX1_lookAt_27 : decode cX1_lookAt 27 = .ok (.getfield 33, 3) := by decide +kernel
theorem dX1_lookAt_30 : decode cX1_lookAt 30 = .ok (.invokevirtual 59, 3) := by decide +kernel
theorem dX1_lookAt_33 : decode cX1_lookAt 33 = .ok (.istore_n 2, 1) := by decide +kernel
theorem dX1_lookAt_34 : decode cX1_lookAt 34 = .ok (.iload_n 2, 1) := by decide +kernel
theorem dX1_lookAt_35 : decode cX1_lookAt 35 = .ok (.ifCond .ne 8, 3) := by decide +kernel
theorem dX1_lookAt_38 : decode cX1_lookAt 38 = .ok (.bipush 100, 2) := by decide +kernel
theorem dX1_lookAt_40 : decode cX1_lookAt 40 = .ok (.iload_n 1, 1) := by decide +kernel
theorem dX1_lookAt_41 : decode cX1_lookAt 41 = .ok (.iadd, 1) := by decide +kernel
theorem dX1_lookAt_42 : decode cX1_lookAt 42 = .ok (.ireturn, 1) := by decide +kernel
theorem dX1_lookAt_43 : decode cX1_lookAt 43 = .ok (.aload_n 0, 1) := by decide +kernel
theorem dX1_lookAt_44 : decode cX1_lookAt 44 = .ok (.iload_n 1, 1) := by decide +kernel
theorem dX1_lookAt_45 : decode cX1_lookAt 45 = .ok (.invokevirtual 65, 3) := by decide +kernel
theorem dX1_lookAt_48 : decode cX1_lookAt 48 = .ok (.aload_n 0, 1) := by decide +kernel
theorem dX1_lookAt_49 : decode cX1_lookAt 49 = .ok (.getfield 25, 3) := by decide +kernel
theorem dX1_lookAt_52 : decode cX1_lookAt 52 = .ok (.iload_n 1, 1) := by decide +kernel
theorem dX1_lookAt_53 : decode cX1_lookAt 53 = .ok (.invokevirtual 69, 3) := by decide +kernel
theorem dX1_lookAt_56 : decode cX1_lookAt 56 = .ok (.istore_n 3, 1) := by decide +kernel
theorem dX1_lookAt_57 : decode cX1_lookAt 57 = .ok (.aload_n 0, 1) := by decide +kernel
theorem dX1_lookAt_58 : decode cX1_lookAt 58 = .ok (.getfield 25, 3) := by decide +kernel
theorem dX1_lookAt_61 : decode cX1_lookAt 61 = .ok (.iload_n 1, 1) := by decide +kernel
theorem dX1_lookAt_62 : decode cX1_lookAt 62 = .ok (.iconst 1, 1) := by decide +kernel
theorem dX1_lookAt_63 : decode cX1_lookAt 63 = .ok (.iadd, 1) := by decide +kernel
theorem dX1_lookAt_64 : decode cX1_lookAt 64 = .ok (.invokevirtual 69, 3) := by decide +kernel
theorem dX1_lookAt_67 : decode cX1_lookAt 67 = .ok (.istore 4, 2) := by decide +kernel
theorem dX1_lookAt_69 : decode cX1_lookAt 69 = .ok (.aload_n 0, 1) := by decide +kernel
theorem dX1_lookAt_70 : decode cX1_lookAt 70 = .ok (.iload_n 3, 1) := by decide +kernel
theorem dX1_lookAt_71 : decode cX1_lookAt 71 = .ok (.iload 4, 2) := by decide +kernel
theorem dX1_lookAt_73 : decode cX1_lookAt 73 = .ok (.aload_n 0, 1) := by decide +kernel
theorem dX1_lookAt_74 : decode cX1_lookAt 74 = .ok (.getfield 25, 3) := by decide +kernel
theorem dX1_lookAt_77 : decode cX1_lookAt 77 = .ok (.iload_n 1, 1) := by decide +kernel
theorem dX1_lookAt_78 : decode cX1_lookAt 78 = .ok (.iconst 2, 1) := by decide +kernel
theorem dX1_lookAt_79 : decode cX1_lookAt 79 = .ok (.iadd, 1) := by decide +kernel
theorem dX1_lookAt_80 : decode cX1_lookAt 80 = .ok (.invokevirtual 69, 3) := by decide +kernel
theorem dX1_lookAt_83 : decode cX1_lookAt 83 = .ok (.invokevirtual 72, 3) := by decide +kernel
theorem dX1_lookAt_86 : decode cX1_lookAt 86 = .ok (.istore 5, 2) := by decide +kernel
theorem dX1_lookAt_88 : decode cX1_lookAt 88 = .ok (.iload 5, 2) := by decide +kernel
theorem dX1_lookAt_90 : decode cX1_lookAt 90 = .ok (.ifCond .eq 11, 3) := by decide +kernel
theorem dX1_lookAt_93 : decode cX1_lookAt 93 = .ok (.bipush 100, 2) := by decide +kernel
theorem dX1_lookAt_95 : decode cX1_lookAt 95 = .ok (.iload 5, 2) := by decide +kernel
theorem dX1_lookAt_97 : decode cX1_lookAt 97 = .ok (.imul, 1) := by decide +kernel
theorem dX1_lookAt_98 : decode cX1_lookAt 98 = .ok (.iload_n 1, 1) := by decide +kernel
theorem dX1_lookAt_99 : decode cX1_lookAt 99 = .ok (.iadd, 1) := by decide +kernel
theorem dX1_lookAt_100 : decode cX1_lookAt 100 = .ok (.ireturn, 1) := by decide +kernel
theorem dX1_lookAt_101 : decode cX1_lookAt 101 = .ok (.iload_n 3, 1) := by decide +kernel
theorem dX1_lookAt_102 : decode cX1_lookAt 102 = .ok (.bipush 8, 2) := by decide +kernel
theorem dX1_lookAt_104 : decode cX1_lookAt 104 = .ok (.if_icmp .eq 9, 3) := by decide +kernel
theorem dX1_lookAt_107 : decode cX1_lookAt 107 = .ok (.iload_n 3, 1) := by decide +kernel
theorem dX1_lookAt_108 : decode cX1_lookAt 108 = .ok (.bipush 9, 2) := by decide +kernel
theorem dX1_lookAt_110 : decode cX1_lookAt 110 = .ok (.if_icmp .ne 7, 3) := by decide +kernel
theorem dX1_lookAt_113 : decode cX1_lookAt 113 = .ok (.iconst 0, 1) := by decide +kernel
theorem dX1_lookAt_114 : decode cX1_lookAt 114 = .ok (.goto 10, 3) := by decide +kernel
theorem dX1_lookAt_117 : decode cX1_lookAt 117 = .ok (.aload_n 0, 1) := by decide +kernel
theorem dX1_lookAt_118 : decode cX1_lookAt 118 = .ok (.iload_n 1, 1) := by decide +kernel
theorem dX1_lookAt_119 : decode cX1_lookAt 119 = .ok (.iload_n 2, 1) := by decide +kernel
theorem dX1_lookAt_120 : decode cX1_lookAt 120 = .ok (.iadd, 1) := by decide +kernel
theorem dX1_lookAt_121 : decode cX1_lookAt 121 = .ok (.invokevirtual 48, 3) := by decide +kernel
theorem dX1_lookAt_124 : decode cX1_lookAt 124 = .ok (.istore 6, 2) := by decide +kernel
theorem dX1_lookAt_126 : decode cX1_lookAt 126 = .ok (.iload_n 3, 1) := by decide +kernel
theorem dX1_lookAt_127 : decode cX1_lookAt 127 = .ok (.bipush 9, 2) := by decide +kernel
theorem dX1_lookAt_129 : decode cX1_lookAt 129 = .ok (.if_icmp .eq 9, 3) := by decide +kernel
theorem dX1_lookAt_132 : decode cX1_lookAt 132 = .ok (.iload_n 3, 1) := by decide +kernel
theorem dX1_lookAt_133 : decode cX1_lookAt 133 = .ok (.bipush 10, 2) := by decide +kernel
theorem dX1_lookAt_135 : decode cX1_lookAt 135 = .ok (.if_icmp .ne 16, 3) := by decide +kernel
theorem dX1_lookAt_138 : decode cX1_lookAt 138 = .ok (.aload_n 0, 1) := by decide +kernel
theorem dX1_lookAt_139 : decode cX1_lookAt 139 = .ok (.iload 4, 2) := by decide +kernel
theorem dX1_lookAt_141 : decode cX1_lookAt 141 = .ok (.invokevirtual 76, 3) := by decide +kernel
theorem dX1_lookAt_144 : decode cX1_lookAt 144 = .ok (.ifCond .eq 7, 3) := by decide +kernel
theorem dX1_lookAt_147 : decode cX1_lookAt 147 = .ok (.iconst 1, 1) := by decide +kernel
theorem dX1_lookAt_148 : decode cX1_lookAt 148 = .ok (.goto 4, 3) := by decide +kernel
theorem dX1_lookAt_151 : decode cX1_lookAt 151 = .ok (.iconst 0, 1) := by decide +kernel
theorem dX1_lookAt_152 : decode cX1_lookAt 152 = .ok (.istore 7, 2) := by decide +kernel
theorem dX1_lookAt_154 : decode cX1_lookAt 154 = .ok (.iload 6, 2) := by decide +kernel
theorem dX1_lookAt_156 : decode cX1_lookAt 156 = .ok (.ifCond .ne 17, 3) := by decide +kernel
theorem dX1_lookAt_159 : decode cX1_lookAt 159 = .ok (.iload 7, 2) := by decide +kernel
theorem dX1_lookAt_161 : decode cX1_lookAt 161 = .ok (.ifCond .eq 12, 3) := by decide +kernel
theorem dX1_lookAt_164 : decode cX1_lookAt 164 = .ok (.aload_n 0, 1) := by decide +kernel
theorem dX1_lookAt_165 : decode cX1_lookAt 165 = .ok (.iload 4, 2) := by decide +kernel
theorem dX1_lookAt_167 : decode cX1_lookAt 167 = .ok (.invokevirtual 48, 3) := by decide +kernel
theorem dX1_lookAt_170 : decode cX1_lookAt 170 = .ok (.goto 5, 3) := by decide +kernel
theorem dX1_lookAt_173 : decode cX1_lookAt 173 = .ok (.iload 6, 2) := by decide +kernel
theorem dX1_lookAt_175 : decode cX1_lookAt 175 = .ok (.ireturn, 1) := by decide +kernel
theorem dX1_inFunction_0 : decode cX1_inFunction 0 = .ok (.iload_n 1, 1) := by decide +kernel
theorem dX1_inFunction_1 : decode cX1_inFunction 1 = .ok (.aload_n 0, 1) := by decide +kernel
theorem dX1_inFunction_2 : decode cX1_inFunction 2 = .ok (.getfield 29, 3) := by decide +kernel
theorem dX1_inFunction_5 : decode cX1_inFunction 5 = .ok (.if_icmp .lt 15, 3) := by decide +kernel
theorem dX1_inFunction_8 : decode cX1_inFunction 8 = .ok (.iload_n 1, 1) := by decide +kernel
theorem dX1_inFunction_9 : decode cX1_inFunction 9 = .ok (.aload_n 0, 1) := by decide +kernel
theorem dX1_inFunction_10 : decode cX1_inFunction 10 = .ok (.getfield 33, 3) := by decide +kernel
theorem dX1_inFunction_13 : decode cX1_inFunction 13 = .ok (.if_icmp .ge 7, 3) := by decide +kernel
theorem dX1_inFunction_16 : decode cX1_inFunction 16 = .ok (.iconst 1, 1) := by decide +kernel
theorem dX1_inFunction_17 : decode cX1_inFunction 17 = .ok (.goto 4, 3) := by decide +kernel
theorem dX1_inFunction_20 : decode cX1_inFunction 20 = .ok (.iconst 0, 1) := by decide +kernel
theorem dX1_inFunction_21 : decode cX1_inFunction 21 = .ok (.ireturn, 1) := by decide +kernel
theorem dX1_recall_0 : decode cX1_recall 0 = .ok (.iload_n 1, 1) := by decide +kernel
theorem dX1_recall_1 : decode cX1_recall 1 = .ok (.iconst 5, 1) := by decide +kernel
theorem dX1_recall_2 : decode cX1_recall 2 = .ok (.imul, 1) := by decide +kernel
theorem dX1_recall_3 : decode cX1_recall 3 = .ok (.istore_n 2, 1) := by decide +kernel
theorem dX1_recall_4 : decode cX1_recall 4 = .ok (.aload_n 0, 1) := by decide +kernel
theorem dX1_recall_5 : decode cX1_recall 5 = .ok (.aload_n 0, 1) := by decide +kernel
theorem dX1_recall_6 : decode cX1_recall 6 = .ok (.getfield 19, 3) := by decide +kernel
theorem dX1_recall_9 : decode cX1_recall 9 = .ok (.iload_n 2, 1) := by decide +kernel
theorem dX1_recall_10 : decode cX1_recall 10 = .ok (.iaload, 1) := by decide +kernel
theorem dX1_recall_11 : decode cX1_recall 11 = .ok (.putfield 42, 3) := by decide +kernel
theorem dX1_recall_14 : decode cX1_recall 14 = .ok (.aload_n 0, 1) := by decide +kernel
theorem dX1_recall_15 : decode cX1_recall 15 = .ok (.aload_n 0, 1) := by decide +kernel
theorem dX1_recall_16 : decode cX1_recall 16 = .ok (.getfield 19, 3) := by decide +kernel
theorem dX1_recall_19 : decode cX1_recall 19 = .ok (.iload_n 2, 1) := by decide +kernel
theorem dX1_recall_20 : decode cX1_recall 20 = .ok (.iconst 1, 1) := by decide +kernel
theorem dX1_recall_21 : decode cX1_recall 21 = .ok (.iadd, 1) := by decide +kernel
theorem dX1_recall_22 : decode cX1_recall 22 = .ok (.iaload, 1) := by decide +kernel
theorem dX1_recall_23 : decode cX1_recall 23 = .ok (.putfield 45, 3) := by decide +kernel
theorem dX1_recall_26 : decode cX1_recall 26 = .ok (.iconst 0, 1) := by decide +kernel
theorem dX1_recall_27 : decode cX1_recall 27 = .ok (.istore_n 3, 1) := by decide +kernel
theorem dX1_recall_28 : decode cX1_recall 28 = .ok (.iload_n 3, 1) := by decide +kernel
theorem dX1_recall_29 : decode cX1_recall 29 = .ok (.iconst 3, 1) := by decide +kernel
theorem dX1_recall_30 : decode cX1_recall 30 = .ok (.if_icmp .ge 25, 3) := by decide +kernel
theorem dX1_recall_33 : decode cX1_recall 33 = .ok (.aload_n 0, 1) := by decide +kernel
theorem dX1_recall_34 : decode cX1_recall 34 = .ok (.getfield 22, 3) := by decide +kernel
theorem dX1_recall_37 : decode cX1_recall 37 = .ok (.iload_n 3, 1) := by decide +kernel
theorem dX1_recall_38 : decode cX1_recall 38 = .ok (.aload_n 0, 1) := by decide +kernel
theorem dX1_recall_39 : decode cX1_recall 39 = .ok (.getfield 19, 3) := by decide +kernel
theorem dX1_recall_42 : decode cX1_recall 42 = .ok (.iload_n 2, 1) := by decide +kernel
theorem dX1_recall_43 : decode cX1_recall 43 = .ok (.iconst 2, 1) := by decide +kernel
theorem dX1_recall_44 : decode cX1_recall 44 = .ok (.iadd, 1) := by decide +kernel
theorem dX1_recall_45 : decode cX1_recall 45 = .ok (.iload_n 3, 1) := by decide +kernel
theorem dX1_recall_46 : decode cX1_recall 46 = .ok (.iadd, 1) := by decide +kernel
theorem dX1_recall_47 : decode cX1_recall 47 = .ok (.iaload, 1) := by decide +kernel
theorem dX1_recall_48 : decode cX1_recall 48 = .ok (.iastore, 1) := by decide +kernel
theorem dX1_recall_49 : decode cX1_recall 49 = .ok (.iinc 3 1, 3) := by decide +kernel
theorem dX1_recall_52 : decode cX1_recall 52 = .ok (.goto (-24), 3) := by decide +kernel
theorem dX1_recall_55 : decode cX1_recall 55 = .ok (.return_, 1) := by decide +kernel
theorem dX1_learn_0 : decode cX1_learn 0 = .ok (.aload_n 0, 1) := by decide +kernel
theorem dX1_learn_1 : decode cX1_learn 1 = .ok (.getfield 9, 3) := by decide +kernel
theorem dX1_learn_4 : decode cX1_learn 4 = .ok (.iload_n 1, 1) := by decide +kernel
theorem dX1_learn_5 : decode cX1_learn 5 = .ok (.iaload, 1) := by decide +kernel
theorem dX1_learn_6 : decode cX1_learn 6 = .ok (.ifCond .eq 21, 3) := by decide +kernel
theorem dX1_learn_9 : decode cX1_learn 9 = .ok (.aload_n 0, 1) := by decide +kernel
theorem dX1_learn_10 : decode cX1_learn 10 = .ok (.iload_n 1, 1) := by decide +kernel
theorem dX1_learn_11 : decode cX1_learn 11 = .ok (.invokevirtual 80, 3) := by decide +kernel
theorem dX1_learn_14 : decode cX1_learn 14 = .ok (.ifCond .eq 7, 3) := by decide +kernel
theorem dX1_learn_17 : decode cX1_learn 17 = .ok (.iconst 0, 1) := by decide +kernel
theorem dX1_learn_18 : decode cX1_learn 18 = .ok (.goto 8, 3) := by decide +kernel
theorem dX1_learn_21 : decode cX1_learn 21 = .ok (.sipush 700, 3) := by decide +kernel
theorem dX1_learn_24 : decode cX1_learn 24 = .ok (.iload_n 1, 1) := by decide +kernel
theorem dX1_learn_25 : decode cX1_learn 25 = .ok (.iadd, 1) := by decide +kernel
theorem dX1_learn_26 : decode cX1_learn 26 = .ok (.ireturn, 1) := by decide +kernel
theorem dX1_learn_27 : decode cX1_learn 27 = .ok (.iload_n 1, 1) := by decide +kernel
theorem dX1_learn_28 : decode cX1_learn 28 = .ok (.iconst 5, 1) := by decide +kernel
theorem dX1_learn_29 : decode cX1_learn 29 = .ok (.imul, 1) := by decide +kernel
theorem dX1_learn_30 : decode cX1_learn 30 = .ok (.istore_n 2, 1) := by decide +kernel
theorem dX1_learn_31 : decode cX1_learn 31 = .ok (.aload_n 0, 1) := by decide +kernel
theorem dX1_learn_32 : decode cX1_learn 32 = .ok (.getfield 9, 3) := by decide +kernel
theorem dX1_learn_35 : decode cX1_learn 35 = .ok (.iload_n 1, 1) := by decide +kernel
theorem dX1_learn_36 : decode cX1_learn 36 = .ok (.iconst 1, 1) := by decide +kernel
theorem dX1_learn_37 : decode cX1_learn 37 = .ok (.iastore, 1) := by decide +kernel
theorem dX1_learn_38 : decode cX1_learn 38 = .ok (.aload_n 0, 1) := by decide +kernel
theorem dX1_learn_39 : decode cX1_learn 39 = .ok (.getfield 19, 3) := by decide +kernel
theorem dX1_learn_42 : decode cX1_learn 42 = .ok (.iload_n 2, 1) := by decide +kernel
theorem dX1_learn_43 : decode cX1_learn 43 = .ok (.aload_n 0, 1) := by decide +kernel
theorem dX1_learn_44 : decode cX1_learn 44 = .ok (.getfield 42, 3) := by decide +kernel
theorem dX1_learn_47 : decode cX1_learn 47 = .ok (.iastore, 1) := by decide +kernel
theorem dX1_learn_48 : decode cX1_learn 48 = .ok (.aload_n 0, 1) := by decide +kernel
theorem dX1_learn_49 : decode cX1_learn 49 = .ok (.getfield 19, 3) := by decide +kernel
theorem dX1_learn_52 : decode cX1_learn 52 = .ok (.iload_n 2, 1) := by decide +kernel
theorem dX1_learn_53 : decode cX1_learn 53 = .ok (.iconst 1, 1) := by decide +kernel
theorem dX1_learn_54 : decode cX1_learn 54 = .ok (.iadd, 1) := by decide +kernel
theorem dX1_learn_55 : decode cX1_learn 55 = .ok (.aload_n 0, 1) := by decide +kernel
theorem dX1_learn_56 : decode cX1_learn 56 = .ok (.getfield 45, 3) := by decide +kernel
theorem dX1_learn_59 : decode cX1_learn 59 = .ok (.iastore, 1) := by decide +kernel
theorem dX1_learn_60 : decode cX1_learn 60 = .ok (.iconst 0, 1) := by decide +kernel
theorem dX1_learn_61 : decode cX1_learn 61 = .ok (.istore_n 3, 1) := by decide +kernel
theorem dX1_learn_62 : decode cX1_learn 62 = .ok (.iload_n 3, 1) := by decide +kernel
theorem dX1_learn_63 : decode cX1_learn 63 = .ok (.iconst 3, 1) := by decide +kernel
theorem dX1_learn_64 : decode cX1_learn 64 = .ok (.if_icmp .ge 25, 3) := by decide +kernel
theorem dX1_learn_67 : decode cX1_learn 67 = .ok (.aload_n 0, 1) := by decide +kernel
theorem dX1_learn_68 : decode cX1_learn 68 = .ok (.getfield 19, 3) := by decide +kernel
theorem dX1_learn_71 : decode cX1_learn 71 = .ok (.iload_n 2, 1) := by decide +kernel
theorem dX1_learn_72 : decode cX1_learn 72 = .ok (.iconst 2, 1) := by decide +kernel
theorem dX1_learn_73 : decode cX1_learn 73 = .ok (.iadd, 1) := by decide +kernel
theorem dX1_learn_74 : decode cX1_learn 74 = .ok (.iload_n 3, 1) := by decide +kernel
theorem dX1_learn_75 : decode cX1_learn 75 = .ok (.iadd, 1) := by decide +kernel
theorem dX1_learn_76 : decode cX1_learn 76 = .ok (.aload_n 0, 1) := by decide +kernel
theorem dX1_learn_77 : decode cX1_learn 77 = .ok (.getfield 22, 3) := by decide +kernel
theorem dX1_learn_80 : decode cX1_learn 80 = .ok (.iload_n 3, 1) := by decide +kernel
theorem dX1_learn_81 : decode cX1_learn 81 = .ok (.iaload, 1) := by decide +kernel
theorem dX1_learn_82 : decode cX1_learn 82 = .ok (.iastore, 1) := by decide +kernel
theorem dX1_learn_83 : decode cX1_learn 83 = .ok (.iinc 3 1, 3) := by decide +kernel
theorem dX1_learn_86 : decode cX1_learn 86 = .ok (.goto (-24), 3) := by decide +kernel
theorem dX1_learn_89 : decode cX1_learn 89 = .ok (.iconst 0, 1) := by decide +kernel
theorem dX1_learn_90 : decode cX1_learn 90 = .ok (.ireturn, 1) := by decide +kernel
theorem dX1_isKnown_0 : decode cX1_isKnown 0 = .ok (.iload_n 1, 1) := by decide +kernel
theorem dX1_isKnown_1 : decode cX1_isKnown 1 = .ok (.iconst 5, 1) := by decide +kernel
theorem dX1_isKnown_2 : decode cX1_isKnown 2 = .ok (.imul, 1) := by decide +kernel
theorem dX1_isKnown_3 : decode cX1_isKnown 3 = .ok (.istore_n 2, 1) := by decide +kernel
theorem dX1_isKnown_4 : decode cX1_isKnown 4 = .ok (.aload_n 0, 1) := by decide +kernel
theorem dX1_isKnown_5 : decode cX1_isKnown 5 = .ok (.getfield 19, 3) := by decide +kernel
theorem dX1_isKnown_8 : decode cX1_isKnown 8 = .ok (.iload_n 2, 1) := by decide +kernel
theorem dX1_isKnown_9 : decode cX1_isKnown 9 = .ok (.iaload, 1) := by decide +kernel
theorem dX1_isKnown_10 : decode cX1_isKnown 10 = .ok (.aload_n 0, 1) := by decide +kernel
theorem dX1_isKnown_11 : decode cX1_isKnown 11 = .ok (.getfield 42, 3) := by decide +kernel
theorem dX1_isKnown_14 : decode cX1_isKnown 14 = .ok (.if_icmp .ne 22, 3) := by decide +kernel
theorem dX1_isKnown_17 : decode cX1_isKnown 17 = .ok (.aload_n 0, 1) := by decide +kernel
theorem dX1_isKnown_18 : decode cX1_isKnown 18 = .ok (.getfield 19, 3) := by decide +kernel
theorem dX1_isKnown_21 : decode cX1_isKnown 21 = .ok (.iload_n 2, 1) := by decide +kernel
theorem dX1_isKnown_22 : decode cX1_isKnown 22 = .ok (.iconst 1, 1) := by decide +kernel
theorem dX1_isKnown_23 : decode cX1_isKnown 23 = .ok (.iadd, 1) := by decide +kernel
theorem dX1_isKnown_24 : decode cX1_isKnown 24 = .ok (.iaload, 1) := by decide +kernel
theorem dX1_isKnown_25 : decode cX1_isKnown 25 = .ok (.aload_n 0, 1) := by decide +kernel
theorem dX1_isKnown_26 : decode cX1_isKnown 26 = .ok (.getfield 45, 3) := by decide +kernel
theorem dX1_isKnown_29 : decode cX1_isKnown 29 = .ok (.if_icmp .ne 7, 3) := by decide +kernel
theorem dX1_isKnown_32 : decode cX1_isKnown 32 = .ok (.iconst 1, 1) := by decide +kernel
theorem dX1_isKnown_33 : decode cX1_isKnown 33 = .ok (.goto 4, 3) := by decide +kernel
theorem dX1_isKnown_36 : decode cX1_isKnown 36 = .ok (.iconst 0, 1) := by decide +kernel
theorem dX1_isKnown_37 : decode cX1_isKnown 37 = .ok (.istore_n 3, 1) := by decide +kernel
theorem dX1_isKnown_38 : decode cX1_isKnown 38 = .ok (.iconst 0, 1) := by decide +kernel
theorem dX1_isKnown_39 : decode cX1_isKnown 39 = .ok (.istore 4, 2) := by decide +kernel
theorem dX1_isKnown_41 : decode cX1_isKnown 41 = .ok (.iload 4, 2) := by decide +kernel
theorem dX1_isKnown_43 : decode cX1_isKnown 43 = .ok (.iconst 3, 1) := by decide +kernel
theorem dX1_isKnown_44 : decode cX1_isKnown 44 = .ok (.if_icmp .ge 40, 3) := by decide +kernel
theorem dX1_isKnown_47 : decode cX1_isKnown 47 = .ok (.iload_n 3, 1) := by decide +kernel
theorem dX1_isKnown_48 : decode cX1_isKnown 48 = .ok (.ifCond .eq 28, 3) := by decide +kernel
theorem dX1_isKnown_51 : decode cX1_isKnown 51 = .ok (.aload_n 0, 1) := by decide +kernel
theorem dX1_isKnown_52 : decode cX1_isKnown 52 = .ok (.getfield 19, 3) := by decide +kernel
theorem dX1_isKnown_55 : decode cX1_isKnown 55 = .ok (.iload_n 2, 1) := by decide +kernel
theorem dX1_isKnown_56 : decode cX1_isKnown 56 = .ok (.iconst 2, 1) := by decide +kernel
theorem dX1_isKnown_57 : decode cX1_isKnown 57 = .ok (.iadd, 1) := by decide +kernel
theorem dX1_isKnown_58 : decode cX1_isKnown 58 = .ok (.iload 4, 2) := by decide +kernel
theorem dX1_isKnown_60 : decode cX1_isKnown 60 = .ok (.iadd, 1) := by decide +kernel
theorem dX1_isKnown_61 : decode cX1_isKnown 61 = .ok (.iaload, 1) := by decide +kernel
theorem dX1_isKnown_62 : decode cX1_isKnown 62 = .ok (.aload_n 0, 1) := by decide +kernel
theorem dX1_isKnown_63 : decode cX1_isKnown 63 = .ok (.getfield 22, 3) := by decide +kernel
theorem dX1_isKnown_66 : decode cX1_isKnown 66 = .ok (.iload 4, 2) := by decide +kernel
theorem dX1_isKnown_68 : decode cX1_isKnown 68 = .ok (.iaload, 1) := by decide +kernel
theorem dX1_isKnown_69 : decode cX1_isKnown 69 = .ok (.if_icmp .ne 7, 3) := by decide +kernel
theorem dX1_isKnown_72 : decode cX1_isKnown 72 = .ok (.iconst 1, 1) := by decide +kernel
theorem dX1_isKnown_73 : decode cX1_isKnown 73 = .ok (.goto 4, 3) := by decide +kernel
theorem dX1_isKnown_76 : decode cX1_isKnown 76 = .ok (.iconst 0, 1) := by decide +kernel
theorem dX1_isKnown_77 : decode cX1_isKnown 77 = .ok (.istore_n 3, 1) := by decide +kernel
theorem dX1_isKnown_78 : decode cX1_isKnown 78 = .ok (.iinc 4 1, 3) := by decide +kernel
theorem dX1_isKnown_81 : decode cX1_isKnown 81 = .ok (.goto (-40), 3) := by decide +kernel
theorem dX1_isKnown_84 : decode cX1_isKnown 84 = .ok (.iload_n 3, 1) := by decide +kernel
theorem dX1_isKnown_85 : decode cX1_isKnown 85 = .ok (.ireturn, 1) := by decide +kernel
theorem dX1_effect_0 : decode cX1_effect 0 = .ok (.iload_n 1, 1) := by decide +kernel
theorem dX1_effect_1 : decode cX1_effect 1 = .ok (.tableswitch 214 1 15 #[75, 81, 87, 93, 99, 104, 109, 126, 140, 146, 169, 214, 214, 175, 187], 75) := by decide +kernel
theorem dX1_effect_76 : decode cX1_effect 76 = .ok (.aload_n 0, 1) := by decide +kernel
theorem dX1_effect_77 : decode cX1_effect 77 = .ok (.iload_n 2, 1) := by decide +kernel
theorem dX1_effect_78 : decode cX1_effect 78 = .ok (.invokevirtual 83, 3) := by decide +kernel
theorem dX1_effect_81 : decode cX1_effect 81 = .ok (.ireturn, 1) := by decide +kernel
theorem dX1_effect_82 : decode cX1_effect 82 = .ok (.aload_n 0, 1) := by decide +kernel
theorem dX1_effect_83 : decode cX1_effect 83 = .ok (.iload_n 2, 1) := by decide +kernel
theorem dX1_effect_84 : decode cX1_effect 84 = .ok (.invokevirtual 86, 3) := by decide +kernel
theorem dX1_effect_87 : decode cX1_effect 87 = .ok (.ireturn, 1) := by decide +kernel
theorem dX1_effect_88 : decode cX1_effect 88 = .ok (.aload_n 0, 1) := by decide +kernel
theorem dX1_effect_89 : decode cX1_effect 89 = .ok (.iload_n 2, 1) := by decide +kernel
theorem dX1_effect_90 : decode cX1_effect 90 = .ok (.invokevirtual 89, 3) := by decide +kernel
theorem dX1_effect_93 : decode cX1_effect 93 = .ok (.ireturn, 1) := by decide +kernel
theorem dX1_effect_94 : decode cX1_effect 94 = .ok (.aload_n 0, 1) := by decide +kernel
theorem dX1_effect_95 : decode cX1_effect 95 = .ok (.iload_n 2, 1) := by decide +kernel
theorem dX1_effect_96 : decode cX1_effect 96 = .ok (.invokevirtual 92, 3) := by decide +kernel
theorem dX1_effect_99 : decode cX1_effect 99 = .ok (.ireturn, 1) := by decide +kernel
theorem dX1_effect_100 : decode cX1_effect 100 = .ok (.aload_n 0, 1) := by decide +kernel
theorem dX1_effect_101 : decode cX1_effect 101 = .ok (.invokevirtual 95, 3) := by decide +kernel
theorem dX1_effect_104 : decode cX1_effect 104 = .ok (.ireturn, 1) := by decide +kernel
theorem dX1_effect_105 : decode cX1_effect 105 = .ok (.aload_n 0, 1) := by decide +kernel
theorem dX1_effect_106 : decode cX1_effect 106 = .ok (.invokevirtual 98, 3) := by decide +kernel
theorem dX1_effect_109 : decode cX1_effect 109 = .ok (.ireturn, 1) := by decide +kernel
theorem dX1_effect_110 : decode cX1_effect 110 = .ok (.aload_n 0, 1) := by decide +kernel
theorem dX1_effect_111 : decode cX1_effect 111 = .ok (.getfield 25, 3) := by decide +kernel
theorem dX1_effect_114 : decode cX1_effect 114 = .ok (.iload_n 2, 1) := by decide +kernel
theorem dX1_effect_115 : decode cX1_effect 115 = .ok (.invokevirtual 101, 3) := by decide +kernel
theorem dX1_effect_118 : decode cX1_effect 118 = .ok (.ifCond .eq 7, 3) := by decide +kernel
theorem dX1_effect_121 : decode cX1_effect 121 = .ok (.iconst 0, 1) := by decide +kernel
theorem dX1_effect_122 : decode cX1_effect 122 = .ok (.goto 4, 3) := by decide +kernel
theorem dX1_effect_125 : decode cX1_effect 125 = .ok (.iconst 3, 1) := by decide +kernel
theorem dX1_effect_126 : decode cX1_effect 126 = .ok (.ireturn, 1) := by decide +kernel
theorem dX1_effect_127 : decode cX1_effect 127 = .ok (.aload_n 0, 1) := by decide +kernel
theorem dX1_effect_128 : decode cX1_effect 128 = .ok (.invokevirtual 104, 3) := by decide +kernel
theorem dX1_effect_131 : decode cX1_effect 131 = .ok (.ifCond .eq 7, 3) := by decide +kernel
theorem dX1_effect_134 : decode cX1_effect 134 = .ok (.iconst 0, 1) := by decide +kernel
theorem dX1_effect_135 : decode cX1_effect 135 = .ok (.goto 5, 3) := by decide +kernel
theorem dX1_effect_138 : decode cX1_effect 138 = .ok (.bipush 6, 2) := by decide +kernel
theorem dX1_effect_140 : decode cX1_effect 140 = .ok (.ireturn, 1) := by decide +kernel
theorem dX1_effect_141 : decode cX1_effect 141 = .ok (.aload_n 0, 1) := by decide +kernel
theorem dX1_effect_142 : decode cX1_effect 142 = .ok (.iload_n 2, 1) := by decide +kernel
theorem dX1_effect_143 : decode cX1_effect 143 = .ok (.invokevirtual 108, 3) := by decide +kernel
theorem dX1_effect_146 : decode cX1_effect 146 = .ok (.ireturn, 1) := by decide +kernel
theorem dX1_effect_147 : decode cX1_effect 147 = .ok (.aload_n 0, 1) := by decide +kernel
theorem dX1_effect_148 : decode cX1_effect 148 = .ok (.iload_n 2, 1) := by decide +kernel
theorem dX1_effect_149 : decode cX1_effect 149 = .ok (.invokevirtual 76, 3) := by decide +kernel
theorem dX1_effect_152 : decode cX1_effect 152 = .ok (.ifCond .eq 16, 3) := by decide +kernel
theorem dX1_effect_155 : decode cX1_effect 155 = .ok (.aload_n 0, 1) := by decide +kernel
theorem dX1_effect_156 : decode cX1_effect 156 = .ok (.getfield 15, 3) := by decide +kernel
theorem dX1_effect_159 : decode cX1_effect 159 = .ok (.iload_n 2, 1) := by decide +kernel
theorem dX1_effect_160 : decode cX1_effect 160 = .ok (.baload, 1) := by decide +kernel
theorem dX1_effect_161 : decode cX1_effect 161 = .ok (.ifCond .eq 7, 3) := by decide +kernel
theorem dX1_effect_164 : decode cX1_effect 164 = .ok (.iconst 0, 1) := by decide +kernel
theorem dX1_effect_165 : decode cX1_effect 165 = .ok (.goto 4, 3) := by decide +kernel
theorem dX1_effect_168 : decode cX1_effect 168 = .ok (.iconst 3, 1) := by decide +kernel
theorem dX1_effect_169 : decode cX1_effect 169 = .ok (.ireturn, 1) := by decide +kernel
theorem dX1_effect_170 : decode cX1_effect 170 = .ok (.aload_n 0, 1) := by decide +kernel
theorem dX1_effect_171 : decode cX1_effect 171 = .ok (.iload_n 2, 1) := by decide +kernel
theorem dX1_effect_172 : decode cX1_effect 172 = .ok (.invokevirtual 111, 3) := by decide +kernel
theorem dX1_effect_175 : decode cX1_effect 175 = .ok (.ireturn, 1) := by decide +kernel
theorem dX1_effect_176 : decode cX1_effect 176 = .ok (.aload_n 0, 1) := by decide +kernel
theorem dX1_effect_177 : decode cX1_effect 177 = .ok (.iload_n 2, 1) := by decide +kernel
theorem dX1_effect_178 : decode cX1_effect 178 = .ok (.aload_n 0, 1) := by decide +kernel
theorem dX1_effect_179 : decode cX1_effect 179 = .ok (.getfield 42, 3) := by decide +kernel
theorem dX1_effect_182 : decode cX1_effect 182 = .ok (.iload_n 3, 1) := by decide +kernel
theorem dX1_effect_183 : decode cX1_effect 183 = .ok (.isub, 1) := by decide +kernel
theorem dX1_effect_184 : decode cX1_effect 184 = .ok (.invokevirtual 114, 3) := by decide +kernel
theorem dX1_effect_187 : decode cX1_effect 187 = .ok (.ireturn, 1) := by decide +kernel
theorem dX1_effect_188 : decode cX1_effect 188 = .ok (.iload_n 3, 1) := by decide +kernel
theorem dX1_effect_189 : decode cX1_effect 189 = .ok (.aload_n 0, 1) := by decide +kernel
theorem dX1_effect_190 : decode cX1_effect 190 = .ok (.getfield 42, 3) := by decide +kernel
theorem dX1_effect_193 : decode cX1_effect 193 = .ok (.iconst 1, 1) := by decide +kernel
theorem dX1_effect_194 : decode cX1_effect 194 = .ok (.isub, 1) := by decide +kernel
theorem dX1_effect_195 : decode cX1_effect 195 = .ok (.if_icmp .ge 17, 3) := by decide +kernel
theorem dX1_effect_198 : decode cX1_effect 198 = .ok (.aload_n 0, 1) := by decide +kernel
theorem dX1_effect_199 : decode cX1_effect 199 = .ok (.iload_n 2, 1) := by decide +kernel
theorem dX1_effect_200 : decode cX1_effect 200 = .ok (.aload_n 0, 1) := by decide +kernel
theorem dX1_effect_201 : decode cX1_effect 201 = .ok (.getfield 42, 3) := by decide +kernel
theorem dX1_effect_204 : decode cX1_effect 204 = .ok (.iload_n 3, 1) := by decide +kernel
theorem dX1_effect_205 : decode cX1_effect 205 = .ok (.isub, 1) := by decide +kernel
theorem dX1_effect_206 : decode cX1_effect 206 = .ok (.invokevirtual 117, 3) := by decide +kernel
theorem dX1_effect_209 : decode cX1_effect 209 = .ok (.goto 5, 3) := by decide +kernel
theorem dX1_effect_212 : decode cX1_effect 212 = .ok (.bipush 8, 2) := by decide +kernel
theorem dX1_effect_214 : decode cX1_effect 214 = .ok (.ireturn, 1) := by decide +kernel
theorem dX1_effect_215 : decode cX1_effect 215 = .ok (.iconst 0, 1) := by decide +kernel
theorem dX1_effect_216 : decode cX1_effect 216 = .ok (.ireturn, 1) := by decide +kernel
theorem dX1_pushRegister_0 : decode cX1_pushRegister 0 = .ok (.aload_n 0, 1) := by decide +kernel
theorem dX1_pushRegister_1 : decode cX1_pushRegister 1 = .ok (.iconst 1, 1) := by decide +kernel
theorem dX1_pushRegister_2 : decode cX1_pushRegister 2 = .ok (.invokevirtual 89, 3) := by decide +kernel
theorem dX1_pushRegister_5 : decode cX1_pushRegister 5 = .ok (.istore_n 2, 1) := by decide +kernel
theorem dX1_pushRegister_6 : decode cX1_pushRegister 6 = .ok (.iload_n 2, 1) := by decide +kernel
theorem dX1_pushRegister_7 : decode cX1_pushRegister 7 = .ok (.ifCond .ne 12, 3) := by decide +kernel
theorem dX1_pushRegister_10 : decode cX1_pushRegister 10 = .ok (.aload_n 0, 1) := by decide +kernel
theorem dX1_pushRegister_11 : decode cX1_pushRegister 11 = .ok (.iload_n 1, 1) := by decide +kernel
theorem dX1_pushRegister_12 : decode cX1_pushRegister 12 = .ok (.aload_n 0, 1) := by decide +kernel
theorem dX1_pushRegister_13 : decode cX1_pushRegister 13 = .ok (.getfield 42, 3) := by decide +kernel
theorem dX1_pushRegister_16 : decode cX1_pushRegister 16 = .ok (.invokevirtual 120, 3) := by decide +kernel
theorem dX1_pushRegister_19 : decode cX1_pushRegister 19 = .ok (.iload_n 2, 1) := by decide +kernel
theorem dX1_pushRegister_20 : decode cX1_pushRegister 20 = .ok (.ireturn, 1) := by decide +kernel
theorem dX1_popRegister_0 : decode cX1_popRegister 0 = .ok (.aload_n 0, 1) := by decide +kernel
theorem dX1_popRegister_1 : decode cX1_popRegister 1 = .ok (.getfield 42, 3) := by decide +kernel
theorem dX1_popRegister_4 : decode cX1_popRegister 4 = .ok (.iconst 1, 1) := by decide +kernel
theorem dX1_popRegister_5 : decode cX1_popRegister 5 = .ok (.if_icmp .ne 5, 3) := by decide +kernel
theorem dX1_popRegister_8 : decode cX1_popRegister 8 = .ok (.iconst 5, 1) := by decide +kernel
theorem dX1_popRegister_9 : decode cX1_popRegister 9 = .ok (.ireturn, 1) := by decide +kernel
theorem dX1_popRegister_10 : decode cX1_popRegister 10 = .ok (.aload_n 0, 1) := by decide +kernel
theorem dX1_popRegister_11 : decode cX1_popRegister 11 = .ok (.iload_n 1, 1) := by decide +kernel
theorem dX1_popRegister_12 : decode cX1_popRegister 12 = .ok (.aload_n 0, 1) := by decide +kernel
theorem dX1_popRegister_13 : decode cX1_popRegister 13 = .ok (.getfield 42, 3) := by decide +kernel
theorem dX1_popRegister_16 : decode cX1_popRegister 16 = .ok (.invokevirtual 117, 3) := by decide +kernel
theorem dX1_popRegister_19 : decode cX1_popRegister 19 = .ok (.istore_n 2, 1) := by decide +kernel
theorem dX1_popRegister_20 : decode cX1_popRegister 20 = .ok (.iload_n 2, 1) := by decide +kernel
theorem dX1_popRegister_21 : decode cX1_popRegister 21 = .ok (.ifCond .ne 11, 3) := by decide +kernel
theorem dX1_popRegister_24 : decode cX1_popRegister 24 = .ok (.aload_n 0, 1) := by decide +kernel
theorem dX1_popRegister_25 : decode cX1_popRegister 25 = .ok (.iconst 1, 1) := by decide +kernel
theorem dX1_popRegister_26 : decode cX1_popRegister 26 = .ok (.invokevirtual 92, 3) := by decide +kernel
theorem dX1_popRegister_29 : decode cX1_popRegister 29 = .ok (.goto 4, 3) := by decide +kernel
theorem dX1_popRegister_32 : decode cX1_popRegister 32 = .ok (.iload_n 2, 1) := by decide +kernel
theorem dX1_popRegister_33 : decode cX1_popRegister 33 = .ok (.ireturn, 1) := by decide +kernel
theorem dX1_setFrame_0 : decode cX1_setFrame 0 = .ok (.aload_n 0, 1) := by decide +kernel
theorem dX1_setFrame_1 : decode cX1_setFrame 1 = .ok (.iconst 0, 1) := by decide +kernel
theorem dX1_setFrame_2 : decode cX1_setFrame 2 = .ok (.invokevirtual 111, 3) := by decide +kernel
theorem dX1_setFrame_5 : decode cX1_setFrame 5 = .ok (.istore_n 1, 1) := by decide +kernel
theorem dX1_setFrame_6 : decode cX1_setFrame 6 = .ok (.iload_n 1, 1) := by decide +kernel
theorem dX1_setFrame_7 : decode cX1_setFrame 7 = .ok (.ifCond .ne 11, 3) := by decide +kernel
theorem dX1_setFrame_10 : decode cX1_setFrame 10 = .ok (.aload_n 0, 1) := by decide +kernel
theorem dX1_setFrame_11 : decode cX1_setFrame 11 = .ok (.aload_n 0, 1) := by decide +kernel
theorem dX1_setFrame_12 : decode cX1_setFrame 12 = .ok (.getfield 42, 3) := by decide +kernel
theorem dX1_setFrame_15 : decode cX1_setFrame 15 = .ok (.putfield 45, 3) := by decide +kernel
theorem dX1_setFrame_18 : decode cX1_setFrame 18 = .ok (.iload_n 1, 1) := by decide +kernel
theorem dX1_setFrame_19 : decode cX1_setFrame 19 = .ok (.ireturn, 1) := by decide +kernel
theorem dX1_dropToFrame_0 : decode cX1_dropToFrame 0 = .ok (.aload_n 0, 1) := by decide +kernel
theorem dX1_dropToFrame_1 : decode cX1_dropToFrame 1 = .ok (.getfield 45, 3) := by decide +kernel
theorem dX1_dropToFrame_4 : decode cX1_dropToFrame 4 = .ok (.ifCond .eq 14, 3) := by decide +kernel
theorem dX1_dropToFrame_7 : decode cX1_dropToFrame 7 = .ok (.aload_n 0, 1) := by decide +kernel
theorem dX1_dropToFrame_8 : decode cX1_dropToFrame 8 = .ok (.getfield 45, 3) := by decide +kernel
theorem dX1_dropToFrame_11 : decode cX1_dropToFrame 11 = .ok (.aload_n 0, 1) := by decide +kernel
theorem dX1_dropToFrame_12 : decode cX1_dropToFrame 12 = .ok (.getfield 42, 3) := by decide +kernel
theorem dX1_dropToFrame_15 : decode cX1_dropToFrame 15 = .ok (.if_icmp .le 7, 3) := by decide +kernel
theorem dX1_dropToFrame_18 : decode cX1_dropToFrame 18 = .ok (.iconst 5, 1) := by decide +kernel
theorem dX1_dropToFrame_19 : decode cX1_dropToFrame 19 = .ok (.goto 16, 3) := by decide +kernel
theorem dX1_dropToFrame_22 : decode cX1_dropToFrame 22 = .ok (.aload_n 0, 1) := by decide +kernel
theorem dX1_dropToFrame_23 : decode cX1_dropToFrame 23 = .ok (.aload_n 0, 1) := by decide +kernel
theorem dX1_dropToFrame_24 : decode cX1_dropToFrame 24 = .ok (.getfield 42, 3) := by decide +kernel
theorem dX1_dropToFrame_27 : decode cX1_dropToFrame 27 = .ok (.aload_n 0, 1) := by decide +kernel
theorem dX1_dropToFrame_28 : decode cX1_dropToFrame 28 = .ok (.getfield 45, 3) := by decide +kernel
theorem dX1_dropToFrame_31 : decode cX1_dropToFrame 31 = .ok (.isub, 1) := by decide +kernel
theorem dX1_dropToFrame_32 : decode cX1_dropToFrame 32 = .ok (.invokevirtual 92, 3) := by decide +kernel
theorem dX1_dropToFrame_35 : decode cX1_dropToFrame 35 = .ok (.ireturn, 1) := by decide +kernel
theorem dX1_jumpTo_0 : decode cX1_jumpTo 0 = .ok (.aload_n 0, 1) := by decide +kernel
theorem dX1_jumpTo_1 : decode cX1_jumpTo 1 = .ok (.iload_n 1, 1) := by decide +kernel
theorem dX1_jumpTo_2 : decode cX1_jumpTo 2 = .ok (.invokevirtual 76, 3) := by decide +kernel
theorem dX1_jumpTo_5 : decode cX1_jumpTo 5 = .ok (.ifCond .eq 18, 3) := by decide +kernel
theorem dX1_jumpTo_8 : decode cX1_jumpTo 8 = .ok (.aload_n 0, 1) := by decide +kernel
theorem dX1_jumpTo_9 : decode cX1_jumpTo 9 = .ok (.getfield 15, 3) := by decide +kernel
theorem dX1_jumpTo_12 : decode cX1_jumpTo 12 = .ok (.iload_n 1, 1) := by decide +kernel
theorem dX1_jumpTo_13 : decode cX1_jumpTo 13 = .ok (.baload, 1) := by decide +kernel
theorem dX1_jumpTo_14 : decode cX1_jumpTo 14 = .ok (.ifCond .eq 7, 3) := by decide +kernel
theorem dX1_jumpTo_17 : decode cX1_jumpTo 17 = .ok (.iconst 0, 1) := by decide +kernel
theorem dX1_jumpTo_18 : decode cX1_jumpTo 18 = .ok (.goto 4, 3) := by decide +kernel
theorem dX1_jumpTo_21 : decode cX1_jumpTo 21 = .ok (.iconst 3, 1) := by decide +kernel
theorem dX1_jumpTo_22 : decode cX1_jumpTo 22 = .ok (.ireturn, 1) := by decide +kernel
theorem dX1_jumpTo_23 : decode cX1_jumpTo 23 = .ok (.aload_n 0, 1) := by decide +kernel
theorem dX1_jumpTo_24 : decode cX1_jumpTo 24 = .ok (.getfield 25, 3) := by decide +kernel
theorem dX1_jumpTo_27 : decode cX1_jumpTo 27 = .ok (.iload_n 1, 1) := by decide +kernel
theorem dX1_jumpTo_28 : decode cX1_jumpTo 28 = .ok (.invokevirtual 101, 3) := by decide +kernel
theorem dX1_jumpTo_31 : decode cX1_jumpTo 31 = .ok (.ifCond .ne 5, 3) := by decide +kernel
theorem dX1_jumpTo_34 : decode cX1_jumpTo 34 = .ok (.iconst 3, 1) := by decide +kernel
theorem dX1_jumpTo_35 : decode cX1_jumpTo 35 = .ok (.ireturn, 1) := by decide +kernel
theorem dX1_jumpTo_36 : decode cX1_jumpTo 36 = .ok (.aload_n 0, 1) := by decide +kernel
theorem dX1_jumpTo_37 : decode cX1_jumpTo 37 = .ok (.invokevirtual 104, 3) := by decide +kernel
theorem dX1_jumpTo_40 : decode cX1_jumpTo 40 = .ok (.ifCond .eq 7, 3) := by decide +kernel
theorem dX1_jumpTo_43 : decode cX1_jumpTo 43 = .ok (.iconst 0, 1) := by decide +kernel
theorem dX1_jumpTo_44 : decode cX1_jumpTo 44 = .ok (.goto 5, 3) := by decide +kernel
theorem dX1_jumpTo_47 : decode cX1_jumpTo 47 = .ok (.bipush 6, 2) := by decide +kernel
theorem dX1_jumpTo_49 : decode cX1_jumpTo 49 = .ok (.ireturn, 1) := by decide +kernel
theorem dX1_store_0 : decode cX1_store 0 = .ok (.iload_n 2, 1) := by decide +kernel
theorem dX1_store_1 : decode cX1_store 1 = .ok (.iconst 2, 1) := by decide +kernel
theorem dX1_store_2 : decode cX1_store 2 = .ok (.if_icmp .lt 19, 3) := by decide +kernel
theorem dX1_store_5 : decode cX1_store 5 = .ok (.iload_n 2, 1) := by decide +kernel
theorem dX1_store_6 : decode cX1_store 6 = .ok (.aload_n 0, 1) := by decide +kernel
theorem dX1_store_7 : decode cX1_store 7 = .ok (.getfield 42, 3) := by decide +kernel
theorem dX1_store_10 : decode cX1_store 10 = .ok (.if_icmp .gt 11, 3) := by decide +kernel
theorem dX1_store_13 : decode cX1_store 13 = .ok (.aload_n 0, 1) := by decide +kernel
theorem dX1_store_14 : decode cX1_store 14 = .ok (.iload_n 2, 1) := by decide +kernel
theorem dX1_store_15 : decode cX1_store 15 = .ok (.invokevirtual 124, 3) := by decide +kernel
theorem dX1_store_18 : decode cX1_store 18 = .ok (.ifCond .eq 6, 3) := by decide +kernel
theorem dX1_store_21 : decode cX1_store 21 = .ok (.bipush 8, 2) := by decide +kernel
theorem dX1_store_23 : decode cX1_store 23 = .ok (.ireturn, 1) := by decide +kernel
theorem dX1_store_24 : decode cX1_store 24 = .ok (.aload_n 0, 1) := by decide +kernel
theorem dX1_store_25 : decode cX1_store 25 = .ok (.iload_n 1, 1) := by decide +kernel
theorem dX1_store_26 : decode cX1_store 26 = .ok (.iload_n 2, 1) := by decide +kernel
theorem dX1_store_27 : decode cX1_store 27 = .ok (.invokevirtual 120, 3) := by decide +kernel
theorem dX1_store_30 : decode cX1_store 30 = .ok (.iconst 0, 1) := by decide +kernel
theorem dX1_store_31 : decode cX1_store 31 = .ok (.ireturn, 1) := by decide +kernel
theorem dX1_gain_0 : decode cX1_gain 0 = .ok (.aload_n 0, 1) := by decide +kernel
theorem dX1_gain_1 : decode cX1_gain 1 = .ok (.dup, 1) := by decide +kernel
theorem dX1_gain_2 : decode cX1_gain 2 = .ok (.getfield 42, 3) := by decide +kernel
theorem dX1_gain_5 : decode cX1_gain 5 = .ok (.iload_n 1, 1) := by decide +kernel
theorem dX1_gain_6 : decode cX1_gain 6 = .ok (.iadd, 1) := by decide +kernel
theorem dX1_gain_7 : decode cX1_gain 7 = .ok (.putfield 42, 3) := by decide +kernel
theorem dX1_gain_10 : decode cX1_gain 10 = .ok (.aload_n 0, 1) := by decide +kernel
theorem dX1_gain_11 : decode cX1_gain 11 = .ok (.getfield 42, 3) := by decide +kernel
theorem dX1_gain_14 : decode cX1_gain 14 = .ok (.bipush 30, 2) := by decide +kernel
theorem dX1_gain_16 : decode cX1_gain 16 = .ok (.if_icmp .le 8, 3) := by decide +kernel
theorem dX1_gain_19 : decode cX1_gain 19 = .ok (.bipush 9, 2) := by decide +kernel
theorem dX1_gain_21 : decode cX1_gain 21 = .ok (.goto 4, 3) := by decide +kernel
theorem dX1_gain_24 : decode cX1_gain 24 = .ok (.iconst 0, 1) := by decide +kernel
theorem dX1_gain_25 : decode cX1_gain 25 = .ok (.ireturn, 1) := by decide +kernel
theorem dX1_lose_0 : decode cX1_lose 0 = .ok (.aload_n 0, 1) := by decide +kernel
theorem dX1_lose_1 : decode cX1_lose 1 = .ok (.dup, 1) := by decide +kernel
theorem dX1_lose_2 : decode cX1_lose 2 = .ok (.getfield 42, 3) := by decide +kernel
theorem dX1_lose_5 : decode cX1_lose 5 = .ok (.iload_n 1, 1) := by decide +kernel
theorem dX1_lose_6 : decode cX1_lose 6 = .ok (.isub, 1) := by decide +kernel
theorem dX1_lose_7 : decode cX1_lose 7 = .ok (.putfield 42, 3) := by decide +kernel
theorem dX1_lose_10 : decode cX1_lose 10 = .ok (.aload_n 0, 1) := by decide +kernel
theorem dX1_lose_11 : decode cX1_lose 11 = .ok (.getfield 42, 3) := by decide +kernel
theorem dX1_lose_14 : decode cX1_lose 14 = .ok (.iconst 1, 1) := by decide +kernel
theorem dX1_lose_15 : decode cX1_lose 15 = .ok (.if_icmp .ge 7, 3) := by decide +kernel
theorem dX1_lose_18 : decode cX1_lose 18 = .ok (.iconst 1, 1) := by decide +kernel
theorem dX1_lose_19 : decode cX1_lose 19 = .ok (.goto 4, 3) := by decide +kernel
theorem dX1_lose_22 : decode cX1_lose 22 = .ok (.iconst 0, 1) := by decide +kernel
theorem dX1_lose_23 : decode cX1_lose 23 = .ok (.istore_n 2, 1) := by decide +kernel
theorem dX1_lose_24 : decode cX1_lose 24 = .ok (.iconst 0, 1) := by decide +kernel
theorem dX1_lose_25 : decode cX1_lose 25 = .ok (.istore_n 3, 1) := by decide +kernel
theorem dX1_lose_26 : decode cX1_lose 26 = .ok (.iload_n 3, 1) := by decide +kernel
theorem dX1_lose_27 : decode cX1_lose 27 = .ok (.iconst 3, 1) := by decide +kernel
theorem dX1_lose_28 : decode cX1_lose 28 = .ok (.if_icmp .ge 32, 3) := by decide +kernel
theorem dX1_lose_31 : decode cX1_lose 31 = .ok (.iload_n 2, 1) := by decide +kernel
theorem dX1_lose_32 : decode cX1_lose 32 = .ok (.ifCond .ne 16, 3) := by decide +kernel
theorem dX1_lose_35 : decode cX1_lose 35 = .ok (.aload_n 0, 1) := by decide +kernel
theorem dX1_lose_36 : decode cX1_lose 36 = .ok (.getfield 22, 3) := by decide +kernel
theorem dX1_lose_39 : decode cX1_lose 39 = .ok (.iload_n 3, 1) := by decide +kernel
theorem dX1_lose_40 : decode cX1_lose 40 = .ok (.iaload, 1) := by decide +kernel
theorem dX1_lose_41 : decode cX1_lose 41 = .ok (.aload_n 0, 1) := by decide +kernel
theorem dX1_lose_42 : decode cX1_lose 42 = .ok (.getfield 42, 3) := by decide +kernel
theorem dX1_lose_45 : decode cX1_lose 45 = .ok (.if_icmp .le 7, 3) := by decide +kernel
theorem dX1_lose_48 : decode cX1_lose 48 = .ok (.iconst 1, 1) := by decide +kernel
theorem dX1_lose_49 : decode cX1_lose 49 = .ok (.goto 4, 3) := by decide +kernel
theorem dX1_lose_52 : decode cX1_lose 52 = .ok (.iconst 0, 1) := by decide +kernel
theorem dX1_lose_53 : decode cX1_lose 53 = .ok (.istore_n 2, 1) := by decide +kernel
theorem dX1_lose_54 : decode cX1_lose 54 = .ok (.iinc 3 1, 3) := by decide +kernel
theorem dX1_lose_57 : decode cX1_lose 57 = .ok (.goto (-31), 3) := by decide +kernel
theorem dX1_lose_60 : decode cX1_lose 60 = .ok (.iload_n 2, 1) := by decide +kernel
theorem dX1_lose_61 : decode cX1_lose 61 = .ok (.ifCond .eq 7, 3) := by decide +kernel
theorem dX1_lose_64 : decode cX1_lose 64 = .ok (.iconst 5, 1) := by decide +kernel
theorem dX1_lose_65 : decode cX1_lose 65 = .ok (.goto 4, 3) := by decide +kernel
theorem dX1_lose_68 : decode cX1_lose 68 = .ok (.iconst 0, 1) := by decide +kernel
theorem dX1_lose_69 : decode cX1_lose 69 = .ok (.ireturn, 1) := by decide +kernel
theorem dX1_save_0 : decode cX1_save 0 = .ok (.aload_n 0, 1) := by decide +kernel
theorem dX1_save_1 : decode cX1_save 1 = .ok (.getfield 22, 3) := by decide +kernel
theorem dX1_save_4 : decode cX1_save 4 = .ok (.iload_n 1, 1) := by decide +kernel
theorem dX1_save_5 : decode cX1_save 5 = .ok (.iaload, 1) := by decide +kernel
theorem dX1_save_6 : decode cX1_save 6 = .ok (.ifCond .ne 10, 3) := by decide +kernel
theorem dX1_save_9 : decode cX1_save 9 = .ok (.aload_n 0, 1) := by decide +kernel
theorem dX1_save_10 : decode cX1_save 10 = .ok (.getfield 22, 3) := by decide +kernel
theorem dX1_save_13 : decode cX1_save 13 = .ok (.iload_n 1, 1) := by decide +kernel
theorem dX1_save_14 : decode cX1_save 14 = .ok (.iload_n 2, 1) := by decide +kernel
theorem dX1_save_15 : decode cX1_save 15 = .ok (.iastore, 1) := by decide +kernel
theorem dX1_save_16 : decode cX1_save 16 = .ok (.return_, 1) := by decide +kernel
theorem dX1_spoil_0 : decode cX1_spoil 0 = .ok (.aload_n 0, 1) := by decide +kernel
theorem dX1_spoil_1 : decode cX1_spoil 1 = .ok (.getfield 22, 3) := by decide +kernel
theorem dX1_spoil_4 : decode cX1_spoil 4 = .ok (.iload_n 1, 1) := by decide +kernel
theorem dX1_spoil_5 : decode cX1_spoil 5 = .ok (.iaload, 1) := by decide +kernel
theorem dX1_spoil_6 : decode cX1_spoil 6 = .ok (.ifCond .ne 5, 3) := by decide +kernel
theorem dX1_spoil_9 : decode cX1_spoil 9 = .ok (.iconst 4, 1) := by decide +kernel
theorem dX1_spoil_10 : decode cX1_spoil 10 = .ok (.ireturn, 1) := by decide +kernel
theorem dX1_spoil_11 : decode cX1_spoil 11 = .ok (.iload_n 1, 1) := by decide +kernel
theorem dX1_spoil_12 : decode cX1_spoil 12 = .ok (.ifCond .ne 8, 3) := by decide +kernel
theorem dX1_spoil_15 : decode cX1_spoil 15 = .ok (.aload_n 0, 1) := by decide +kernel
theorem dX1_spoil_16 : decode cX1_spoil 16 = .ok (.iconst 0, 1) := by decide +kernel
theorem dX1_spoil_17 : decode cX1_spoil 17 = .ok (.putfield 45, 3) := by decide +kernel
theorem dX1_spoil_20 : decode cX1_spoil 20 = .ok (.iconst 0, 1) := by decide +kernel
theorem dX1_spoil_21 : decode cX1_spoil 21 = .ok (.ireturn, 1) := by decide +kernel
theorem dX1_give_0 : decode cX1_give 0 = .ok (.aload_n 0, 1) := by decide +kernel
theorem dX1_give_1 : decode cX1_give 1 = .ok (.getfield 22, 3) := by decide +kernel
theorem dX1_give_4 : decode cX1_give 4 = .ok (.iload_n 1, 1) := by decide +kernel
theorem dX1_give_5 : decode cX1_give 5 = .ok (.iaload, 1) := by decide +kernel
theorem dX1_give_6 : decode cX1_give 6 = .ok (.ifCond .ne 5, 3) := by decide +kernel
theorem dX1_give_9 : decode cX1_give 9 = .ok (.iconst 4, 1) := by decide +kernel
theorem dX1_give_10 : decode cX1_give 10 = .ok (.ireturn, 1) := by decide +kernel
theorem dX1_give_11 : decode cX1_give 11 = .ok (.aload_n 0, 1) := by decide +kernel
theorem dX1_give_12 : decode cX1_give 12 = .ok (.getfield 22, 3) := by decide +kernel
theorem dX1_give_15 : decode cX1_give 15 = .ok (.iload_n 1, 1) := by decide +kernel
theorem dX1_give_16 : decode cX1_give 16 = .ok (.iaload, 1) := by decide +kernel
theorem dX1_give_17 : decode cX1_give 17 = .ok (.iload_n 2, 1) := by decide +kernel
theorem dX1_give_18 : decode cX1_give 18 = .ok (.if_icmp .ne 10, 3) := by decide +kernel
theorem dX1_give_21 : decode cX1_give 21 = .ok (.aload_n 0, 1) := by decide +kernel
theorem dX1_give_22 : decode cX1_give 22 = .ok (.getfield 22, 3) := by decide +kernel
theorem dX1_give_25 : decode cX1_give 25 = .ok (.iload_n 1, 1) := by decide +kernel
theorem dX1_give_26 : decode cX1_give 26 = .ok (.iconst 0, 1) := by decide +kernel
theorem dX1_give_27 : decode cX1_give 27 = .ok (.iastore, 1) := by decide +kernel
theorem dX1_give_28 : decode cX1_give 28 = .ok (.iload_n 1, 1) := by decide +kernel
theorem dX1_give_29 : decode cX1_give 29 = .ok (.ifCond .ne 8, 3) := by decide +kernel
theorem dX1_give_32 : decode cX1_give 32 = .ok (.aload_n 0, 1) := by decide +kernel
theorem dX1_give_33 : decode cX1_give 33 = .ok (.iconst 0, 1) := by decide +kernel
theorem dX1_give_34 : decode cX1_give 34 = .ok (.putfield 45, 3) := by decide +kernel
theorem dX1_give_37 : decode cX1_give 37 = .ok (.iconst 0, 1) := by decide +kernel
theorem dX1_give_38 : decode cX1_give 38 = .ok (.ireturn, 1) := by decide +kernel
theorem dX1_holdsSaved_0 : decode cX1_holdsSaved 0 = .ok (.iconst 0, 1) := by decide +kernel
theorem dX1_holdsSaved_1 : decode cX1_holdsSaved 1 = .ok (.istore_n 2, 1) := by decide +kernel
theorem dX1_holdsSaved_2 : decode cX1_holdsSaved 2 = .ok (.iload_n 2, 1) := by decide +kernel
theorem dX1_holdsSaved_3 : decode cX1_holdsSaved 3 = .ok (.iconst 3, 1) := by decide +kernel
theorem dX1_holdsSaved_4 : decode cX1_holdsSaved 4 = .ok (.if_icmp .ge 21, 3) := by decide +kernel
theorem dX1_holdsSaved_7 : decode cX1_holdsSaved 7 = .ok (.aload_n 0, 1) := by decide +kernel
theorem dX1_holdsSaved_8 : decode cX1_holdsSaved 8 = .ok (.getfield 22, 3) := by decide +kernel
theorem dX1_holdsSaved_11 : decode cX1_holdsSaved 11 = .ok (.iload_n 2, 1) := by decide +kernel
theorem dX1_holdsSaved_12 : decode cX1_holdsSaved 12 = .ok (.iaload, 1) := by decide +kernel
theorem dX1_holdsSaved_13 : decode cX1_holdsSaved 13 = .ok (.iload_n 1, 1) := by decide +kernel
theorem dX1_holdsSaved_14 : decode cX1_holdsSaved 14 = .ok (.if_icmp .ne 5, 3) := by decide +kernel
theorem dX1_holdsSaved_17 : decode cX1_holdsSaved 17 = .ok (.iconst 1, 1) := by decide +kernel
theorem dX1_holdsSaved_18 : decode cX1_holdsSaved 18 = .ok (.ireturn, 1) := by decide +kernel
theorem dX1_holdsSaved_19 : decode cX1_holdsSaved 19 = .ok (.iinc 2 1, 3) := by decide +kernel
theorem dX1_holdsSaved_22 : decode cX1_holdsSaved 22 = .ok (.goto (-20), 3) := by decide +kernel
theorem dX1_holdsSaved_25 : decode cX1_holdsSaved 25 = .ok (.iconst 0, 1) := by decide +kernel
theorem dX1_holdsSaved_26 : decode cX1_holdsSaved 26 = .ok (.ireturn, 1) := by decide +kernel
theorem dX1_isAsBeforeCall_0 : decode cX1_isAsBeforeCall 0 = .ok (.aload_n 0, 1) := by decide +kernel
theorem dX1_isAsBeforeCall_1 : decode cX1_isAsBeforeCall 1 = .ok (.getfield 42, 3) := by decide +kernel
theorem dX1_isAsBeforeCall_4 : decode cX1_isAsBeforeCall 4 = .ok (.iconst 1, 1) := by decide +kernel
theorem dX1_isAsBeforeCall_5 : decode cX1_isAsBeforeCall 5 = .ok (.if_icmp .ne 7, 3) := by decide +kernel
theorem dX1_isAsBeforeCall_8 : decode cX1_isAsBeforeCall 8 = .ok (.iconst 1, 1) := by decide +kernel
theorem dX1_isAsBeforeCall_9 : decode cX1_isAsBeforeCall 9 = .ok (.goto 4, 3) := by decide +kernel
theorem dX1_isAsBeforeCall_12 : decode cX1_isAsBeforeCall 12 = .ok (.iconst 0, 1) := by decide +kernel
theorem dX1_isAsBeforeCall_13 : decode cX1_isAsBeforeCall 13 = .ok (.istore_n 1, 1) := by decide +kernel
theorem dX1_isAsBeforeCall_14 : decode cX1_isAsBeforeCall 14 = .ok (.iconst 0, 1) := by decide +kernel
theorem dX1_isAsBeforeCall_15 : decode cX1_isAsBeforeCall 15 = .ok (.istore_n 2, 1) := by decide +kernel
theorem dX1_isAsBeforeCall_16 : decode cX1_isAsBeforeCall 16 = .ok (.iload_n 2, 1) := by decide +kernel
theorem dX1_isAsBeforeCall_17 : decode cX1_isAsBeforeCall 17 = .ok (.iconst 3, 1) := by decide +kernel
theorem dX1_isAsBeforeCall_18 : decode cX1_isAsBeforeCall 18 = .ok (.if_icmp .ge 28, 3) := by decide +kernel
theorem dX1_isAsBeforeCall_21 : decode cX1_isAsBeforeCall 21 = .ok (.iload_n 1, 1) := by decide +kernel
theorem dX1_isAsBeforeCall_22 : decode cX1_isAsBeforeCall 22 = .ok (.ifCond .eq 16, 3) := by decide +kernel
theorem dX1_isAsBeforeCall_25 : decode cX1_isAsBeforeCall 25 = .ok (.aload_n 0, 1) := by decide +kernel
theorem dX1_isAsBeforeCall_26 : decode cX1_isAsBeforeCall 26 = .ok (.getfield 22, 3) := by decide +kernel
theorem dX1_isAsBeforeCall_29 : decode cX1_isAsBeforeCall 29 = .ok (.iload_n 2, 1) := by decide +kernel
theorem dX1_isAsBeforeCall_30 : decode cX1_isAsBeforeCall 30 = .ok (.iaload, 1) := by decide +kernel
theorem dX1_isAsBeforeCall_31 : decode cX1_isAsBeforeCall 31 = .ok (.ifCond .ne 7, 3) := by decide +kernel
theorem dX1_isAsBeforeCall_34 : decode cX1_isAsBeforeCall 34 = .ok (.iconst 1, 1) := by decide +kernel
theorem dX1_isAsBeforeCall_35 : decode cX1_isAsBeforeCall 35 = .ok (.goto 4, 3) := by decide +kernel
theorem dX1_isAsBeforeCall_38 : decode cX1_isAsBeforeCall 38 = .ok (.iconst 0, 1) := by decide +kernel
theorem dX1_isAsBeforeCall_39 : decode cX1_isAsBeforeCall 39 = .ok (.istore_n 1, 1) := by decide +kernel
theorem dX1_isAsBeforeCall_40 : decode cX1_isAsBeforeCall 40 = .ok (.iinc 2 1, 3) := by decide +kernel
theorem dX1_isAsBeforeCall_43 : decode cX1_isAsBeforeCall 43 = .ok (.goto (-27), 3) := by decide +kernel
theorem dX1_isAsBeforeCall_46 : decode cX1_isAsBeforeCall 46 = .ok (.iload_n 1, 1) := by decide +kernel
theorem dX1_isAsBeforeCall_47 : decode cX1_isAsBeforeCall 47 = .ok (.ireturn, 1) := by decide +kernel
theorem dX1_fillRow_0 : decode cX1_fillRow 0 = .ok (.aload_n 0, 1) := by decide +kernel
theorem dX1_fillRow_1 : decode cX1_fillRow 1 = .ok (.getfield 9, 3) := by decide +kernel
theorem dX1_fillRow_4 : decode cX1_fillRow 4 = .ok (.iload_n 1, 1) := by decide +kernel
theorem dX1_fillRow_5 : decode cX1_fillRow 5 = .ok (.iaload, 1) := by decide +kernel
theorem dX1_fillRow_6 : decode cX1_fillRow 6 = .ok (.ifCond .ne 5, 3) := by decide +kernel
theorem dX1_fillRow_9 : decode cX1_fillRow 9 = .ok (.iconst 0, 1) := by decide +kernel
theorem dX1_fillRow_10 : decode cX1_fillRow 10 = .ok (.ireturn, 1) := by decide +kernel
theorem dX1_fillRow_11 : decode cX1_fillRow 11 = .ok (.aload_n 0, 1) := by decide +kernel
theorem dX1_fillRow_12 : decode cX1_fillRow 12 = .ok (.iload_n 1, 1) := by decide +kernel
theorem dX1_fillRow_13 : decode cX1_fillRow 13 = .ok (.invokevirtual 65, 3) := by decide +kernel
theorem dX1_fillRow_16 : decode cX1_fillRow 16 = .ok (.aload_n 2, 1) := by decide +kernel
theorem dX1_fillRow_17 : decode cX1_fillRow 17 = .ok (.aload_n 0, 1) := by decide +kernel
theorem dX1_fillRow_18 : decode cX1_fillRow 18 = .ok (.getfield 45, 3) := by decide +kernel
theorem dX1_fillRow_21 : decode cX1_fillRow 21 = .ok (.ifCond .eq 7, 3) := by decide +kernel
theorem dX1_fillRow_24 : decode cX1_fillRow 24 = .ok (.iconst 1, 1) := by decide +kernel
theorem dX1_fillRow_25 : decode cX1_fillRow 25 = .ok (.goto 4, 3) := by decide +kernel
theorem dX1_fillRow_28 : decode cX1_fillRow 28 = .ok (.iconst 0, 1) := by decide +kernel
theorem dX1_fillRow_29 : decode cX1_fillRow 29 = .ok (.putfield 127, 3) := by decide +kernel
theorem dX1_fillRow_32 : decode cX1_fillRow 32 = .ok (.aload_n 2, 1) := by decide +kernel
theorem dX1_fillRow_33 : decode cX1_fillRow 33 = .ok (.aload_n 0, 1) := by decide +kernel
theorem dX1_fillRow_34 : decode cX1_fillRow 34 = .ok (.getfield 45, 3) := by decide +kernel
theorem dX1_fillRow_37 : decode cX1_fillRow 37 = .ok (.ifCond .eq 10, 3) := by decide +kernel
theorem dX1_fillRow_40 : decode cX1_fillRow 40 = .ok (.aload_n 0, 1) := by decide +kernel
theorem dX1_fillRow_41 : decode cX1_fillRow 41 = .ok (.getfield 45, 3) := by decide +kernel
theorem dX1_fillRow_44 : decode cX1_fillRow 44 = .ok (.goto 7, 3) := by decide +kernel
theorem dX1_fillRow_47 : decode cX1_fillRow 47 = .ok (.aload_n 0, 1) := by decide +kernel
theorem dX1_fillRow_48 : decode cX1_fillRow 48 = .ok (.getfield 42, 3) := by decide +kernel
theorem dX1_fillRow_51 : decode cX1_fillRow 51 = .ok (.putfield 132, 3) := by decide +kernel
theorem dX1_fillRow_54 : decode cX1_fillRow 54 = .ok (.iconst 0, 1) := by decide +kernel
theorem dX1_fillRow_55 : decode cX1_fillRow 55 = .ok (.istore_n 3, 1) := by decide +kernel
theorem dX1_fillRow_56 : decode cX1_fillRow 56 = .ok (.iload_n 3, 1) := by decide +kernel
theorem dX1_fillRow_57 : decode cX1_fillRow 57 = .ok (.iconst 3, 1) := by decide +kernel
theorem dX1_fillRow_58 : decode cX1_fillRow 58 = .ok (.if_icmp .ge 21, 3) := by decide +kernel
theorem dX1_fillRow_61 : decode cX1_fillRow 61 = .ok (.aload_n 2, 1) := by decide +kernel
theorem dX1_fillRow_62 : decode cX1_fillRow 62 = .ok (.getfield 135, 3) := by decide +kernel
theorem dX1_fillRow_65 : decode cX1_fillRow 65 = .ok (.iload_n 3, 1) := by decide +kernel
theorem dX1_fillRow_66 : decode cX1_fillRow 66 = .ok (.aload_n 0, 1) := by decide +kernel
theorem dX1_fillRow_67 : decode cX1_fillRow 67 = .ok (.getfield 22, 3) := by decide +kernel
theorem dX1_fillRow_70 : decode cX1_fillRow 70 = .ok (.iload_n 3, 1) := by decide +kernel
theorem dX1_fillRow_71 : decode cX1_fillRow 71 = .ok (.iaload, 1) := by decide +kernel
theorem dX1_fillRow_72 : decode cX1_fillRow 72 = .ok (.iastore, 1) := by decide +kernel
theorem dX1_fillRow_73 : decode cX1_fillRow 73 = .ok (.iinc 3 1, 3) := by decide +kernel
theorem dX1_fillRow_76 : decode cX1_fillRow 76 = .ok (.goto (-20), 3) := by decide +kernel
theorem dX1_fillRow_79 : decode cX1_fillRow 79 = .ok (.iconst 1, 1) := by decide +kernel
theorem dX1_fillRow_80 : decode cX1_fillRow 80 = .ok (.ireturn, 1) := by decide +kernel
theorem dX2_init_0 : decode cX2_init 0 = .ok (.aload_n 0, 1) := by decide +kernel
theorem dX2_init_1 : decode cX2_init 1 = .ok (.invokespecial 3, 3) := by decide +kernel
theorem dX2_init_4 : decode cX2_init 4 = .ok (.aload_n 0, 1) := by decide +kernel
theorem dX2_init_5 : decode cX2_init 5 = .ok (.bipush 40, 2) := by decide +kernel
theorem dX2_init_7 : decode cX2_init 7 = .ok (.newarray .int, 2) := by decide +kernel
theorem dX2_init_9 : decode cX2_init 9 = .ok (.putfield 9, 3) := by decide +kernel
theorem dX2_init_12 : decode cX2_init 12 = .ok (.aload_n 0, 1) := by decide +kernel
theorem dX2_init_13 : decode cX2_init 13 = .ok (.iconst 3, 1) := by decide +kernel
theorem dX2_init_14 : decode cX2_init 14 = .ok (.newarray .int, 2) := by decide +kernel
theorem dX2_init_16 : decode cX2_init 16 = .ok (.putfield 15, 3) := by decide +kernel
theorem dX2_init_19 : decode cX2_init 19 = .ok (.aload_n 0, 1) := by decide +kernel
theorem dX2_init_20 : decode cX2_init 20 = .ok (.bipush 40, 2) := by decide +kernel
theorem dX2_init_22 : decode cX2_init 22 = .ok (.newarray .int, 2) := by decide +kernel
theorem dX2_init_24 : decode cX2_init 24 = .ok (.putfield 18, 3) := by decide +kernel
theorem dX2_init_27 : decode cX2_init 27 = .ok (.aload_n 0, 1) := by decide +kernel
theorem dX2_init_28 : decode cX2_init 28 = .ok (.aload_n 1, 1) := by decide +kernel
theorem dX2_init_29 : decode cX2_init 29 = .ok (.putfield 21, 3) := by decide +kernel
theorem dX2_init_32 : decode cX2_init 32 = .ok (.return_, 1) := by decide +kernel
theorem dX2_start_0 : decode cX2_start 0 = .ok (.aload_n 0, 1) := by decide +kernel
theorem dX2_start_1 : decode cX2_start 1 = .ok (.getfield 21, 3) := by decide +kernel
theorem dX2_start_4 : decode cX2_start 4 = .ok (.getfield 25, 3) := by decide +kernel
theorem dX2_start_7 : decode cX2_start 7 = .ok (.ifCond .ne 5, 3) := by decide +kernel
theorem dX2_start_10 : decode cX2_start 10 = .ok (.iconst 0, 1) := by decide +kernel
theorem dX2_start_11 : decode cX2_start 11 = .ok (.ireturn, 1) := by decide +kernel
theorem dX2_start_12 : decode cX2_start 12 = .ok (.iconst 0, 1) := by decide +kernel
theorem dX2_start_13 : decode cX2_start 13 = .ok (.istore 5, 2) := by decide +kernel
theorem dX2_start_15 : decode cX2_start 15 = .ok (.iload 5, 2) := by decide +kernel
theorem dX2_start_17 : decode cX2_start 17 = .ok (.bipush 40, 2) := by decide +kernel
theorem dX2_start_19 : decode cX2_start 19 = .ok (.if_icmp .ge 17, 3) := by decide +kernel
theorem dX2_start_22 : decode cX2_start 22 = .ok (.aload_n 0, 1) := by decide +kernel
theorem dX2_start_23 : decode cX2_start 23 = .ok (.getfield 9, 3) := by decide +kernel
theorem dX2_start_26 : decode cX2_start 26 = .ok (.iload 5, 2) := by decide +kernel
theorem dX2_start_28 : decode cX2_start 28 = .ok (.iconst 0, 1) := by decide +kernel
theorem dX2_start_29 : decode cX2_start 29 = .ok (.iastore, 1) := by decide +kernel
theorem dX2_start_30 : decode cX2_start 30 = .ok (.iinc 5 1, 3) := by decide +kernel
theorem dX2_start_33 : decode cX2_start 33 = .ok (.goto (-18), 3) := by decide +kernel
theorem dX2_start_36 : decode cX2_start 36 = .ok (.aload_n 0, 1) := by decide +kernel
theorem dX2_start_37 : decode cX2_start 37 = .ok (.bipush 39, 2) := by decide +kernel
theorem dX2_start_39 : decode cX2_start 39 = .ok (.putfield 31, 3) := by decide +kernel
theorem dX2_start_42 : decode cX2_start 42 = .ok (.aload_n 0, 1) := by decide +kernel
theorem dX2_start_43 : decode cX2_start 43 = .ok (.getfield 9, 3) := by decide +kernel
theorem dX2_start_46 : decode cX2_start 46 = .ok (.aload_n 0, 1) := by decide +kernel
theorem dX2_start_47 : decode cX2_start 47 = .ok (.getfield 31, 3) := by decide +kernel
theorem dX2_start_50 : decode cX2_start 50 = .ok (.sipush 255, 3) := by decide +kernel
theorem dX2_start_53 : decode cX2_start 53 = .ok (.iastore, 1) := by decide +kernel
theorem dX2_start_54 : decode cX2_start 54 = .ok (.aload_n 0, 1) := by decide +kernel
theorem dX2_start_55 : decode cX2_start 55 = .ok (.getfield 15, 3) := by decide +kernel
theorem dX2_start_58 : decode cX2_start 58 = .ok (.iconst 0, 1) := by decide +kernel
theorem dX2_start_59 : decode cX2_start 59 = .ok (.iload_n 1, 1) := by decide +kernel
theorem dX2_start_60 : decode cX2_start 60 = .ok (.iastore, 1) := by decide +kernel
theorem dX2_start_61 : decode cX2_start 61 = .ok (.aload_n 0, 1) := by decide +kernel
theorem dX2_start_62 : decode cX2_start 62 = .ok (.getfield 15, 3) := by decide +kernel
theorem dX2_start_65 : decode cX2_start 65 = .ok (.iconst 1, 1) := by decide +kernel
theorem dX2_start_66 : decode cX2_start 66 = .ok (.iload_n 2, 1) := by decide +kernel
theorem dX2_start_67 : decode cX2_start 67 = .ok (.iastore, 1) := by decide +kernel
theorem dX2_start_68 : decode cX2_start 68 = .ok (.aload_n 0, 1) := by decide +kernel
theorem dX2_start_69 : decode cX2_start 69 = .ok (.getfield 15, 3) := by decide +kernel
theorem dX2_start_72 : decode cX2_start 72 = .ok (.iconst 2, 1) := by decide +kernel
theorem dX2_start_73 : decode cX2_start 73 = .ok (.iload_n 3, 1) := by decide +kernel
theorem dX2_start_74 : decode cX2_start 74 = .ok (.iastore, 1) := by decide +kernel
theorem dX2_start_75 : decode cX2_start 75 = .ok (.aload_n 0, 1) := by decide +kernel
theorem dX2_start_76 : decode cX2_start 76 = .ok (.iload 4, 2) := by decide +kernel
theorem dX2_start_78 : decode cX2_start 78 = .ok (.putfield 34, 3) := by decide +kernel
theorem dX2_start_81 : decode cX2_start 81 = .ok (.aload_n 0, 1) := by decide +kernel
theorem dX2_start_82 : decode cX2_start 82 = .ok (.getfield 18, 3) := by decide +kernel
theorem dX2_start_85 : decode cX2_start 85 = .ok (.iconst 0, 1) := by decide +kernel
theorem dX2_start_86 : decode cX2_start 86 = .ok (.sipush 255, 3) := by decide +kernel
theorem dX2_start_89 : decode cX2_start 89 = .ok (.iastore, 1) := by decide +kernel
theorem dX2_start_90 : decode cX2_start 90 = .ok (.aload_n 0, 1) := by decide +kernel
theorem dX2_start_91 : decode cX2_start 91 = .ok (.iconst 1, 1) := by decide +kernel
theorem dX2_start_92 : decode cX2_start 92 = .ok (.putfield 37, 3) := by decide +kernel
theorem dX2_start_95 : decode cX2_start 95 = .ok (.aload_n 0, 1) := by decide +kernel
theorem dX2_start_96 : decode cX2_start 96 = .ok (.aload_n 0, 1) := by decide +kernel
theorem dX2_start_97 : decode cX2_start 97 = .ok (.getfield 21, 3) := by decide +kernel
theorem dX2_start_100 : decode cX2_start 100 = .ok (.getfield 40, 3) := by decide +kernel
theorem dX2_start_103 : decode cX2_start 103 = .ok (.iconst 0, 1) := by decide +kernel
theorem dX2_start_104 : decode cX2_start 104 = .ok (.iaload, 1) := by decide +kernel
theorem dX2_start_105 : decode cX2_start 105 = .ok (.putfield 43, 3) := by decide +kernel
theorem dX2_start_108 : decode cX2_start 108 = .ok (.aload_n 0, 1) := by decide +kernel
theorem dX2_start_109 : decode cX2_start 109 = .ok (.iconst 1, 1) := by decide +kernel
theorem dX2_start_110 : decode cX2_start 110 = .ok (.putfield 46, 3) := by decide +kernel
theorem dX2_start_113 : decode cX2_start 113 = .ok (.aload_n 0, 1) := by decide +kernel
theorem dX2_start_114 : decode cX2_start 114 = .ok (.iconst 1, 1) := by decide +kernel
theorem dX2_start_115 : decode cX2_start 115 = .ok (.putfield 50, 3) := by decide +kernel
theorem dX2_start_118 : decode cX2_start 118 = .ok (.iconst 1, 1) := by decide +kernel
theorem dX2_start_119 : decode cX2_start 119 = .ok (.ireturn, 1) := by decide +kernel
theorem dX2_end_0 : decode cX2_end 0 = .ok (.aload_n 0, 1) := by decide +kernel
theorem dX2_end_1 : decode cX2_end 1 = .ok (.iconst 0, 1) := by decide +kernel
theorem dX2_end_2 : decode cX2_end 2 = .ok (.putfield 50, 3) := by decide +kernel
theorem dX2_end_5 : decode cX2_end 5 = .ok (.aload_n 0, 1) := by decide +kernel
theorem dX2_end_6 : decode cX2_end 6 = .ok (.sipush 255, 3) := by decide +kernel
theorem dX2_end_9 : decode cX2_end 9 = .ok (.putfield 43, 3) := by decide +kernel
theorem dX2_end_12 : decode cX2_end 12 = .ok (.return_, 1) := by decide +kernel
theorem dX2_advance_0 : decode cX2_advance 0 = .ok (.aload_n 0, 1) := by decide +kernel
theorem dX2_advance_1 : decode cX2_advance 1 = .ok (.getfield 50, 3) := by decide +kernel
theorem dX2_advance_4 : decode cX2_advance 4 = .ok (.ifCond .eq 24, 3) := by decide +kernel
theorem dX2_advance_7 : decode cX2_advance 7 = .ok (.aload_n 0, 1) := by decide +kernel
theorem dX2_advance_8 : decode cX2_advance 8 = .ok (.getfield 21, 3) := by decide +kernel
theorem dX2_advance_11 : decode cX2_advance 11 = .ok (.aload_n 0, 1) := by decide +kernel
theorem dX2_advance_12 : decode cX2_advance 12 = .ok (.getfield 43, 3) := by decide +kernel
theorem dX2_advance_15 : decode cX2_advance 15 = .ok (.aload_n 0, 1) := by decide +kernel
theorem dX2_advance_16 : decode cX2_advance 16 = .ok (.getfield 21, 3) := by decide +kernel
theorem dX2_advance_19 : decode cX2_advance 19 = .ok (.getfield 53, 3) := by decide +kernel
theorem dX2_advance_22 : decode cX2_advance 22 = .ok (.invokevirtual 56, 3) := by decide +kernel
theorem dX2_advance_25 : decode cX2_advance 25 = .ok (.goto 4, 3) := by decide +kernel
theorem dX2_advance_28 : decode cX2_advance 28 = .ok (.iconst 0, 1) := by decide +kernel
theorem dX2_advance_29 : decode cX2_advance 29 = .ok (.istore_n 1, 1) := by decide +kernel
theorem dX2_advance_30 : decode cX2_advance 30 = .ok (.iload_n 1, 1) := by decide +kernel
theorem dX2_advance_31 : decode cX2_advance 31 = .ok (.ifCond .ne 5, 3) := by decide +kernel
theorem dX2_advance_34 : decode cX2_advance 34 = .ok (.iconst 1, 1) := by decide +kernel
theorem dX2_advance_35 : decode cX2_advance 35 = .ok (.ireturn, 1) := by decide +kernel
theorem dX2_advance_36 : decode cX2_advance 36 = .ok (.aload_n 0, 1) := by decide +kernel
theorem dX2_advance_37 : decode cX2_advance 37 = .ok (.getfield 21, 3) := by decide +kernel
theorem dX2_advance_40 : decode cX2_advance 40 = .ok (.aload_n 0, 1) := by decide +kernel
theorem dX2_advance_41 : decode cX2_advance 41 = .ok (.getfield 43, 3) := by decide +kernel
theorem dX2_advance_44 : decode cX2_advance 44 = .ok (.invokevirtual 60, 3) := by decide +kernel
theorem dX2_advance_47 : decode cX2_advance 47 = .ok (.istore_n 2, 1) := by decide +kernel
theorem dX2_advance_48 : decode cX2_advance 48 = .ok (.aload_n 0, 1) := by decide +kernel
theorem dX2_advance_49 : decode cX2_advance 49 = .ok (.getfield 21, 3) := by decide +kernel
theorem dX2_advance_52 : decode cX2_advance 52 = .ok (.aload_n 0, 1) := by decide +kernel
theorem dX2_advance_53 : decode cX2_advance 53 = .ok (.getfield 43, 3) := by decide +kernel
theorem dX2_advance_56 : decode cX2_advance 56 = .ok (.iconst 1, 1) := by decide +kernel
theorem dX2_advance_57 : decode cX2_advance 57 = .ok (.iadd, 1) := by decide +kernel
theorem dX2_advance_58 : decode cX2_advance 58 = .ok (.invokevirtual 60, 3) := by decide +kernel
theorem dX2_advance_61 : decode cX2_advance 61 = .ok (.istore_n 3, 1) := by decide +kernel
theorem dX2_advance_62 : decode cX2_advance 62 = .ok (.aload_n 0, 1) := by decide +kernel
theorem dX2_advance_63 : decode cX2_advance 63 = .ok (.getfield 43, 3) := by decide +kernel
theorem dX2_advance_66 : decode cX2_advance 66 = .ok (.iload_n 1, 1) := by decide +kernel
theorem dX2_advance_67 : decode cX2_advance 67 = .ok (.iadd, 1) := by decide +kernel
theorem dX2_advance_68 : decode cX2_advance 68 = .ok (.istore 4, 2) := by decide +kernel
end
section
theorem dX2_advance_70 : decode cX2_advance 70 = .ok (.iload_n 2, 1) := by decide +kernel
theorem dX2_advance_71 : decode cX2_advance 71 = .ok (.tableswitch 82 7 10 #[29, 41, 50, 60], 29) := by decide +kernel
theorem dX2_advance_100 : decode cX2_advance 100 = .ok (.aload_n 0, 1) := by decide +kernel
theorem dX2_advance_101 : decode cX2_advance 101 = .ok (.iload_n 3, 1) := by decide +kernel
theorem dX2_advance_102 : decode cX2_advance 102 = .ok (.iload 4, 2) := by decide +kernel
theorem dX2_advance_104 : decode cX2_advance 104 = .ok (.invokevirtual 64, 3) := by decide +kernel
theorem dX2_advance_107 : decode cX2_advance 107 = .ok (.istore 5, 2) := by decide +kernel
theorem dX2_advance_109 : decode cX2_advance 109 = .ok (.goto 82, 3) := by decide +kernel
theorem dX2_advance_112 : decode cX2_advance 112 = .ok (.aload_n 0, 1) := by decide +kernel
theorem dX2_advance_113 : decode cX2_advance 113 = .ok (.invokevirtual 68, 3) := by decide +kernel
theorem dX2_advance_116 : decode cX2_advance 116 = .ok (.istore 5, 2) := by decide +kernel
theorem dX2_advance_118 : decode cX2_advance 118 = .ok (.goto 73, 3) := by decide +kernel
theorem dX2_advance_121 : decode cX2_advance 121 = .ok (.aload_n 0, 1) := by decide +kernel
theorem dX2_advance_122 : decode cX2_advance 122 = .ok (.iload_n 3, 1) := by decide +kernel
theorem dX2_advance_123 : decode cX2_advance 123 = .ok (.invokevirtual 72, 3) := by decide +kernel
theorem dX2_advance_126 : decode cX2_advance 126 = .ok (.istore 5, 2) := by decide +kernel
theorem dX2_advance_128 : decode cX2_advance 128 = .ok (.goto 63, 3) := by decide +kernel
theorem dX2_advance_131 : decode cX2_advance 131 = .ok (.aload_n 0, 1) := by decide +kernel
theorem dX2_advance_132 : decode cX2_advance 132 = .ok (.aload_n 0, 1) := by decide +kernel
theorem dX2_advance_133 : decode cX2_advance 133 = .ok (.getfield 34, 3) := by decide +kernel
theorem dX2_advance_136 : decode cX2_advance 136 = .ok (.ifCond .eq 7, 3) := by decide +kernel
theorem dX2_advance_139 : decode cX2_advance 139 = .ok (.iload_n 3, 1) := by decide +kernel
theorem dX2_advance_140 : decode cX2_advance 140 = .ok (.goto 5, 3) := by decide +kernel
theorem dX2_advance_143 : decode cX2_advance 143 = .ok (.iload 4, 2) := by decide +kernel
theorem dX2_advance_145 : decode cX2_advance 145 = .ok (.invokevirtual 72, 3) := by decide +kernel
theorem dX2_advance_148 : decode cX2_advance 148 = .ok (.istore 5, 2) := by decide +kernel
theorem dX2_advance_150 : decode cX2_advance 150 = .ok (.goto 41, 3) := by decide +kernel
theorem dX2_advance_153 : decode cX2_advance 153 = .ok (.aload_n 0, 1) := by decide +kernel
theorem dX2_advance_154 : decode cX2_advance 154 = .ok (.iload_n 2, 1) := by decide +kernel
theorem dX2_advance_155 : decode cX2_advance 155 = .ok (.iload_n 3, 1) := by decide +kernel
theorem dX2_advance_156 : decode cX2_advance 156 = .ok (.aload_n 0, 1) := by decide +kernel
theorem dX2_advance_157 : decode cX2_advance 157 = .ok (.getfield 21, 3) := by decide +kernel
theorem dX2_advance_160 : decode cX2_advance 160 = .ok (.aload_n 0, 1) := by decide +kernel
theorem dX2_advance_161 : decode cX2_advance 161 = .ok (.getfield 43, 3) := by decide +kernel
theorem dX2_advance_164 : decode cX2_advance 164 = .ok (.iconst 2, 1) := by decide +kernel
theorem dX2_advance_165 : decode cX2_advance 165 = .ok (.iadd, 1) := by decide +kernel
theorem dX2_advance_166 : decode cX2_advance 166 = .ok (.invokevirtual 60, 3) := by decide +kernel
theorem dX2_advance_169 : decode cX2_advance 169 = .ok (.invokevirtual 76, 3) := by decide +kernel
theorem dX2_advance_172 : decode cX2_advance 172 = .ok (.ifCond .eq 16, 3) := by decide +kernel
theorem dX2_advance_175 : decode cX2_advance 175 = .ok (.aload_n 0, 1) := by decide +kernel
theorem dX2_advance_176 : decode cX2_advance 176 = .ok (.iload 4, 2) := by decide +kernel
theorem dX2_advance_178 : decode cX2_advance 178 = .ok (.invokevirtual 72, 3) := by decide +kernel
theorem dX2_advance_181 : decode cX2_advance 181 = .ok (.ifCond .eq 7, 3) := by decide +kernel
theorem dX2_advance_184 : decode cX2_advance 184 = .ok (.iconst 1, 1) := by decide +kernel
theorem dX2_advance_185 : decode cX2_advance 185 = .ok (.goto 4, 3) := by decide +kernel
theorem dX2_advance_188 : decode cX2_advance 188 = .ok (.iconst 0, 1) := by decide +kernel
theorem dX2_advance_189 : decode cX2_advance 189 = .ok (.istore 5, 2) := by decide +kernel
theorem dX2_advance_191 : decode cX2_advance 191 = .ok (.iload 5, 2) := by decide +kernel
theorem dX2_advance_193 : decode cX2_advance 193 = .ok (.ifCond .eq 7, 3) := by decide +kernel
theorem dX2_advance_196 : decode cX2_advance 196 = .ok (.iconst 0, 1) := by decide +kernel
theorem dX2_advance_197 : decode cX2_advance 197 = .ok (.goto 4, 3) := by decide +kernel
theorem dX2_advance_200 : decode cX2_advance 200 = .ok (.iconst 2, 1) := by decide +kernel
theorem dX2_advance_201 : decode cX2_advance 201 = .ok (.ireturn, 1) := by decide +kernel
theorem dX2_carryOut_0 : decode cX2_carryOut 0 = .ok (.iload_n 1, 1) := by decide +kernel
theorem dX2_carryOut_1 : decode cX2_carryOut 1 = .ok (.tableswitch 219 1 15 #[75, 86, 117, 128, 139, 151, 219, 219, 219, 219, 162, 171, 178, 190, 207], 75) := by decide +kernel
theorem dX2_carryOut_76 : decode cX2_carryOut 76 = .ok (.aload_n 0, 1) := by decide +kernel
theorem dX2_carryOut_77 : decode cX2_carryOut 77 = .ok (.aload_n 0, 1) := by decide +kernel
theorem dX2_carryOut_78 : decode cX2_carryOut 78 = .ok (.getfield 15, 3) := by decide +kernel
theorem dX2_carryOut_81 : decode cX2_carryOut 81 = .ok (.iload_n 2, 1) := by decide +kernel
theorem dX2_carryOut_82 : decode cX2_carryOut 82 = .ok (.iaload, 1) := by decide +kernel
theorem dX2_carryOut_83 : decode cX2_carryOut 83 = .ok (.invokevirtual 80, 3) := by decide +kernel
theorem dX2_carryOut_86 : decode cX2_carryOut 86 = .ok (.ireturn, 1) := by decide +kernel
theorem dX2_carryOut_87 : decode cX2_carryOut 87 = .ok (.aload_n 0, 1) := by decide +kernel
theorem dX2_carryOut_88 : decode cX2_carryOut 88 = .ok (.iload_n 2, 1) := by decide +kernel
theorem dX2_carryOut_89 : decode cX2_carryOut 89 = .ok (.aload_n 0, 1) := by decide +kernel
theorem dX2_carryOut_90 : decode cX2_carryOut 90 = .ok (.getfield 31, 3) := by decide +kernel
theorem dX2_carryOut_93 : decode cX2_carryOut 93 = .ok (.invokevirtual 83, 3) := by decide +kernel
theorem dX2_carryOut_96 : decode cX2_carryOut 96 = .ok (.ifCond .eq 20, 3) := by decide +kernel
theorem dX2_carryOut_99 : decode cX2_carryOut 99 = .ok (.aload_n 0, 1) := by decide +kernel
theorem dX2_carryOut_100 : decode cX2_carryOut 100 = .ok (.aload_n 0, 1) := by decide +kernel
theorem dX2_carryOut_101 : decode cX2_carryOut 101 = .ok (.getfield 31, 3) := by decide +kernel
theorem dX2_carryOut_104 : decode cX2_carryOut 104 = .ok (.iconst 1, 1) := by decide +kernel
theorem dX2_carryOut_105 : decode cX2_carryOut 105 = .ok (.iadd, 1) := by decide +kernel
theorem dX2_carryOut_106 : decode cX2_carryOut 106 = .ok (.invokevirtual 86, 3) := by decide +kernel
theorem dX2_carryOut_109 : decode cX2_carryOut 109 = .ok (.ifCond .eq 7, 3) := by decide +kernel
theorem dX2_carryOut_112 : decode cX2_carryOut 112 = .ok (.iconst 1, 1) := by decide +kernel
theorem dX2_carryOut_113 : decode cX2_carryOut 113 = .ok (.goto 4, 3) := by decide +kernel
theorem dX2_carryOut_116 : decode cX2_carryOut 116 = .ok (.iconst 0, 1) := by decide +kernel
theorem dX2_carryOut_117 : decode cX2_carryOut 117 = .ok (.ireturn, 1) := by decide +kernel
theorem dX2_carryOut_118 : decode cX2_carryOut 118 = .ok (.aload_n 0, 1) := by decide +kernel
theorem dX2_carryOut_119 : decode cX2_carryOut 119 = .ok (.aload_n 0, 1) := by decide +kernel
theorem dX2_carryOut_120 : decode cX2_carryOut 120 = .ok (.getfield 31, 3) := by decide +kernel
theorem dX2_carryOut_123 : decode cX2_carryOut 123 = .ok (.iload_n 2, 1) := by decide +kernel
theorem dX2_carryOut_124 : decode cX2_carryOut 124 = .ok (.isub, 1) := by decide +kernel
theorem dX2_carryOut_125 : decode cX2_carryOut 125 = .ok (.invokevirtual 86, 3) := by decide +kernel
theorem dX2_carryOut_128 : decode cX2_carryOut 128 = .ok (.ireturn, 1) := by decide +kernel
theorem dX2_carryOut_129 : decode cX2_carryOut 129 = .ok (.aload_n 0, 1) := by decide +kernel
theorem dX2_carryOut_130 : decode cX2_carryOut 130 = .ok (.aload_n 0, 1) := by decide +kernel
theorem dX2_carryOut_131 : decode cX2_carryOut 131 = .ok (.getfield 31, 3) := by decide +kernel
theorem dX2_carryOut_134 : decode cX2_carryOut 134 = .ok (.iload_n 2, 1) := by decide +kernel
theorem dX2_carryOut_135 : decode cX2_carryOut 135 = .ok (.iadd, 1) := by decide +kernel
theorem dX2_carryOut_136 : decode cX2_carryOut 136 = .ok (.invokevirtual 86, 3) := by decide +kernel
theorem dX2_carryOut_139 : decode cX2_carryOut 139 = .ok (.ireturn, 1) := by decide +kernel
theorem dX2_carryOut_140 : decode cX2_carryOut 140 = .ok (.aload_n 0, 1) := by decide +kernel
theorem dX2_carryOut_141 : decode cX2_carryOut 141 = .ok (.getfield 15, 3) := by decide +kernel
theorem dX2_carryOut_144 : decode cX2_carryOut 144 = .ok (.iconst 0, 1) := by decide +kernel
theorem dX2_carryOut_145 : decode cX2_carryOut 145 = .ok (.aload_n 0, 1) := by decide +kernel
theorem dX2_carryOut_146 : decode cX2_carryOut 146 = .ok (.getfield 31, 3) := by decide +kernel
theorem dX2_carryOut_149 : decode cX2_carryOut 149 = .ok (.iastore, 1) := by decide +kernel
theorem dX2_carryOut_150 : decode cX2_carryOut 150 = .ok (.iconst 1, 1) := by decide +kernel
theorem dX2_carryOut_151 : decode cX2_carryOut 151 = .ok (.ireturn, 1) := by decide +kernel
theorem dX2_carryOut_152 : decode cX2_carryOut 152 = .ok (.aload_n 0, 1) := by decide +kernel
theorem dX2_carryOut_153 : decode cX2_carryOut 153 = .ok (.aload_n 0, 1) := by decide +kernel
theorem dX2_carryOut_154 : decode cX2_carryOut 154 = .ok (.getfield 15, 3) := by decide +kernel
theorem dX2_carryOut_157 : decode cX2_carryOut 157 = .ok (.iconst 0, 1) := by decide +kernel
theorem dX2_carryOut_158 : decode cX2_carryOut 158 = .ok (.iaload, 1) := by decide +kernel
theorem dX2_carryOut_159 : decode cX2_carryOut 159 = .ok (.invokevirtual 86, 3) := by decide +kernel
theorem dX2_carryOut_162 : decode cX2_carryOut 162 = .ok (.ireturn, 1) := by decide +kernel
theorem dX2_carryOut_163 : decode cX2_carryOut 163 = .ok (.aload_n 0, 1) := by decide +kernel
theorem dX2_carryOut_164 : decode cX2_carryOut 164 = .ok (.getfield 15, 3) := by decide +kernel
theorem dX2_carryOut_167 : decode cX2_carryOut 167 = .ok (.iload_n 2, 1) := by decide +kernel
theorem dX2_carryOut_168 : decode cX2_carryOut 168 = .ok (.iload_n 3, 1) := by decide +kernel
theorem dX2_carryOut_169 : decode cX2_carryOut 169 = .ok (.iastore, 1) := by decide +kernel
theorem dX2_carryOut_170 : decode cX2_carryOut 170 = .ok (.iconst 1, 1) := by decide +kernel
theorem dX2_carryOut_171 : decode cX2_carryOut 171 = .ok (.ireturn, 1) := by decide +kernel
theorem dX2_carryOut_172 : decode cX2_carryOut 172 = .ok (.aload_n 0, 1) := by decide +kernel
theorem dX2_carryOut_173 : decode cX2_carryOut 173 = .ok (.iload_n 2, 1) := by decide +kernel
theorem dX2_carryOut_174 : decode cX2_carryOut 174 = .ok (.putfield 34, 3) := by decide +kernel
theorem dX2_carryOut_177 : decode cX2_carryOut 177 = .ok (.iconst 1, 1) := by decide +kernel
theorem dX2_carryOut_178 : decode cX2_carryOut 178 = .ok (.ireturn, 1) := by decide +kernel
theorem dX2_carryOut_179 : decode cX2_carryOut 179 = .ok (.aload_n 0, 1) := by decide +kernel
theorem dX2_carryOut_180 : decode cX2_carryOut 180 = .ok (.dup, 1) := by decide +kernel
theorem dX2_carryOut_181 : decode cX2_carryOut 181 = .ok (.getfield 34, 3) := by decide +kernel
theorem dX2_carryOut_184 : decode cX2_carryOut 184 = .ok (.iconst 1, 1) := by decide +kernel
theorem dX2_carryOut_185 : decode cX2_carryOut 185 = .ok (.isub, 1) := by decide +kernel
theorem dX2_carryOut_186 : decode cX2_carryOut 186 = .ok (.putfield 34, 3) := by decide +kernel
theorem dX2_carryOut_189 : decode cX2_carryOut 189 = .ok (.iconst 1, 1) := by decide +kernel
theorem dX2_carryOut_190 : decode cX2_carryOut 190 = .ok (.ireturn, 1) := by decide +kernel
theorem dX2_carryOut_191 : decode cX2_carryOut 191 = .ok (.aload_n 0, 1) := by decide +kernel
theorem dX2_carryOut_192 : decode cX2_carryOut 192 = .ok (.aload_n 0, 1) := by decide +kernel
theorem dX2_carryOut_193 : decode cX2_carryOut 193 = .ok (.getfield 31, 3) := by decide +kernel
theorem dX2_carryOut_196 : decode cX2_carryOut 196 = .ok (.iload_n 3, 1) := by decide +kernel
theorem dX2_carryOut_197 : decode cX2_carryOut 197 = .ok (.iadd, 1) := by decide +kernel
theorem dX2_carryOut_198 : decode cX2_carryOut 198 = .ok (.aload_n 0, 1) := by decide +kernel
theorem dX2_carryOut_199 : decode cX2_carryOut 199 = .ok (.getfield 15, 3) := by decide +kernel
theorem dX2_carryOut_202 : decode cX2_carryOut 202 = .ok (.iload_n 2, 1) := by decide +kernel
theorem dX2_carryOut_203 : decode cX2_carryOut 203 = .ok (.iaload, 1) := by decide +kernel
theorem dX2_carryOut_204 : decode cX2_carryOut 204 = .ok (.invokevirtual 89, 3) := by decide +kernel
theorem dX2_carryOut_207 : decode cX2_carryOut 207 = .ok (.ireturn, 1) := by decide +kernel
theorem dX2_carryOut_208 : decode cX2_carryOut 208 = .ok (.aload_n 0, 1) := by decide +kernel
theorem dX2_carryOut_209 : decode cX2_carryOut 209 = .ok (.iload_n 2, 1) := by decide +kernel
theorem dX2_carryOut_210 : decode cX2_carryOut 210 = .ok (.aload_n 0, 1) := by decide +kernel
theorem dX2_carryOut_211 : decode cX2_carryOut 211 = .ok (.getfield 31, 3) := by decide +kernel
theorem dX2_carryOut_214 : decode cX2_carryOut 214 = .ok (.iload_n 3, 1) := by decide +kernel
theorem dX2_carryOut_215 : decode cX2_carryOut 215 = .ok (.iadd, 1) := by decide +kernel
theorem dX2_carryOut_216 : decode cX2_carryOut 216 = .ok (.invokevirtual 83, 3) := by decide +kernel
theorem dX2_carryOut_219 : decode cX2_carryOut 219 = .ok (.ireturn, 1) := by decide +kernel
theorem dX2_carryOut_220 : decode cX2_carryOut 220 = .ok (.iconst 1, 1) := by decide +kernel
theorem dX2_carryOut_221 : decode cX2_carryOut 221 = .ok (.ireturn, 1) := by decide +kernel
theorem dX2_callPlace_0 : decode cX2_callPlace 0 = .ok (.aload_n 0, 1) := by decide +kernel
theorem dX2_callPlace_1 : decode cX2_callPlace 1 = .ok (.getfield 37, 3) := by decide +kernel
theorem dX2_callPlace_4 : decode cX2_callPlace 4 = .ok (.bipush 40, 2) := by decide +kernel
theorem dX2_callPlace_6 : decode cX2_callPlace 6 = .ok (.if_icmp .ge 11, 3) := by decide +kernel
theorem dX2_callPlace_9 : decode cX2_callPlace 9 = .ok (.aload_n 0, 1) := by decide +kernel
theorem dX2_callPlace_10 : decode cX2_callPlace 10 = .ok (.iload_n 2, 1) := by decide +kernel
theorem dX2_callPlace_11 : decode cX2_callPlace 11 = .ok (.invokevirtual 80, 3) := by decide +kernel
theorem dX2_callPlace_14 : decode cX2_callPlace 14 = .ok (.ifCond .ne 5, 3) := by decide +kernel
theorem dX2_callPlace_17 : decode cX2_callPlace 17 = .ok (.iconst 0, 1) := by decide +kernel
theorem dX2_callPlace_18 : decode cX2_callPlace 18 = .ok (.ireturn, 1) := by decide +kernel
theorem dX2_callPlace_19 : decode cX2_callPlace 19 = .ok (.aload_n 0, 1) := by decide +kernel
theorem dX2_callPlace_20 : decode cX2_callPlace 20 = .ok (.getfield 18, 3) := by decide +kernel
theorem dX2_callPlace_23 : decode cX2_callPlace 23 = .ok (.aload_n 0, 1) := by decide +kernel
theorem dX2_callPlace_24 : decode cX2_callPlace 24 = .ok (.getfield 37, 3) := by decide +kernel
theorem dX2_callPlace_27 : decode cX2_callPlace 27 = .ok (.iload_n 2, 1) := by decide +kernel
theorem dX2_callPlace_28 : decode cX2_callPlace 28 = .ok (.iastore, 1) := by decide +kernel
theorem dX2_callPlace_29 : decode cX2_callPlace 29 = .ok (.aload_n 0, 1) := by decide +kernel
theorem dX2_callPlace_30 : decode cX2_callPlace 30 = .ok (.dup, 1) := by decide +kernel
theorem dX2_callPlace_31 : decode cX2_callPlace 31 = .ok (.getfield 37, 3) := by decide +kernel
theorem dX2_callPlace_34 : decode cX2_callPlace 34 = .ok (.iconst 1, 1) := by decide +kernel
theorem dX2_callPlace_35 : decode cX2_callPlace 35 = .ok (.iadd, 1) := by decide +kernel
theorem dX2_callPlace_36 : decode cX2_callPlace 36 = .ok (.putfield 37, 3) := by decide +kernel
theorem dX2_callPlace_39 : decode cX2_callPlace 39 = .ok (.aload_n 0, 1) := by decide +kernel
theorem dX2_callPlace_40 : decode cX2_callPlace 40 = .ok (.iload_n 1, 1) := by decide +kernel
theorem dX2_callPlace_41 : decode cX2_callPlace 41 = .ok (.invokevirtual 72, 3) := by decide +kernel
theorem dX2_callPlace_44 : decode cX2_callPlace 44 = .ok (.ireturn, 1) := by decide +kernel
theorem dX2_returnToCaller_0 : decode cX2_returnToCaller 0 = .ok (.aload_n 0, 1) := by decide +kernel
theorem dX2_returnToCaller_1 : decode cX2_returnToCaller 1 = .ok (.aload_n 0, 1) := by decide +kernel
theorem dX2_returnToCaller_2 : decode cX2_returnToCaller 2 = .ok (.getfield 31, 3) := by decide +kernel
theorem dX2_returnToCaller_5 : decode cX2_returnToCaller 5 = .ok (.invokevirtual 92, 3) := by decide +kernel
theorem dX2_returnToCaller_8 : decode cX2_returnToCaller 8 = .ok (.ifCond .ne 5, 3) := by decide +kernel
theorem dX2_returnToCaller_11 : decode cX2_returnToCaller 11 = .ok (.iconst 0, 1) := by decide +kernel
theorem dX2_returnToCaller_12 : decode cX2_returnToCaller 12 = .ok (.ireturn, 1) := by decide +kernel
theorem dX2_returnToCaller_13 : decode cX2_returnToCaller 13 = .ok (.aload_n 0, 1) := by decide +kernel
theorem dX2_returnToCaller_14 : decode cX2_returnToCaller 14 = .ok (.aload_n 0, 1) := by decide +kernel
theorem dX2_returnToCaller_15 : decode cX2_returnToCaller 15 = .ok (.getfield 9, 3) := by decide +kernel
theorem dX2_returnToCaller_18 : decode cX2_returnToCaller 18 = .ok (.aload_n 0, 1) := by decide +kernel
theorem dX2_returnToCaller_19 : decode cX2_returnToCaller 19 = .ok (.getfield 31, 3) := by decide +kernel
theorem dX2_returnToCaller_22 : decode cX2_returnToCaller 22 = .ok (.iaload, 1) := by decide +kernel
theorem dX2_returnToCaller_23 : decode cX2_returnToCaller 23 = .ok (.putfield 43, 3) := by decide +kernel
theorem dX2_returnToCaller_26 : decode cX2_returnToCaller 26 = .ok (.aload_n 0, 1) := by decide +kernel
theorem dX2_returnToCaller_27 : decode cX2_returnToCaller 27 = .ok (.dup, 1) := by decide +kernel
theorem dX2_returnToCaller_28 : decode cX2_returnToCaller 28 = .ok (.getfield 31, 3) := by decide +kernel
theorem dX2_returnToCaller_31 : decode cX2_returnToCaller 31 = .ok (.iconst 1, 1) := by decide +kernel
theorem dX2_returnToCaller_32 : decode cX2_returnToCaller 32 = .ok (.iadd, 1) := by decide +kernel
theorem dX2_returnToCaller_33 : decode cX2_returnToCaller 33 = .ok (.putfield 31, 3) := by decide +kernel
theorem dX2_returnToCaller_36 : decode cX2_returnToCaller 36 = .ok (.aload_n 0, 1) := by decide +kernel
theorem dX2_returnToCaller_37 : decode cX2_returnToCaller 37 = .ok (.getfield 37, 3) := by decide +kernel
theorem dX2_returnToCaller_40 : decode cX2_returnToCaller 40 = .ok (.ifCond .le 13, 3) := by decide +kernel
theorem dX2_returnToCaller_43 : decode cX2_returnToCaller 43 = .ok (.aload_n 0, 1) := by decide +kernel
theorem dX2_returnToCaller_44 : decode cX2_returnToCaller 44 = .ok (.dup, 1) := by decide +kernel
theorem dX2_returnToCaller_45 : decode cX2_returnToCaller 45 = .ok (.getfield 37, 3) := by decide +kernel
theorem dX2_returnToCaller_48 : decode cX2_returnToCaller 48 = .ok (.iconst 1, 1) := by decide +kernel
theorem dX2_returnToCaller_49 : decode cX2_returnToCaller 49 = .ok (.isub, 1) := by decide +kernel
theorem dX2_returnToCaller_50 : decode cX2_returnToCaller 50 = .ok (.putfield 37, 3) := by decide +kernel
theorem dX2_returnToCaller_53 : decode cX2_returnToCaller 53 = .ok (.aload_n 0, 1) := by decide +kernel
theorem dX2_returnToCaller_54 : decode cX2_returnToCaller 54 = .ok (.getfield 43, 3) := by decide +kernel
theorem dX2_returnToCaller_57 : decode cX2_returnToCaller 57 = .ok (.sipush 255, 3) := by decide +kernel
theorem dX2_returnToCaller_60 : decode cX2_returnToCaller 60 = .ok (.if_icmp .ne 7, 3) := by decide +kernel
theorem dX2_returnToCaller_63 : decode cX2_returnToCaller 63 = .ok (.aload_n 0, 1) := by decide +kernel
theorem dX2_returnToCaller_64 : decode cX2_returnToCaller 64 = .ok (.invokevirtual 95, 3) := by decide +kernel
theorem dX2_returnToCaller_67 : decode cX2_returnToCaller 67 = .ok (.iconst 1, 1) := by decide +kernel
theorem dX2_returnToCaller_68 : decode cX2_returnToCaller 68 = .ok (.ireturn, 1) := by decide +kernel
theorem dX2_goTo_0 : decode cX2_goTo 0 = .ok (.aload_n 0, 1) := by decide +kernel
theorem dX2_goTo_1 : decode cX2_goTo 1 = .ok (.iload_n 1, 1) := by decide +kernel
theorem dX2_goTo_2 : decode cX2_goTo 2 = .ok (.putfield 43, 3) := by decide +kernel
theorem dX2_goTo_5 : decode cX2_goTo 5 = .ok (.iconst 1, 1) := by decide +kernel
theorem dX2_goTo_6 : decode cX2_goTo 6 = .ok (.ireturn, 1) := by decide +kernel
theorem dX2_setPointer_0 : decode cX2_setPointer 0 = .ok (.iload_n 1, 1) := by decide +kernel
theorem dX2_setPointer_1 : decode cX2_setPointer 1 = .ok (.ifCond .lt 9, 3) := by decide +kernel
theorem dX2_setPointer_4 : decode cX2_setPointer 4 = .ok (.iload_n 1, 1) := by decide +kernel
theorem dX2_setPointer_5 : decode cX2_setPointer 5 = .ok (.bipush 40, 2) := by decide +kernel
theorem dX2_setPointer_7 : decode cX2_setPointer 7 = .ok (.if_icmp .le 5, 3) := by decide +kernel
theorem dX2_setPointer_10 : decode cX2_setPointer 10 = .ok (.iconst 0, 1) := by decide +kernel
theorem dX2_setPointer_11 : decode cX2_setPointer 11 = .ok (.ireturn, 1) := by decide +kernel
theorem dX2_setPointer_12 : decode cX2_setPointer 12 = .ok (.aload_n 0, 1) := by decide +kernel
theorem dX2_setPointer_13 : decode cX2_setPointer 13 = .ok (.iload_n 1, 1) := by decide +kernel
theorem dX2_setPointer_14 : decode cX2_setPointer 14 = .ok (.putfield 31, 3) := by decide +kernel
theorem dX2_setPointer_17 : decode cX2_setPointer 17 = .ok (.iconst 1, 1) := by decide +kernel
theorem dX2_setPointer_18 : decode cX2_setPointer 18 = .ok (.ireturn, 1) := by decide +kernel
theorem dX2_pushWord_0 : decode cX2_pushWord 0 = .ok (.aload_n 0, 1) := by decide +kernel
theorem dX2_pushWord_1 : decode cX2_pushWord 1 = .ok (.aload_n 0, 1) := by decide +kernel
theorem dX2_pushWord_2 : decode cX2_pushWord 2 = .ok (.getfield 31, 3) := by decide +kernel
theorem dX2_pushWord_5 : decode cX2_pushWord 5 = .ok (.iconst 1, 1) := by decide +kernel
theorem dX2_pushWord_6 : decode cX2_pushWord 6 = .ok (.isub, 1) := by decide +kernel
theorem dX2_pushWord_7 : decode cX2_pushWord 7 = .ok (.iload_n 1, 1) := by decide +kernel
theorem dX2_pushWord_8 : decode cX2_pushWord 8 = .ok (.invokevirtual 89, 3) := by decide +kernel
theorem dX2_pushWord_11 : decode cX2_pushWord 11 = .ok (.ifCond .eq 20, 3) := by decide +kernel
theorem dX2_pushWord_14 : decode cX2_pushWord 14 = .ok (.aload_n 0, 1) := by decide +kernel
theorem dX2_pushWord_15 : decode cX2_pushWord 15 = .ok (.aload_n 0, 1) := by decide +kernel
theorem dX2_pushWord_16 : decode cX2_pushWord 16 = .ok (.getfield 31, 3) := by decide +kernel
theorem dX2_pushWord_19 : decode cX2_pushWord 19 = .ok (.iconst 1, 1) := by decide +kernel
theorem dX2_pushWord_20 : decode cX2_pushWord 20 = .ok (.isub, 1) := by decide +kernel
theorem dX2_pushWord_21 : decode cX2_pushWord 21 = .ok (.invokevirtual 86, 3) := by decide +kernel
theorem dX2_pushWord_24 : decode cX2_pushWord 24 = .ok (.ifCond .eq 7, 3) := by decide +kernel
theorem dX2_pushWord_27 : decode cX2_pushWord 27 = .ok (.iconst 1, 1) := by decide +kernel
theorem dX2_pushWord_28 : decode cX2_pushWord 28 = .ok (.goto 4, 3) := by decide +kernel
theorem dX2_pushWord_31 : decode cX2_pushWord 31 = .ok (.iconst 0, 1) := by decide +kernel
theorem dX2_pushWord_32 : decode cX2_pushWord 32 = .ok (.ireturn, 1) := by decide +kernel
theorem dX2_storeWord_0 : decode cX2_storeWord 0 = .ok (.aload_n 0, 1) := by decide +kernel
theorem dX2_storeWord_1 : decode cX2_storeWord 1 = .ok (.iload_n 1, 1) := by decide +kernel
theorem dX2_storeWord_2 : decode cX2_storeWord 2 = .ok (.invokevirtual 92, 3) := by decide +kernel
theorem dX2_storeWord_5 : decode cX2_storeWord 5 = .ok (.ifCond .ne 5, 3) := by decide +kernel
theorem dX2_storeWord_8 : decode cX2_storeWord 8 = .ok (.iconst 0, 1) := by decide +kernel
theorem dX2_storeWord_9 : decode cX2_storeWord 9 = .ok (.ireturn, 1) := by decide +kernel
theorem dX2_storeWord_10 : decode cX2_storeWord 10 = .ok (.aload_n 0, 1) := by decide +kernel
theorem dX2_storeWord_11 : decode cX2_storeWord 11 = .ok (.getfield 9, 3) := by decide +kernel
theorem dX2_storeWord_14 : decode cX2_storeWord 14 = .ok (.iload_n 1, 1) := by decide +kernel
theorem dX2_storeWord_15 : decode cX2_storeWord 15 = .ok (.iload_n 2, 1) := by decide +kernel
theorem dX2_storeWord_16 : decode cX2_storeWord 16 = .ok (.iastore, 1) := by decide +kernel
theorem dX2_storeWord_17 : decode cX2_storeWord 17 = .ok (.iconst 1, 1) := by decide +kernel
theorem dX2_storeWord_18 : decode cX2_storeWord 18 = .ok (.ireturn, 1) := by decide +kernel
theorem dX2_loadRegister_0 : decode cX2_loadRegister 0 = .ok (.aload_n 0, 1) := by decide +kernel
theorem dX2_loadRegister_1 : decode cX2_loadRegister 1 = .ok (.iload_n 2, 1) := by decide +kernel
theorem dX2_loadRegister_2 : decode cX2_loadRegister 2 = .ok (.invokevirtual 92, 3) := by decide +kernel
theorem dX2_loadRegister_5 : decode cX2_loadRegister 5 = .ok (.ifCond .ne 5, 3) := by decide +kernel
theorem dX2_loadRegister_8 : decode cX2_loadRegister 8 = .ok (.iconst 0, 1) := by decide +kernel
theorem dX2_loadRegister_9 : decode cX2_loadRegister 9 = .ok (.ireturn, 1) := by decide +kernel
theorem dX2_loadRegister_10 : decode cX2_loadRegister 10 = .ok (.aload_n 0, 1) := by decide +kernel
theorem dX2_loadRegister_11 : decode cX2_loadRegister 11 = .ok (.getfield 15, 3) := by decide +kernel
theorem dX2_loadRegister_14 : decode cX2_loadRegister 14 = .ok (.iload_n 1, 1) := by decide +kernel
theorem dX2_loadRegister_15 : decode cX2_loadRegister 15 = .ok (.aload_n 0, 1) := by decide +kernel
theorem dX2_loadRegister_16 : decode cX2_loadRegister 16 = .ok (.getfield 9, 3) := by decide +kernel
theorem dX2_loadRegister_19 : decode cX2_loadRegister 19 = .ok (.iload_n 2, 1) := by decide +kernel
theorem dX2_loadRegister_20 : decode cX2_loadRegister 20 = .ok (.iaload, 1) := by decide +kernel
theorem dX2_loadRegister_21 : decode cX2_loadRegister 21 = .ok (.iastore, 1) := by decide +kernel
theorem dX2_loadRegister_22 : decode cX2_loadRegister 22 = .ok (.iconst 1, 1) := by decide +kernel
theorem dX2_loadRegister_23 : decode cX2_loadRegister 23 = .ok (.ireturn, 1) := by decide +kernel
theorem dX2_isWord_0 : decode cX2_isWord 0 = .ok (.iload_n 1, 1) := by decide +kernel
theorem dX2_isWord_1 : decode cX2_isWord 1 = .ok (.ifCond .lt 13, 3) := by decide +kernel
theorem dX2_isWord_4 : decode cX2_isWord 4 = .ok (.iload_n 1, 1) := by decide +kernel
theorem dX2_isWord_5 : decode cX2_isWord 5 = .ok (.bipush 40, 2) := by decide +kernel
theorem dX2_isWord_7 : decode cX2_isWord 7 = .ok (.if_icmp .ge 7, 3) := by decide +kernel
theorem dX2_isWord_10 : decode cX2_isWord 10 = .ok (.iconst 1, 1) := by decide +kernel
theorem dX2_isWord_11 : decode cX2_isWord 11 = .ok (.goto 4, 3) := by decide +kernel
theorem dX2_isWord_14 : decode cX2_isWord 14 = .ok (.iconst 0, 1) := by decide +kernel
theorem dX2_isWord_15 : decode cX2_isWord 15 = .ok (.ireturn, 1) := by decide +kernel
theorem dX2_wordAt_0 : decode cX2_wordAt 0 = .ok (.aload_n 0, 1) := by decide +kernel
theorem dX2_wordAt_1 : decode cX2_wordAt 1 = .ok (.iload_n 1, 1) := by decide +kernel
theorem dX2_wordAt_2 : decode cX2_wordAt 2 = .ok (.invokevirtual 92, 3) := by decide +kernel
theorem dX2_wordAt_5 : decode cX2_wordAt 5 = .ok (.ifCond .eq 12, 3) := by decide +kernel
theorem dX2_wordAt_8 : decode cX2_wordAt 8 = .ok (.aload_n 0, 1) := by decide +kernel
theorem dX2_wordAt_9 : decode cX2_wordAt 9 = .ok (.getfield 9, 3) := by decide +kernel
theorem dX2_wordAt_12 : decode cX2_wordAt 12 = .ok (.iload_n 1, 1) := by decide +kernel
theorem dX2_wordAt_13 : decode cX2_wordAt 13 = .ok (.iaload, 1) := by decide +kernel
theorem dX2_wordAt_14 : decode cX2_wordAt 14 = .ok (.goto 4, 3) := by decide +kernel
theorem dX2_wordAt_17 : decode cX2_wordAt 17 = .ok (.iconst 0, 1) := by decide +kernel
theorem dX2_wordAt_18 : decode cX2_wordAt 18 = .ok (.ireturn, 1) := by decide +kernel
theorem dX2_part_0 : decode cX2_part 0 = .ok (.aload_n 0, 1) := by decide +kernel
theorem dX2_part_1 : decode cX2_part 1 = .ok (.getfield 46, 3) := by decide +kernel
theorem dX2_part_4 : decode cX2_part 4 = .ok (.ifCond .ne 5, 3) := by decide +kernel
theorem dX2_part_7 : decode cX2_part 7 = .ok (.iconst (-1), 1) := by decide +kernel
theorem dX2_part_8 : decode cX2_part 8 = .ok (.ireturn, 1) := by decide +kernel
theorem dX2_part_9 : decode cX2_part 9 = .ok (.iload_n 1, 1) := by decide +kernel
theorem dX2_part_10 : decode cX2_part 10 = .ok (.tableswitch 71 0 6 #[42, 47, 52, 52, 52, 61, 66], 42) := by decide +kernel
theorem dX2_part_52 : decode cX2_part 52 = .ok (.aload_n 0, 1) := by decide +kernel
theorem dX2_part_53 : decode cX2_part 53 = .ok (.getfield 43, 3) := by decide +kernel
theorem dX2_part_56 : decode cX2_part 56 = .ok (.ireturn, 1) := by decide +kernel
theorem dX2_part_57 : decode cX2_part 57 = .ok (.aload_n 0, 1) := by decide +kernel
theorem dX2_part_58 : decode cX2_part 58 = .ok (.getfield 31, 3) := by decide +kernel
theorem dX2_part_61 : decode cX2_part 61 = .ok (.ireturn, 1) := by decide +kernel
theorem dX2_part_62 : decode cX2_part 62 = .ok (.aload_n 0, 1) := by decide +kernel
theorem dX2_part_63 : decode cX2_part 63 = .ok (.getfield 15, 3) := by decide +kernel
theorem dX2_part_66 : decode cX2_part 66 = .ok (.iload_n 1, 1) := by decide +kernel
theorem dX2_part_67 : decode cX2_part 67 = .ok (.iconst 2, 1) := by decide +kernel
theorem dX2_part_68 : decode cX2_part 68 = .ok (.isub, 1) := by decide +kernel
theorem dX2_part_69 : decode cX2_part 69 = .ok (.iaload, 1) := by decide +kernel
theorem dX2_part_70 : decode cX2_part 70 = .ok (.ireturn, 1) := by decide +kernel
theorem dX2_part_71 : decode cX2_part 71 = .ok (.aload_n 0, 1) := by decide +kernel
theorem dX2_part_72 : decode cX2_part 72 = .ok (.getfield 34, 3) := by decide +kernel
theorem dX2_part_75 : decode cX2_part 75 = .ok (.ireturn, 1) := by decide +kernel
theorem dX2_part_76 : decode cX2_part 76 = .ok (.aload_n 0, 1) := by decide +kernel
theorem dX2_part_77 : decode cX2_part 77 = .ok (.getfield 37, 3) := by decide +kernel
theorem dX2_part_80 : decode cX2_part 80 = .ok (.ireturn, 1) := by decide +kernel
theorem dX2_part_81 : decode cX2_part 81 = .ok (.iconst (-1), 1) := by decide +kernel
theorem dX2_part_82 : decode cX2_part 82 = .ok (.ireturn, 1) := by decide +kernel
theorem dX2_returnOf_0 : decode cX2_returnOf 0 = .ok (.iload_n 1, 1) := by decide +kernel
theorem dX2_returnOf_1 : decode cX2_returnOf 1 = .ok (.ifCond .lt 27, 3) := by decide +kernel
theorem dX2_returnOf_4 : decode cX2_returnOf 4 = .ok (.iload_n 1, 1) := by decide +kernel
theorem dX2_returnOf_5 : decode cX2_returnOf 5 = .ok (.aload_n 0, 1) := by decide +kernel
theorem dX2_returnOf_6 : decode cX2_returnOf 6 = .ok (.getfield 37, 3) := by decide +kernel
theorem dX2_returnOf_9 : decode cX2_returnOf 9 = .ok (.if_icmp .ge 19, 3) := by decide +kernel
theorem dX2_returnOf_12 : decode cX2_returnOf 12 = .ok (.aload_n 0, 1) := by decide +kernel
theorem dX2_returnOf_13 : decode cX2_returnOf 13 = .ok (.getfield 18, 3) := by decide +kernel
theorem dX2_returnOf_16 : decode cX2_returnOf 16 = .ok (.aload_n 0, 1) := by decide +kernel
theorem dX2_returnOf_17 : decode cX2_returnOf 17 = .ok (.getfield 37, 3) := by decide +kernel
theorem dX2_returnOf_20 : decode cX2_returnOf 20 = .ok (.iconst 1, 1) := by decide +kernel
theorem dX2_returnOf_21 : decode cX2_returnOf 21 = .ok (.isub, 1) := by decide +kernel
theorem dX2_returnOf_22 : decode cX2_returnOf 22 = .ok (.iload_n 1, 1) := by decide +kernel
theorem dX2_returnOf_23 : decode cX2_returnOf 23 = .ok (.isub, 1) := by decide +kernel
theorem dX2_returnOf_24 : decode cX2_returnOf 24 = .ok (.iaload, 1) := by decide +kernel
theorem dX2_returnOf_25 : decode cX2_returnOf 25 = .ok (.goto 4, 3) := by decide +kernel
theorem dX2_returnOf_28 : decode cX2_returnOf 28 = .ok (.iconst (-1), 1) := by decide +kernel
theorem dX2_returnOf_29 : decode cX2_returnOf 29 = .ok (.ireturn, 1) := by decide +kernel
theorem dX3_init_0 : decode cX3_init 0 = .ok (.aload_n 0, 1) := by decide +kernel
theorem dX3_init_1 : decode cX3_init 1 = .ok (.invokespecial 3, 3) := by decide +kernel
theorem dX3_init_4 : decode cX3_init 4 = .ok (.aload_n 0, 1) := by decide +kernel
theorem dX3_init_5 : decode cX3_init 5 = .ok (.new 9, 3) := by decide +kernel
theorem dX3_init_8 : decode cX3_init 8 = .ok (.dup, 1) := by decide +kernel
theorem dX3_init_9 : decode cX3_init 9 = .ok (.invokespecial 11, 3) := by decide +kernel
theorem dX3_init_12 : decode cX3_init 12 = .ok (.putfield 12, 3) := by decide +kernel
theorem dX3_init_15 : decode cX3_init 15 = .ok (.aload_n 0, 1) := by decide +kernel
theorem dX3_init_16 : decode cX3_init 16 = .ok (.new 9, 3) := by decide +kernel
theorem dX3_init_19 : decode cX3_init 19 = .ok (.dup, 1) := by decide +kernel
theorem dX3_init_20 : decode cX3_init 20 = .ok (.invokespecial 11, 3) := by decide +kernel
theorem dX3_init_23 : decode cX3_init 23 = .ok (.putfield 18, 3) := by decide +kernel
theorem dX3_init_26 : decode cX3_init 26 = .ok (.aload_n 0, 1) := by decide +kernel
theorem dX3_init_27 : decode cX3_init 27 = .ok (.aload_n 1, 1) := by decide +kernel
theorem dX3_init_28 : decode cX3_init 28 = .ok (.putfield 21, 3) := by decide +kernel
theorem dX3_init_31 : decode cX3_init 31 = .ok (.aload_n 0, 1) := by decide +kernel
theorem dX3_init_32 : decode cX3_init 32 = .ok (.aload_n 2, 1) := by decide +kernel
theorem dX3_init_33 : decode cX3_init 33 = .ok (.putfield 25, 3) := by decide +kernel
theorem dX3_init_36 : decode cX3_init 36 = .ok (.aload_n 0, 1) := by decide +kernel
theorem dX3_init_37 : decode cX3_init 37 = .ok (.new 29, 3) := by decide +kernel
theorem dX3_init_40 : decode cX3_init 40 = .ok (.dup, 1) := by decide +kernel
theorem dX3_init_41 : decode cX3_init 41 = .ok (.aload_n 1, 1) := by decide +kernel
theorem dX3_init_42 : decode cX3_init 42 = .ok (.invokespecial 31, 3) := by decide +kernel
theorem dX3_init_45 : decode cX3_init 45 = .ok (.putfield 34, 3) := by decide +kernel
theorem dX3_init_48 : decode cX3_init 48 = .ok (.return_, 1) := by decide +kernel
theorem dX3_packAll_0 : decode cX3_packAll 0 = .ok (.iconst 0, 1) := by decide +kernel
theorem dX3_packAll_1 : decode cX3_packAll 1 = .ok (.istore_n 1, 1) := by decide +kernel
theorem dX3_packAll_2 : decode cX3_packAll 2 = .ok (.iload_n 1, 1) := by decide +kernel
theorem dX3_packAll_3 : decode cX3_packAll 3 = .ok (.aload_n 0, 1) := by decide +kernel
theorem dX3_packAll_4 : decode cX3_packAll 4 = .ok (.getfield 21, 3) := by decide +kernel
theorem dX3_packAll_7 : decode cX3_packAll 7 = .ok (.getfield 38, 3) := by decide +kernel
theorem dX3_packAll_10 : decode cX3_packAll 10 = .ok (.if_icmp .ge 42, 3) := by decide +kernel
theorem dX3_packAll_13 : decode cX3_packAll 13 = .ok (.aload_n 0, 1) := by decide +kernel
theorem dX3_packAll_14 : decode cX3_packAll 14 = .ok (.getfield 34, 3) := by decide +kernel
theorem dX3_packAll_17 : decode cX3_packAll 17 = .ok (.aload_n 0, 1) := by decide +kernel
theorem dX3_packAll_18 : decode cX3_packAll 18 = .ok (.getfield 21, 3) := by decide +kernel
theorem dX3_packAll_21 : decode cX3_packAll 21 = .ok (.getfield 44, 3) := by decide +kernel
theorem dX3_packAll_24 : decode cX3_packAll 24 = .ok (.iload_n 1, 1) := by decide +kernel
theorem dX3_packAll_25 : decode cX3_packAll 25 = .ok (.iaload, 1) := by decide +kernel
theorem dX3_packAll_26 : decode cX3_packAll 26 = .ok (.aload_n 0, 1) := by decide +kernel
theorem dX3_packAll_27 : decode cX3_packAll 27 = .ok (.getfield 21, 3) := by decide +kernel
theorem dX3_packAll_30 : decode cX3_packAll 30 = .ok (.getfield 48, 3) := by decide +kernel
theorem dX3_packAll_33 : decode cX3_packAll 33 = .ok (.iload_n 1, 1) := by decide +kernel
theorem dX3_packAll_34 : decode cX3_packAll 34 = .ok (.iaload, 1) := by decide +kernel
theorem dX3_packAll_35 : decode cX3_packAll 35 = .ok (.invokevirtual 51, 3) := by decide +kernel
theorem dX3_packAll_38 : decode cX3_packAll 38 = .ok (.istore_n 2, 1) := by decide +kernel
theorem dX3_packAll_39 : decode cX3_packAll 39 = .ok (.iload_n 2, 1) := by decide +kernel
theorem dX3_packAll_40 : decode cX3_packAll 40 = .ok (.ifCond .eq 6, 3) := by decide +kernel
theorem dX3_packAll_43 : decode cX3_packAll 43 = .ok (.iload_n 2, 1) := by decide +kernel
theorem dX3_packAll_44 : decode cX3_packAll 44 = .ok (.ineg, 1) := by decide +kernel
theorem dX3_packAll_45 : decode cX3_packAll 45 = .ok (.ireturn, 1) := by decide +kernel
theorem dX3_packAll_46 : decode cX3_packAll 46 = .ok (.iinc 1 1, 3) := by decide +kernel
theorem dX3_packAll_49 : decode cX3_packAll 49 = .ok (.goto (-47), 3) := by decide +kernel
theorem dX3_packAll_52 : decode cX3_packAll 52 = .ok (.aload_n 0, 1) := by decide +kernel
theorem dX3_packAll_53 : decode cX3_packAll 53 = .ok (.getfield 25, 3) := by decide +kernel
theorem dX3_packAll_56 : decode cX3_packAll 56 = .ok (.invokevirtual 55, 3) := by decide +kernel
theorem dX3_packAll_59 : decode cX3_packAll 59 = .ok (.iconst 0, 1) := by decide +kernel
theorem dX3_packAll_60 : decode cX3_packAll 60 = .ok (.istore_n 1, 1) := by decide +kernel
theorem dX3_packAll_61 : decode cX3_packAll 61 = .ok (.iload_n 1, 1) := by decide +kernel
theorem dX3_packAll_62 : decode cX3_packAll 62 = .ok (.aload_n 0, 1) := by decide +kernel
theorem dX3_packAll_63 : decode cX3_packAll 63 = .ok (.getfield 21, 3) := by decide +kernel
theorem dX3_packAll_66 : decode cX3_packAll 66 = .ok (.getfield 38, 3) := by decide +kernel
theorem dX3_packAll_69 : decode cX3_packAll 69 = .ok (.if_icmp .ge 31, 3) := by decide +kernel
theorem dX3_packAll_72 : decode cX3_packAll 72 = .ok (.aload_n 0, 1) := by decide +kernel
theorem dX3_packAll_73 : decode cX3_packAll 73 = .ok (.aload_n 0, 1) := by decide +kernel
theorem dX3_packAll_74 : decode cX3_packAll 74 = .ok (.getfield 21, 3) := by decide +kernel
theorem dX3_packAll_77 : decode cX3_packAll 77 = .ok (.getfield 44, 3) := by decide +kernel
theorem dX3_packAll_80 : decode cX3_packAll 80 = .ok (.iload_n 1, 1) := by decide +kernel
theorem dX3_packAll_81 : decode cX3_packAll 81 = .ok (.iaload, 1) := by decide +kernel
theorem dX3_packAll_82 : decode cX3_packAll 82 = .ok (.aload_n 0, 1) := by decide +kernel
theorem dX3_packAll_83 : decode cX3_packAll 83 = .ok (.getfield 21, 3) := by decide +kernel
theorem dX3_packAll_86 : decode cX3_packAll 86 = .ok (.getfield 48, 3) := by decide +kernel
theorem dX3_packAll_89 : decode cX3_packAll 89 = .ok (.iload_n 1, 1) := by decide +kernel
theorem dX3_packAll_90 : decode cX3_packAll 90 = .ok (.iaload, 1) := by decide +kernel
theorem dX3_packAll_91 : decode cX3_packAll 91 = .ok (.invokevirtual 60, 3) := by decide +kernel
theorem dX3_packAll_94 : decode cX3_packAll 94 = .ok (.iinc 1 1, 3) := by decide +kernel
theorem dX3_packAll_97 : decode cX3_packAll 97 = .ok (.goto (-36), 3) := by decide +kernel
theorem dX3_packAll_100 : decode cX3_packAll 100 = .ok (.aload_n 0, 1) := by decide +kernel
theorem dX3_packAll_101 : decode cX3_packAll 101 = .ok (.getfield 25, 3) := by decide +kernel
theorem dX3_packAll_104 : decode cX3_packAll 104 = .ok (.getfield 64, 3) := by decide +kernel
theorem dX3_packAll_107 : decode cX3_packAll 107 = .ok (.ireturn, 1) := by decide +kernel
theorem dX3_writeFunction_0 : decode cX3_writeFunction 0 = .ok (.aload_n 0, 1) := by decide +kernel
theorem dX3_writeFunction_1 : decode cX3_writeFunction 1 = .ok (.getfield 25, 3) := by decide +kernel
theorem dX3_writeFunction_4 : decode cX3_writeFunction 4 = .ok (.getfield 64, 3) := by decide +kernel
theorem dX3_writeFunction_7 : decode cX3_writeFunction 7 = .ok (.istore_n 3, 1) := by decide +kernel
theorem dX3_writeFunction_8 : decode cX3_writeFunction 8 = .ok (.aload_n 0, 1) := by decide +kernel
theorem dX3_writeFunction_9 : decode cX3_writeFunction 9 = .ok (.getfield 25, 3) := by decide +kernel
theorem dX3_writeFunction_12 : decode cX3_writeFunction 12 = .ok (.iconst 0, 1) := by decide +kernel
theorem dX3_writeFunction_13 : decode cX3_writeFunction 13 = .ok (.invokevirtual 67, 3) := by decide +kernel
theorem dX3_writeFunction_16 : decode cX3_writeFunction 16 = .ok (.aload_n 0, 1) := by decide +kernel
theorem dX3_writeFunction_17 : decode cX3_writeFunction 17 = .ok (.getfield 25, 3) := by decide +kernel
theorem dX3_writeFunction_20 : decode cX3_writeFunction 20 = .ok (.iconst 0, 1) := by decide +kernel
theorem dX3_writeFunction_21 : decode cX3_writeFunction 21 = .ok (.invokevirtual 67, 3) := by decide +kernel
theorem dX3_writeFunction_24 : decode cX3_writeFunction 24 = .ok (.aload_n 0, 1) := by decide +kernel
theorem dX3_writeFunction_25 : decode cX3_writeFunction 25 = .ok (.getfield 25, 3) := by decide +kernel
theorem dX3_writeFunction_28 : decode cX3_writeFunction 28 = .ok (.iload_n 1, 1) := by decide +kernel
theorem dX3_writeFunction_29 : decode cX3_writeFunction 29 = .ok (.invokevirtual 67, 3) := by decide +kernel
theorem dX3_writeFunction_32 : decode cX3_writeFunction 32 = .ok (.aload_n 0, 1) := by decide +kernel
theorem dX3_writeFunction_33 : decode cX3_writeFunction 33 = .ok (.getfield 25, 3) := by decide +kernel
theorem dX3_writeFunction_36 : decode cX3_writeFunction 36 = .ok (.iload_n 2, 1) := by decide +kernel
theorem dX3_writeFunction_37 : decode cX3_writeFunction 37 = .ok (.iload_n 1, 1) := by decide +kernel
theorem dX3_writeFunction_38 : decode cX3_writeFunction 38 = .ok (.isub, 1) := by decide +kernel
theorem dX3_writeFunction_39 : decode cX3_writeFunction 39 = .ok (.invokevirtual 67, 3) := by decide +kernel
theorem dX3_writeFunction_42 : decode cX3_writeFunction 42 = .ok (.aload_n 0, 1) := by decide +kernel
theorem dX3_writeFunction_43 : decode cX3_writeFunction 43 = .ok (.iload_n 1, 1) := by decide +kernel
theorem dX3_writeFunction_44 : decode cX3_writeFunction 44 = .ok (.iload_n 2, 1) := by decide +kernel
theorem dX3_writeFunction_45 : decode cX3_writeFunction 45 = .ok (.invokevirtual 71, 3) := by decide +kernel
theorem dX3_writeFunction_48 : decode cX3_writeFunction 48 = .ok (.aload_n 0, 1) := by decide +kernel
theorem dX3_writeFunction_49 : decode cX3_writeFunction 49 = .ok (.getfield 25, 3) := by decide +kernel
theorem dX3_writeFunction_52 : decode cX3_writeFunction 52 = .ok (.getfield 64, 3) := by decide +kernel
theorem dX3_writeFunction_55 : decode cX3_writeFunction 55 = .ok (.iload_n 3, 1) := by decide +kernel
theorem dX3_writeFunction_56 : decode cX3_writeFunction 56 = .ok (.isub, 1) := by decide +kernel
theorem dX3_writeFunction_57 : decode cX3_writeFunction 57 = .ok (.iconst 2, 1) := by decide +kernel
theorem dX3_writeFunction_58 : decode cX3_writeFunction 58 = .ok (.isub, 1) := by decide +kernel
theorem dX3_writeFunction_59 : decode cX3_writeFunction 59 = .ok (.istore 4, 2) := by decide +kernel
theorem dX3_writeFunction_61 : decode cX3_writeFunction 61 = .ok (.aload_n 0, 1) := by decide +kernel
theorem dX3_writeFunction_62 : decode cX3_writeFunction 62 = .ok (.getfield 25, 3) := by decide +kernel
theorem dX3_writeFunction_65 : decode cX3_writeFunction 65 = .ok (.iload_n 3, 1) := by decide +kernel
theorem dX3_writeFunction_66 : decode cX3_writeFunction 66 = .ok (.iload 4, 2) := by decide +kernel
theorem dX3_writeFunction_68 : decode cX3_writeFunction 68 = .ok (.bipush 8, 2) := by decide +kernel
theorem dX3_writeFunction_70 : decode cX3_writeFunction 70 = .ok (.ishr, 1) := by decide +kernel
theorem dX3_writeFunction_71 : decode cX3_writeFunction 71 = .ok (.invokevirtual 74, 3) := by decide +kernel
theorem dX3_writeFunction_74 : decode cX3_writeFunction 74 = .ok (.pop, 1) := by decide +kernel
theorem dX3_writeFunction_75 : decode cX3_writeFunction 75 = .ok (.aload_n 0, 1) := by decide +kernel
theorem dX3_writeFunction_76 : decode cX3_writeFunction 76 = .ok (.getfield 25, 3) := by decide +kernel
theorem dX3_writeFunction_79 : decode cX3_writeFunction 79 = .ok (.iload_n 3, 1) := by decide +kernel
theorem dX3_writeFunction_80 : decode cX3_writeFunction 80 = .ok (.iconst 1, 1) := by decide +kernel
theorem dX3_writeFunction_81 : decode cX3_writeFunction 81 = .ok (.iadd, 1) := by decide +kernel
theorem dX3_writeFunction_82 : decode cX3_writeFunction 82 = .ok (.iload 4, 2) := by decide +kernel
theorem dX3_writeFunction_84 : decode cX3_writeFunction 84 = .ok (.sipush 255, 3) := by decide +kernel
theorem dX3_writeFunction_87 : decode cX3_writeFunction 87 = .ok (.iand, 1) := by decide +kernel
theorem dX3_writeFunction_88 : decode cX3_writeFunction 88 = .ok (.invokevirtual 74, 3) := by decide +kernel
theorem dX3_writeFunction_91 : decode cX3_writeFunction 91 = .ok (.pop, 1) := by decide +kernel
theorem dX3_writeFunction_92 : decode cX3_writeFunction 92 = .ok (.return_, 1) := by decide +kernel
theorem dX3_writeProgram_0 : decode cX3_writeProgram 0 = .ok (.aload_n 0, 1) := by decide +kernel
theorem dX3_writeProgram_1 : decode cX3_writeProgram 1 = .ok (.getfield 12, 3) := by decide +kernel
theorem dX3_writeProgram_4 : decode cX3_writeProgram 4 = .ok (.invokevirtual 78, 3) := by decide +kernel
theorem dX3_writeProgram_7 : decode cX3_writeProgram 7 = .ok (.iload_n 1, 1) := by decide +kernel
theorem dX3_writeProgram_8 : decode cX3_writeProgram 8 = .ok (.istore_n 3, 1) := by decide +kernel
theorem dX3_writeProgram_9 : decode cX3_writeProgram 9 = .ok (.iload_n 1, 1) := by decide +kernel
theorem dX3_writeProgram_10 : decode cX3_writeProgram 10 = .ok (.istore 4, 2) := by decide +kernel
theorem dX3_writeProgram_12 : decode cX3_writeProgram 12 = .ok (.iload 4, 2) := by decide +kernel
theorem dX3_writeProgram_14 : decode cX3_writeProgram 14 = .ok (.iload_n 2, 1) := by decide +kernel
theorem dX3_writeProgram_15 : decode cX3_writeProgram 15 = .ok (.if_icmp .ge 69, 3) := by decide +kernel
theorem dX3_writeProgram_18 : decode cX3_writeProgram 18 = .ok (.aload_n 0, 1) := by decide +kernel
theorem dX3_writeProgram_19 : decode cX3_writeProgram 19 = .ok (.getfield 34, 3) := by decide +kernel
theorem dX3_writeProgram_22 : decode cX3_writeProgram 22 = .ok (.iload 4, 2) := by decide +kernel
theorem dX3_writeProgram_24 : decode cX3_writeProgram 24 = .ok (.aload_n 0, 1) := by decide +kernel
theorem dX3_writeProgram_25 : decode cX3_writeProgram 25 = .ok (.getfield 18, 3) := by decide +kernel
theorem dX3_writeProgram_28 : decode cX3_writeProgram 28 = .ok (.invokevirtual 81, 3) := by decide +kernel
theorem dX3_writeProgram_31 : decode cX3_writeProgram 31 = .ok (.ifCond .eq 47, 3) := by decide +kernel
theorem dX3_writeProgram_34 : decode cX3_writeProgram 34 = .ok (.aload_n 0, 1) := by decide +kernel
theorem dX3_writeProgram_35 : decode cX3_writeProgram 35 = .ok (.getfield 18, 3) := by decide +kernel
theorem dX3_writeProgram_38 : decode cX3_writeProgram 38 = .ok (.aload_n 0, 1) := by decide +kernel
theorem dX3_writeProgram_39 : decode cX3_writeProgram 39 = .ok (.getfield 12, 3) := by decide +kernel
theorem dX3_writeProgram_42 : decode cX3_writeProgram 42 = .ok (.invokevirtual 85, 3) := by decide +kernel
theorem dX3_writeProgram_45 : decode cX3_writeProgram 45 = .ok (.ifCond .ne 33, 3) := by decide +kernel
theorem dX3_writeProgram_48 : decode cX3_writeProgram 48 = .ok (.aload_n 0, 1) := by decide +kernel
theorem dX3_writeProgram_49 : decode cX3_writeProgram 49 = .ok (.iload 4, 2) := by decide +kernel
theorem dX3_writeProgram_51 : decode cX3_writeProgram 51 = .ok (.iload_n 3, 1) := by decide +kernel
theorem dX3_writeProgram_52 : decode cX3_writeProgram 52 = .ok (.isub, 1) := by decide +kernel
theorem dX3_writeProgram_53 : decode cX3_writeProgram 53 = .ok (.invokevirtual 89, 3) := by decide +kernel
theorem dX3_writeProgram_56 : decode cX3_writeProgram 56 = .ok (.aload_n 0, 1) := by decide +kernel
theorem dX3_writeProgram_57 : decode cX3_writeProgram 57 = .ok (.invokevirtual 92, 3) := by decide +kernel
theorem dX3_writeProgram_60 : decode cX3_writeProgram 60 = .ok (.aload_n 0, 1) := by decide +kernel
theorem dX3_writeProgram_61 : decode cX3_writeProgram 61 = .ok (.invokevirtual 95, 3) := by decide +kernel
theorem dX3_writeProgram_64 : decode cX3_writeProgram 64 = .ok (.aload_n 0, 1) := by decide +kernel
theorem dX3_writeProgram_65 : decode cX3_writeProgram 65 = .ok (.getfield 12, 3) := by decide +kernel
theorem dX3_writeProgram_68 : decode cX3_writeProgram 68 = .ok (.aload_n 0, 1) := by decide +kernel
theorem dX3_writeProgram_69 : decode cX3_writeProgram 69 = .ok (.getfield 18, 3) := by decide +kernel
theorem dX3_writeProgram_72 : decode cX3_writeProgram 72 = .ok (.invokevirtual 98, 3) := by decide +kernel
theorem dX3_writeProgram_75 : decode cX3_writeProgram 75 = .ok (.iload 4, 2) := by decide +kernel
theorem dX3_writeProgram_77 : decode cX3_writeProgram 77 = .ok (.istore_n 3, 1) := by decide +kernel
theorem dX3_writeProgram_78 : decode cX3_writeProgram 78 = .ok (.iinc 4 1, 3) := by decide +kernel
theorem dX3_writeProgram_81 : decode cX3_writeProgram 81 = .ok (.goto (-69), 3) := by decide +kernel
theorem dX3_writeProgram_84 : decode cX3_writeProgram 84 = .ok (.return_, 1) := by decide +kernel
theorem dX3_writeAdvance_0 : decode cX3_writeAdvance 0 = .ok (.iload_n 1, 1) := by decide +kernel
theorem dX3_writeAdvance_1 : decode cX3_writeAdvance 1 = .ok (.bipush 63, 2) := by decide +kernel
theorem dX3_writeAdvance_3 : decode cX3_writeAdvance 3 = .ok (.if_icmp .gt 17, 3) := by decide +kernel
theorem dX3_writeAdvance_6 : decode cX3_writeAdvance 6 = .ok (.aload_n 0, 1) := by decide +kernel
theorem dX3_writeAdvance_7 : decode cX3_writeAdvance 7 = .ok (.getfield 25, 3) := by decide +kernel
theorem dX3_writeAdvance_10 : decode cX3_writeAdvance 10 = .ok (.bipush 64, 2) := by decide +kernel
theorem dX3_writeAdvance_12 : decode cX3_writeAdvance 12 = .ok (.iload_n 1, 1) := by decide +kernel
theorem dX3_writeAdvance_13 : decode cX3_writeAdvance 13 = .ok (.iadd, 1) := by decide +kernel
theorem dX3_writeAdvance_14 : decode cX3_writeAdvance 14 = .ok (.invokevirtual 67, 3) := by decide +kernel
theorem dX3_writeAdvance_17 : decode cX3_writeAdvance 17 = .ok (.goto 19, 3) := by decide +kernel
theorem dX3_writeAdvance_20 : decode cX3_writeAdvance 20 = .ok (.aload_n 0, 1) := by decide +kernel
theorem dX3_writeAdvance_21 : decode cX3_writeAdvance 21 = .ok (.getfield 25, 3) := by decide +kernel
theorem dX3_writeAdvance_24 : decode cX3_writeAdvance 24 = .ok (.iconst 2, 1) := by decide +kernel
theorem dX3_writeAdvance_25 : decode cX3_writeAdvance 25 = .ok (.invokevirtual 67, 3) := by decide +kernel
theorem dX3_writeAdvance_28 : decode cX3_writeAdvance 28 = .ok (.aload_n 0, 1) := by decide +kernel
theorem dX3_writeAdvance_29 : decode cX3_writeAdvance 29 = .ok (.getfield 25, 3) := by decide +kernel
theorem dX3_writeAdvance_32 : decode cX3_writeAdvance 32 = .ok (.iload_n 1, 1) := by decide +kernel
theorem dX3_writeAdvance_33 : decode cX3_writeAdvance 33 = .ok (.invokevirtual 67, 3) := by decide +kernel
theorem dX3_writeAdvance_36 : decode cX3_writeAdvance 36 = .ok (.return_, 1) := by decide +kernel
theorem dX3_writeBase_0 : decode cX3_writeBase 0 = .ok (.aload_n 0, 1) := by decide +kernel
theorem dX3_writeBase_1 : decode cX3_writeBase 1 = .ok (.getfield 18, 3) := by decide +kernel
theorem dX3_writeBase_4 : decode cX3_writeBase 4 = .ok (.getfield 102, 3) := by decide +kernel
theorem dX3_writeBase_7 : decode cX3_writeBase 7 = .ok (.aload_n 0, 1) := by decide +kernel
theorem dX3_writeBase_8 : decode cX3_writeBase 8 = .ok (.getfield 12, 3) := by decide +kernel
theorem dX3_writeBase_11 : decode cX3_writeBase 11 = .ok (.getfield 102, 3) := by decide +kernel
theorem dX3_writeBase_14 : decode cX3_writeBase 14 = .ok (.if_icmp .eq 7, 3) := by decide +kernel
theorem dX3_writeBase_17 : decode cX3_writeBase 17 = .ok (.iconst 1, 1) := by decide +kernel
theorem dX3_writeBase_18 : decode cX3_writeBase 18 = .ok (.goto 4, 3) := by decide +kernel
theorem dX3_writeBase_21 : decode cX3_writeBase 21 = .ok (.iconst 0, 1) := by decide +kernel
theorem dX3_writeBase_22 : decode cX3_writeBase 22 = .ok (.istore_n 1, 1) := by decide +kernel
theorem dX3_writeBase_23 : decode cX3_writeBase 23 = .ok (.aload_n 0, 1) := by decide +kernel
theorem dX3_writeBase_24 : decode cX3_writeBase 24 = .ok (.getfield 18, 3) := by decide +kernel
theorem dX3_writeBase_27 : decode cX3_writeBase 27 = .ok (.getfield 105, 3) := by decide +kernel
theorem dX3_writeBase_30 : decode cX3_writeBase 30 = .ok (.aload_n 0, 1) := by decide +kernel
theorem dX3_writeBase_31 : decode cX3_writeBase 31 = .ok (.getfield 12, 3) := by decide +kernel
theorem dX3_writeBase_34 : decode cX3_writeBase 34 = .ok (.getfield 105, 3) := by decide +kernel
theorem dX3_writeBase_37 : decode cX3_writeBase 37 = .ok (.if_icmp .eq 7, 3) := by decide +kernel
theorem dX3_writeBase_40 : decode cX3_writeBase 40 = .ok (.iconst 1, 1) := by decide +kernel
theorem dX3_writeBase_41 : decode cX3_writeBase 41 = .ok (.goto 4, 3) := by decide +kernel
theorem dX3_writeBase_44 : decode cX3_writeBase 44 = .ok (.iconst 0, 1) := by decide +kernel
theorem dX3_writeBase_45 : decode cX3_writeBase 45 = .ok (.istore_n 2, 1) := by decide +kernel
theorem dX3_writeBase_46 : decode cX3_writeBase 46 = .ok (.iload_n 1, 1) := by decide +kernel
theorem dX3_writeBase_47 : decode cX3_writeBase 47 = .ok (.ifCond .eq 19, 3) := by decide +kernel
theorem dX3_writeBase_50 : decode cX3_writeBase 50 = .ok (.iload_n 2, 1) := by decide +kernel
theorem dX3_writeBase_51 : decode cX3_writeBase 51 = .ok (.ifCond .eq 15, 3) := by decide +kernel
theorem dX3_writeBase_54 : decode cX3_writeBase 54 = .ok (.aload_n 0, 1) := by decide +kernel
theorem dX3_writeBase_55 : decode cX3_writeBase 55 = .ok (.getfield 25, 3) := by decide +kernel
theorem dX3_writeBase_58 : decode cX3_writeBase 58 = .ok (.bipush 12, 2) := by decide +kernel
theorem dX3_writeBase_60 : decode cX3_writeBase 60 = .ok (.invokevirtual 67, 3) := by decide +kernel
theorem dX3_writeBase_63 : decode cX3_writeBase 63 = .ok (.goto 32, 3) := by decide +kernel
theorem dX3_writeBase_66 : decode cX3_writeBase 66 = .ok (.iload_n 1, 1) := by decide +kernel
theorem dX3_writeBase_67 : decode cX3_writeBase 67 = .ok (.ifCond .eq 15, 3) := by decide +kernel
theorem dX3_writeBase_70 : decode cX3_writeBase 70 = .ok (.aload_n 0, 1) := by decide +kernel
theorem dX3_writeBase_71 : decode cX3_writeBase 71 = .ok (.getfield 25, 3) := by decide +kernel
theorem dX3_writeBase_74 : decode cX3_writeBase 74 = .ok (.bipush 13, 2) := by decide +kernel
theorem dX3_writeBase_76 : decode cX3_writeBase 76 = .ok (.invokevirtual 67, 3) := by decide +kernel
theorem dX3_writeBase_79 : decode cX3_writeBase 79 = .ok (.goto 16, 3) := by decide +kernel
theorem dX3_writeBase_82 : decode cX3_writeBase 82 = .ok (.iload_n 2, 1) := by decide +kernel
theorem dX3_writeBase_83 : decode cX3_writeBase 83 = .ok (.ifCond .eq 12, 3) := by decide +kernel
theorem dX3_writeBase_86 : decode cX3_writeBase 86 = .ok (.aload_n 0, 1) := by decide +kernel
theorem dX3_writeBase_87 : decode cX3_writeBase 87 = .ok (.getfield 25, 3) := by decide +kernel
theorem dX3_writeBase_90 : decode cX3_writeBase 90 = .ok (.bipush 14, 2) := by decide +kernel
theorem dX3_writeBase_92 : decode cX3_writeBase 92 = .ok (.invokevirtual 67, 3) := by decide +kernel
theorem dX3_writeBase_95 : decode cX3_writeBase 95 = .ok (.iload_n 1, 1) := by decide +kernel
theorem dX3_writeBase_96 : decode cX3_writeBase 96 = .ok (.ifCond .eq 17, 3) := by decide +kernel
theorem dX3_writeBase_99 : decode cX3_writeBase 99 = .ok (.aload_n 0, 1) := by decide +kernel
theorem dX3_writeBase_100 : decode cX3_writeBase 100 = .ok (.getfield 25, 3) := by decide +kernel
theorem dX3_writeBase_103 : decode cX3_writeBase 103 = .ok (.aload_n 0, 1) := by decide +kernel
theorem dX3_writeBase_104 : decode cX3_writeBase 104 = .ok (.getfield 18, 3) := by decide +kernel
theorem dX3_writeBase_107 : decode cX3_writeBase 107 = .ok (.getfield 102, 3) := by decide +kernel
theorem dX3_writeBase_110 : decode cX3_writeBase 110 = .ok (.invokevirtual 67, 3) := by decide +kernel
theorem dX3_writeBase_113 : decode cX3_writeBase 113 = .ok (.iload_n 2, 1) := by decide +kernel
theorem dX3_writeBase_114 : decode cX3_writeBase 114 = .ok (.ifCond .eq 17, 3) := by decide +kernel
theorem dX3_writeBase_117 : decode cX3_writeBase 117 = .ok (.aload_n 0, 1) := by decide +kernel
theorem dX3_writeBase_118 : decode cX3_writeBase 118 = .ok (.getfield 25, 3) := by decide +kernel
theorem dX3_writeBase_121 : decode cX3_writeBase 121 = .ok (.aload_n 0, 1) := by decide +kernel
theorem dX3_writeBase_122 : decode cX3_writeBase 122 = .ok (.getfield 18, 3) := by decide +kernel
theorem dX3_writeBase_125 : decode cX3_writeBase 125 = .ok (.getfield 105, 3) := by decide +kernel
theorem dX3_writeBase_128 : decode cX3_writeBase 128 = .ok (.invokevirtual 67, 3) := by decide +kernel
theorem dX3_writeBase_131 : decode cX3_writeBase 131 = .ok (.return_, 1) := by decide +kernel
theorem dX3_writeSaved_0 : decode cX3_writeSaved 0 = .ok (.iconst 0, 1) := by decide +kernel
theorem dX3_writeSaved_1 : decode cX3_writeSaved 1 = .ok (.istore_n 1, 1) := by decide +kernel
theorem dX3_writeSaved_2 : decode cX3_writeSaved 2 = .ok (.iload_n 1, 1) := by decide +kernel
theorem dX3_writeSaved_3 : decode cX3_writeSaved 3 = .ok (.iconst 3, 1) := by decide +kernel
theorem dX3_writeSaved_4 : decode cX3_writeSaved 4 = .ok (.if_icmp .ge 66, 3) := by decide +kernel
theorem dX3_writeSaved_7 : decode cX3_writeSaved 7 = .ok (.aload_n 0, 1) := by decide +kernel
theorem dX3_writeSaved_8 : decode cX3_writeSaved 8 = .ok (.getfield 18, 3) := by decide +kernel
theorem dX3_writeSaved_11 : decode cX3_writeSaved 11 = .ok (.getfield 108, 3) := by decide +kernel
theorem dX3_writeSaved_14 : decode cX3_writeSaved 14 = .ok (.iload_n 1, 1) := by decide +kernel
theorem dX3_writeSaved_15 : decode cX3_writeSaved 15 = .ok (.iaload, 1) := by decide +kernel
theorem dX3_writeSaved_16 : decode cX3_writeSaved 16 = .ok (.istore_n 2, 1) := by decide +kernel
theorem dX3_writeSaved_17 : decode cX3_writeSaved 17 = .ok (.iload_n 2, 1) := by decide +kernel
theorem dX3_writeSaved_18 : decode cX3_writeSaved 18 = .ok (.aload_n 0, 1) := by decide +kernel
theorem dX3_writeSaved_19 : decode cX3_writeSaved 19 = .ok (.getfield 12, 3) := by decide +kernel
theorem dX3_writeSaved_22 : decode cX3_writeSaved 22 = .ok (.getfield 108, 3) := by decide +kernel
theorem dX3_writeSaved_25 : decode cX3_writeSaved 25 = .ok (.iload_n 1, 1) := by decide +kernel
theorem dX3_writeSaved_26 : decode cX3_writeSaved 26 = .ok (.iaload, 1) := by decide +kernel
theorem dX3_writeSaved_27 : decode cX3_writeSaved 27 = .ok (.if_icmp .eq 37, 3) := by decide +kernel
theorem dX3_writeSaved_30 : decode cX3_writeSaved 30 = .ok (.aload_n 0, 1) := by decide +kernel
theorem dX3_writeSaved_31 : decode cX3_writeSaved 31 = .ok (.getfield 25, 3) := by decide +kernel
theorem dX3_writeSaved_34 : decode cX3_writeSaved 34 = .ok (.iload_n 2, 1) := by decide +kernel
theorem dX3_writeSaved_35 : decode cX3_writeSaved 35 = .ok (.ifCond .ne 9, 3) := by decide +kernel
theorem dX3_writeSaved_38 : decode cX3_writeSaved 38 = .ok (.sipush 192, 3) := by decide +kernel
theorem dX3_writeSaved_41 : decode cX3_writeSaved 41 = .ok (.goto 6, 3) := by decide +kernel
theorem dX3_writeSaved_44 : decode cX3_writeSaved 44 = .ok (.sipush 128, 3) := by decide +kernel
theorem dX3_writeSaved_47 : decode cX3_writeSaved 47 = .ok (.iload_n 1, 1) := by decide +kernel
theorem dX3_writeSaved_48 : decode cX3_writeSaved 48 = .ok (.iadd, 1) := by decide +kernel
theorem dX3_writeSaved_49 : decode cX3_writeSaved 49 = .ok (.invokevirtual 67, 3) := by decide +kernel
theorem dX3_writeSaved_52 : decode cX3_writeSaved 52 = .ok (.iload_n 2, 1) := by decide +kernel
theorem dX3_writeSaved_53 : decode cX3_writeSaved 53 = .ok (.ifCond .eq 11, 3) := by decide +kernel
theorem dX3_writeSaved_56 : decode cX3_writeSaved 56 = .ok (.aload_n 0, 1) := by decide +kernel
theorem dX3_writeSaved_57 : decode cX3_writeSaved 57 = .ok (.getfield 25, 3) := by decide +kernel
theorem dX3_writeSaved_60 : decode cX3_writeSaved 60 = .ok (.iload_n 2, 1) := by decide +kernel
theorem dX3_writeSaved_61 : decode cX3_writeSaved 61 = .ok (.invokevirtual 67, 3) := by decide +kernel
theorem dX3_writeSaved_64 : decode cX3_writeSaved 64 = .ok (.iinc 1 1, 3) := by decide +kernel
theorem dX3_writeSaved_67 : decode cX3_writeSaved 67 = .ok (.goto (-65), 3) := by decide +kernel
theorem dX3_writeSaved_70 : decode cX3_writeSaved 70 = .ok (.return_, 1) := by decide +kernel
theorem dX4_init_0 : decode cX4_init 0 = .ok (.aload_n 0, 1) := by decide +kernel
theorem dX4_init_1 : decode cX4_init 1 = .ok (.invokespecial 3, 3) := by decide +kernel
theorem dX4_init_4 : decode cX4_init 4 = .ok (.aload_n 0, 1) := by decide +kernel
theorem dX4_init_5 : decode cX4_init 5 = .ok (.bipush 96, 2) := by decide +kernel
theorem dX4_init_7 : decode cX4_init 7 = .ok (.newarray .int, 2) := by decide +kernel
theorem dX4_init_9 : decode cX4_init 9 = .ok (.putfield 9, 3) := by decide +kernel
theorem dX4_init_12 : decode cX4_init 12 = .ok (.aload_n 0, 1) := by decide +kernel
theorem dX4_init_13 : decode cX4_init 13 = .ok (.iconst 5, 1) := by decide +kernel
theorem dX4_init_14 : decode cX4_init 14 = .ok (.newarray .int, 2) := by decide +kernel
theorem dX4_init_16 : decode cX4_init 16 = .ok (.putfield 15, 3) := by decide +kernel
theorem dX4_init_19 : decode cX4_init 19 = .ok (.aload_n 0, 1) := by decide +kernel
theorem dX4_init_20 : decode cX4_init 20 = .ok (.iconst 5, 1) := by decide +kernel
theorem dX4_init_21 : decode cX4_init 21 = .ok (.newarray .int, 2) := by decide +kernel
theorem dX4_init_23 : decode cX4_init 23 = .ok (.putfield 18, 3) := by decide +kernel
theorem dX4_init_26 : decode cX4_init 26 = .ok (.return_, 1) := by decide +kernel
theorem dX4_append_0 : decode cX4_append 0 = .ok (.iload_n 3, 1) := by decide +kernel
theorem dX4_append_1 : decode cX4_append 1 = .ok (.iconst 1, 1) := by decide +kernel
theorem dX4_append_2 : decode cX4_append 2 = .ok (.if_icmp .lt 20, 3) := by decide +kernel
theorem dX4_append_5 : decode cX4_append 5 = .ok (.iload_n 3, 1) := by decide +kernel
theorem dX4_append_6 : decode cX4_append 6 = .ok (.bipush 8, 2) := by decide +kernel
theorem dX4_append_8 : decode cX4_append 8 = .ok (.if_icmp .gt 14, 3) := by decide +kernel
theorem dX4_append_11 : decode cX4_append 11 = .ok (.aload_n 0, 1) := by decide +kernel
theorem dX4_append_12 : decode cX4_append 12 = .ok (.getfield 21, 3) := by decide +kernel
theorem dX4_append_15 : decode cX4_append 15 = .ok (.iload_n 3, 1) := by decide +kernel
theorem dX4_append_16 : decode cX4_append 16 = .ok (.iadd, 1) := by decide +kernel
theorem dX4_append_17 : decode cX4_append 17 = .ok (.bipush 96, 2) := by decide +kernel
theorem dX4_append_19 : decode cX4_append 19 = .ok (.if_icmp .le 5, 3) := by decide +kernel
theorem dX4_append_22 : decode cX4_append 22 = .ok (.iconst (-1), 1) := by decide +kernel
theorem dX4_append_23 : decode cX4_append 23 = .ok (.ireturn, 1) := by decide +kernel
theorem dX4_append_24 : decode cX4_append 24 = .ok (.iload_n 3, 1) := by decide +kernel
theorem dX4_append_25 : decode cX4_append 25 = .ok (.iconst 1, 1) := by decide +kernel
theorem dX4_append_26 : decode cX4_append 26 = .ok (.isub, 1) := by decide +kernel
theorem dX4_append_27 : decode cX4_append 27 = .ok (.istore 4, 2) := by decide +kernel
theorem dX4_append_29 : decode cX4_append 29 = .ok (.iload 4, 2) := by decide +kernel
theorem dX4_append_31 : decode cX4_append 31 = .ok (.ifCond .lt 40, 3) := by decide +kernel
theorem dX4_append_34 : decode cX4_append 34 = .ok (.aload_n 0, 1) := by decide +kernel
theorem dX4_append_35 : decode cX4_append 35 = .ok (.getfield 9, 3) := by decide +kernel
theorem dX4_append_38 : decode cX4_append 38 = .ok (.aload_n 0, 1) := by decide +kernel
theorem dX4_append_39 : decode cX4_append 39 = .ok (.getfield 21, 3) := by decide +kernel
theorem dX4_append_42 : decode cX4_append 42 = .ok (.lload_n 1, 1) := by decide +kernel
theorem dX4_append_43 : decode cX4_append 43 = .ok (.bipush 8, 2) := by decide +kernel
theorem dX4_append_45 : decode cX4_append 45 = .ok (.iload 4, 2) := by decide +kernel
theorem dX4_append_47 : decode cX4_append 47 = .ok (.imul, 1) := by decide +kernel
theorem dX4_append_48 : decode cX4_append 48 = .ok (.lushr, 1) := by decide +kernel
theorem dX4_append_49 : decode cX4_append 49 = .ok (.l2i, 1) := by decide +kernel
theorem dX4_append_50 : decode cX4_append 50 = .ok (.sipush 255, 3) := by decide +kernel
theorem dX4_append_53 : decode cX4_append 53 = .ok (.iand, 1) := by decide +kernel
theorem dX4_append_54 : decode cX4_append 54 = .ok (.iastore, 1) := by decide +kernel
theorem dX4_append_55 : decode cX4_append 55 = .ok (.aload_n 0, 1) := by decide +kernel
theorem dX4_append_56 : decode cX4_append 56 = .ok (.dup, 1) := by decide +kernel
theorem dX4_append_57 : decode cX4_append 57 = .ok (.getfield 21, 3) := by decide +kernel
theorem dX4_append_60 : decode cX4_append 60 = .ok (.iconst 1, 1) := by decide +kernel
theorem dX4_append_61 : decode cX4_append 61 = .ok (.iadd, 1) := by decide +kernel
theorem dX4_append_62 : decode cX4_append 62 = .ok (.putfield 21, 3) := by decide +kernel
theorem dX4_append_65 : decode cX4_append 65 = .ok (.iinc 4 (-1), 3) := by decide +kernel
theorem dX4_append_68 : decode cX4_append 68 = .ok (.goto (-39), 3) := by decide +kernel
theorem dX4_append_71 : decode cX4_append 71 = .ok (.aload_n 0, 1) := by decide +kernel
theorem dX4_append_72 : decode cX4_append 72 = .ok (.getfield 21, 3) := by decide +kernel
theorem dX4_append_75 : decode cX4_append 75 = .ok (.ireturn, 1) := by decide +kernel
theorem dX4_addFunction_0 : decode cX4_addFunction 0 = .ok (.aload_n 0, 1) := by decide +kernel
theorem dX4_addFunction_1 : decode cX4_addFunction 1 = .ok (.getfield 25, 3) := by decide +kernel
theorem dX4_addFunction_4 : decode cX4_addFunction 4 = .ok (.iconst 5, 1) := by decide +kernel
theorem dX4_addFunction_5 : decode cX4_addFunction 5 = .ok (.if_icmp .ge 20, 3) := by decide +kernel
theorem dX4_addFunction_8 : decode cX4_addFunction 8 = .ok (.iload_n 1, 1) := by decide +kernel
theorem dX4_addFunction_9 : decode cX4_addFunction 9 = .ok (.ifCond .lt 16, 3) := by decide +kernel
theorem dX4_addFunction_12 : decode cX4_addFunction 12 = .ok (.iload_n 1, 1) := by decide +kernel
theorem dX4_addFunction_13 : decode cX4_addFunction 13 = .ok (.iload_n 2, 1) := by decide +kernel
theorem dX4_addFunction_14 : decode cX4_addFunction 14 = .ok (.if_icmp .ge 11, 3) := by decide +kernel
theorem dX4_addFunction_17 : decode cX4_addFunction 17 = .ok (.iload_n 2, 1) := by decide +kernel
theorem dX4_addFunction_18 : decode cX4_addFunction 18 = .ok (.aload_n 0, 1) := by decide +kernel
theorem dX4_addFunction_19 : decode cX4_addFunction 19 = .ok (.getfield 21, 3) := by decide +kernel
theorem dX4_addFunction_22 : decode cX4_addFunction 22 = .ok (.if_icmp .le 5, 3) := by decide +kernel
theorem dX4_addFunction_25 : decode cX4_addFunction 25 = .ok (.iconst (-1), 1) := by decide +kernel
theorem dX4_addFunction_26 : decode cX4_addFunction 26 = .ok (.ireturn, 1) := by decide +kernel
theorem dX4_addFunction_27 : decode cX4_addFunction 27 = .ok (.iconst 0, 1) := by decide +kernel
theorem dX4_addFunction_28 : decode cX4_addFunction 28 = .ok (.istore_n 3, 1) := by decide +kernel
theorem dX4_addFunction_29 : decode cX4_addFunction 29 = .ok (.iload_n 3, 1) := by decide +kernel
theorem dX4_addFunction_30 : decode cX4_addFunction 30 = .ok (.aload_n 0, 1) := by decide +kernel
theorem dX4_addFunction_31 : decode cX4_addFunction 31 = .ok (.getfield 25, 3) := by decide +kernel
theorem dX4_addFunction_34 : decode cX4_addFunction 34 = .ok (.if_icmp .ge 31, 3) := by decide +kernel
theorem dX4_addFunction_37 : decode cX4_addFunction 37 = .ok (.iload_n 1, 1) := by decide +kernel
theorem dX4_addFunction_38 : decode cX4_addFunction 38 = .ok (.aload_n 0, 1) := by decide +kernel
theorem dX4_addFunction_39 : decode cX4_addFunction 39 = .ok (.getfield 18, 3) := by decide +kernel
theorem dX4_addFunction_42 : decode cX4_addFunction 42 = .ok (.iload_n 3, 1) := by decide +kernel
theorem dX4_addFunction_43 : decode cX4_addFunction 43 = .ok (.iaload, 1) := by decide +kernel
theorem dX4_addFunction_44 : decode cX4_addFunction 44 = .ok (.if_icmp .ge 15, 3) := by decide +kernel
theorem dX4_addFunction_47 : decode cX4_addFunction 47 = .ok (.aload_n 0, 1) := by decide +kernel
theorem dX4_addFunction_48 : decode cX4_addFunction 48 = .ok (.getfield 15, 3) := by decide +kernel
theorem dX4_addFunction_51 : decode cX4_addFunction 51 = .ok (.iload_n 3, 1) := by decide +kernel
theorem dX4_addFunction_52 : decode cX4_addFunction 52 = .ok (.iaload, 1) := by decide +kernel
theorem dX4_addFunction_53 : decode cX4_addFunction 53 = .ok (.iload_n 2, 1) := by decide +kernel
theorem dX4_addFunction_54 : decode cX4_addFunction 54 = .ok (.if_icmp .ge 5, 3) := by decide +kernel
theorem dX4_addFunction_57 : decode cX4_addFunction 57 = .ok (.iconst (-1), 1) := by decide +kernel
theorem dX4_addFunction_58 : decode cX4_addFunction 58 = .ok (.ireturn, 1) := by decide +kernel
theorem dX4_addFunction_59 : decode cX4_addFunction 59 = .ok (.iinc 3 1, 3) := by decide +kernel
theorem dX4_addFunction_62 : decode cX4_addFunction 62 = .ok (.goto (-33), 3) := by decide +kernel
theorem dX4_addFunction_65 : decode cX4_addFunction 65 = .ok (.aload_n 0, 1) := by decide +kernel
theorem dX4_addFunction_66 : decode cX4_addFunction 66 = .ok (.iload_n 1, 1) := by decide +kernel
theorem dX4_addFunction_67 : decode cX4_addFunction 67 = .ok (.iload_n 2, 1) := by decide +kernel
theorem dX4_addFunction_68 : decode cX4_addFunction 68 = .ok (.invokevirtual 28, 3) := by decide +kernel
theorem dX4_addFunction_71 : decode cX4_addFunction 71 = .ok (.aload_n 0, 1) := by decide +kernel
theorem dX4_addFunction_72 : decode cX4_addFunction 72 = .ok (.getfield 25, 3) := by decide +kernel
theorem dX4_addFunction_75 : decode cX4_addFunction 75 = .ok (.ireturn, 1) := by decide +kernel
theorem dX4_insertFunction_0 : decode cX4_insertFunction 0 = .ok (.aload_n 0, 1) := by decide +kernel
theorem dX4_insertFunction_1 : decode cX4_insertFunction 1 = .ok (.getfield 25, 3) := by decide +kernel
theorem dX4_insertFunction_4 : decode cX4_insertFunction 4 = .ok (.istore_n 3, 1) := by decide +kernel
theorem dX4_insertFunction_5 : decode cX4_insertFunction 5 = .ok (.iload_n 3, 1) := by decide +kernel
theorem dX4_insertFunction_6 : decode cX4_insertFunction 6 = .ok (.ifCond .le 49, 3) := by decide +kernel
theorem dX4_insertFunction_9 : decode cX4_insertFunction 9 = .ok (.aload_n 0, 1) := by decide +kernel
theorem dX4_insertFunction_10 : decode cX4_insertFunction 10 = .ok (.getfield 15, 3) := by decide +kernel
theorem dX4_insertFunction_13 : decode cX4_insertFunction 13 = .ok (.iload_n 3, 1) := by decide +kernel
theorem dX4_insertFunction_14 : decode cX4_insertFunction 14 = .ok (.iconst 1, 1) := by decide +kernel
theorem dX4_insertFunction_15 : decode cX4_insertFunction 15 = .ok (.isub, 1) := by decide +kernel
theorem dX4_insertFunction_16 : decode cX4_insertFunction 16 = .ok (.iaload, 1) := by decide +kernel
theorem dX4_insertFunction_17 : decode cX4_insertFunction 17 = .ok (.iload_n 1, 1) := by decide +kernel
theorem dX4_insertFunction_18 : decode cX4_insertFunction 18 = .ok (.if_icmp .le 37, 3) := by decide +kernel
theorem dX4_insertFunction_21 : decode cX4_insertFunction 21 = .ok (.aload_n 0, 1) := by decide +kernel
theorem dX4_insertFunction_22 : decode cX4_insertFunction 22 = .ok (.getfield 15, 3) := by decide +kernel
theorem dX4_insertFunction_25 : decode cX4_insertFunction 25 = .ok (.iload_n 3, 1) := by decide +kernel
theorem dX4_insertFunction_26 : decode cX4_insertFunction 26 = .ok (.aload_n 0, 1) := by decide +kernel
theorem dX4_insertFunction_27 : decode cX4_insertFunction 27 = .ok (.getfield 15, 3) := by decide +kernel
theorem dX4_insertFunction_30 : decode cX4_insertFunction 30 = .ok (.iload_n 3, 1) := by decide +kernel
theorem dX4_insertFunction_31 : decode cX4_insertFunction 31 = .ok (.iconst 1, 1) := by decide +kernel
theorem dX4_insertFunction_32 : decode cX4_insertFunction 32 = .ok (.isub, 1) := by decide +kernel
theorem dX4_insertFunction_33 : decode cX4_insertFunction 33 = .ok (.iaload, 1) := by decide +kernel
theorem dX4_insertFunction_34 : decode cX4_insertFunction 34 = .ok (.iastore, 1) := by decide +kernel
theorem dX4_insertFunction_35 : decode cX4_insertFunction 35 = .ok (.aload_n 0, 1) := by decide +kernel
theorem dX4_insertFunction_36 : decode cX4_insertFunction 36 = .ok (.getfield 18, 3) := by decide +kernel
theorem dX4_insertFunction_39 : decode cX4_insertFunction 39 = .ok (.iload_n 3, 1) := by decide +kernel
theorem dX4_insertFunction_40 : decode cX4_insertFunction 40 = .ok (.aload_n 0, 1) := by decide +kernel
theorem dX4_insertFunction_41 : decode cX4_insertFunction 41 = .ok (.getfield 18, 3) := by decide +kernel
theorem dX4_insertFunction_44 : decode cX4_insertFunction 44 = .ok (.iload_n 3, 1) := by decide +kernel
theorem dX4_insertFunction_45 : decode cX4_insertFunction 45 = .ok (.iconst 1, 1) := by decide +kernel
theorem dX4_insertFunction_46 : decode cX4_insertFunction 46 = .ok (.isub, 1) := by decide +kernel
theorem dX4_insertFunction_47 : decode cX4_insertFunction 47 = .ok (.iaload, 1) := by decide +kernel
theorem dX4_insertFunction_48 : decode cX4_insertFunction 48 = .ok (.iastore, 1) := by decide +kernel
theorem dX4_insertFunction_49 : decode cX4_insertFunction 49 = .ok (.iinc 3 (-1), 3) := by decide +kernel
theorem dX4_insertFunction_52 : decode cX4_insertFunction 52 = .ok (.goto (-47), 3) := by decide +kernel
theorem dX4_insertFunction_55 : decode cX4_insertFunction 55 = .ok (.aload_n 0, 1) := by decide +kernel
theorem dX4_insertFunction_56 : decode cX4_insertFunction 56 = .ok (.getfield 15, 3) := by decide +kernel
theorem dX4_insertFunction_59 : decode cX4_insertFunction 59 = .ok (.iload_n 3, 1) := by decide +kernel
theorem dX4_insertFunction_60 : decode cX4_insertFunction 60 = .ok (.iload_n 1, 1) := by decide +kernel
theorem dX4_insertFunction_61 : decode cX4_insertFunction 61 = .ok (.iastore, 1) := by decide +kernel
theorem dX4_insertFunction_62 : decode cX4_insertFunction 62 = .ok (.aload_n 0, 1) := by decide +kernel
theorem dX4_insertFunction_63 : decode cX4_insertFunction 63 = .ok (.getfield 18, 3) := by decide +kernel
theorem dX4_insertFunction_66 : decode cX4_insertFunction 66 = .ok (.iload_n 3, 1) := by decide +kernel
theorem dX4_insertFunction_67 : decode cX4_insertFunction 67 = .ok (.iload_n 2, 1) := by decide +kernel
theorem dX4_insertFunction_68 : decode cX4_insertFunction 68 = .ok (.iastore, 1) := by decide +kernel
theorem dX4_insertFunction_69 : decode cX4_insertFunction 69 = .ok (.aload_n 0, 1) := by decide +kernel
theorem dX4_insertFunction_70 : decode cX4_insertFunction 70 = .ok (.dup, 1) := by decide +kernel
theorem dX4_insertFunction_71 : decode cX4_insertFunction 71 = .ok (.getfield 25, 3) := by decide +kernel
theorem dX4_insertFunction_74 : decode cX4_insertFunction 74 = .ok (.iconst 1, 1) := by decide +kernel
theorem dX4_insertFunction_75 : decode cX4_insertFunction 75 = .ok (.iadd, 1) := by decide +kernel
theorem dX4_insertFunction_76 : decode cX4_insertFunction 76 = .ok (.putfield 25, 3) := by decide +kernel
theorem dX4_insertFunction_79 : decode cX4_insertFunction 79 = .ok (.return_, 1) := by decide +kernel
theorem dX4_empty_0 : decode cX4_empty 0 = .ok (.aload_n 0, 1) := by decide +kernel
theorem dX4_empty_1 : decode cX4_empty 1 = .ok (.getfield 25, 3) := by decide +kernel
theorem dX4_empty_4 : decode cX4_empty 4 = .ok (.istore_n 1, 1) := by decide +kernel
theorem dX4_empty_5 : decode cX4_empty 5 = .ok (.aload_n 0, 1) := by decide +kernel
theorem dX4_empty_6 : decode cX4_empty 6 = .ok (.iconst 0, 1) := by decide +kernel
theorem dX4_empty_7 : decode cX4_empty 7 = .ok (.putfield 21, 3) := by decide +kernel
theorem dX4_empty_10 : decode cX4_empty 10 = .ok (.aload_n 0, 1) := by decide +kernel
theorem dX4_empty_11 : decode cX4_empty 11 = .ok (.iconst 0, 1) := by decide +kernel
theorem dX4_empty_12 : decode cX4_empty 12 = .ok (.putfield 25, 3) := by decide +kernel
theorem dX4_empty_15 : decode cX4_empty 15 = .ok (.iload_n 1, 1) := by decide +kernel
theorem dX4_empty_16 : decode cX4_empty 16 = .ok (.ireturn, 1) := by decide +kernel
theorem dX4_codeAt_0 : decode cX4_codeAt 0 = .ok (.iload_n 1, 1) := by decide +kernel
theorem dX4_codeAt_1 : decode cX4_codeAt 1 = .ok (.ifCond .lt 20, 3) := by decide +kernel
theorem dX4_codeAt_4 : decode cX4_codeAt 4 = .ok (.iload_n 1, 1) := by decide +kernel
theorem dX4_codeAt_5 : decode cX4_codeAt 5 = .ok (.aload_n 0, 1) := by decide +kernel
theorem dX4_codeAt_6 : decode cX4_codeAt 6 = .ok (.getfield 21, 3) := by decide +kernel
theorem dX4_codeAt_9 : decode cX4_codeAt 9 = .ok (.if_icmp .ge 12, 3) := by decide +kernel
theorem dX4_codeAt_12 : decode cX4_codeAt 12 = .ok (.aload_n 0, 1) := by decide +kernel
theorem dX4_codeAt_13 : decode cX4_codeAt 13 = .ok (.getfield 9, 3) := by decide +kernel
theorem dX4_codeAt_16 : decode cX4_codeAt 16 = .ok (.iload_n 1, 1) := by decide +kernel
theorem dX4_codeAt_17 : decode cX4_codeAt 17 = .ok (.iaload, 1) := by decide +kernel
theorem dX4_codeAt_18 : decode cX4_codeAt 18 = .ok (.goto 4, 3) := by decide +kernel
theorem dX4_codeAt_21 : decode cX4_codeAt 21 = .ok (.iconst (-1), 1) := by decide +kernel
theorem dX4_codeAt_22 : decode cX4_codeAt 22 = .ok (.ireturn, 1) := by decide +kernel
theorem dX4_startsFunction_0 : decode cX4_startsFunction 0 = .ok (.iconst 0, 1) := by decide +kernel
theorem dX4_startsFunction_1 : decode cX4_startsFunction 1 = .ok (.istore_n 2, 1) := by decide +kernel
theorem dX4_startsFunction_2 : decode cX4_startsFunction 2 = .ok (.iload_n 2, 1) := by decide +kernel
theorem dX4_startsFunction_3 : decode cX4_startsFunction 3 = .ok (.aload_n 0, 1) := by decide +kernel
theorem dX4_startsFunction_4 : decode cX4_startsFunction 4 = .ok (.getfield 25, 3) := by decide +kernel
theorem dX4_startsFunction_7 : decode cX4_startsFunction 7 = .ok (.if_icmp .ge 21, 3) := by decide +kernel
theorem dX4_startsFunction_10 : decode cX4_startsFunction 10 = .ok (.aload_n 0, 1) := by decide +kernel
theorem dX4_startsFunction_11 : decode cX4_startsFunction 11 = .ok (.getfield 15, 3) := by decide +kernel
theorem dX4_startsFunction_14 : decode cX4_startsFunction 14 = .ok (.iload_n 2, 1) := by decide +kernel
theorem dX4_startsFunction_15 : decode cX4_startsFunction 15 = .ok (.iaload, 1) := by decide +kernel
theorem dX4_startsFunction_16 : decode cX4_startsFunction 16 = .ok (.iload_n 1, 1) := by decide +kernel
theorem dX4_startsFunction_17 : decode cX4_startsFunction 17 = .ok (.if_icmp .ne 5, 3) := by decide +kernel
theorem dX4_startsFunction_20 : decode cX4_startsFunction 20 = .ok (.iconst 1, 1) := by decide +kernel
theorem dX4_startsFunction_21 : decode cX4_startsFunction 21 = .ok (.ireturn, 1) := by decide +kernel
theorem dX4_startsFunction_22 : decode cX4_startsFunction 22 = .ok (.iinc 2 1, 3) := by decide +kernel
theorem dX4_startsFunction_25 : decode cX4_startsFunction 25 = .ok (.goto (-23), 3) := by decide +kernel
theorem dX4_startsFunction_28 : decode cX4_startsFunction 28 = .ok (.iconst 0, 1) := by decide +kernel
theorem dX4_startsFunction_29 : decode cX4_startsFunction 29 = .ok (.ireturn, 1) := by decide +kernel
theorem dX4_wholeSize_0 : decode cX4_wholeSize 0 = .ok (.aload_n 0, 1) := by decide +kernel
theorem dX4_wholeSize_1 : decode cX4_wholeSize 1 = .ok (.iload_n 1, 1) := by decide +kernel
theorem dX4_wholeSize_2 : decode cX4_wholeSize 2 = .ok (.invokevirtual 32, 3) := by decide +kernel
theorem dX4_wholeSize_5 : decode cX4_wholeSize 5 = .ok (.istore_n 3, 1) := by decide +kernel
theorem dX4_wholeSize_6 : decode cX4_wholeSize 6 = .ok (.iload_n 3, 1) := by decide +kernel
theorem dX4_wholeSize_7 : decode cX4_wholeSize 7 = .ok (.ifCond .lt 11, 3) := by decide +kernel
theorem dX4_wholeSize_10 : decode cX4_wholeSize 10 = .ok (.iload_n 3, 1) := by decide +kernel
theorem dX4_wholeSize_11 : decode cX4_wholeSize 11 = .ok (.getstatic 36, 3) := by decide +kernel
theorem dX4_wholeSize_14 : decode cX4_wholeSize 14 = .ok (.arraylength, 1) := by decide +kernel
theorem dX4_wholeSize_15 : decode cX4_wholeSize 15 = .ok (.if_icmp .lt 5, 3) := by decide +kernel
theorem dX4_wholeSize_18 : decode cX4_wholeSize 18 = .ok (.iconst 0, 1) := by decide +kernel
theorem dX4_wholeSize_19 : decode cX4_wholeSize 19 = .ok (.ireturn, 1) := by decide +kernel
theorem dX4_wholeSize_20 : decode cX4_wholeSize 20 = .ok (.getstatic 36, 3) := by decide +kernel
theorem dX4_wholeSize_23 : decode cX4_wholeSize 23 = .ok (.iload_n 3, 1) := by decide +kernel
theorem dX4_wholeSize_24 : decode cX4_wholeSize 24 = .ok (.iaload, 1) := by decide +kernel
theorem dX4_wholeSize_25 : decode cX4_wholeSize 25 = .ok (.istore 4, 2) := by decide +kernel
theorem dX4_wholeSize_27 : decode cX4_wholeSize 27 = .ok (.iload 4, 2) := by decide +kernel
theorem dX4_wholeSize_29 : decode cX4_wholeSize 29 = .ok (.iload_n 2, 1) := by decide +kernel
theorem dX4_wholeSize_30 : decode cX4_wholeSize 30 = .ok (.iload_n 1, 1) := by decide +kernel
theorem dX4_wholeSize_31 : decode cX4_wholeSize 31 = .ok (.isub, 1) := by decide +kernel
theorem dX4_wholeSize_32 : decode cX4_wholeSize 32 = .ok (.if_icmp .le 5, 3) := by decide +kernel
theorem dX4_wholeSize_35 : decode cX4_wholeSize 35 = .ok (.iconst 0, 1) := by decide +kernel
theorem dX4_wholeSize_36 : decode cX4_wholeSize 36 = .ok (.ireturn, 1) := by decide +kernel
theorem dX4_wholeSize_37 : decode cX4_wholeSize 37 = .ok (.iload_n 3, 1) := by decide +kernel
theorem dX4_wholeSize_38 : decode cX4_wholeSize 38 = .ok (.invokestatic 39, 3) := by decide +kernel
theorem dX4_wholeSize_41 : decode cX4_wholeSize 41 = .ok (.ifCond .eq 18, 3) := by decide +kernel
theorem dX4_wholeSize_44 : decode cX4_wholeSize 44 = .ok (.aload_n 0, 1) := by decide +kernel
theorem dX4_wholeSize_45 : decode cX4_wholeSize 45 = .ok (.iload_n 1, 1) := by decide +kernel
theorem dX4_wholeSize_46 : decode cX4_wholeSize 46 = .ok (.iconst 1, 1) := by decide +kernel
theorem dX4_wholeSize_47 : decode cX4_wholeSize 47 = .ok (.iadd, 1) := by decide +kernel
theorem dX4_wholeSize_48 : decode cX4_wholeSize 48 = .ok (.invokevirtual 32, 3) := by decide +kernel
theorem dX4_wholeSize_51 : decode cX4_wholeSize 51 = .ok (.iconst 3, 1) := by decide +kernel
theorem dX4_wholeSize_52 : decode cX4_wholeSize 52 = .ok (.if_icmp .lt 7, 3) := by decide +kernel
theorem dX4_wholeSize_55 : decode cX4_wholeSize 55 = .ok (.iconst 0, 1) := by decide +kernel
theorem dX4_wholeSize_56 : decode cX4_wholeSize 56 = .ok (.goto 5, 3) := by decide +kernel
theorem dX4_wholeSize_59 : decode cX4_wholeSize 59 = .ok (.iload 4, 2) := by decide +kernel
theorem dX4_wholeSize_61 : decode cX4_wholeSize 61 = .ok (.ireturn, 1) := by decide +kernel
theorem dX4_namesRegister_0 : decode cX4_namesRegister 0 = .ok (.iload_n 0, 1) := by decide +kernel
theorem dX4_namesRegister_1 : decode cX4_namesRegister 1 = .ok (.iconst 1, 1) := by decide +kernel
theorem dX4_namesRegister_2 : decode cX4_namesRegister 2 = .ok (.if_icmp .eq 26, 3) := by decide +kernel
theorem dX4_namesRegister_5 : decode cX4_namesRegister 5 = .ok (.iload_n 0, 1) := by decide +kernel
theorem dX4_namesRegister_6 : decode cX4_namesRegister 6 = .ok (.iconst 2, 1) := by decide +kernel
theorem dX4_namesRegister_7 : decode cX4_namesRegister 7 = .ok (.if_icmp .eq 21, 3) := by decide +kernel
theorem dX4_namesRegister_10 : decode cX4_namesRegister 10 = .ok (.iload_n 0, 1) := by decide +kernel
theorem dX4_namesRegister_11 : decode cX4_namesRegister 11 = .ok (.bipush 11, 2) := by decide +kernel
theorem dX4_namesRegister_13 : decode cX4_namesRegister 13 = .ok (.if_icmp .eq 15, 3) := by decide +kernel
theorem dX4_namesRegister_16 : decode cX4_namesRegister 16 = .ok (.iload_n 0, 1) := by decide +kernel
theorem dX4_namesRegister_17 : decode cX4_namesRegister 17 = .ok (.bipush 14, 2) := by decide +kernel
theorem dX4_namesRegister_19 : decode cX4_namesRegister 19 = .ok (.if_icmp .eq 9, 3) := by decide +kernel
theorem dX4_namesRegister_22 : decode cX4_namesRegister 22 = .ok (.iload_n 0, 1) := by decide +kernel
theorem dX4_namesRegister_23 : decode cX4_namesRegister 23 = .ok (.bipush 15, 2) := by decide +kernel
theorem dX4_namesRegister_25 : decode cX4_namesRegister 25 = .ok (.if_icmp .ne 7, 3) := by decide +kernel
theorem dX4_namesRegister_28 : decode cX4_namesRegister 28 = .ok (.iconst 1, 1) := by decide +kernel
theorem dX4_namesRegister_29 : decode cX4_namesRegister 29 = .ok (.goto 4, 3) := by decide +kernel
theorem dX4_namesRegister_32 : decode cX4_namesRegister 32 = .ok (.iconst 0, 1) := by decide +kernel
theorem dX4_namesRegister_33 : decode cX4_namesRegister 33 = .ok (.ireturn, 1) := by decide +kernel
theorem dX5_init_0 : decode cX5_init 0 = .ok (.aload_n 0, 1) := by decide +kernel
theorem dX5_init_1 : decode cX5_init 1 = .ok (.invokespecial 3, 3) := by decide +kernel
theorem dX5_init_4 : decode cX5_init 4 = .ok (.aload_n 0, 1) := by decide +kernel
theorem dX5_init_5 : decode cX5_init 5 = .ok (.new 9, 3) := by decide +kernel
theorem dX5_init_8 : decode cX5_init 8 = .ok (.dup, 1) := by decide +kernel
theorem dX5_init_9 : decode cX5_init 9 = .ok (.invokespecial 11, 3) := by decide +kernel
theorem dX5_init_12 : decode cX5_init 12 = .ok (.putfield 12, 3) := by decide +kernel
theorem dX5_init_15 : decode cX5_init 15 = .ok (.aload_n 0, 1) := by decide +kernel
theorem dX5_init_16 : decode cX5_init 16 = .ok (.new 9, 3) := by decide +kernel
theorem dX5_init_19 : decode cX5_init 19 = .ok (.dup, 1) := by decide +kernel
theorem dX5_init_20 : decode cX5_init 20 = .ok (.invokespecial 11, 3) := by decide +kernel
theorem dX5_init_23 : decode cX5_init 23 = .ok (.putfield 18, 3) := by decide +kernel
theorem dX5_init_26 : decode cX5_init 26 = .ok (.aload_n 0, 1) := by decide +kernel
theorem dX5_init_27 : decode cX5_init 27 = .ok (.iconst 4, 1) := by decide +kernel
theorem dX5_init_28 : decode cX5_init 28 = .ok (.anewarray 9, 3) := by decide +kernel
theorem dX5_init_31 : decode cX5_init 31 = .ok (.putfield 21, 3) := by decide +kernel
theorem dX5_init_34 : decode cX5_init 34 = .ok (.aload_n 0, 1) := by decide +kernel
theorem dX5_init_35 : decode cX5_init 35 = .ok (.aload_n 1, 1) := by decide +kernel
theorem dX5_init_36 : decode cX5_init 36 = .ok (.putfield 25, 3) := by decide +kernel
theorem dX5_init_39 : decode cX5_init 39 = .ok (.iconst 0, 1) := by decide +kernel
theorem dX5_init_40 : decode cX5_init 40 = .ok (.istore_n 2, 1) := by decide +kernel
theorem dX5_init_41 : decode cX5_init 41 = .ok (.iload_n 2, 1) := by decide +kernel
theorem dX5_init_42 : decode cX5_init 42 = .ok (.iconst 4, 1) := by decide +kernel
theorem dX5_init_43 : decode cX5_init 43 = .ok (.if_icmp .ge 22, 3) := by decide +kernel
theorem dX5_init_46 : decode cX5_init 46 = .ok (.aload_n 0, 1) := by decide +kernel
theorem dX5_init_47 : decode cX5_init 47 = .ok (.getfield 21, 3) := by decide +kernel
theorem dX5_init_50 : decode cX5_init 50 = .ok (.iload_n 2, 1) := by decide +kernel
theorem dX5_init_51 : decode cX5_init 51 = .ok (.new 9, 3) := by decide +kernel
theorem dX5_init_54 : decode cX5_init 54 = .ok (.dup, 1) := by decide +kernel
theorem dX5_init_55 : decode cX5_init 55 = .ok (.invokespecial 11, 3) := by decide +kernel
theorem dX5_init_58 : decode cX5_init 58 = .ok (.aastore, 1) := by decide +kernel
theorem dX5_init_59 : decode cX5_init 59 = .ok (.iinc 2 1, 3) := by decide +kernel
theorem dX5_init_62 : decode cX5_init 62 = .ok (.goto (-21), 3) := by decide +kernel
theorem dX5_init_65 : decode cX5_init 65 = .ok (.return_, 1) := by decide +kernel
theorem dX5_lookUp_0 : decode cX5_lookUp 0 = .ok (.iconst 2, 1) := by decide +kernel
theorem dX5_lookUp_1 : decode cX5_lookUp 1 = .ok (.istore_n 2, 1) := by decide +kernel
theorem dX5_lookUp_2 : decode cX5_lookUp 2 = .ok (.iconst 0, 1) := by decide +kernel
theorem dX5_lookUp_3 : decode cX5_lookUp 3 = .ok (.istore_n 3, 1) := by decide +kernel
theorem dX5_lookUp_4 : decode cX5_lookUp 4 = .ok (.iload_n 3, 1) := by decide +kernel
theorem dX5_lookUp_5 : decode cX5_lookUp 5 = .ok (.aload_n 0, 1) := by decide +kernel
theorem dX5_lookUp_6 : decode cX5_lookUp 6 = .ok (.getfield 25, 3) := by decide +kernel
theorem dX5_lookUp_9 : decode cX5_lookUp 9 = .ok (.getfield 29, 3) := by decide +kernel
theorem dX5_lookUp_12 : decode cX5_lookUp 12 = .ok (.if_icmp .ge 113, 3) := by decide +kernel
theorem dX5_lookUp_15 : decode cX5_lookUp 15 = .ok (.aload_n 0, 1) := by decide +kernel
theorem dX5_lookUp_16 : decode cX5_lookUp 16 = .ok (.iload_n 3, 1) := by decide +kernel
theorem dX5_lookUp_17 : decode cX5_lookUp 17 = .ok (.invokevirtual 35, 3) := by decide +kernel
theorem dX5_lookUp_20 : decode cX5_lookUp 20 = .ok (.istore_n 2, 1) := by decide +kernel
theorem dX5_lookUp_21 : decode cX5_lookUp 21 = .ok (.iload_n 2, 1) := by decide +kernel
theorem dX5_lookUp_22 : decode cX5_lookUp 22 = .ok (.iconst 2, 1) := by decide +kernel
theorem dX5_lookUp_23 : decode cX5_lookUp 23 = .ok (.if_icmp .lt 18, 3) := by decide +kernel
theorem dX5_lookUp_26 : decode cX5_lookUp 26 = .ok (.iload_n 2, 1) := by decide +kernel
theorem dX5_lookUp_27 : decode cX5_lookUp 27 = .ok (.aload_n 0, 1) := by decide +kernel
theorem dX5_lookUp_28 : decode cX5_lookUp 28 = .ok (.getfield 25, 3) := by decide +kernel
theorem dX5_lookUp_31 : decode cX5_lookUp 31 = .ok (.getfield 29, 3) := by decide +kernel
theorem dX5_lookUp_34 : decode cX5_lookUp 34 = .ok (.iload_n 3, 1) := by decide +kernel
theorem dX5_lookUp_35 : decode cX5_lookUp 35 = .ok (.isub, 1) := by decide +kernel
theorem dX5_lookUp_36 : decode cX5_lookUp 36 = .ok (.iconst 2, 1) := by decide +kernel
theorem dX5_lookUp_37 : decode cX5_lookUp 37 = .ok (.isub, 1) := by decide +kernel
theorem dX5_lookUp_38 : decode cX5_lookUp 38 = .ok (.if_icmp .le 6, 3) := by decide +kernel
theorem dX5_lookUp_41 : decode cX5_lookUp 41 = .ok (.bipush (-2), 2) := by decide +kernel
theorem dX5_lookUp_43 : decode cX5_lookUp 43 = .ok (.ireturn, 1) := by decide +kernel
theorem dX5_lookUp_44 : decode cX5_lookUp 44 = .ok (.aload_n 0, 1) := by decide +kernel
theorem dX5_lookUp_45 : decode cX5_lookUp 45 = .ok (.aload_n 0, 1) := by decide +kernel
theorem dX5_lookUp_46 : decode cX5_lookUp 46 = .ok (.getfield 25, 3) := by decide +kernel
theorem dX5_lookUp_49 : decode cX5_lookUp 49 = .ok (.iload_n 3, 1) := by decide +kernel
theorem dX5_lookUp_50 : decode cX5_lookUp 50 = .ok (.iconst 2, 1) := by decide +kernel
theorem dX5_lookUp_51 : decode cX5_lookUp 51 = .ok (.iadd, 1) := by decide +kernel
theorem dX5_lookUp_52 : decode cX5_lookUp 52 = .ok (.invokevirtual 39, 3) := by decide +kernel
theorem dX5_lookUp_55 : decode cX5_lookUp 55 = .ok (.putfield 42, 3) := by decide +kernel
theorem dX5_lookUp_58 : decode cX5_lookUp 58 = .ok (.aload_n 0, 1) := by decide +kernel
theorem dX5_lookUp_59 : decode cX5_lookUp 59 = .ok (.aload_n 0, 1) := by decide +kernel
theorem dX5_lookUp_60 : decode cX5_lookUp 60 = .ok (.getfield 42, 3) := by decide +kernel
theorem dX5_lookUp_63 : decode cX5_lookUp 63 = .ok (.aload_n 0, 1) := by decide +kernel
theorem dX5_lookUp_64 : decode cX5_lookUp 64 = .ok (.getfield 25, 3) := by decide +kernel
theorem dX5_lookUp_67 : decode cX5_lookUp 67 = .ok (.iload_n 3, 1) := by decide +kernel
theorem dX5_lookUp_68 : decode cX5_lookUp 68 = .ok (.iconst 3, 1) := by decide +kernel
theorem dX5_lookUp_69 : decode cX5_lookUp 69 = .ok (.iadd, 1) := by decide +kernel
theorem dX5_lookUp_70 : decode cX5_lookUp 70 = .ok (.invokevirtual 39, 3) := by decide +kernel
theorem dX5_lookUp_73 : decode cX5_lookUp 73 = .ok (.iadd, 1) := by decide +kernel
theorem dX5_lookUp_74 : decode cX5_lookUp 74 = .ok (.putfield 45, 3) := by decide +kernel
theorem dX5_lookUp_77 : decode cX5_lookUp 77 = .ok (.iload_n 1, 1) := by decide +kernel
theorem dX5_lookUp_78 : decode cX5_lookUp 78 = .ok (.aload_n 0, 1) := by decide +kernel
theorem dX5_lookUp_79 : decode cX5_lookUp 79 = .ok (.getfield 42, 3) := by decide +kernel
theorem dX5_lookUp_82 : decode cX5_lookUp 82 = .ok (.if_icmp .lt 34, 3) := by decide +kernel
theorem dX5_lookUp_85 : decode cX5_lookUp 85 = .ok (.iload_n 1, 1) := by decide +kernel
theorem dX5_lookUp_86 : decode cX5_lookUp 86 = .ok (.aload_n 0, 1) := by decide +kernel
theorem dX5_lookUp_87 : decode cX5_lookUp 87 = .ok (.getfield 45, 3) := by decide +kernel
theorem dX5_lookUp_90 : decode cX5_lookUp 90 = .ok (.if_icmp .ge 26, 3) := by decide +kernel
theorem dX5_lookUp_93 : decode cX5_lookUp 93 = .ok (.aload_n 0, 1) := by decide +kernel
theorem dX5_lookUp_94 : decode cX5_lookUp 94 = .ok (.iload_n 3, 1) := by decide +kernel
theorem dX5_lookUp_95 : decode cX5_lookUp 95 = .ok (.iconst 4, 1) := by decide +kernel
theorem dX5_lookUp_96 : decode cX5_lookUp 96 = .ok (.iadd, 1) := by decide +kernel
theorem dX5_lookUp_97 : decode cX5_lookUp 97 = .ok (.iload_n 3, 1) := by decide +kernel
theorem dX5_lookUp_98 : decode cX5_lookUp 98 = .ok (.iconst 2, 1) := by decide +kernel
theorem dX5_lookUp_99 : decode cX5_lookUp 99 = .ok (.iadd, 1) := by decide +kernel
theorem dX5_lookUp_100 : decode cX5_lookUp 100 = .ok (.iload_n 2, 1) := by decide +kernel
theorem dX5_lookUp_101 : decode cX5_lookUp 101 = .ok (.iadd, 1) := by decide +kernel
theorem dX5_lookUp_102 : decode cX5_lookUp 102 = .ok (.iload_n 1, 1) := by decide +kernel
theorem dX5_lookUp_103 : decode cX5_lookUp 103 = .ok (.invokevirtual 48, 3) := by decide +kernel
theorem dX5_lookUp_106 : decode cX5_lookUp 106 = .ok (.ifCond .eq 7, 3) := by decide +kernel
theorem dX5_lookUp_109 : decode cX5_lookUp 109 = .ok (.iconst 0, 1) := by decide +kernel
theorem dX5_lookUp_110 : decode cX5_lookUp 110 = .ok (.goto 5, 3) := by decide +kernel
theorem dX5_lookUp_113 : decode cX5_lookUp 113 = .ok (.bipush (-2), 2) := by decide +kernel
theorem dX5_lookUp_115 : decode cX5_lookUp 115 = .ok (.ireturn, 1) := by decide +kernel
theorem dX5_lookUp_116 : decode cX5_lookUp 116 = .ok (.iload_n 3, 1) := by decide +kernel
theorem dX5_lookUp_117 : decode cX5_lookUp 117 = .ok (.iconst 2, 1) := by decide +kernel
theorem dX5_lookUp_118 : decode cX5_lookUp 118 = .ok (.iload_n 2, 1) := by decide +kernel
theorem dX5_lookUp_119 : decode cX5_lookUp 119 = .ok (.iadd, 1) := by decide +kernel
theorem dX5_lookUp_120 : decode cX5_lookUp 120 = .ok (.iadd, 1) := by decide +kernel
theorem dX5_lookUp_121 : decode cX5_lookUp 121 = .ok (.istore_n 3, 1) := by decide +kernel
theorem dX5_lookUp_122 : decode cX5_lookUp 122 = .ok (.goto (-118), 3) := by decide +kernel
theorem dX5_lookUp_125 : decode cX5_lookUp 125 = .ok (.iconst (-1), 1) := by decide +kernel
theorem dX5_lookUp_126 : decode cX5_lookUp 126 = .ok (.ireturn, 1) := by decide +kernel
theorem dX5_countAt_0 : decode cX5_countAt 0 = .ok (.aload_n 0, 1) := by decide +kernel
theorem dX5_countAt_1 : decode cX5_countAt 1 = .ok (.getfield 25, 3) := by decide +kernel
theorem dX5_countAt_4 : decode cX5_countAt 4 = .ok (.iload_n 1, 1) := by decide +kernel
theorem dX5_countAt_5 : decode cX5_countAt 5 = .ok (.invokevirtual 39, 3) := by decide +kernel
theorem dX5_countAt_8 : decode cX5_countAt 8 = .ok (.istore_n 2, 1) := by decide +kernel
theorem dX5_countAt_9 : decode cX5_countAt 9 = .ok (.aload_n 0, 1) := by decide +kernel
theorem dX5_countAt_10 : decode cX5_countAt 10 = .ok (.getfield 25, 3) := by decide +kernel
theorem dX5_countAt_13 : decode cX5_countAt 13 = .ok (.iload_n 1, 1) := by decide +kernel
theorem dX5_countAt_14 : decode cX5_countAt 14 = .ok (.iconst 1, 1) := by decide +kernel
theorem dX5_countAt_15 : decode cX5_countAt 15 = .ok (.iadd, 1) := by decide +kernel
theorem dX5_countAt_16 : decode cX5_countAt 16 = .ok (.invokevirtual 39, 3) := by decide +kernel
theorem dX5_countAt_19 : decode cX5_countAt 19 = .ok (.istore_n 3, 1) := by decide +kernel
theorem dX5_countAt_20 : decode cX5_countAt 20 = .ok (.iload_n 3, 1) := by decide +kernel
theorem dX5_countAt_21 : decode cX5_countAt 21 = .ok (.iconst (-1), 1) := by decide +kernel
theorem dX5_countAt_22 : decode cX5_countAt 22 = .ok (.if_icmp .ne 7, 3) := by decide +kernel
theorem dX5_countAt_25 : decode cX5_countAt 25 = .ok (.iconst (-1), 1) := by decide +kernel
theorem dX5_countAt_26 : decode cX5_countAt 26 = .ok (.goto 10, 3) := by decide +kernel
theorem dX5_countAt_29 : decode cX5_countAt 29 = .ok (.sipush 256, 3) := by decide +kernel
theorem dX5_countAt_32 : decode cX5_countAt 32 = .ok (.iload_n 2, 1) := by decide +kernel
theorem dX5_countAt_33 : decode cX5_countAt 33 = .ok (.imul, 1) := by decide +kernel
theorem dX5_countAt_34 : decode cX5_countAt 34 = .ok (.iload_n 3, 1) := by decide +kernel
theorem dX5_countAt_35 : decode cX5_countAt 35 = .ok (.iadd, 1) := by decide +kernel
theorem dX5_countAt_36 : decode cX5_countAt 36 = .ok (.ireturn, 1) := by decide +kernel
theorem dX5_readProgram_0 : decode cX5_readProgram 0 = .ok (.aload_n 0, 1) := by decide +kernel
theorem dX5_readProgram_1 : decode cX5_readProgram 1 = .ok (.getfield 18, 3) := by decide +kernel
theorem dX5_readProgram_4 : decode cX5_readProgram 4 = .ok (.invokevirtual 52, 3) := by decide +kernel
theorem dX5_readProgram_7 : decode cX5_readProgram 7 = .ok (.aload_n 0, 1) := by decide +kernel
theorem dX5_readProgram_8 : decode cX5_readProgram 8 = .ok (.getfield 12, 3) := by decide +kernel
theorem dX5_readProgram_11 : decode cX5_readProgram 11 = .ok (.aload_n 0, 1) := by decide +kernel
theorem dX5_readProgram_12 : decode cX5_readProgram 12 = .ok (.getfield 18, 3) := by decide +kernel
theorem dX5_readProgram_15 : decode cX5_readProgram 15 = .ok (.invokevirtual 55, 3) := by decide +kernel
theorem dX5_readProgram_18 : decode cX5_readProgram 18 = .ok (.aload_n 0, 1) := by decide +kernel
theorem dX5_readProgram_19 : decode cX5_readProgram 19 = .ok (.iconst 0, 1) := by decide +kernel
theorem dX5_readProgram_20 : decode cX5_readProgram 20 = .ok (.putfield 59, 3) := by decide +kernel
theorem dX5_readProgram_23 : decode cX5_readProgram 23 = .ok (.iconst 1, 1) := by decide +kernel
theorem dX5_readProgram_24 : decode cX5_readProgram 24 = .ok (.istore 4, 2) := by decide +kernel
theorem dX5_readProgram_26 : decode cX5_readProgram 26 = .ok (.iload_n 1, 1) := by decide +kernel
theorem dX5_readProgram_27 : decode cX5_readProgram 27 = .ok (.istore 5, 2) := by decide +kernel
theorem dX5_readProgram_29 : decode cX5_readProgram 29 = .ok (.iload 5, 2) := by decide +kernel
theorem dX5_readProgram_31 : decode cX5_readProgram 31 = .ok (.iload_n 2, 1) := by decide +kernel
theorem dX5_readProgram_32 : decode cX5_readProgram 32 = .ok (.if_icmp .ge 71, 3) := by decide +kernel
theorem dX5_readProgram_35 : decode cX5_readProgram 35 = .ok (.aload_n 0, 1) := by decide +kernel
theorem dX5_readProgram_36 : decode cX5_readProgram 36 = .ok (.getfield 25, 3) := by decide +kernel
theorem dX5_readProgram_39 : decode cX5_readProgram 39 = .ok (.iload 5, 2) := by decide +kernel
theorem dX5_readProgram_41 : decode cX5_readProgram 41 = .ok (.invokevirtual 39, 3) := by decide +kernel
theorem dX5_readProgram_44 : decode cX5_readProgram 44 = .ok (.invokestatic 62, 3) := by decide +kernel
theorem dX5_readProgram_47 : decode cX5_readProgram 47 = .ok (.istore 4, 2) := by decide +kernel
theorem dX5_readProgram_49 : decode cX5_readProgram 49 = .ok (.iload 4, 2) := by decide +kernel
theorem dX5_readProgram_51 : decode cX5_readProgram 51 = .ok (.ifCond .eq 21, 3) := by decide +kernel
theorem dX5_readProgram_54 : decode cX5_readProgram 54 = .ok (.iload 4, 2) := by decide +kernel
theorem dX5_readProgram_56 : decode cX5_readProgram 56 = .ok (.iload_n 2, 1) := by decide +kernel
theorem dX5_readProgram_57 : decode cX5_readProgram 57 = .ok (.iload 5, 2) := by decide +kernel
theorem dX5_readProgram_59 : decode cX5_readProgram 59 = .ok (.isub, 1) := by decide +kernel
theorem dX5_readProgram_60 : decode cX5_readProgram 60 = .ok (.if_icmp .gt 12, 3) := by decide +kernel
theorem dX5_readProgram_63 : decode cX5_readProgram 63 = .ok (.aload_n 0, 1) := by decide +kernel
theorem dX5_readProgram_64 : decode cX5_readProgram 64 = .ok (.iload 5, 2) := by decide +kernel
theorem dX5_readProgram_66 : decode cX5_readProgram 66 = .ok (.invokevirtual 65, 3) := by decide +kernel
theorem dX5_readProgram_69 : decode cX5_readProgram 69 = .ok (.ifCond .ne 5, 3) := by decide +kernel
theorem dX5_readProgram_72 : decode cX5_readProgram 72 = .ok (.iconst 0, 1) := by decide +kernel
theorem dX5_readProgram_73 : decode cX5_readProgram 73 = .ok (.ireturn, 1) := by decide +kernel
theorem dX5_readProgram_74 : decode cX5_readProgram 74 = .ok (.aload_n 0, 1) := by decide +kernel
theorem dX5_readProgram_75 : decode cX5_readProgram 75 = .ok (.getfield 42, 3) := by decide +kernel
theorem dX5_readProgram_78 : decode cX5_readProgram 78 = .ok (.iload_n 3, 1) := by decide +kernel
theorem dX5_readProgram_79 : decode cX5_readProgram 79 = .ok (.if_icmp .gt 14, 3) := by decide +kernel
theorem dX5_readProgram_82 : decode cX5_readProgram 82 = .ok (.aload_n 0, 1) := by decide +kernel
theorem dX5_readProgram_83 : decode cX5_readProgram 83 = .ok (.getfield 12, 3) := by decide +kernel
theorem dX5_readProgram_86 : decode cX5_readProgram 86 = .ok (.aload_n 0, 1) := by decide +kernel
theorem dX5_readProgram_87 : decode cX5_readProgram 87 = .ok (.getfield 18, 3) := by decide +kernel
theorem dX5_readProgram_90 : decode cX5_readProgram 90 = .ok (.invokevirtual 55, 3) := by decide +kernel
theorem dX5_readProgram_93 : decode cX5_readProgram 93 = .ok (.iload 5, 2) := by decide +kernel
theorem dX5_readProgram_95 : decode cX5_readProgram 95 = .ok (.iload 4, 2) := by decide +kernel
theorem dX5_readProgram_97 : decode cX5_readProgram 97 = .ok (.iadd, 1) := by decide +kernel
theorem dX5_readProgram_98 : decode cX5_readProgram 98 = .ok (.istore 5, 2) := by decide +kernel
theorem dX5_readProgram_100 : decode cX5_readProgram 100 = .ok (.goto (-71), 3) := by decide +kernel
theorem dX5_readProgram_103 : decode cX5_readProgram 103 = .ok (.iconst 1, 1) := by decide +kernel
theorem dX5_readProgram_104 : decode cX5_readProgram 104 = .ok (.ireturn, 1) := by decide +kernel
theorem dX5_sizeOf_0 : decode cX5_sizeOf 0 = .ok (.iload_n 0, 1) := by decide +kernel
theorem dX5_sizeOf_1 : decode cX5_sizeOf 1 = .ok (.bipush 64, 2) := by decide +kernel
theorem dX5_sizeOf_3 : decode cX5_sizeOf 3 = .ok (.if_icmp .lt 12, 3) := by decide +kernel
theorem dX5_sizeOf_6 : decode cX5_sizeOf 6 = .ok (.iload_n 0, 1) := by decide +kernel
theorem dX5_sizeOf_7 : decode cX5_sizeOf 7 = .ok (.sipush 128, 3) := by decide +kernel
theorem dX5_sizeOf_10 : decode cX5_sizeOf 10 = .ok (.if_icmp .ge 5, 3) := by decide +kernel
theorem dX5_sizeOf_13 : decode cX5_sizeOf 13 = .ok (.iconst 1, 1) := by decide +kernel
theorem dX5_sizeOf_14 : decode cX5_sizeOf 14 = .ok (.ireturn, 1) := by decide +kernel
theorem dX5_sizeOf_15 : decode cX5_sizeOf 15 = .ok (.iload_n 0, 1) := by decide +kernel
theorem dX5_sizeOf_16 : decode cX5_sizeOf 16 = .ok (.sipush 128, 3) := by decide +kernel
theorem dX5_sizeOf_19 : decode cX5_sizeOf 19 = .ok (.if_icmp .lt 12, 3) := by decide +kernel
theorem dX5_sizeOf_22 : decode cX5_sizeOf 22 = .ok (.iload_n 0, 1) := by decide +kernel
theorem dX5_sizeOf_23 : decode cX5_sizeOf 23 = .ok (.sipush 131, 3) := by decide +kernel
theorem dX5_sizeOf_26 : decode cX5_sizeOf 26 = .ok (.if_icmp .ge 5, 3) := by decide +kernel
theorem dX5_sizeOf_29 : decode cX5_sizeOf 29 = .ok (.iconst 2, 1) := by decide +kernel
theorem dX5_sizeOf_30 : decode cX5_sizeOf 30 = .ok (.ireturn, 1) := by decide +kernel
theorem dX5_sizeOf_31 : decode cX5_sizeOf 31 = .ok (.iload_n 0, 1) := by decide +kernel
theorem dX5_sizeOf_32 : decode cX5_sizeOf 32 = .ok (.sipush 192, 3) := by decide +kernel
theorem dX5_sizeOf_35 : decode cX5_sizeOf 35 = .ok (.if_icmp .lt 12, 3) := by decide +kernel
theorem dX5_sizeOf_38 : decode cX5_sizeOf 38 = .ok (.iload_n 0, 1) := by decide +kernel
theorem dX5_sizeOf_39 : decode cX5_sizeOf 39 = .ok (.sipush 195, 3) := by decide +kernel
theorem dX5_sizeOf_42 : decode cX5_sizeOf 42 = .ok (.if_icmp .ge 5, 3) := by decide +kernel
theorem dX5_sizeOf_45 : decode cX5_sizeOf 45 = .ok (.iconst 1, 1) := by decide +kernel
theorem dX5_sizeOf_46 : decode cX5_sizeOf 46 = .ok (.ireturn, 1) := by decide +kernel
theorem dX5_sizeOf_47 : decode cX5_sizeOf 47 = .ok (.iload_n 0, 1) := by decide +kernel
theorem dX5_sizeOf_48 : decode cX5_sizeOf 48 = .ok (.tableswitch 82 0 14 #[76, 82, 78, 82, 82, 82, 82, 82, 82, 82, 76, 76, 80, 78, 78], 76) := by decide +kernel
theorem dX5_sizeOf_124 : decode cX5_sizeOf 124 = .ok (.iconst 1, 1) := by decide +kernel
theorem dX5_sizeOf_125 : decode cX5_sizeOf 125 = .ok (.ireturn, 1) := by decide +kernel
theorem dX5_sizeOf_126 : decode cX5_sizeOf 126 = .ok (.iconst 2, 1) := by decide +kernel
theorem dX5_sizeOf_127 : decode cX5_sizeOf 127 = .ok (.ireturn, 1) := by decide +kernel
theorem dX5_sizeOf_128 : decode cX5_sizeOf 128 = .ok (.iconst 3, 1) := by decide +kernel
theorem dX5_sizeOf_129 : decode cX5_sizeOf 129 = .ok (.ireturn, 1) := by decide +kernel
theorem dX5_sizeOf_130 : decode cX5_sizeOf 130 = .ok (.iconst 0, 1) := by decide +kernel
theorem dX5_sizeOf_131 : decode cX5_sizeOf 131 = .ok (.ireturn, 1) := by decide +kernel
theorem dX5_follow_0 : decode cX5_follow 0 = .ok (.aload_n 0, 1) := by decide +kernel
theorem dX5_follow_1 : decode cX5_follow 1 = .ok (.getfield 25, 3) := by decide +kernel
theorem dX5_follow_4 : decode cX5_follow 4 = .ok (.iload_n 1, 1) := by decide +kernel
theorem dX5_follow_5 : decode cX5_follow 5 = .ok (.invokevirtual 39, 3) := by decide +kernel
theorem dX5_follow_8 : decode cX5_follow 8 = .ok (.istore_n 2, 1) := by decide +kernel
theorem dX5_follow_9 : decode cX5_follow 9 = .ok (.aload_n 0, 1) := by decide +kernel
theorem dX5_follow_10 : decode cX5_follow 10 = .ok (.getfield 25, 3) := by decide +kernel
theorem dX5_follow_13 : decode cX5_follow 13 = .ok (.iload_n 1, 1) := by decide +kernel
theorem dX5_follow_14 : decode cX5_follow 14 = .ok (.iconst 1, 1) := by decide +kernel
theorem dX5_follow_15 : decode cX5_follow 15 = .ok (.iadd, 1) := by decide +kernel
theorem dX5_follow_16 : decode cX5_follow 16 = .ok (.invokevirtual 39, 3) := by decide +kernel
theorem dX5_follow_19 : decode cX5_follow 19 = .ok (.istore_n 3, 1) := by decide +kernel
theorem dX5_follow_20 : decode cX5_follow 20 = .ok (.iload_n 2, 1) := by decide +kernel
theorem dX5_follow_21 : decode cX5_follow 21 = .ok (.tableswitch 132 0 14 #[75, 132, 77, 132, 132, 132, 132, 132, 132, 132, 83, 88, 93, 116, 122], 75) := by decide +kernel
theorem dX5_follow_96 : decode cX5_follow 96 = .ok (.iconst 1, 1) := by decide +kernel
theorem dX5_follow_97 : decode cX5_follow 97 = .ok (.ireturn, 1) := by decide +kernel
theorem dX5_follow_98 : decode cX5_follow 98 = .ok (.aload_n 0, 1) := by decide +kernel
theorem dX5_follow_99 : decode cX5_follow 99 = .ok (.iload_n 3, 1) := by decide +kernel
theorem dX5_follow_100 : decode cX5_follow 100 = .ok (.invokevirtual 69, 3) := by decide +kernel
theorem dX5_follow_103 : decode cX5_follow 103 = .ok (.ireturn, 1) := by decide +kernel
theorem dX5_follow_104 : decode cX5_follow 104 = .ok (.aload_n 0, 1) := by decide +kernel
theorem dX5_follow_105 : decode cX5_follow 105 = .ok (.invokevirtual 72, 3) := by decide +kernel
theorem dX5_follow_108 : decode cX5_follow 108 = .ok (.ireturn, 1) := by decide +kernel
theorem dX5_follow_109 : decode cX5_follow 109 = .ok (.aload_n 0, 1) := by decide +kernel
theorem dX5_follow_110 : decode cX5_follow 110 = .ok (.invokevirtual 76, 3) := by decide +kernel
theorem dX5_follow_113 : decode cX5_follow 113 = .ok (.ireturn, 1) := by decide +kernel
theorem dX5_follow_114 : decode cX5_follow 114 = .ok (.aload_n 0, 1) := by decide +kernel
theorem dX5_follow_115 : decode cX5_follow 115 = .ok (.getfield 18, 3) := by decide +kernel
theorem dX5_follow_118 : decode cX5_follow 118 = .ok (.aload_n 0, 1) := by decide +kernel
theorem dX5_follow_119 : decode cX5_follow 119 = .ok (.getfield 25, 3) := by decide +kernel
theorem dX5_follow_122 : decode cX5_follow 122 = .ok (.iload_n 1, 1) := by decide +kernel
theorem dX5_follow_123 : decode cX5_follow 123 = .ok (.iconst 2, 1) := by decide +kernel
theorem dX5_follow_124 : decode cX5_follow 124 = .ok (.iadd, 1) := by decide +kernel
theorem dX5_follow_125 : decode cX5_follow 125 = .ok (.invokevirtual 39, 3) := by decide +kernel
theorem dX5_follow_128 : decode cX5_follow 128 = .ok (.putfield 79, 3) := by decide +kernel
theorem dX5_follow_131 : decode cX5_follow 131 = .ok (.aload_n 0, 1) := by decide +kernel
theorem dX5_follow_132 : decode cX5_follow 132 = .ok (.iload_n 3, 1) := by decide +kernel
theorem dX5_follow_133 : decode cX5_follow 133 = .ok (.invokevirtual 82, 3) := by decide +kernel
end
section
theorem dX5_follow_136 : decode cX5_follow 136 = .ok (.ireturn, 1) := by decide +kernel
theorem dX5_follow_137 : decode cX5_follow 137 = .ok (.aload_n 0, 1) := by decide +kernel
theorem dX5_follow_138 : decode cX5_follow 138 = .ok (.iload_n 3, 1) := by decide +kernel
theorem dX5_follow_139 : decode cX5_follow 139 = .ok (.invokevirtual 82, 3) := by decide +kernel
theorem dX5_follow_142 : decode cX5_follow 142 = .ok (.ireturn, 1) := by decide +kernel
theorem dX5_follow_143 : decode cX5_follow 143 = .ok (.aload_n 0, 1) := by decide +kernel
theorem dX5_follow_144 : decode cX5_follow 144 = .ok (.getfield 18, 3) := by decide +kernel
theorem dX5_follow_147 : decode cX5_follow 147 = .ok (.iload_n 3, 1) := by decide +kernel
theorem dX5_follow_148 : decode cX5_follow 148 = .ok (.putfield 79, 3) := by decide +kernel
theorem dX5_follow_151 : decode cX5_follow 151 = .ok (.iconst 1, 1) := by decide +kernel
theorem dX5_follow_152 : decode cX5_follow 152 = .ok (.ireturn, 1) := by decide +kernel
theorem dX5_follow_153 : decode cX5_follow 153 = .ok (.aload_n 0, 1) := by decide +kernel
theorem dX5_follow_154 : decode cX5_follow 154 = .ok (.iload_n 2, 1) := by decide +kernel
theorem dX5_follow_155 : decode cX5_follow 155 = .ok (.iload_n 3, 1) := by decide +kernel
theorem dX5_follow_156 : decode cX5_follow 156 = .ok (.invokevirtual 85, 3) := by decide +kernel
theorem dX5_follow_159 : decode cX5_follow 159 = .ok (.ireturn, 1) := by decide +kernel
theorem dX5_followRange_0 : decode cX5_followRange 0 = .ok (.iload_n 1, 1) := by decide +kernel
theorem dX5_followRange_1 : decode cX5_followRange 1 = .ok (.sipush 128, 3) := by decide +kernel
theorem dX5_followRange_4 : decode cX5_followRange 4 = .ok (.if_icmp .ge 12, 3) := by decide +kernel
theorem dX5_followRange_7 : decode cX5_followRange 7 = .ok (.aload_n 0, 1) := by decide +kernel
theorem dX5_followRange_8 : decode cX5_followRange 8 = .ok (.iload_n 1, 1) := by decide +kernel
theorem dX5_followRange_9 : decode cX5_followRange 9 = .ok (.bipush 64, 2) := by decide +kernel
theorem dX5_followRange_11 : decode cX5_followRange 11 = .ok (.isub, 1) := by decide +kernel
theorem dX5_followRange_12 : decode cX5_followRange 12 = .ok (.invokevirtual 69, 3) := by decide +kernel
theorem dX5_followRange_15 : decode cX5_followRange 15 = .ok (.ireturn, 1) := by decide +kernel
theorem dX5_followRange_16 : decode cX5_followRange 16 = .ok (.iload_n 1, 1) := by decide +kernel
theorem dX5_followRange_17 : decode cX5_followRange 17 = .ok (.sipush 192, 3) := by decide +kernel
theorem dX5_followRange_20 : decode cX5_followRange 20 = .ok (.if_icmp .ge 20, 3) := by decide +kernel
theorem dX5_followRange_23 : decode cX5_followRange 23 = .ok (.aload_n 0, 1) := by decide +kernel
theorem dX5_followRange_24 : decode cX5_followRange 24 = .ok (.getfield 18, 3) := by decide +kernel
theorem dX5_followRange_27 : decode cX5_followRange 27 = .ok (.getfield 89, 3) := by decide +kernel
theorem dX5_followRange_30 : decode cX5_followRange 30 = .ok (.iload_n 1, 1) := by decide +kernel
theorem dX5_followRange_31 : decode cX5_followRange 31 = .ok (.sipush 128, 3) := by decide +kernel
theorem dX5_followRange_34 : decode cX5_followRange 34 = .ok (.isub, 1) := by decide +kernel
theorem dX5_followRange_35 : decode cX5_followRange 35 = .ok (.iload_n 2, 1) := by decide +kernel
theorem dX5_followRange_36 : decode cX5_followRange 36 = .ok (.iastore, 1) := by decide +kernel
theorem dX5_followRange_37 : decode cX5_followRange 37 = .ok (.goto 17, 3) := by decide +kernel
theorem dX5_followRange_40 : decode cX5_followRange 40 = .ok (.aload_n 0, 1) := by decide +kernel
theorem dX5_followRange_41 : decode cX5_followRange 41 = .ok (.getfield 18, 3) := by decide +kernel
theorem dX5_followRange_44 : decode cX5_followRange 44 = .ok (.getfield 89, 3) := by decide +kernel
theorem dX5_followRange_47 : decode cX5_followRange 47 = .ok (.iload_n 1, 1) := by decide +kernel
theorem dX5_followRange_48 : decode cX5_followRange 48 = .ok (.sipush 192, 3) := by decide +kernel
theorem dX5_followRange_51 : decode cX5_followRange 51 = .ok (.isub, 1) := by decide +kernel
theorem dX5_followRange_52 : decode cX5_followRange 52 = .ok (.iconst 0, 1) := by decide +kernel
theorem dX5_followRange_53 : decode cX5_followRange 53 = .ok (.iastore, 1) := by decide +kernel
theorem dX5_followRange_54 : decode cX5_followRange 54 = .ok (.iconst 1, 1) := by decide +kernel
theorem dX5_followRange_55 : decode cX5_followRange 55 = .ok (.ireturn, 1) := by decide +kernel
theorem dX5_moveBy_0 : decode cX5_moveBy 0 = .ok (.aload_n 0, 1) := by decide +kernel
theorem dX5_moveBy_1 : decode cX5_moveBy 1 = .ok (.dup, 1) := by decide +kernel
theorem dX5_moveBy_2 : decode cX5_moveBy 2 = .ok (.getfield 42, 3) := by decide +kernel
theorem dX5_moveBy_5 : decode cX5_moveBy 5 = .ok (.iload_n 1, 1) := by decide +kernel
theorem dX5_moveBy_6 : decode cX5_moveBy 6 = .ok (.iadd, 1) := by decide +kernel
theorem dX5_moveBy_7 : decode cX5_moveBy 7 = .ok (.putfield 42, 3) := by decide +kernel
theorem dX5_moveBy_10 : decode cX5_moveBy 10 = .ok (.aload_n 0, 1) := by decide +kernel
theorem dX5_moveBy_11 : decode cX5_moveBy 11 = .ok (.getfield 42, 3) := by decide +kernel
theorem dX5_moveBy_14 : decode cX5_moveBy 14 = .ok (.aload_n 0, 1) := by decide +kernel
theorem dX5_moveBy_15 : decode cX5_moveBy 15 = .ok (.getfield 45, 3) := by decide +kernel
theorem dX5_moveBy_18 : decode cX5_moveBy 18 = .ok (.if_icmp .ge 7, 3) := by decide +kernel
theorem dX5_moveBy_21 : decode cX5_moveBy 21 = .ok (.iconst 1, 1) := by decide +kernel
theorem dX5_moveBy_22 : decode cX5_moveBy 22 = .ok (.goto 4, 3) := by decide +kernel
theorem dX5_moveBy_25 : decode cX5_moveBy 25 = .ok (.iconst 0, 1) := by decide +kernel
theorem dX5_moveBy_26 : decode cX5_moveBy 26 = .ok (.ireturn, 1) := by decide +kernel
theorem dX5_setLink_0 : decode cX5_setLink 0 = .ok (.aload_n 0, 1) := by decide +kernel
theorem dX5_setLink_1 : decode cX5_setLink 1 = .ok (.getfield 18, 3) := by decide +kernel
theorem dX5_setLink_4 : decode cX5_setLink 4 = .ok (.iload_n 1, 1) := by decide +kernel
theorem dX5_setLink_5 : decode cX5_setLink 5 = .ok (.putfield 93, 3) := by decide +kernel
theorem dX5_setLink_8 : decode cX5_setLink 8 = .ok (.iload_n 1, 1) := by decide +kernel
theorem dX5_setLink_9 : decode cX5_setLink 9 = .ok (.iconst 1, 1) := by decide +kernel
theorem dX5_setLink_10 : decode cX5_setLink 10 = .ok (.if_icmp .gt 7, 3) := by decide +kernel
theorem dX5_setLink_13 : decode cX5_setLink 13 = .ok (.iconst 1, 1) := by decide +kernel
theorem dX5_setLink_14 : decode cX5_setLink 14 = .ok (.goto 4, 3) := by decide +kernel
theorem dX5_setLink_17 : decode cX5_setLink 17 = .ok (.iconst 0, 1) := by decide +kernel
theorem dX5_setLink_18 : decode cX5_setLink 18 = .ok (.ireturn, 1) := by decide +kernel
theorem dX5_putOnPile_0 : decode cX5_putOnPile 0 = .ok (.aload_n 0, 1) := by decide +kernel
theorem dX5_putOnPile_1 : decode cX5_putOnPile 1 = .ok (.getfield 59, 3) := by decide +kernel
theorem dX5_putOnPile_4 : decode cX5_putOnPile 4 = .ok (.iconst 4, 1) := by decide +kernel
theorem dX5_putOnPile_5 : decode cX5_putOnPile 5 = .ok (.if_icmp .lt 5, 3) := by decide +kernel
theorem dX5_putOnPile_8 : decode cX5_putOnPile 8 = .ok (.iconst 0, 1) := by decide +kernel
theorem dX5_putOnPile_9 : decode cX5_putOnPile 9 = .ok (.ireturn, 1) := by decide +kernel
theorem dX5_putOnPile_10 : decode cX5_putOnPile 10 = .ok (.aload_n 0, 1) := by decide +kernel
theorem dX5_putOnPile_11 : decode cX5_putOnPile 11 = .ok (.getfield 21, 3) := by decide +kernel
theorem dX5_putOnPile_14 : decode cX5_putOnPile 14 = .ok (.aload_n 0, 1) := by decide +kernel
theorem dX5_putOnPile_15 : decode cX5_putOnPile 15 = .ok (.getfield 59, 3) := by decide +kernel
theorem dX5_putOnPile_18 : decode cX5_putOnPile 18 = .ok (.aaload, 1) := by decide +kernel
theorem dX5_putOnPile_19 : decode cX5_putOnPile 19 = .ok (.aload_n 0, 1) := by decide +kernel
theorem dX5_putOnPile_20 : decode cX5_putOnPile 20 = .ok (.getfield 18, 3) := by decide +kernel
theorem dX5_putOnPile_23 : decode cX5_putOnPile 23 = .ok (.invokevirtual 55, 3) := by decide +kernel
theorem dX5_putOnPile_26 : decode cX5_putOnPile 26 = .ok (.aload_n 0, 1) := by decide +kernel
theorem dX5_putOnPile_27 : decode cX5_putOnPile 27 = .ok (.dup, 1) := by decide +kernel
theorem dX5_putOnPile_28 : decode cX5_putOnPile 28 = .ok (.getfield 59, 3) := by decide +kernel
theorem dX5_putOnPile_31 : decode cX5_putOnPile 31 = .ok (.iconst 1, 1) := by decide +kernel
theorem dX5_putOnPile_32 : decode cX5_putOnPile 32 = .ok (.iadd, 1) := by decide +kernel
theorem dX5_putOnPile_33 : decode cX5_putOnPile 33 = .ok (.putfield 59, 3) := by decide +kernel
theorem dX5_putOnPile_36 : decode cX5_putOnPile 36 = .ok (.iconst 1, 1) := by decide +kernel
theorem dX5_putOnPile_37 : decode cX5_putOnPile 37 = .ok (.ireturn, 1) := by decide +kernel
theorem dX5_takeOffPile_0 : decode cX5_takeOffPile 0 = .ok (.aload_n 0, 1) := by decide +kernel
theorem dX5_takeOffPile_1 : decode cX5_takeOffPile 1 = .ok (.getfield 59, 3) := by decide +kernel
theorem dX5_takeOffPile_4 : decode cX5_takeOffPile 4 = .ok (.ifCond .gt 5, 3) := by decide +kernel
theorem dX5_takeOffPile_7 : decode cX5_takeOffPile 7 = .ok (.iconst 0, 1) := by decide +kernel
theorem dX5_takeOffPile_8 : decode cX5_takeOffPile 8 = .ok (.ireturn, 1) := by decide +kernel
theorem dX5_takeOffPile_9 : decode cX5_takeOffPile 9 = .ok (.aload_n 0, 1) := by decide +kernel
theorem dX5_takeOffPile_10 : decode cX5_takeOffPile 10 = .ok (.dup, 1) := by decide +kernel
theorem dX5_takeOffPile_11 : decode cX5_takeOffPile 11 = .ok (.getfield 59, 3) := by decide +kernel
theorem dX5_takeOffPile_14 : decode cX5_takeOffPile 14 = .ok (.iconst 1, 1) := by decide +kernel
theorem dX5_takeOffPile_15 : decode cX5_takeOffPile 15 = .ok (.isub, 1) := by decide +kernel
theorem dX5_takeOffPile_16 : decode cX5_takeOffPile 16 = .ok (.putfield 59, 3) := by decide +kernel
theorem dX5_takeOffPile_19 : decode cX5_takeOffPile 19 = .ok (.aload_n 0, 1) := by decide +kernel
theorem dX5_takeOffPile_20 : decode cX5_takeOffPile 20 = .ok (.getfield 18, 3) := by decide +kernel
theorem dX5_takeOffPile_23 : decode cX5_takeOffPile 23 = .ok (.aload_n 0, 1) := by decide +kernel
theorem dX5_takeOffPile_24 : decode cX5_takeOffPile 24 = .ok (.getfield 21, 3) := by decide +kernel
theorem dX5_takeOffPile_27 : decode cX5_takeOffPile 27 = .ok (.aload_n 0, 1) := by decide +kernel
theorem dX5_takeOffPile_28 : decode cX5_takeOffPile 28 = .ok (.getfield 59, 3) := by decide +kernel
theorem dX5_takeOffPile_31 : decode cX5_takeOffPile 31 = .ok (.aaload, 1) := by decide +kernel
theorem dX5_takeOffPile_32 : decode cX5_takeOffPile 32 = .ok (.invokevirtual 55, 3) := by decide +kernel
theorem dX5_takeOffPile_35 : decode cX5_takeOffPile 35 = .ok (.iconst 1, 1) := by decide +kernel
theorem dX5_takeOffPile_36 : decode cX5_takeOffPile 36 = .ok (.ireturn, 1) := by decide +kernel
theorem dX6_init_0 : decode cX6_init 0 = .ok (.aload_n 0, 1) := by decide +kernel
theorem dX6_init_1 : decode cX6_init 1 = .ok (.invokespecial 3, 3) := by decide +kernel
theorem dX6_init_4 : decode cX6_init 4 = .ok (.aload_n 0, 1) := by decide +kernel
theorem dX6_init_5 : decode cX6_init 5 = .ok (.iconst 3, 1) := by decide +kernel
theorem dX6_init_6 : decode cX6_init 6 = .ok (.newarray .int, 2) := by decide +kernel
theorem dX6_init_8 : decode cX6_init 8 = .ok (.putfield 9, 3) := by decide +kernel
theorem dX6_init_11 : decode cX6_init 11 = .ok (.return_, 1) := by decide +kernel
theorem dX6_setToFirst_0 : decode cX6_setToFirst 0 = .ok (.aload_n 0, 1) := by decide +kernel
theorem dX6_setToFirst_1 : decode cX6_setToFirst 1 = .ok (.iconst 0, 1) := by decide +kernel
theorem dX6_setToFirst_2 : decode cX6_setToFirst 2 = .ok (.putfield 15, 3) := by decide +kernel
theorem dX6_setToFirst_5 : decode cX6_setToFirst 5 = .ok (.aload_n 0, 1) := by decide +kernel
theorem dX6_setToFirst_6 : decode cX6_setToFirst 6 = .ok (.iconst 1, 1) := by decide +kernel
theorem dX6_setToFirst_7 : decode cX6_setToFirst 7 = .ok (.putfield 19, 3) := by decide +kernel
theorem dX6_setToFirst_10 : decode cX6_setToFirst 10 = .ok (.iconst 0, 1) := by decide +kernel
theorem dX6_setToFirst_11 : decode cX6_setToFirst 11 = .ok (.istore_n 1, 1) := by decide +kernel
theorem dX6_setToFirst_12 : decode cX6_setToFirst 12 = .ok (.iload_n 1, 1) := by decide +kernel
theorem dX6_setToFirst_13 : decode cX6_setToFirst 13 = .ok (.iconst 3, 1) := by decide +kernel
theorem dX6_setToFirst_14 : decode cX6_setToFirst 14 = .ok (.if_icmp .ge 16, 3) := by decide +kernel
theorem dX6_setToFirst_17 : decode cX6_setToFirst 17 = .ok (.aload_n 0, 1) := by decide +kernel
theorem dX6_setToFirst_18 : decode cX6_setToFirst 18 = .ok (.getfield 9, 3) := by decide +kernel
theorem dX6_setToFirst_21 : decode cX6_setToFirst 21 = .ok (.iload_n 1, 1) := by decide +kernel
theorem dX6_setToFirst_22 : decode cX6_setToFirst 22 = .ok (.iconst 0, 1) := by decide +kernel
theorem dX6_setToFirst_23 : decode cX6_setToFirst 23 = .ok (.iastore, 1) := by decide +kernel
theorem dX6_setToFirst_24 : decode cX6_setToFirst 24 = .ok (.iinc 1 1, 3) := by decide +kernel
theorem dX6_setToFirst_27 : decode cX6_setToFirst 27 = .ok (.goto (-15), 3) := by decide +kernel
theorem dX6_setToFirst_30 : decode cX6_setToFirst 30 = .ok (.return_, 1) := by decide +kernel
theorem dX6_copyFrom_0 : decode cX6_copyFrom 0 = .ok (.aload_n 0, 1) := by decide +kernel
theorem dX6_copyFrom_1 : decode cX6_copyFrom 1 = .ok (.aload_n 1, 1) := by decide +kernel
theorem dX6_copyFrom_2 : decode cX6_copyFrom 2 = .ok (.getfield 15, 3) := by decide +kernel
theorem dX6_copyFrom_5 : decode cX6_copyFrom 5 = .ok (.putfield 15, 3) := by decide +kernel
theorem dX6_copyFrom_8 : decode cX6_copyFrom 8 = .ok (.aload_n 0, 1) := by decide +kernel
theorem dX6_copyFrom_9 : decode cX6_copyFrom 9 = .ok (.aload_n 1, 1) := by decide +kernel
theorem dX6_copyFrom_10 : decode cX6_copyFrom 10 = .ok (.getfield 19, 3) := by decide +kernel
theorem dX6_copyFrom_13 : decode cX6_copyFrom 13 = .ok (.putfield 19, 3) := by decide +kernel
theorem dX6_copyFrom_16 : decode cX6_copyFrom 16 = .ok (.iconst 0, 1) := by decide +kernel
theorem dX6_copyFrom_17 : decode cX6_copyFrom 17 = .ok (.istore_n 2, 1) := by decide +kernel
theorem dX6_copyFrom_18 : decode cX6_copyFrom 18 = .ok (.iload_n 2, 1) := by decide +kernel
theorem dX6_copyFrom_19 : decode cX6_copyFrom 19 = .ok (.iconst 3, 1) := by decide +kernel
theorem dX6_copyFrom_20 : decode cX6_copyFrom 20 = .ok (.if_icmp .ge 21, 3) := by decide +kernel
theorem dX6_copyFrom_23 : decode cX6_copyFrom 23 = .ok (.aload_n 0, 1) := by decide +kernel
theorem dX6_copyFrom_24 : decode cX6_copyFrom 24 = .ok (.getfield 9, 3) := by decide +kernel
theorem dX6_copyFrom_27 : decode cX6_copyFrom 27 = .ok (.iload_n 2, 1) := by decide +kernel
theorem dX6_copyFrom_28 : decode cX6_copyFrom 28 = .ok (.aload_n 1, 1) := by decide +kernel
theorem dX6_copyFrom_29 : decode cX6_copyFrom 29 = .ok (.getfield 9, 3) := by decide +kernel
theorem dX6_copyFrom_32 : decode cX6_copyFrom 32 = .ok (.iload_n 2, 1) := by decide +kernel
theorem dX6_copyFrom_33 : decode cX6_copyFrom 33 = .ok (.iaload, 1) := by decide +kernel
theorem dX6_copyFrom_34 : decode cX6_copyFrom 34 = .ok (.iastore, 1) := by decide +kernel
theorem dX6_copyFrom_35 : decode cX6_copyFrom 35 = .ok (.iinc 2 1, 3) := by decide +kernel
theorem dX6_copyFrom_38 : decode cX6_copyFrom 38 = .ok (.goto (-20), 3) := by decide +kernel
theorem dX6_copyFrom_41 : decode cX6_copyFrom 41 = .ok (.return_, 1) := by decide +kernel
theorem dX6_isSameAs_0 : decode cX6_isSameAs 0 = .ok (.aload_n 0, 1) := by decide +kernel
theorem dX6_isSameAs_1 : decode cX6_isSameAs 1 = .ok (.getfield 15, 3) := by decide +kernel
theorem dX6_isSameAs_4 : decode cX6_isSameAs 4 = .ok (.aload_n 1, 1) := by decide +kernel
theorem dX6_isSameAs_5 : decode cX6_isSameAs 5 = .ok (.getfield 15, 3) := by decide +kernel
theorem dX6_isSameAs_8 : decode cX6_isSameAs 8 = .ok (.if_icmp .ne 18, 3) := by decide +kernel
theorem dX6_isSameAs_11 : decode cX6_isSameAs 11 = .ok (.aload_n 0, 1) := by decide +kernel
theorem dX6_isSameAs_12 : decode cX6_isSameAs 12 = .ok (.getfield 19, 3) := by decide +kernel
theorem dX6_isSameAs_15 : decode cX6_isSameAs 15 = .ok (.aload_n 1, 1) := by decide +kernel
theorem dX6_isSameAs_16 : decode cX6_isSameAs 16 = .ok (.getfield 19, 3) := by decide +kernel
theorem dX6_isSameAs_19 : decode cX6_isSameAs 19 = .ok (.if_icmp .ne 7, 3) := by decide +kernel
theorem dX6_isSameAs_22 : decode cX6_isSameAs 22 = .ok (.iconst 1, 1) := by decide +kernel
theorem dX6_isSameAs_23 : decode cX6_isSameAs 23 = .ok (.goto 4, 3) := by decide +kernel
theorem dX6_isSameAs_26 : decode cX6_isSameAs 26 = .ok (.iconst 0, 1) := by decide +kernel
theorem dX6_isSameAs_27 : decode cX6_isSameAs 27 = .ok (.istore_n 2, 1) := by decide +kernel
theorem dX6_isSameAs_28 : decode cX6_isSameAs 28 = .ok (.iconst 0, 1) := by decide +kernel
theorem dX6_isSameAs_29 : decode cX6_isSameAs 29 = .ok (.istore_n 3, 1) := by decide +kernel
theorem dX6_isSameAs_30 : decode cX6_isSameAs 30 = .ok (.iload_n 3, 1) := by decide +kernel
theorem dX6_isSameAs_31 : decode cX6_isSameAs 31 = .ok (.iconst 3, 1) := by decide +kernel
theorem dX6_isSameAs_32 : decode cX6_isSameAs 32 = .ok (.if_icmp .ge 34, 3) := by decide +kernel
theorem dX6_isSameAs_35 : decode cX6_isSameAs 35 = .ok (.iload_n 2, 1) := by decide +kernel
theorem dX6_isSameAs_36 : decode cX6_isSameAs 36 = .ok (.ifCond .eq 22, 3) := by decide +kernel
theorem dX6_isSameAs_39 : decode cX6_isSameAs 39 = .ok (.aload_n 0, 1) := by decide +kernel
theorem dX6_isSameAs_40 : decode cX6_isSameAs 40 = .ok (.getfield 9, 3) := by decide +kernel
theorem dX6_isSameAs_43 : decode cX6_isSameAs 43 = .ok (.iload_n 3, 1) := by decide +kernel
theorem dX6_isSameAs_44 : decode cX6_isSameAs 44 = .ok (.iaload, 1) := by decide +kernel
theorem dX6_isSameAs_45 : decode cX6_isSameAs 45 = .ok (.aload_n 1, 1) := by decide +kernel
theorem dX6_isSameAs_46 : decode cX6_isSameAs 46 = .ok (.getfield 9, 3) := by decide +kernel
theorem dX6_isSameAs_49 : decode cX6_isSameAs 49 = .ok (.iload_n 3, 1) := by decide +kernel
theorem dX6_isSameAs_50 : decode cX6_isSameAs 50 = .ok (.iaload, 1) := by decide +kernel
theorem dX6_isSameAs_51 : decode cX6_isSameAs 51 = .ok (.if_icmp .ne 7, 3) := by decide +kernel
theorem dX6_isSameAs_54 : decode cX6_isSameAs 54 = .ok (.iconst 1, 1) := by decide +kernel
theorem dX6_isSameAs_55 : decode cX6_isSameAs 55 = .ok (.goto 4, 3) := by decide +kernel
theorem dX6_isSameAs_58 : decode cX6_isSameAs 58 = .ok (.iconst 0, 1) := by decide +kernel
theorem dX6_isSameAs_59 : decode cX6_isSameAs 59 = .ok (.istore_n 2, 1) := by decide +kernel
theorem dX6_isSameAs_60 : decode cX6_isSameAs 60 = .ok (.iinc 3 1, 3) := by decide +kernel
theorem dX6_isSameAs_63 : decode cX6_isSameAs 63 = .ok (.goto (-33), 3) := by decide +kernel
theorem dX6_isSameAs_66 : decode cX6_isSameAs 66 = .ok (.iload_n 2, 1) := by decide +kernel
theorem dX6_isSameAs_67 : decode cX6_isSameAs 67 = .ok (.ireturn, 1) := by decide +kernel
theorem dX6_part_0 : decode cX6_part 0 = .ok (.iload_n 1, 1) := by decide +kernel
theorem dX6_part_1 : decode cX6_part 1 = .ok (.ifCond .lt 8, 3) := by decide +kernel
theorem dX6_part_4 : decode cX6_part 4 = .ok (.iload_n 1, 1) := by decide +kernel
theorem dX6_part_5 : decode cX6_part 5 = .ok (.iconst 5, 1) := by decide +kernel
theorem dX6_part_6 : decode cX6_part 6 = .ok (.if_icmp .lt 5, 3) := by decide +kernel
theorem dX6_part_9 : decode cX6_part 9 = .ok (.iconst (-1), 1) := by decide +kernel
theorem dX6_part_10 : decode cX6_part 10 = .ok (.ireturn, 1) := by decide +kernel
theorem dX6_part_11 : decode cX6_part 11 = .ok (.iload_n 1, 1) := by decide +kernel
theorem dX6_part_12 : decode cX6_part 12 = .ok (.ifCond .ne 8, 3) := by decide +kernel
theorem dX6_part_15 : decode cX6_part 15 = .ok (.aload_n 0, 1) := by decide +kernel
theorem dX6_part_16 : decode cX6_part 16 = .ok (.getfield 15, 3) := by decide +kernel
theorem dX6_part_19 : decode cX6_part 19 = .ok (.ireturn, 1) := by decide +kernel
theorem dX6_part_20 : decode cX6_part 20 = .ok (.iload_n 1, 1) := by decide +kernel
theorem dX6_part_21 : decode cX6_part 21 = .ok (.iconst 1, 1) := by decide +kernel
theorem dX6_part_22 : decode cX6_part 22 = .ok (.if_icmp .ne 10, 3) := by decide +kernel
theorem dX6_part_25 : decode cX6_part 25 = .ok (.aload_n 0, 1) := by decide +kernel
theorem dX6_part_26 : decode cX6_part 26 = .ok (.getfield 19, 3) := by decide +kernel
theorem dX6_part_29 : decode cX6_part 29 = .ok (.goto 11, 3) := by decide +kernel
theorem dX6_part_32 : decode cX6_part 32 = .ok (.aload_n 0, 1) := by decide +kernel
theorem dX6_part_33 : decode cX6_part 33 = .ok (.getfield 9, 3) := by decide +kernel
theorem dX6_part_36 : decode cX6_part 36 = .ok (.iload_n 1, 1) := by decide +kernel
theorem dX6_part_37 : decode cX6_part 37 = .ok (.iconst 2, 1) := by decide +kernel
theorem dX6_part_38 : decode cX6_part 38 = .ok (.isub, 1) := by decide +kernel
theorem dX6_part_39 : decode cX6_part 39 = .ok (.iaload, 1) := by decide +kernel
theorem dX6_part_40 : decode cX6_part 40 = .ok (.ireturn, 1) := by decide +kernel
theorem dX7_init_0 : decode cX7_init 0 = .ok (.aload_n 0, 1) := by decide +kernel
theorem dX7_init_1 : decode cX7_init 1 = .ok (.invokespecial 3, 3) := by decide +kernel
theorem dX7_init_4 : decode cX7_init 4 = .ok (.aload_n 0, 1) := by decide +kernel
theorem dX7_init_5 : decode cX7_init 5 = .ok (.sipush 1076, 3) := by decide +kernel
theorem dX7_init_8 : decode cX7_init 8 = .ok (.newarray .int, 2) := by decide +kernel
theorem dX7_init_10 : decode cX7_init 10 = .ok (.putfield 11, 3) := by decide +kernel
theorem dX7_init_13 : decode cX7_init 13 = .ok (.return_, 1) := by decide +kernel
theorem dX7_empty_0 : decode cX7_empty 0 = .ok (.aload_n 0, 1) := by decide +kernel
theorem dX7_empty_1 : decode cX7_empty 1 = .ok (.iconst 0, 1) := by decide +kernel
theorem dX7_empty_2 : decode cX7_empty 2 = .ok (.putfield 15, 3) := by decide +kernel
theorem dX7_empty_5 : decode cX7_empty 5 = .ok (.return_, 1) := by decide +kernel
theorem dX7_append_0 : decode cX7_append 0 = .ok (.aload_n 0, 1) := by decide +kernel
theorem dX7_append_1 : decode cX7_append 1 = .ok (.getfield 15, 3) := by decide +kernel
theorem dX7_append_4 : decode cX7_append 4 = .ok (.sipush 1076, 3) := by decide +kernel
theorem dX7_append_7 : decode cX7_append 7 = .ok (.if_icmp .ge 23, 3) := by decide +kernel
theorem dX7_append_10 : decode cX7_append 10 = .ok (.aload_n 0, 1) := by decide +kernel
theorem dX7_append_11 : decode cX7_append 11 = .ok (.getfield 11, 3) := by decide +kernel
theorem dX7_append_14 : decode cX7_append 14 = .ok (.aload_n 0, 1) := by decide +kernel
theorem dX7_append_15 : decode cX7_append 15 = .ok (.getfield 15, 3) := by decide +kernel
theorem dX7_append_18 : decode cX7_append 18 = .ok (.iload_n 1, 1) := by decide +kernel
theorem dX7_append_19 : decode cX7_append 19 = .ok (.iastore, 1) := by decide +kernel
theorem dX7_append_20 : decode cX7_append 20 = .ok (.aload_n 0, 1) := by decide +kernel
theorem dX7_append_21 : decode cX7_append 21 = .ok (.dup, 1) := by decide +kernel
theorem dX7_append_22 : decode cX7_append 22 = .ok (.getfield 15, 3) := by decide +kernel
theorem dX7_append_25 : decode cX7_append 25 = .ok (.iconst 1, 1) := by decide +kernel
theorem dX7_append_26 : decode cX7_append 26 = .ok (.iadd, 1) := by decide +kernel
theorem dX7_append_27 : decode cX7_append 27 = .ok (.putfield 15, 3) := by decide +kernel
theorem dX7_append_30 : decode cX7_append 30 = .ok (.return_, 1) := by decide +kernel
theorem dX7_byteAt_0 : decode cX7_byteAt 0 = .ok (.iload_n 1, 1) := by decide +kernel
theorem dX7_byteAt_1 : decode cX7_byteAt 1 = .ok (.ifCond .lt 20, 3) := by decide +kernel
theorem dX7_byteAt_4 : decode cX7_byteAt 4 = .ok (.iload_n 1, 1) := by decide +kernel
theorem dX7_byteAt_5 : decode cX7_byteAt 5 = .ok (.aload_n 0, 1) := by decide +kernel
theorem dX7_byteAt_6 : decode cX7_byteAt 6 = .ok (.getfield 15, 3) := by decide +kernel
theorem dX7_byteAt_9 : decode cX7_byteAt 9 = .ok (.if_icmp .ge 12, 3) := by decide +kernel
theorem dX7_byteAt_12 : decode cX7_byteAt 12 = .ok (.aload_n 0, 1) := by decide +kernel
theorem dX7_byteAt_13 : decode cX7_byteAt 13 = .ok (.getfield 11, 3) := by decide +kernel
theorem dX7_byteAt_16 : decode cX7_byteAt 16 = .ok (.iload_n 1, 1) := by decide +kernel
theorem dX7_byteAt_17 : decode cX7_byteAt 17 = .ok (.iaload, 1) := by decide +kernel
theorem dX7_byteAt_18 : decode cX7_byteAt 18 = .ok (.goto 4, 3) := by decide +kernel
theorem dX7_byteAt_21 : decode cX7_byteAt 21 = .ok (.iconst (-1), 1) := by decide +kernel
theorem dX7_byteAt_22 : decode cX7_byteAt 22 = .ok (.ireturn, 1) := by decide +kernel
theorem dX7_change_0 : decode cX7_change 0 = .ok (.iload_n 1, 1) := by decide +kernel
theorem dX7_change_1 : decode cX7_change 1 = .ok (.ifCond .lt 22, 3) := by decide +kernel
theorem dX7_change_4 : decode cX7_change 4 = .ok (.iload_n 1, 1) := by decide +kernel
theorem dX7_change_5 : decode cX7_change 5 = .ok (.aload_n 0, 1) := by decide +kernel
theorem dX7_change_6 : decode cX7_change 6 = .ok (.getfield 15, 3) := by decide +kernel
theorem dX7_change_9 : decode cX7_change 9 = .ok (.if_icmp .ge 14, 3) := by decide +kernel
theorem dX7_change_12 : decode cX7_change 12 = .ok (.iload_n 2, 1) := by decide +kernel
theorem dX7_change_13 : decode cX7_change 13 = .ok (.ifCond .lt 10, 3) := by decide +kernel
theorem dX7_change_16 : decode cX7_change 16 = .ok (.iload_n 2, 1) := by decide +kernel
theorem dX7_change_17 : decode cX7_change 17 = .ok (.sipush 255, 3) := by decide +kernel
theorem dX7_change_20 : decode cX7_change 20 = .ok (.if_icmp .le 5, 3) := by decide +kernel
theorem dX7_change_23 : decode cX7_change 23 = .ok (.iconst 0, 1) := by decide +kernel
theorem dX7_change_24 : decode cX7_change 24 = .ok (.ireturn, 1) := by decide +kernel
theorem dX7_change_25 : decode cX7_change 25 = .ok (.aload_n 0, 1) := by decide +kernel
theorem dX7_change_26 : decode cX7_change 26 = .ok (.getfield 11, 3) := by decide +kernel
theorem dX7_change_29 : decode cX7_change 29 = .ok (.iload_n 1, 1) := by decide +kernel
theorem dX7_change_30 : decode cX7_change 30 = .ok (.iload_n 2, 1) := by decide +kernel
theorem dX7_change_31 : decode cX7_change 31 = .ok (.iastore, 1) := by decide +kernel
theorem dX7_change_32 : decode cX7_change 32 = .ok (.iconst 1, 1) := by decide +kernel
theorem dX7_change_33 : decode cX7_change 33 = .ok (.ireturn, 1) := by decide +kernel
theorem dX8_init_0 : decode cX8_init 0 = .ok (.aload_n 0, 1) := by decide +kernel
theorem dX8_init_1 : decode cX8_init 1 = .ok (.invokespecial 1, 3) := by decide +kernel
theorem dX8_init_4 : decode cX8_init 4 = .ok (.aload_n 0, 1) := by decide +kernel
theorem dX8_init_5 : decode cX8_init 5 = .ok (.new 7, 3) := by decide +kernel
theorem dX8_init_8 : decode cX8_init 8 = .ok (.dup, 1) := by decide +kernel
theorem dX8_init_9 : decode cX8_init 9 = .ok (.invokespecial 9, 3) := by decide +kernel
theorem dX8_init_12 : decode cX8_init 12 = .ok (.putfield 10, 3) := by decide +kernel
theorem dX8_init_15 : decode cX8_init 15 = .ok (.aload_n 0, 1) := by decide +kernel
theorem dX8_init_16 : decode cX8_init 16 = .ok (.new 16, 3) := by decide +kernel
theorem dX8_init_19 : decode cX8_init 19 = .ok (.dup, 1) := by decide +kernel
theorem dX8_init_20 : decode cX8_init 20 = .ok (.invokespecial 18, 3) := by decide +kernel
theorem dX8_init_23 : decode cX8_init 23 = .ok (.putfield 19, 3) := by decide +kernel
theorem dX8_init_26 : decode cX8_init 26 = .ok (.aload_n 0, 1) := by decide +kernel
theorem dX8_init_27 : decode cX8_init 27 = .ok (.new 23, 3) := by decide +kernel
theorem dX8_init_30 : decode cX8_init 30 = .ok (.dup, 1) := by decide +kernel
theorem dX8_init_31 : decode cX8_init 31 = .ok (.aload_n 0, 1) := by decide +kernel
theorem dX8_init_32 : decode cX8_init 32 = .ok (.getfield 10, 3) := by decide +kernel
theorem dX8_init_35 : decode cX8_init 35 = .ok (.aload_n 0, 1) := by decide +kernel
theorem dX8_init_36 : decode cX8_init 36 = .ok (.getfield 19, 3) := by decide +kernel
theorem dX8_init_39 : decode cX8_init 39 = .ok (.invokespecial 25, 3) := by decide +kernel
theorem dX8_init_42 : decode cX8_init 42 = .ok (.putfield 28, 3) := by decide +kernel
theorem dX8_init_45 : decode cX8_init 45 = .ok (.aload_n 0, 1) := by decide +kernel
theorem dX8_init_46 : decode cX8_init 46 = .ok (.new 32, 3) := by decide +kernel
theorem dX8_init_49 : decode cX8_init 49 = .ok (.dup, 1) := by decide +kernel
theorem dX8_init_50 : decode cX8_init 50 = .ok (.aload_n 0, 1) := by decide +kernel
theorem dX8_init_51 : decode cX8_init 51 = .ok (.getfield 19, 3) := by decide +kernel
theorem dX8_init_54 : decode cX8_init 54 = .ok (.invokespecial 34, 3) := by decide +kernel
theorem dX8_init_57 : decode cX8_init 57 = .ok (.putfield 37, 3) := by decide +kernel
theorem dX8_init_60 : decode cX8_init 60 = .ok (.aload_n 0, 1) := by decide +kernel
theorem dX8_init_61 : decode cX8_init 61 = .ok (.new 41, 3) := by decide +kernel
theorem dX8_init_64 : decode cX8_init 64 = .ok (.dup, 1) := by decide +kernel
theorem dX8_init_65 : decode cX8_init 65 = .ok (.aload_n 0, 1) := by decide +kernel
theorem dX8_init_66 : decode cX8_init 66 = .ok (.getfield 10, 3) := by decide +kernel
theorem dX8_init_69 : decode cX8_init 69 = .ok (.invokespecial 43, 3) := by decide +kernel
theorem dX8_init_72 : decode cX8_init 72 = .ok (.putfield 46, 3) := by decide +kernel
theorem dX8_init_75 : decode cX8_init 75 = .ok (.aload_n 0, 1) := by decide +kernel
theorem dX8_init_76 : decode cX8_init 76 = .ok (.new 50, 3) := by decide +kernel
theorem dX8_init_79 : decode cX8_init 79 = .ok (.dup, 1) := by decide +kernel
theorem dX8_init_80 : decode cX8_init 80 = .ok (.aload_n 0, 1) := by decide +kernel
theorem dX8_init_81 : decode cX8_init 81 = .ok (.getfield 46, 3) := by decide +kernel
theorem dX8_init_84 : decode cX8_init 84 = .ok (.aload_n 0, 1) := by decide +kernel
theorem dX8_init_85 : decode cX8_init 85 = .ok (.getfield 37, 3) := by decide +kernel
theorem dX8_init_88 : decode cX8_init 88 = .ok (.invokespecial 52, 3) := by decide +kernel
theorem dX8_init_91 : decode cX8_init 91 = .ok (.putfield 55, 3) := by decide +kernel
theorem dX8_init_94 : decode cX8_init 94 = .ok (.return_, 1) := by decide +kernel
theorem dX8_code_0 : decode cX8_code 0 = .ok (.aload_n 0, 1) := by decide +kernel
theorem dX8_code_1 : decode cX8_code 1 = .ok (.getfield 10, 3) := by decide +kernel
theorem dX8_code_4 : decode cX8_code 4 = .ok (.lload_n 1, 1) := by decide +kernel
theorem dX8_code_5 : decode cX8_code 5 = .ok (.iload_n 3, 1) := by decide +kernel
theorem dX8_code_6 : decode cX8_code 6 = .ok (.invokevirtual 59, 3) := by decide +kernel
theorem dX8_code_9 : decode cX8_code 9 = .ok (.istore 4, 2) := by decide +kernel
theorem dX8_code_11 : decode cX8_code 11 = .ok (.iload 4, 2) := by decide +kernel
theorem dX8_code_13 : decode cX8_code 13 = .ok (.iconst (-1), 1) := by decide +kernel
theorem dX8_code_14 : decode cX8_code 14 = .ok (.if_icmp .eq 10, 3) := by decide +kernel
theorem dX8_code_17 : decode cX8_code 17 = .ok (.aload_n 0, 1) := by decide +kernel
theorem dX8_code_18 : decode cX8_code 18 = .ok (.getfield 46, 3) := by decide +kernel
theorem dX8_code_21 : decode cX8_code 21 = .ok (.invokevirtual 63, 3) := by decide +kernel
theorem dX8_code_24 : decode cX8_code 24 = .ok (.iload 4, 2) := by decide +kernel
theorem dX8_code_26 : decode cX8_code 26 = .ok (.ireturn, 1) := by decide +kernel
theorem dX8_function_0 : decode cX8_function 0 = .ok (.aload_n 0, 1) := by decide +kernel
theorem dX8_function_1 : decode cX8_function 1 = .ok (.getfield 10, 3) := by decide +kernel
theorem dX8_function_4 : decode cX8_function 4 = .ok (.iload_n 1, 1) := by decide +kernel
theorem dX8_function_5 : decode cX8_function 5 = .ok (.iload_n 2, 1) := by decide +kernel
theorem dX8_function_6 : decode cX8_function 6 = .ok (.invokevirtual 66, 3) := by decide +kernel
theorem dX8_function_9 : decode cX8_function 9 = .ok (.istore_n 3, 1) := by decide +kernel
theorem dX8_function_10 : decode cX8_function 10 = .ok (.iload_n 3, 1) := by decide +kernel
theorem dX8_function_11 : decode cX8_function 11 = .ok (.iconst (-1), 1) := by decide +kernel
theorem dX8_function_12 : decode cX8_function 12 = .ok (.if_icmp .eq 10, 3) := by decide +kernel
theorem dX8_function_15 : decode cX8_function 15 = .ok (.aload_n 0, 1) := by decide +kernel
theorem dX8_function_16 : decode cX8_function 16 = .ok (.getfield 46, 3) := by decide +kernel
theorem dX8_function_19 : decode cX8_function 19 = .ok (.invokevirtual 63, 3) := by decide +kernel
theorem dX8_function_22 : decode cX8_function 22 = .ok (.iload_n 3, 1) := by decide +kernel
theorem dX8_function_23 : decode cX8_function 23 = .ok (.ireturn, 1) := by decide +kernel
theorem dX8_clear_0 : decode cX8_clear 0 = .ok (.aload_n 0, 1) := by decide +kernel
theorem dX8_clear_1 : decode cX8_clear 1 = .ok (.getfield 46, 3) := by decide +kernel
theorem dX8_clear_4 : decode cX8_clear 4 = .ok (.invokevirtual 63, 3) := by decide +kernel
theorem dX8_clear_7 : decode cX8_clear 7 = .ok (.aload_n 0, 1) := by decide +kernel
theorem dX8_clear_8 : decode cX8_clear 8 = .ok (.getfield 10, 3) := by decide +kernel
theorem dX8_clear_11 : decode cX8_clear 11 = .ok (.invokevirtual 70, 3) := by decide +kernel
theorem dX8_clear_14 : decode cX8_clear 14 = .ok (.ireturn, 1) := by decide +kernel
theorem dX8_pack_0 : decode cX8_pack 0 = .ok (.aload_n 0, 1) := by decide +kernel
theorem dX8_pack_1 : decode cX8_pack 1 = .ok (.getfield 28, 3) := by decide +kernel
theorem dX8_pack_4 : decode cX8_pack 4 = .ok (.invokevirtual 74, 3) := by decide +kernel
theorem dX8_pack_7 : decode cX8_pack 7 = .ok (.ireturn, 1) := by decide +kernel
theorem dX8_section_0 : decode cX8_section 0 = .ok (.aload_n 0, 1) := by decide +kernel
theorem dX8_section_1 : decode cX8_section 1 = .ok (.getfield 19, 3) := by decide +kernel
theorem dX8_section_4 : decode cX8_section 4 = .ok (.iload_n 1, 1) := by decide +kernel
theorem dX8_section_5 : decode cX8_section 5 = .ok (.invokevirtual 77, 3) := by decide +kernel
theorem dX8_section_8 : decode cX8_section 8 = .ok (.ireturn, 1) := by decide +kernel
theorem dX8_poke_0 : decode cX8_poke 0 = .ok (.aload_n 0, 1) := by decide +kernel
theorem dX8_poke_1 : decode cX8_poke 1 = .ok (.getfield 19, 3) := by decide +kernel
theorem dX8_poke_4 : decode cX8_poke 4 = .ok (.iload_n 1, 1) := by decide +kernel
theorem dX8_poke_5 : decode cX8_poke 5 = .ok (.iload_n 2, 1) := by decide +kernel
theorem dX8_poke_6 : decode cX8_poke 6 = .ok (.invokevirtual 81, 3) := by decide +kernel
theorem dX8_poke_9 : decode cX8_poke 9 = .ok (.ireturn, 1) := by decide +kernel
theorem dX8_row_0 : decode cX8_row 0 = .ok (.aload_n 0, 1) := by decide +kernel
theorem dX8_row_1 : decode cX8_row 1 = .ok (.getfield 37, 3) := by decide +kernel
theorem dX8_row_4 : decode cX8_row 4 = .ok (.iload_n 1, 1) := by decide +kernel
theorem dX8_row_5 : decode cX8_row 5 = .ok (.invokevirtual 85, 3) := by decide +kernel
theorem dX8_row_8 : decode cX8_row 8 = .ok (.istore_n 3, 1) := by decide +kernel
theorem dX8_row_9 : decode cX8_row 9 = .ok (.iload_n 3, 1) := by decide +kernel
theorem dX8_row_10 : decode cX8_row 10 = .ok (.bipush (-2), 2) := by decide +kernel
theorem dX8_row_12 : decode cX8_row 12 = .ok (.if_icmp .ne 11, 3) := by decide +kernel
theorem dX8_row_15 : decode cX8_row 15 = .ok (.new 88, 3) := by decide +kernel
theorem dX8_row_18 : decode cX8_row 18 = .ok (.dup, 1) := by decide +kernel
theorem dX8_row_19 : decode cX8_row 19 = .ok (.invokespecial 90, 3) := by decide +kernel
theorem dX8_row_22 : decode cX8_row 22 = .ok (.athrow, 1) := by decide +kernel
theorem dX8_row_23 : decode cX8_row 23 = .ok (.iload_n 3, 1) := by decide +kernel
theorem dX8_row_24 : decode cX8_row 24 = .ok (.ifCond .ne 17, 3) := by decide +kernel
theorem dX8_row_27 : decode cX8_row 27 = .ok (.aload_n 0, 1) := by decide +kernel
theorem dX8_row_28 : decode cX8_row 28 = .ok (.getfield 37, 3) := by decide +kernel
theorem dX8_row_31 : decode cX8_row 31 = .ok (.getfield 91, 3) := by decide +kernel
theorem dX8_row_34 : decode cX8_row 34 = .ok (.iload_n 2, 1) := by decide +kernel
theorem dX8_row_35 : decode cX8_row 35 = .ok (.invokevirtual 95, 3) := by decide +kernel
theorem dX8_row_38 : decode cX8_row 38 = .ok (.goto 4, 3) := by decide +kernel
theorem dX8_row_41 : decode cX8_row 41 = .ok (.iconst (-1), 1) := by decide +kernel
theorem dX8_row_42 : decode cX8_row 42 = .ok (.ireturn, 1) := by decide +kernel
theorem dX8_begin_0 : decode cX8_begin 0 = .ok (.aload_n 0, 1) := by decide +kernel
theorem dX8_begin_1 : decode cX8_begin 1 = .ok (.getfield 46, 3) := by decide +kernel
theorem dX8_begin_4 : decode cX8_begin 4 = .ok (.iload_n 1, 1) := by decide +kernel
theorem dX8_begin_5 : decode cX8_begin 5 = .ok (.iload_n 2, 1) := by decide +kernel
theorem dX8_begin_6 : decode cX8_begin 6 = .ok (.iload_n 3, 1) := by decide +kernel
theorem dX8_begin_7 : decode cX8_begin 7 = .ok (.iload 4, 2) := by decide +kernel
theorem dX8_begin_9 : decode cX8_begin 9 = .ok (.invokevirtual 100, 3) := by decide +kernel
theorem dX8_begin_12 : decode cX8_begin 12 = .ok (.ireturn, 1) := by decide +kernel
theorem dX8_step_0 : decode cX8_step 0 = .ok (.aload_n 0, 1) := by decide +kernel
theorem dX8_step_1 : decode cX8_step 1 = .ok (.getfield 46, 3) := by decide +kernel
theorem dX8_step_4 : decode cX8_step 4 = .ok (.invokevirtual 104, 3) := by decide +kernel
theorem dX8_step_7 : decode cX8_step 7 = .ok (.istore_n 1, 1) := by decide +kernel
theorem dX8_step_8 : decode cX8_step 8 = .ok (.iload_n 1, 1) := by decide +kernel
theorem dX8_step_9 : decode cX8_step 9 = .ok (.iconst 1, 1) := by decide +kernel
theorem dX8_step_10 : decode cX8_step 10 = .ok (.if_icmp .ne 11, 3) := by decide +kernel
theorem dX8_step_13 : decode cX8_step 13 = .ok (.new 107, 3) := by decide +kernel
theorem dX8_step_16 : decode cX8_step 16 = .ok (.dup, 1) := by decide +kernel
theorem dX8_step_17 : decode cX8_step 17 = .ok (.invokespecial 109, 3) := by decide +kernel
theorem dX8_step_20 : decode cX8_step 20 = .ok (.athrow, 1) := by decide +kernel
theorem dX8_step_21 : decode cX8_step 21 = .ok (.iload_n 1, 1) := by decide +kernel
theorem dX8_step_22 : decode cX8_step 22 = .ok (.iconst 2, 1) := by decide +kernel
theorem dX8_step_23 : decode cX8_step 23 = .ok (.if_icmp .ne 11, 3) := by decide +kernel
theorem dX8_step_26 : decode cX8_step 26 = .ok (.new 110, 3) := by decide +kernel
theorem dX8_step_29 : decode cX8_step 29 = .ok (.dup, 1) := by decide +kernel
theorem dX8_step_30 : decode cX8_step 30 = .ok (.invokespecial 112, 3) := by decide +kernel
theorem dX8_step_33 : decode cX8_step 33 = .ok (.athrow, 1) := by decide +kernel
theorem dX8_step_34 : decode cX8_step 34 = .ok (.aload_n 0, 1) := by decide +kernel
theorem dX8_step_35 : decode cX8_step 35 = .ok (.getfield 46, 3) := by decide +kernel
theorem dX8_step_38 : decode cX8_step 38 = .ok (.getfield 113, 3) := by decide +kernel
theorem dX8_step_41 : decode cX8_step 41 = .ok (.ireturn, 1) := by decide +kernel
theorem dX8_machine_0 : decode cX8_machine 0 = .ok (.aload_n 0, 1) := by decide +kernel
theorem dX8_machine_1 : decode cX8_machine 1 = .ok (.getfield 46, 3) := by decide +kernel
theorem dX8_machine_4 : decode cX8_machine 4 = .ok (.iload_n 1, 1) := by decide +kernel
theorem dX8_machine_5 : decode cX8_machine 5 = .ok (.invokevirtual 117, 3) := by decide +kernel
theorem dX8_machine_8 : decode cX8_machine 8 = .ok (.ireturn, 1) := by decide +kernel
theorem dX8_call_0 : decode cX8_call 0 = .ok (.aload_n 0, 1) := by decide +kernel
theorem dX8_call_1 : decode cX8_call 1 = .ok (.getfield 46, 3) := by decide +kernel
theorem dX8_call_4 : decode cX8_call 4 = .ok (.iload_n 1, 1) := by decide +kernel
theorem dX8_call_5 : decode cX8_call 5 = .ok (.invokevirtual 118, 3) := by decide +kernel
theorem dX8_call_8 : decode cX8_call 8 = .ok (.ireturn, 1) := by decide +kernel
theorem dX8_unwind_0 : decode cX8_unwind 0 = .ok (.aload_n 0, 1) := by decide +kernel
theorem dX8_unwind_1 : decode cX8_unwind 1 = .ok (.getfield 55, 3) := by decide +kernel
theorem dX8_unwind_4 : decode cX8_unwind 4 = .ok (.invokevirtual 121, 3) := by decide +kernel
theorem dX8_unwind_7 : decode cX8_unwind 7 = .ok (.ireturn, 1) := by decide +kernel
theorem dX8_frame_0 : decode cX8_frame 0 = .ok (.aload_n 0, 1) := by decide +kernel
theorem dX8_frame_1 : decode cX8_frame 1 = .ok (.getfield 55, 3) := by decide +kernel
theorem dX8_frame_4 : decode cX8_frame 4 = .ok (.iload_n 1, 1) := by decide +kernel
theorem dX8_frame_5 : decode cX8_frame 5 = .ok (.iload_n 2, 1) := by decide +kernel
theorem dX8_frame_6 : decode cX8_frame 6 = .ok (.invokevirtual 124, 3) := by decide +kernel
theorem dX8_frame_9 : decode cX8_frame 9 = .ok (.ireturn, 1) := by decide +kernel
theorem dX9_init_0 : decode cX9_init 0 = .ok (.aload_n 0, 1) := by decide +kernel
theorem dX9_init_1 : decode cX9_init 1 = .ok (.invokespecial 1, 3) := by decide +kernel
theorem dX9_init_4 : decode cX9_init 4 = .ok (.aload_n 0, 1) := by decide +kernel
theorem dX9_init_5 : decode cX9_init 5 = .ok (.bipush 96, 2) := by decide +kernel
theorem dX9_init_7 : decode cX9_init 7 = .ok (.newarray .int, 2) := by decide +kernel
theorem dX9_init_9 : decode cX9_init 9 = .ok (.putfield 7, 3) := by decide +kernel
theorem dX9_init_12 : decode cX9_init 12 = .ok (.aload_n 0, 1) := by decide +kernel
theorem dX9_init_13 : decode cX9_init 13 = .ok (.iconst 5, 1) := by decide +kernel
theorem dX9_init_14 : decode cX9_init 14 = .ok (.newarray .int, 2) := by decide +kernel
theorem dX9_init_16 : decode cX9_init 16 = .ok (.putfield 13, 3) := by decide +kernel
theorem dX9_init_19 : decode cX9_init 19 = .ok (.aload_n 0, 1) := by decide +kernel
theorem dX9_init_20 : decode cX9_init 20 = .ok (.iconst 5, 1) := by decide +kernel
theorem dX9_init_21 : decode cX9_init 21 = .ok (.newarray .int, 2) := by decide +kernel
theorem dX9_init_23 : decode cX9_init 23 = .ok (.putfield 16, 3) := by decide +kernel
theorem dX9_init_26 : decode cX9_init 26 = .ok (.aload_n 0, 1) := by decide +kernel
theorem dX9_init_27 : decode cX9_init 27 = .ok (.sipush 485, 3) := by decide +kernel
theorem dX9_init_30 : decode cX9_init 30 = .ok (.newarray .int, 2) := by decide +kernel
theorem dX9_init_32 : decode cX9_init 32 = .ok (.putfield 19, 3) := by decide +kernel
theorem dX9_init_35 : decode cX9_init 35 = .ok (.aload_n 0, 1) := by decide +kernel
theorem dX9_init_36 : decode cX9_init 36 = .ok (.bipush 97, 2) := by decide +kernel
theorem dX9_init_38 : decode cX9_init 38 = .ok (.newarray .boolean, 2) := by decide +kernel
theorem dX9_init_40 : decode cX9_init 40 = .ok (.putfield 22, 3) := by decide +kernel
theorem dX9_init_43 : decode cX9_init 43 = .ok (.aload_n 0, 1) := by decide +kernel
theorem dX9_init_44 : decode cX9_init 44 = .ok (.bipush 97, 2) := by decide +kernel
theorem dX9_init_46 : decode cX9_init 46 = .ok (.newarray .boolean, 2) := by decide +kernel
theorem dX9_init_48 : decode cX9_init 48 = .ok (.putfield 26, 3) := by decide +kernel
theorem dX9_init_51 : decode cX9_init 51 = .ok (.aload_n 0, 1) := by decide +kernel
theorem dX9_init_52 : decode cX9_init 52 = .ok (.iconst 5, 1) := by decide +kernel
theorem dX9_init_53 : decode cX9_init 53 = .ok (.newarray .int, 2) := by decide +kernel
theorem dX9_init_55 : decode cX9_init 55 = .ok (.putfield 29, 3) := by decide +kernel
theorem dX9_init_58 : decode cX9_init 58 = .ok (.aload_n 0, 1) := by decide +kernel
theorem dX9_init_59 : decode cX9_init 59 = .ok (.sipush 6000, 3) := by decide +kernel
theorem dX9_init_62 : decode cX9_init 62 = .ok (.newarray .int, 2) := by decide +kernel
theorem dX9_init_64 : decode cX9_init 64 = .ok (.putfield 32, 3) := by decide +kernel
theorem dX9_init_67 : decode cX9_init 67 = .ok (.aload_n 0, 1) := by decide +kernel
theorem dX9_init_68 : decode cX9_init 68 = .ok (.sipush 6000, 3) := by decide +kernel
theorem dX9_init_71 : decode cX9_init 71 = .ok (.newarray .int, 2) := by decide +kernel
theorem dX9_init_73 : decode cX9_init 73 = .ok (.putfield 35, 3) := by decide +kernel
theorem dX9_init_76 : decode cX9_init 76 = .ok (.aload_n 0, 1) := by decide +kernel
theorem dX9_init_77 : decode cX9_init 77 = .ok (.iconst 5, 1) := by decide +kernel
theorem dX9_init_78 : decode cX9_init 78 = .ok (.newarray .int, 2) := by decide +kernel
theorem dX9_init_80 : decode cX9_init 80 = .ok (.putfield 38, 3) := by decide +kernel
theorem dX9_init_83 : decode cX9_init 83 = .ok (.aload_n 0, 1) := by decide +kernel
theorem dX9_init_84 : decode cX9_init 84 = .ok (.iconst 5, 1) := by decide +kernel
theorem dX9_init_85 : decode cX9_init 85 = .ok (.newarray .int, 2) := by decide +kernel
theorem dX9_init_87 : decode cX9_init 87 = .ok (.putfield 41, 3) := by decide +kernel
theorem dX9_init_90 : decode cX9_init 90 = .ok (.aload_n 0, 1) := by decide +kernel
theorem dX9_init_91 : decode cX9_init 91 = .ok (.bipush 20, 2) := by decide +kernel
theorem dX9_init_93 : decode cX9_init 93 = .ok (.newarray .int, 2) := by decide +kernel
theorem dX9_init_95 : decode cX9_init 95 = .ok (.putfield 44, 3) := by decide +kernel
theorem dX9_init_98 : decode cX9_init 98 = .ok (.aload_n 0, 1) := by decide +kernel
theorem dX9_init_99 : decode cX9_init 99 = .ok (.iconst 3, 1) := by decide +kernel
theorem dX9_init_100 : decode cX9_init 100 = .ok (.newarray .int, 2) := by decide +kernel
theorem dX9_init_102 : decode cX9_init 102 = .ok (.putfield 47, 3) := by decide +kernel
theorem dX9_init_105 : decode cX9_init 105 = .ok (.aload_n 0, 1) := by decide +kernel
theorem dX9_init_106 : decode cX9_init 106 = .ok (.bipush 40, 2) := by decide +kernel
theorem dX9_init_108 : decode cX9_init 108 = .ok (.newarray .int, 2) := by decide +kernel
theorem dX9_init_110 : decode cX9_init 110 = .ok (.putfield 50, 3) := by decide +kernel
theorem dX9_init_113 : decode cX9_init 113 = .ok (.aload_n 0, 1) := by decide +kernel
theorem dX9_init_114 : decode cX9_init 114 = .ok (.bipush 40, 2) := by decide +kernel
theorem dX9_init_116 : decode cX9_init 116 = .ok (.newarray .int, 2) := by decide +kernel
theorem dX9_init_118 : decode cX9_init 118 = .ok (.putfield 53, 3) := by decide +kernel
theorem dX9_init_121 : decode cX9_init 121 = .ok (.aload_n 0, 1) := by decide +kernel
theorem dX9_init_122 : decode cX9_init 122 = .ok (.bipush 100, 2) := by decide +kernel
theorem dX9_init_124 : decode cX9_init 124 = .ok (.newarray .int, 2) := by decide +kernel
theorem dX9_init_126 : decode cX9_init 126 = .ok (.putfield 56, 3) := by decide +kernel
theorem dX9_init_129 : decode cX9_init 129 = .ok (.return_, 1) := by decide +kernel
theorem dX9_thrown_0 : decode cX9_thrown 0 = .ok (.aload_n 0, 1) := by decide +kernel
theorem dX9_thrown_1 : decode cX9_thrown 1 = .ok (.getfield 59, 3) := by decide +kernel
theorem dX9_thrown_4 : decode cX9_thrown 4 = .ok (.ireturn, 1) := by decide +kernel
theorem dX9_over_0 : decode cX9_over 0 = .ok (.aload_n 0, 1) := by decide +kernel
theorem dX9_over_1 : decode cX9_over 1 = .ok (.aload_n 0, 1) := by decide +kernel
theorem dX9_over_2 : decode cX9_over 2 = .ok (.getfield 63, 3) := by decide +kernel
theorem dX9_over_5 : decode cX9_over 5 = .ok (.ifCond .eq 9, 3) := by decide +kernel
theorem dX9_over_8 : decode cX9_over 8 = .ok (.sipush 255, 3) := by decide +kernel
theorem dX9_over_11 : decode cX9_over 11 = .ok (.goto 7, 3) := by decide +kernel
theorem dX9_over_14 : decode cX9_over 14 = .ok (.aload_n 0, 1) := by decide +kernel
theorem dX9_over_15 : decode cX9_over 15 = .ok (.getfield 67, 3) := by decide +kernel
theorem dX9_over_18 : decode cX9_over 18 = .ok (.putfield 67, 3) := by decide +kernel
theorem dX9_over_21 : decode cX9_over 21 = .ok (.aload_n 0, 1) := by decide +kernel
theorem dX9_over_22 : decode cX9_over 22 = .ok (.iconst 0, 1) := by decide +kernel
theorem dX9_over_23 : decode cX9_over 23 = .ok (.putfield 63, 3) := by decide +kernel
theorem dX9_over_26 : decode cX9_over 26 = .ok (.return_, 1) := by decide +kernel
theorem dX9_code_0 : decode cX9_code 0 = .ok (.aload_n 0, 1) := by decide +kernel
theorem dX9_code_1 : decode cX9_code 1 = .ok (.iconst 0, 1) := by decide +kernel
theorem dX9_code_2 : decode cX9_code 2 = .ok (.putfield 59, 3) := by decide +kernel
theorem dX9_code_5 : decode cX9_code 5 = .ok (.iload_n 3, 1) := by decide +kernel
theorem dX9_code_6 : decode cX9_code 6 = .ok (.iconst 1, 1) := by decide +kernel
theorem dX9_code_7 : decode cX9_code 7 = .ok (.if_icmp .lt 20, 3) := by decide +kernel
theorem dX9_code_10 : decode cX9_code 10 = .ok (.iload_n 3, 1) := by decide +kernel
theorem dX9_code_11 : decode cX9_code 11 = .ok (.bipush 8, 2) := by decide +kernel
theorem dX9_code_13 : decode cX9_code 13 = .ok (.if_icmp .gt 14, 3) := by decide +kernel
theorem dX9_code_16 : decode cX9_code 16 = .ok (.aload_n 0, 1) := by decide +kernel
theorem dX9_code_17 : decode cX9_code 17 = .ok (.getfield 70, 3) := by decide +kernel
theorem dX9_code_20 : decode cX9_code 20 = .ok (.iload_n 3, 1) := by decide +kernel
theorem dX9_code_21 : decode cX9_code 21 = .ok (.iadd, 1) := by decide +kernel
theorem dX9_code_22 : decode cX9_code 22 = .ok (.bipush 96, 2) := by decide +kernel
theorem dX9_code_24 : decode cX9_code 24 = .ok (.if_icmp .le 5, 3) := by decide +kernel
theorem dX9_code_27 : decode cX9_code 27 = .ok (.iconst (-1), 1) := by decide +kernel
theorem dX9_code_28 : decode cX9_code 28 = .ok (.ireturn, 1) := by decide +kernel
theorem dX9_code_29 : decode cX9_code 29 = .ok (.aload_n 0, 1) := by decide +kernel
theorem dX9_code_30 : decode cX9_code 30 = .ok (.invokevirtual 73, 3) := by decide +kernel
theorem dX9_code_33 : decode cX9_code 33 = .ok (.iload_n 3, 1) := by decide +kernel
theorem dX9_code_34 : decode cX9_code 34 = .ok (.iconst 1, 1) := by decide +kernel
theorem dX9_code_35 : decode cX9_code 35 = .ok (.isub, 1) := by decide +kernel
theorem dX9_code_36 : decode cX9_code 36 = .ok (.istore 4, 2) := by decide +kernel
theorem dX9_code_38 : decode cX9_code 38 = .ok (.iload 4, 2) := by decide +kernel
theorem dX9_code_40 : decode cX9_code 40 = .ok (.ifCond .lt 40, 3) := by decide +kernel
theorem dX9_code_43 : decode cX9_code 43 = .ok (.aload_n 0, 1) := by decide +kernel
theorem dX9_code_44 : decode cX9_code 44 = .ok (.getfield 7, 3) := by decide +kernel
theorem dX9_code_47 : decode cX9_code 47 = .ok (.aload_n 0, 1) := by decide +kernel
theorem dX9_code_48 : decode cX9_code 48 = .ok (.getfield 70, 3) := by decide +kernel
theorem dX9_code_51 : decode cX9_code 51 = .ok (.lload_n 1, 1) := by decide +kernel
theorem dX9_code_52 : decode cX9_code 52 = .ok (.bipush 8, 2) := by decide +kernel
theorem dX9_code_54 : decode cX9_code 54 = .ok (.iload 4, 2) := by decide +kernel
theorem dX9_code_56 : decode cX9_code 56 = .ok (.imul, 1) := by decide +kernel
theorem dX9_code_57 : decode cX9_code 57 = .ok (.lshr, 1) := by decide +kernel
theorem dX9_code_58 : decode cX9_code 58 = .ok (.l2i, 1) := by decide +kernel
theorem dX9_code_59 : decode cX9_code 59 = .ok (.sipush 255, 3) := by decide +kernel
theorem dX9_code_62 : decode cX9_code 62 = .ok (.iand, 1) := by decide +kernel
theorem dX9_code_63 : decode cX9_code 63 = .ok (.iastore, 1) := by decide +kernel
theorem dX9_code_64 : decode cX9_code 64 = .ok (.aload_n 0, 1) := by decide +kernel
theorem dX9_code_65 : decode cX9_code 65 = .ok (.dup, 1) := by decide +kernel
theorem dX9_code_66 : decode cX9_code 66 = .ok (.getfield 70, 3) := by decide +kernel
theorem dX9_code_69 : decode cX9_code 69 = .ok (.iconst 1, 1) := by decide +kernel
theorem dX9_code_70 : decode cX9_code 70 = .ok (.iadd, 1) := by decide +kernel
theorem dX9_code_71 : decode cX9_code 71 = .ok (.putfield 70, 3) := by decide +kernel
theorem dX9_code_74 : decode cX9_code 74 = .ok (.iinc 4 (-1), 3) := by decide +kernel
theorem dX9_code_77 : decode cX9_code 77 = .ok (.goto (-39), 3) := by decide +kernel
theorem dX9_code_80 : decode cX9_code 80 = .ok (.aload_n 0, 1) := by decide +kernel
theorem dX9_code_81 : decode cX9_code 81 = .ok (.getfield 70, 3) := by decide +kernel
theorem dX9_code_84 : decode cX9_code 84 = .ok (.ireturn, 1) := by decide +kernel
theorem dX9_function_0 : decode cX9_function 0 = .ok (.aload_n 0, 1) := by decide +kernel
theorem dX9_function_1 : decode cX9_function 1 = .ok (.iconst 0, 1) := by decide +kernel
theorem dX9_function_2 : decode cX9_function 2 = .ok (.putfield 59, 3) := by decide +kernel
theorem dX9_function_5 : decode cX9_function 5 = .ok (.aload_n 0, 1) := by decide +kernel
theorem dX9_function_6 : decode cX9_function 6 = .ok (.getfield 76, 3) := by decide +kernel
theorem dX9_function_9 : decode cX9_function 9 = .ok (.iconst 5, 1) := by decide +kernel
theorem dX9_function_10 : decode cX9_function 10 = .ok (.if_icmp .eq 20, 3) := by decide +kernel
theorem dX9_function_13 : decode cX9_function 13 = .ok (.iload_n 1, 1) := by decide +kernel
theorem dX9_function_14 : decode cX9_function 14 = .ok (.ifCond .lt 16, 3) := by decide +kernel
theorem dX9_function_17 : decode cX9_function 17 = .ok (.iload_n 2, 1) := by decide +kernel
theorem dX9_function_18 : decode cX9_function 18 = .ok (.aload_n 0, 1) := by decide +kernel
theorem dX9_function_19 : decode cX9_function 19 = .ok (.getfield 70, 3) := by decide +kernel
theorem dX9_function_22 : decode cX9_function 22 = .ok (.if_icmp .gt 8, 3) := by decide +kernel
theorem dX9_function_25 : decode cX9_function 25 = .ok (.iload_n 1, 1) := by decide +kernel
theorem dX9_function_26 : decode cX9_function 26 = .ok (.iload_n 2, 1) := by decide +kernel
theorem dX9_function_27 : decode cX9_function 27 = .ok (.if_icmp .lt 5, 3) := by decide +kernel
theorem dX9_function_30 : decode cX9_function 30 = .ok (.iconst (-1), 1) := by decide +kernel
theorem dX9_function_31 : decode cX9_function 31 = .ok (.ireturn, 1) := by decide +kernel
theorem dX9_function_32 : decode cX9_function 32 = .ok (.iconst 0, 1) := by decide +kernel
theorem dX9_function_33 : decode cX9_function 33 = .ok (.istore_n 3, 1) := by decide +kernel
theorem dX9_function_34 : decode cX9_function 34 = .ok (.iload_n 3, 1) := by decide +kernel
theorem dX9_function_35 : decode cX9_function 35 = .ok (.aload_n 0, 1) := by decide +kernel
theorem dX9_function_36 : decode cX9_function 36 = .ok (.getfield 76, 3) := by decide +kernel
theorem dX9_function_39 : decode cX9_function 39 = .ok (.if_icmp .ge 31, 3) := by decide +kernel
theorem dX9_function_42 : decode cX9_function 42 = .ok (.iload_n 1, 1) := by decide +kernel
theorem dX9_function_43 : decode cX9_function 43 = .ok (.aload_n 0, 1) := by decide +kernel
theorem dX9_function_44 : decode cX9_function 44 = .ok (.getfield 16, 3) := by decide +kernel
theorem dX9_function_47 : decode cX9_function 47 = .ok (.iload_n 3, 1) := by decide +kernel
theorem dX9_function_48 : decode cX9_function 48 = .ok (.iaload, 1) := by decide +kernel
theorem dX9_function_49 : decode cX9_function 49 = .ok (.if_icmp .ge 15, 3) := by decide +kernel
theorem dX9_function_52 : decode cX9_function 52 = .ok (.aload_n 0, 1) := by decide +kernel
theorem dX9_function_53 : decode cX9_function 53 = .ok (.getfield 13, 3) := by decide +kernel
theorem dX9_function_56 : decode cX9_function 56 = .ok (.iload_n 3, 1) := by decide +kernel
theorem dX9_function_57 : decode cX9_function 57 = .ok (.iaload, 1) := by decide +kernel
theorem dX9_function_58 : decode cX9_function 58 = .ok (.iload_n 2, 1) := by decide +kernel
theorem dX9_function_59 : decode cX9_function 59 = .ok (.if_icmp .ge 5, 3) := by decide +kernel
theorem dX9_function_62 : decode cX9_function 62 = .ok (.iconst (-1), 1) := by decide +kernel
theorem dX9_function_63 : decode cX9_function 63 = .ok (.ireturn, 1) := by decide +kernel
theorem dX9_function_64 : decode cX9_function 64 = .ok (.iinc 3 1, 3) := by decide +kernel
theorem dX9_function_67 : decode cX9_function 67 = .ok (.goto (-33), 3) := by decide +kernel
theorem dX9_function_70 : decode cX9_function 70 = .ok (.aload_n 0, 1) := by decide +kernel
theorem dX9_function_71 : decode cX9_function 71 = .ok (.invokevirtual 73, 3) := by decide +kernel
theorem dX9_function_74 : decode cX9_function 74 = .ok (.aload_n 0, 1) := by decide +kernel
theorem dX9_function_75 : decode cX9_function 75 = .ok (.getfield 76, 3) := by decide +kernel
theorem dX9_function_78 : decode cX9_function 78 = .ok (.istore_n 3, 1) := by decide +kernel
theorem dX9_function_79 : decode cX9_function 79 = .ok (.iload_n 3, 1) := by decide +kernel
theorem dX9_function_80 : decode cX9_function 80 = .ok (.ifCond .le 49, 3) := by decide +kernel
theorem dX9_function_83 : decode cX9_function 83 = .ok (.aload_n 0, 1) := by decide +kernel
theorem dX9_function_84 : decode cX9_function 84 = .ok (.getfield 13, 3) := by decide +kernel
theorem dX9_function_87 : decode cX9_function 87 = .ok (.iload_n 3, 1) := by decide +kernel
theorem dX9_function_88 : decode cX9_function 88 = .ok (.iconst 1, 1) := by decide +kernel
theorem dX9_function_89 : decode cX9_function 89 = .ok (.isub, 1) := by decide +kernel
theorem dX9_function_90 : decode cX9_function 90 = .ok (.iaload, 1) := by decide +kernel
theorem dX9_function_91 : decode cX9_function 91 = .ok (.iload_n 1, 1) := by decide +kernel
theorem dX9_function_92 : decode cX9_function 92 = .ok (.if_icmp .le 37, 3) := by decide +kernel
theorem dX9_function_95 : decode cX9_function 95 = .ok (.aload_n 0, 1) := by decide +kernel
theorem dX9_function_96 : decode cX9_function 96 = .ok (.getfield 13, 3) := by decide +kernel
theorem dX9_function_99 : decode cX9_function 99 = .ok (.iload_n 3, 1) := by decide +kernel
theorem dX9_function_100 : decode cX9_function 100 = .ok (.aload_n 0, 1) := by decide +kernel
theorem dX9_function_101 : decode cX9_function 101 = .ok (.getfield 13, 3) := by decide +kernel
theorem dX9_function_104 : decode cX9_function 104 = .ok (.iload_n 3, 1) := by decide +kernel
theorem dX9_function_105 : decode cX9_function 105 = .ok (.iconst 1, 1) := by decide +kernel
theorem dX9_function_106 : decode cX9_function 106 = .ok (.isub, 1) := by decide +kernel
theorem dX9_function_107 : decode cX9_function 107 = .ok (.iaload, 1) := by decide +kernel
theorem dX9_function_108 : decode cX9_function 108 = .ok (.iastore, 1) := by decide +kernel
theorem dX9_function_109 : decode cX9_function 109 = .ok (.aload_n 0, 1) := by decide +kernel
theorem dX9_function_110 : decode cX9_function 110 = .ok (.getfield 16, 3) := by decide +kernel
theorem dX9_function_113 : decode cX9_function 113 = .ok (.iload_n 3, 1) := by decide +kernel
theorem dX9_function_114 : decode cX9_function 114 = .ok (.aload_n 0, 1) := by decide +kernel
theorem dX9_function_115 : decode cX9_function 115 = .ok (.getfield 16, 3) := by decide +kernel
theorem dX9_function_118 : decode cX9_function 118 = .ok (.iload_n 3, 1) := by decide +kernel
theorem dX9_function_119 : decode cX9_function 119 = .ok (.iconst 1, 1) := by decide +kernel
theorem dX9_function_120 : decode cX9_function 120 = .ok (.isub, 1) := by decide +kernel
theorem dX9_function_121 : decode cX9_function 121 = .ok (.iaload, 1) := by decide +kernel
theorem dX9_function_122 : decode cX9_function 122 = .ok (.iastore, 1) := by decide +kernel
theorem dX9_function_123 : decode cX9_function 123 = .ok (.iinc 3 (-1), 3) := by decide +kernel
theorem dX9_function_126 : decode cX9_function 126 = .ok (.goto (-47), 3) := by decide +kernel
theorem dX9_function_129 : decode cX9_function 129 = .ok (.aload_n 0, 1) := by decide +kernel
theorem dX9_function_130 : decode cX9_function 130 = .ok (.getfield 13, 3) := by decide +kernel
theorem dX9_function_133 : decode cX9_function 133 = .ok (.iload_n 3, 1) := by decide +kernel
theorem dX9_function_134 : decode cX9_function 134 = .ok (.iload_n 1, 1) := by decide +kernel
theorem dX9_function_135 : decode cX9_function 135 = .ok (.iastore, 1) := by decide +kernel
theorem dX9_function_136 : decode cX9_function 136 = .ok (.aload_n 0, 1) := by decide +kernel
theorem dX9_function_137 : decode cX9_function 137 = .ok (.getfield 16, 3) := by decide +kernel
theorem dX9_function_140 : decode cX9_function 140 = .ok (.iload_n 3, 1) := by decide +kernel
theorem dX9_function_141 : decode cX9_function 141 = .ok (.iload_n 2, 1) := by decide +kernel
theorem dX9_function_142 : decode cX9_function 142 = .ok (.iastore, 1) := by decide +kernel
theorem dX9_function_143 : decode cX9_function 143 = .ok (.aload_n 0, 1) := by decide +kernel
theorem dX9_function_144 : decode cX9_function 144 = .ok (.dup, 1) := by decide +kernel
theorem dX9_function_145 : decode cX9_function 145 = .ok (.getfield 76, 3) := by decide +kernel
theorem dX9_function_148 : decode cX9_function 148 = .ok (.iconst 1, 1) := by decide +kernel
theorem dX9_function_149 : decode cX9_function 149 = .ok (.iadd, 1) := by decide +kernel
theorem dX9_function_150 : decode cX9_function 150 = .ok (.putfield 76, 3) := by decide +kernel
theorem dX9_function_153 : decode cX9_function 153 = .ok (.aload_n 0, 1) := by decide +kernel
theorem dX9_function_154 : decode cX9_function 154 = .ok (.getfield 76, 3) := by decide +kernel
theorem dX9_function_157 : decode cX9_function 157 = .ok (.ireturn, 1) := by decide +kernel
theorem dX9_clear_0 : decode cX9_clear 0 = .ok (.aload_n 0, 1) := by decide +kernel
theorem dX9_clear_1 : decode cX9_clear 1 = .ok (.iconst 0, 1) := by decide +kernel
theorem dX9_clear_2 : decode cX9_clear 2 = .ok (.putfield 59, 3) := by decide +kernel
theorem dX9_clear_5 : decode cX9_clear 5 = .ok (.aload_n 0, 1) := by decide +kernel
theorem dX9_clear_6 : decode cX9_clear 6 = .ok (.getfield 76, 3) := by decide +kernel
theorem dX9_clear_9 : decode cX9_clear 9 = .ok (.istore_n 1, 1) := by decide +kernel
theorem dX9_clear_10 : decode cX9_clear 10 = .ok (.aload_n 0, 1) := by decide +kernel
theorem dX9_clear_11 : decode cX9_clear 11 = .ok (.invokevirtual 73, 3) := by decide +kernel
theorem dX9_clear_14 : decode cX9_clear 14 = .ok (.aload_n 0, 1) := by decide +kernel
theorem dX9_clear_15 : decode cX9_clear 15 = .ok (.iconst 0, 1) := by decide +kernel
theorem dX9_clear_16 : decode cX9_clear 16 = .ok (.putfield 76, 3) := by decide +kernel
theorem dX9_clear_19 : decode cX9_clear 19 = .ok (.aload_n 0, 1) := by decide +kernel
theorem dX9_clear_20 : decode cX9_clear 20 = .ok (.iconst 0, 1) := by decide +kernel
theorem dX9_clear_21 : decode cX9_clear 21 = .ok (.putfield 70, 3) := by decide +kernel
theorem dX9_clear_24 : decode cX9_clear 24 = .ok (.iload_n 1, 1) := by decide +kernel
theorem dX9_clear_25 : decode cX9_clear 25 = .ok (.ireturn, 1) := by decide +kernel
theorem dX9_lengthOf_0 : decode cX9_lengthOf 0 = .ok (.iload_n 0, 1) := by decide +kernel
theorem dX9_lengthOf_1 : decode cX9_lengthOf 1 = .ok (.tableswitch 83 0 15 #[79, 83, 83, 83, 83, 79, 79, 83, 79, 83, 83, 81, 83, 79, 81, 81], 79) := by decide +kernel
theorem dX9_lengthOf_80 : decode cX9_lengthOf 80 = .ok (.iconst 1, 1) := by decide +kernel
theorem dX9_lengthOf_81 : decode cX9_lengthOf 81 = .ok (.ireturn, 1) := by decide +kernel
theorem dX9_lengthOf_82 : decode cX9_lengthOf 82 = .ok (.iconst 3, 1) := by decide +kernel
theorem dX9_lengthOf_83 : decode cX9_lengthOf 83 = .ok (.ireturn, 1) := by decide +kernel
theorem dX9_lengthOf_84 : decode cX9_lengthOf 84 = .ok (.iload_n 0, 1) := by decide +kernel
theorem dX9_lengthOf_85 : decode cX9_lengthOf 85 = .ok (.bipush 16, 2) := by decide +kernel
theorem dX9_lengthOf_87 : decode cX9_lengthOf 87 = .ok (.if_icmp .ge 7, 3) := by decide +kernel
theorem dX9_lengthOf_90 : decode cX9_lengthOf 90 = .ok (.iconst 2, 1) := by decide +kernel
theorem dX9_lengthOf_91 : decode cX9_lengthOf 91 = .ok (.goto 4, 3) := by decide +kernel
theorem dX9_lengthOf_94 : decode cX9_lengthOf 94 = .ok (.iconst 0, 1) := by decide +kernel
theorem dX9_lengthOf_95 : decode cX9_lengthOf 95 = .ok (.ireturn, 1) := by decide +kernel
theorem dX9_hasRegister_0 : decode cX9_hasRegister 0 = .ok (.iload_n 0, 1) := by decide +kernel
theorem dX9_hasRegister_1 : decode cX9_hasRegister 1 = .ok (.iconst 1, 1) := by decide +kernel
theorem dX9_hasRegister_2 : decode cX9_hasRegister 2 = .ok (.if_icmp .eq 26, 3) := by decide +kernel
theorem dX9_hasRegister_5 : decode cX9_hasRegister 5 = .ok (.iload_n 0, 1) := by decide +kernel
theorem dX9_hasRegister_6 : decode cX9_hasRegister 6 = .ok (.iconst 2, 1) := by decide +kernel
theorem dX9_hasRegister_7 : decode cX9_hasRegister 7 = .ok (.if_icmp .eq 21, 3) := by decide +kernel
theorem dX9_hasRegister_10 : decode cX9_hasRegister 10 = .ok (.iload_n 0, 1) := by decide +kernel
theorem dX9_hasRegister_11 : decode cX9_hasRegister 11 = .ok (.bipush 11, 2) := by decide +kernel
theorem dX9_hasRegister_13 : decode cX9_hasRegister 13 = .ok (.if_icmp .eq 15, 3) := by decide +kernel
theorem dX9_hasRegister_16 : decode cX9_hasRegister 16 = .ok (.iload_n 0, 1) := by decide +kernel
theorem dX9_hasRegister_17 : decode cX9_hasRegister 17 = .ok (.bipush 14, 2) := by decide +kernel
theorem dX9_hasRegister_19 : decode cX9_hasRegister 19 = .ok (.if_icmp .eq 9, 3) := by decide +kernel
theorem dX9_hasRegister_22 : decode cX9_hasRegister 22 = .ok (.iload_n 0, 1) := by decide +kernel
theorem dX9_hasRegister_23 : decode cX9_hasRegister 23 = .ok (.bipush 15, 2) := by decide +kernel
theorem dX9_hasRegister_25 : decode cX9_hasRegister 25 = .ok (.if_icmp .ne 7, 3) := by decide +kernel
theorem dX9_hasRegister_28 : decode cX9_hasRegister 28 = .ok (.iconst 1, 1) := by decide +kernel
theorem dX9_hasRegister_29 : decode cX9_hasRegister 29 = .ok (.goto 4, 3) := by decide +kernel
theorem dX9_hasRegister_32 : decode cX9_hasRegister 32 = .ok (.iconst 0, 1) := by decide +kernel
theorem dX9_hasRegister_33 : decode cX9_hasRegister 33 = .ok (.ireturn, 1) := by decide +kernel
theorem dX9_isWhole_0 : decode cX9_isWhole 0 = .ok (.iload_n 1, 1) := by decide +kernel
theorem dX9_isWhole_1 : decode cX9_isWhole 1 = .ok (.ifCond .lt 8, 3) := by decide +kernel
theorem dX9_isWhole_4 : decode cX9_isWhole 4 = .ok (.iload_n 1, 1) := by decide +kernel
theorem dX9_isWhole_5 : decode cX9_isWhole 5 = .ok (.iload_n 2, 1) := by decide +kernel
theorem dX9_isWhole_6 : decode cX9_isWhole 6 = .ok (.if_icmp .lt 5, 3) := by decide +kernel
theorem dX9_isWhole_9 : decode cX9_isWhole 9 = .ok (.iconst 0, 1) := by decide +kernel
theorem dX9_isWhole_10 : decode cX9_isWhole 10 = .ok (.ireturn, 1) := by decide +kernel
theorem dX9_isWhole_11 : decode cX9_isWhole 11 = .ok (.aload_n 0, 1) := by decide +kernel
theorem dX9_isWhole_12 : decode cX9_isWhole 12 = .ok (.getfield 7, 3) := by decide +kernel
theorem dX9_isWhole_15 : decode cX9_isWhole 15 = .ok (.iload_n 1, 1) := by decide +kernel
theorem dX9_isWhole_16 : decode cX9_isWhole 16 = .ok (.iaload, 1) := by decide +kernel
theorem dX9_isWhole_17 : decode cX9_isWhole 17 = .ok (.invokestatic 79, 3) := by decide +kernel
theorem dX9_isWhole_20 : decode cX9_isWhole 20 = .ok (.istore_n 3, 1) := by decide +kernel
theorem dX9_isWhole_21 : decode cX9_isWhole 21 = .ok (.iload_n 3, 1) := by decide +kernel
theorem dX9_isWhole_22 : decode cX9_isWhole 22 = .ok (.ifCond .le 38, 3) := by decide +kernel
theorem dX9_isWhole_25 : decode cX9_isWhole 25 = .ok (.iload_n 1, 1) := by decide +kernel
theorem dX9_isWhole_26 : decode cX9_isWhole 26 = .ok (.iload_n 3, 1) := by decide +kernel
theorem dX9_isWhole_27 : decode cX9_isWhole 27 = .ok (.iadd, 1) := by decide +kernel
theorem dX9_isWhole_28 : decode cX9_isWhole 28 = .ok (.iload_n 2, 1) := by decide +kernel
theorem dX9_isWhole_29 : decode cX9_isWhole 29 = .ok (.if_icmp .gt 31, 3) := by decide +kernel
theorem dX9_isWhole_32 : decode cX9_isWhole 32 = .ok (.aload_n 0, 1) := by decide +kernel
theorem dX9_isWhole_33 : decode cX9_isWhole 33 = .ok (.getfield 7, 3) := by decide +kernel
theorem dX9_isWhole_36 : decode cX9_isWhole 36 = .ok (.iload_n 1, 1) := by decide +kernel
theorem dX9_isWhole_37 : decode cX9_isWhole 37 = .ok (.iaload, 1) := by decide +kernel
theorem dX9_isWhole_38 : decode cX9_isWhole 38 = .ok (.invokestatic 83, 3) := by decide +kernel
theorem dX9_isWhole_41 : decode cX9_isWhole 41 = .ok (.ifCond .eq 15, 3) := by decide +kernel
theorem dX9_isWhole_44 : decode cX9_isWhole 44 = .ok (.aload_n 0, 1) := by decide +kernel
theorem dX9_isWhole_45 : decode cX9_isWhole 45 = .ok (.getfield 7, 3) := by decide +kernel
theorem dX9_isWhole_48 : decode cX9_isWhole 48 = .ok (.iload_n 1, 1) := by decide +kernel
theorem dX9_isWhole_49 : decode cX9_isWhole 49 = .ok (.iconst 1, 1) := by decide +kernel
theorem dX9_isWhole_50 : decode cX9_isWhole 50 = .ok (.iadd, 1) := by decide +kernel
theorem dX9_isWhole_51 : decode cX9_isWhole 51 = .ok (.iaload, 1) := by decide +kernel
theorem dX9_isWhole_52 : decode cX9_isWhole 52 = .ok (.iconst 3, 1) := by decide +kernel
theorem dX9_isWhole_53 : decode cX9_isWhole 53 = .ok (.if_icmp .ge 7, 3) := by decide +kernel
theorem dX9_isWhole_56 : decode cX9_isWhole 56 = .ok (.iconst 1, 1) := by decide +kernel
theorem dX9_isWhole_57 : decode cX9_isWhole 57 = .ok (.goto 4, 3) := by decide +kernel
theorem dX9_isWhole_60 : decode cX9_isWhole 60 = .ok (.iconst 0, 1) := by decide +kernel
theorem dX9_isWhole_61 : decode cX9_isWhole 61 = .ok (.ireturn, 1) := by decide +kernel
theorem dX9_isFirst_0 : decode cX9_isFirst 0 = .ok (.iconst 0, 1) := by decide +kernel
theorem dX9_isFirst_1 : decode cX9_isFirst 1 = .ok (.istore_n 2, 1) := by decide +kernel
theorem dX9_isFirst_2 : decode cX9_isFirst 2 = .ok (.iconst 0, 1) := by decide +kernel
theorem dX9_isFirst_3 : decode cX9_isFirst 3 = .ok (.istore_n 3, 1) := by decide +kernel
theorem dX9_isFirst_4 : decode cX9_isFirst 4 = .ok (.iload_n 3, 1) := by decide +kernel
theorem dX9_isFirst_5 : decode cX9_isFirst 5 = .ok (.aload_n 0, 1) := by decide +kernel
theorem dX9_isFirst_6 : decode cX9_isFirst 6 = .ok (.getfield 76, 3) := by decide +kernel
theorem dX9_isFirst_9 : decode cX9_isFirst 9 = .ok (.if_icmp .ge 29, 3) := by decide +kernel
theorem dX9_isFirst_12 : decode cX9_isFirst 12 = .ok (.iload_n 2, 1) := by decide +kernel
theorem dX9_isFirst_13 : decode cX9_isFirst 13 = .ok (.ifCond .ne 13, 3) := by decide +kernel
theorem dX9_isFirst_16 : decode cX9_isFirst 16 = .ok (.aload_n 0, 1) := by decide +kernel
theorem dX9_isFirst_17 : decode cX9_isFirst 17 = .ok (.getfield 13, 3) := by decide +kernel
theorem dX9_isFirst_20 : decode cX9_isFirst 20 = .ok (.iload_n 3, 1) := by decide +kernel
theorem dX9_isFirst_21 : decode cX9_isFirst 21 = .ok (.iaload, 1) := by decide +kernel
theorem dX9_isFirst_22 : decode cX9_isFirst 22 = .ok (.iload_n 1, 1) := by decide +kernel
theorem dX9_isFirst_23 : decode cX9_isFirst 23 = .ok (.if_icmp .ne 7, 3) := by decide +kernel
theorem dX9_isFirst_26 : decode cX9_isFirst 26 = .ok (.iconst 1, 1) := by decide +kernel
theorem dX9_isFirst_27 : decode cX9_isFirst 27 = .ok (.goto 4, 3) := by decide +kernel
theorem dX9_isFirst_30 : decode cX9_isFirst 30 = .ok (.iconst 0, 1) := by decide +kernel
theorem dX9_isFirst_31 : decode cX9_isFirst 31 = .ok (.istore_n 2, 1) := by decide +kernel
theorem dX9_isFirst_32 : decode cX9_isFirst 32 = .ok (.iinc 3 1, 3) := by decide +kernel
theorem dX9_isFirst_35 : decode cX9_isFirst 35 = .ok (.goto (-31), 3) := by decide +kernel
theorem dX9_isFirst_38 : decode cX9_isFirst 38 = .ok (.iload_n 2, 1) := by decide +kernel
theorem dX9_isFirst_39 : decode cX9_isFirst 39 = .ok (.ireturn, 1) := by decide +kernel
theorem dX9_isClean_0 : decode cX9_isClean 0 = .ok (.aload_n 0, 1) := by decide +kernel
theorem dX9_isClean_1 : decode cX9_isClean 1 = .ok (.getfield 29, 3) := by decide +kernel
theorem dX9_isClean_4 : decode cX9_isClean 4 = .ok (.iconst 0, 1) := by decide +kernel
theorem dX9_isClean_5 : decode cX9_isClean 5 = .ok (.iaload, 1) := by decide +kernel
theorem dX9_isClean_6 : decode cX9_isClean 6 = .ok (.iconst 1, 1) := by decide +kernel
theorem dX9_isClean_7 : decode cX9_isClean 7 = .ok (.if_icmp .ne 34, 3) := by decide +kernel
theorem dX9_isClean_10 : decode cX9_isClean 10 = .ok (.aload_n 0, 1) := by decide +kernel
theorem dX9_isClean_11 : decode cX9_isClean 11 = .ok (.getfield 29, 3) := by decide +kernel
theorem dX9_isClean_14 : decode cX9_isClean 14 = .ok (.iconst 2, 1) := by decide +kernel
theorem dX9_isClean_15 : decode cX9_isClean 15 = .ok (.iaload, 1) := by decide +kernel
theorem dX9_isClean_16 : decode cX9_isClean 16 = .ok (.ifCond .ne 25, 3) := by decide +kernel
theorem dX9_isClean_19 : decode cX9_isClean 19 = .ok (.aload_n 0, 1) := by decide +kernel
theorem dX9_isClean_20 : decode cX9_isClean 20 = .ok (.getfield 29, 3) := by decide +kernel
theorem dX9_isClean_23 : decode cX9_isClean 23 = .ok (.iconst 3, 1) := by decide +kernel
theorem dX9_isClean_24 : decode cX9_isClean 24 = .ok (.iaload, 1) := by decide +kernel
theorem dX9_isClean_25 : decode cX9_isClean 25 = .ok (.ifCond .ne 16, 3) := by decide +kernel
theorem dX9_isClean_28 : decode cX9_isClean 28 = .ok (.aload_n 0, 1) := by decide +kernel
theorem dX9_isClean_29 : decode cX9_isClean 29 = .ok (.getfield 29, 3) := by decide +kernel
theorem dX9_isClean_32 : decode cX9_isClean 32 = .ok (.iconst 4, 1) := by decide +kernel
theorem dX9_isClean_33 : decode cX9_isClean 33 = .ok (.iaload, 1) := by decide +kernel
theorem dX9_isClean_34 : decode cX9_isClean 34 = .ok (.ifCond .ne 7, 3) := by decide +kernel
theorem dX9_isClean_37 : decode cX9_isClean 37 = .ok (.iconst 1, 1) := by decide +kernel
theorem dX9_isClean_38 : decode cX9_isClean 38 = .ok (.goto 4, 3) := by decide +kernel
theorem dX9_isClean_41 : decode cX9_isClean 41 = .ok (.iconst 0, 1) := by decide +kernel
theorem dX9_isClean_42 : decode cX9_isClean 42 = .ok (.ireturn, 1) := by decide +kernel
theorem dX9_spoil_0 : decode cX9_spoil 0 = .ok (.aload_n 0, 1) := by decide +kernel
theorem dX9_spoil_1 : decode cX9_spoil 1 = .ok (.getfield 29, 3) := by decide +kernel
theorem dX9_spoil_4 : decode cX9_spoil 4 = .ok (.iconst 2, 1) := by decide +kernel
theorem dX9_spoil_5 : decode cX9_spoil 5 = .ok (.iload_n 1, 1) := by decide +kernel
theorem dX9_spoil_6 : decode cX9_spoil 6 = .ok (.iadd, 1) := by decide +kernel
theorem dX9_spoil_7 : decode cX9_spoil 7 = .ok (.iaload, 1) := by decide +kernel
theorem dX9_spoil_8 : decode cX9_spoil 8 = .ok (.ifCond .ne 5, 3) := by decide +kernel
theorem dX9_spoil_11 : decode cX9_spoil 11 = .ok (.iconst 4, 1) := by decide +kernel
theorem dX9_spoil_12 : decode cX9_spoil 12 = .ok (.ireturn, 1) := by decide +kernel
theorem dX9_spoil_13 : decode cX9_spoil 13 = .ok (.aload_n 0, 1) := by decide +kernel
theorem dX9_spoil_14 : decode cX9_spoil 14 = .ok (.getfield 29, 3) := by decide +kernel
theorem dX9_spoil_17 : decode cX9_spoil 17 = .ok (.iconst 1, 1) := by decide +kernel
theorem dX9_spoil_18 : decode cX9_spoil 18 = .ok (.iload_n 1, 1) := by decide +kernel
theorem dX9_spoil_19 : decode cX9_spoil 19 = .ok (.ifCond .ne 7, 3) := by decide +kernel
theorem dX9_spoil_22 : decode cX9_spoil 22 = .ok (.iconst 0, 1) := by decide +kernel
theorem dX9_spoil_23 : decode cX9_spoil 23 = .ok (.goto 9, 3) := by decide +kernel
theorem dX9_spoil_26 : decode cX9_spoil 26 = .ok (.aload_n 0, 1) := by decide +kernel
theorem dX9_spoil_27 : decode cX9_spoil 27 = .ok (.getfield 29, 3) := by decide +kernel
theorem dX9_spoil_30 : decode cX9_spoil 30 = .ok (.iconst 1, 1) := by decide +kernel
theorem dX9_spoil_31 : decode cX9_spoil 31 = .ok (.iaload, 1) := by decide +kernel
theorem dX9_spoil_32 : decode cX9_spoil 32 = .ok (.iastore, 1) := by decide +kernel
theorem dX9_spoil_33 : decode cX9_spoil 33 = .ok (.iconst 0, 1) := by decide +kernel
theorem dX9_spoil_34 : decode cX9_spoil 34 = .ok (.ireturn, 1) := by decide +kernel
theorem dX9_give_0 : decode cX9_give 0 = .ok (.aload_n 0, 1) := by decide +kernel
theorem dX9_give_1 : decode cX9_give 1 = .ok (.getfield 29, 3) := by decide +kernel
theorem dX9_give_4 : decode cX9_give 4 = .ok (.iconst 2, 1) := by decide +kernel
theorem dX9_give_5 : decode cX9_give 5 = .ok (.iload_n 1, 1) := by decide +kernel
theorem dX9_give_6 : decode cX9_give 6 = .ok (.iadd, 1) := by decide +kernel
theorem dX9_give_7 : decode cX9_give 7 = .ok (.iaload, 1) := by decide +kernel
theorem dX9_give_8 : decode cX9_give 8 = .ok (.iload_n 2, 1) := by decide +kernel
theorem dX9_give_9 : decode cX9_give 9 = .ok (.if_icmp .eq 9, 3) := by decide +kernel
theorem dX9_give_12 : decode cX9_give 12 = .ok (.aload_n 0, 1) := by decide +kernel
theorem dX9_give_13 : decode cX9_give 13 = .ok (.iload_n 1, 1) := by decide +kernel
theorem dX9_give_14 : decode cX9_give 14 = .ok (.invokevirtual 87, 3) := by decide +kernel
theorem dX9_give_17 : decode cX9_give 17 = .ok (.ireturn, 1) := by decide +kernel
theorem dX9_give_18 : decode cX9_give 18 = .ok (.aload_n 0, 1) := by decide +kernel
theorem dX9_give_19 : decode cX9_give 19 = .ok (.getfield 29, 3) := by decide +kernel
theorem dX9_give_22 : decode cX9_give 22 = .ok (.iconst 2, 1) := by decide +kernel
theorem dX9_give_23 : decode cX9_give 23 = .ok (.iload_n 1, 1) := by decide +kernel
theorem dX9_give_24 : decode cX9_give 24 = .ok (.iadd, 1) := by decide +kernel
theorem dX9_give_25 : decode cX9_give 25 = .ok (.iconst 0, 1) := by decide +kernel
theorem dX9_give_26 : decode cX9_give 26 = .ok (.iastore, 1) := by decide +kernel
theorem dX9_give_27 : decode cX9_give 27 = .ok (.aload_n 0, 1) := by decide +kernel
theorem dX9_give_28 : decode cX9_give 28 = .ok (.getfield 29, 3) := by decide +kernel
theorem dX9_give_31 : decode cX9_give 31 = .ok (.iconst 1, 1) := by decide +kernel
theorem dX9_give_32 : decode cX9_give 32 = .ok (.iload_n 1, 1) := by decide +kernel
theorem dX9_give_33 : decode cX9_give 33 = .ok (.ifCond .ne 7, 3) := by decide +kernel
theorem dX9_give_36 : decode cX9_give 36 = .ok (.iconst 0, 1) := by decide +kernel
theorem dX9_give_37 : decode cX9_give 37 = .ok (.goto 9, 3) := by decide +kernel
theorem dX9_give_40 : decode cX9_give 40 = .ok (.aload_n 0, 1) := by decide +kernel
theorem dX9_give_41 : decode cX9_give 41 = .ok (.getfield 29, 3) := by decide +kernel
theorem dX9_give_44 : decode cX9_give 44 = .ok (.iconst 1, 1) := by decide +kernel
theorem dX9_give_45 : decode cX9_give 45 = .ok (.iaload, 1) := by decide +kernel
theorem dX9_give_46 : decode cX9_give 46 = .ok (.iastore, 1) := by decide +kernel
theorem dX9_give_47 : decode cX9_give 47 = .ok (.iconst 0, 1) := by decide +kernel
theorem dX9_give_48 : decode cX9_give 48 = .ok (.ireturn, 1) := by decide +kernel
theorem dX9_lose_0 : decode cX9_lose 0 = .ok (.aload_n 0, 1) := by decide +kernel
theorem dX9_lose_1 : decode cX9_lose 1 = .ok (.getfield 29, 3) := by decide +kernel
theorem dX9_lose_4 : decode cX9_lose 4 = .ok (.iconst 0, 1) := by decide +kernel
theorem dX9_lose_5 : decode cX9_lose 5 = .ok (.dup2, 1) := by decide +kernel
theorem dX9_lose_6 : decode cX9_lose 6 = .ok (.iaload, 1) := by decide +kernel
theorem dX9_lose_7 : decode cX9_lose 7 = .ok (.iload_n 1, 1) := by decide +kernel
theorem dX9_lose_8 : decode cX9_lose 8 = .ok (.isub, 1) := by decide +kernel
theorem dX9_lose_9 : decode cX9_lose 9 = .ok (.iastore, 1) := by decide +kernel
theorem dX9_lose_10 : decode cX9_lose 10 = .ok (.aload_n 0, 1) := by decide +kernel
theorem dX9_lose_11 : decode cX9_lose 11 = .ok (.getfield 29, 3) := by decide +kernel
theorem dX9_lose_14 : decode cX9_lose 14 = .ok (.iconst 0, 1) := by decide +kernel
theorem dX9_lose_15 : decode cX9_lose 15 = .ok (.iaload, 1) := by decide +kernel
theorem dX9_lose_16 : decode cX9_lose 16 = .ok (.iconst 1, 1) := by decide +kernel
theorem dX9_lose_17 : decode cX9_lose 17 = .ok (.if_icmp .lt 48, 3) := by decide +kernel
theorem dX9_lose_20 : decode cX9_lose 20 = .ok (.aload_n 0, 1) := by decide +kernel
theorem dX9_lose_21 : decode cX9_lose 21 = .ok (.getfield 29, 3) := by decide +kernel
theorem dX9_lose_24 : decode cX9_lose 24 = .ok (.iconst 2, 1) := by decide +kernel
theorem dX9_lose_25 : decode cX9_lose 25 = .ok (.iaload, 1) := by decide +kernel
theorem dX9_lose_26 : decode cX9_lose 26 = .ok (.aload_n 0, 1) := by decide +kernel
theorem dX9_lose_27 : decode cX9_lose 27 = .ok (.getfield 29, 3) := by decide +kernel
theorem dX9_lose_30 : decode cX9_lose 30 = .ok (.iconst 0, 1) := by decide +kernel
theorem dX9_lose_31 : decode cX9_lose 31 = .ok (.iaload, 1) := by decide +kernel
theorem dX9_lose_32 : decode cX9_lose 32 = .ok (.if_icmp .gt 33, 3) := by decide +kernel
theorem dX9_lose_35 : decode cX9_lose 35 = .ok (.aload_n 0, 1) := by decide +kernel
theorem dX9_lose_36 : decode cX9_lose 36 = .ok (.getfield 29, 3) := by decide +kernel
theorem dX9_lose_39 : decode cX9_lose 39 = .ok (.iconst 3, 1) := by decide +kernel
theorem dX9_lose_40 : decode cX9_lose 40 = .ok (.iaload, 1) := by decide +kernel
theorem dX9_lose_41 : decode cX9_lose 41 = .ok (.aload_n 0, 1) := by decide +kernel
theorem dX9_lose_42 : decode cX9_lose 42 = .ok (.getfield 29, 3) := by decide +kernel
theorem dX9_lose_45 : decode cX9_lose 45 = .ok (.iconst 0, 1) := by decide +kernel
theorem dX9_lose_46 : decode cX9_lose 46 = .ok (.iaload, 1) := by decide +kernel
theorem dX9_lose_47 : decode cX9_lose 47 = .ok (.if_icmp .gt 18, 3) := by decide +kernel
theorem dX9_lose_50 : decode cX9_lose 50 = .ok (.aload_n 0, 1) := by decide +kernel
theorem dX9_lose_51 : decode cX9_lose 51 = .ok (.getfield 29, 3) := by decide +kernel
theorem dX9_lose_54 : decode cX9_lose 54 = .ok (.iconst 4, 1) := by decide +kernel
theorem dX9_lose_55 : decode cX9_lose 55 = .ok (.iaload, 1) := by decide +kernel
theorem dX9_lose_56 : decode cX9_lose 56 = .ok (.aload_n 0, 1) := by decide +kernel
theorem dX9_lose_57 : decode cX9_lose 57 = .ok (.getfield 29, 3) := by decide +kernel
theorem dX9_lose_60 : decode cX9_lose 60 = .ok (.iconst 0, 1) := by decide +kernel
theorem dX9_lose_61 : decode cX9_lose 61 = .ok (.iaload, 1) := by decide +kernel
theorem dX9_lose_62 : decode cX9_lose 62 = .ok (.if_icmp .le 7, 3) := by decide +kernel
theorem dX9_lose_65 : decode cX9_lose 65 = .ok (.iconst 5, 1) := by decide +kernel
theorem dX9_lose_66 : decode cX9_lose 66 = .ok (.goto 4, 3) := by decide +kernel
theorem dX9_lose_69 : decode cX9_lose 69 = .ok (.iconst 0, 1) := by decide +kernel
theorem dX9_lose_70 : decode cX9_lose 70 = .ok (.ireturn, 1) := by decide +kernel
theorem dX9_save_0 : decode cX9_save 0 = .ok (.aload_n 0, 1) := by decide +kernel
theorem dX9_save_1 : decode cX9_save 1 = .ok (.getfield 29, 3) := by decide +kernel
theorem dX9_save_4 : decode cX9_save 4 = .ok (.iconst 2, 1) := by decide +kernel
theorem dX9_save_5 : decode cX9_save 5 = .ok (.iload_n 1, 1) := by decide +kernel
theorem dX9_save_6 : decode cX9_save 6 = .ok (.iadd, 1) := by decide +kernel
theorem dX9_save_7 : decode cX9_save 7 = .ok (.aload_n 0, 1) := by decide +kernel
theorem dX9_save_8 : decode cX9_save 8 = .ok (.getfield 29, 3) := by decide +kernel
theorem dX9_save_11 : decode cX9_save 11 = .ok (.iconst 2, 1) := by decide +kernel
theorem dX9_save_12 : decode cX9_save 12 = .ok (.iload_n 1, 1) := by decide +kernel
theorem dX9_save_13 : decode cX9_save 13 = .ok (.iadd, 1) := by decide +kernel
theorem dX9_save_14 : decode cX9_save 14 = .ok (.iaload, 1) := by decide +kernel
theorem dX9_save_15 : decode cX9_save 15 = .ok (.ifCond .ne 7, 3) := by decide +kernel
theorem dX9_save_18 : decode cX9_save 18 = .ok (.iload_n 2, 1) := by decide +kernel
theorem dX9_save_19 : decode cX9_save 19 = .ok (.goto 11, 3) := by decide +kernel
theorem dX9_save_22 : decode cX9_save 22 = .ok (.aload_n 0, 1) := by decide +kernel
theorem dX9_save_23 : decode cX9_save 23 = .ok (.getfield 29, 3) := by decide +kernel
theorem dX9_save_26 : decode cX9_save 26 = .ok (.iconst 2, 1) := by decide +kernel
theorem dX9_save_27 : decode cX9_save 27 = .ok (.iload_n 1, 1) := by decide +kernel
theorem dX9_save_28 : decode cX9_save 28 = .ok (.iadd, 1) := by decide +kernel
theorem dX9_save_29 : decode cX9_save 29 = .ok (.iaload, 1) := by decide +kernel
theorem dX9_save_30 : decode cX9_save 30 = .ok (.iastore, 1) := by decide +kernel
theorem dX9_save_31 : decode cX9_save 31 = .ok (.return_, 1) := by decide +kernel
theorem dX9_raise_0 : decode cX9_raise 0 = .ok (.aload_n 0, 1) := by decide +kernel
theorem dX9_raise_1 : decode cX9_raise 1 = .ok (.getfield 29, 3) := by decide +kernel
theorem dX9_raise_4 : decode cX9_raise 4 = .ok (.iconst 0, 1) := by decide +kernel
theorem dX9_raise_5 : decode cX9_raise 5 = .ok (.dup2, 1) := by decide +kernel
theorem dX9_raise_6 : decode cX9_raise 6 = .ok (.iaload, 1) := by decide +kernel
theorem dX9_raise_7 : decode cX9_raise 7 = .ok (.iload_n 1, 1) := by decide +kernel
theorem dX9_raise_8 : decode cX9_raise 8 = .ok (.iadd, 1) := by decide +kernel
theorem dX9_raise_9 : decode cX9_raise 9 = .ok (.iastore, 1) := by decide +kernel
theorem dX9_raise_10 : decode cX9_raise 10 = .ok (.aload_n 0, 1) := by decide +kernel
theorem dX9_raise_11 : decode cX9_raise 11 = .ok (.getfield 29, 3) := by decide +kernel
theorem dX9_raise_14 : decode cX9_raise 14 = .ok (.iconst 0, 1) := by decide +kernel
theorem dX9_raise_15 : decode cX9_raise 15 = .ok (.iaload, 1) := by decide +kernel
theorem dX9_raise_16 : decode cX9_raise 16 = .ok (.bipush 30, 2) := by decide +kernel
theorem dX9_raise_18 : decode cX9_raise 18 = .ok (.if_icmp .le 8, 3) := by decide +kernel
theorem dX9_raise_21 : decode cX9_raise 21 = .ok (.bipush 9, 2) := by decide +kernel
theorem dX9_raise_23 : decode cX9_raise 23 = .ok (.goto 4, 3) := by decide +kernel
theorem dX9_raise_26 : decode cX9_raise 26 = .ok (.iconst 0, 1) := by decide +kernel
theorem dX9_raise_27 : decode cX9_raise 27 = .ok (.ireturn, 1) := by decide +kernel
theorem dX9_isTarget_0 : decode cX9_isTarget 0 = .ok (.iload_n 2, 1) := by decide +kernel
theorem dX9_isTarget_1 : decode cX9_isTarget 1 = .ok (.aload_n 0, 1) := by decide +kernel
theorem dX9_isTarget_2 : decode cX9_isTarget 2 = .ok (.getfield 13, 3) := by decide +kernel
theorem dX9_isTarget_5 : decode cX9_isTarget 5 = .ok (.iload_n 1, 1) := by decide +kernel
theorem dX9_isTarget_6 : decode cX9_isTarget 6 = .ok (.iaload, 1) := by decide +kernel
theorem dX9_isTarget_7 : decode cX9_isTarget 7 = .ok (.if_icmp .lt 26, 3) := by decide +kernel
theorem dX9_isTarget_10 : decode cX9_isTarget 10 = .ok (.iload_n 2, 1) := by decide +kernel
theorem dX9_isTarget_11 : decode cX9_isTarget 11 = .ok (.aload_n 0, 1) := by decide +kernel
theorem dX9_isTarget_12 : decode cX9_isTarget 12 = .ok (.getfield 16, 3) := by decide +kernel
theorem dX9_isTarget_15 : decode cX9_isTarget 15 = .ok (.iload_n 1, 1) := by decide +kernel
theorem dX9_isTarget_16 : decode cX9_isTarget 16 = .ok (.iaload, 1) := by decide +kernel
theorem dX9_isTarget_17 : decode cX9_isTarget 17 = .ok (.if_icmp .ge 16, 3) := by decide +kernel
theorem dX9_isTarget_20 : decode cX9_isTarget 20 = .ok (.aload_n 0, 1) := by decide +kernel
theorem dX9_isTarget_21 : decode cX9_isTarget 21 = .ok (.getfield 26, 3) := by decide +kernel
theorem dX9_isTarget_24 : decode cX9_isTarget 24 = .ok (.iload_n 2, 1) := by decide +kernel
theorem dX9_isTarget_25 : decode cX9_isTarget 25 = .ok (.baload, 1) := by decide +kernel
theorem dX9_isTarget_26 : decode cX9_isTarget 26 = .ok (.ifCond .eq 7, 3) := by decide +kernel
theorem dX9_isTarget_29 : decode cX9_isTarget 29 = .ok (.iconst 1, 1) := by decide +kernel
theorem dX9_isTarget_30 : decode cX9_isTarget 30 = .ok (.goto 4, 3) := by decide +kernel
theorem dX9_isTarget_33 : decode cX9_isTarget 33 = .ok (.iconst 0, 1) := by decide +kernel
theorem dX9_isTarget_34 : decode cX9_isTarget 34 = .ok (.ireturn, 1) := by decide +kernel
theorem dX9_effect_0 : decode cX9_effect 0 = .ok (.aload_n 0, 1) := by decide +kernel
theorem dX9_effect_1 : decode cX9_effect 1 = .ok (.getfield 7, 3) := by decide +kernel
theorem dX9_effect_4 : decode cX9_effect 4 = .ok (.iload_n 2, 1) := by decide +kernel
theorem dX9_effect_5 : decode cX9_effect 5 = .ok (.iaload, 1) := by decide +kernel
theorem dX9_effect_6 : decode cX9_effect 6 = .ok (.istore_n 3, 1) := by decide +kernel
theorem dX9_effect_7 : decode cX9_effect 7 = .ok (.iload_n 3, 1) := by decide +kernel
theorem dX9_effect_8 : decode cX9_effect 8 = .ok (.invokestatic 79, 3) := by decide +kernel
theorem dX9_effect_11 : decode cX9_effect 11 = .ok (.iconst 1, 1) := by decide +kernel
theorem dX9_effect_12 : decode cX9_effect 12 = .ok (.if_icmp .le 14, 3) := by decide +kernel
theorem dX9_effect_15 : decode cX9_effect 15 = .ok (.aload_n 0, 1) := by decide +kernel
theorem dX9_effect_16 : decode cX9_effect 16 = .ok (.getfield 7, 3) := by decide +kernel
theorem dX9_effect_19 : decode cX9_effect 19 = .ok (.iload_n 2, 1) := by decide +kernel
theorem dX9_effect_20 : decode cX9_effect 20 = .ok (.iconst 1, 1) := by decide +kernel
theorem dX9_effect_21 : decode cX9_effect 21 = .ok (.iadd, 1) := by decide +kernel
theorem dX9_effect_22 : decode cX9_effect 22 = .ok (.iaload, 1) := by decide +kernel
theorem dX9_effect_23 : decode cX9_effect 23 = .ok (.goto 4, 3) := by decide +kernel
theorem dX9_effect_26 : decode cX9_effect 26 = .ok (.iconst 0, 1) := by decide +kernel
theorem dX9_effect_27 : decode cX9_effect 27 = .ok (.istore 4, 2) := by decide +kernel
theorem dX9_effect_29 : decode cX9_effect 29 = .ok (.iload_n 3, 1) := by decide +kernel
theorem dX9_effect_30 : decode cX9_effect 30 = .ok (.invokestatic 79, 3) := by decide +kernel
theorem dX9_effect_33 : decode cX9_effect 33 = .ok (.iconst 2, 1) := by decide +kernel
theorem dX9_effect_34 : decode cX9_effect 34 = .ok (.if_icmp .le 14, 3) := by decide +kernel
theorem dX9_effect_37 : decode cX9_effect 37 = .ok (.aload_n 0, 1) := by decide +kernel
theorem dX9_effect_38 : decode cX9_effect 38 = .ok (.getfield 7, 3) := by decide +kernel
theorem dX9_effect_41 : decode cX9_effect 41 = .ok (.iload_n 2, 1) := by decide +kernel
theorem dX9_effect_42 : decode cX9_effect 42 = .ok (.iconst 2, 1) := by decide +kernel
theorem dX9_effect_43 : decode cX9_effect 43 = .ok (.iadd, 1) := by decide +kernel
theorem dX9_effect_44 : decode cX9_effect 44 = .ok (.iaload, 1) := by decide +kernel
theorem dX9_effect_45 : decode cX9_effect 45 = .ok (.goto 4, 3) := by decide +kernel
theorem dX9_effect_48 : decode cX9_effect 48 = .ok (.iconst 0, 1) := by decide +kernel
theorem dX9_effect_49 : decode cX9_effect 49 = .ok (.istore 5, 2) := by decide +kernel
theorem dX9_effect_51 : decode cX9_effect 51 = .ok (.aload_n 0, 1) := by decide +kernel
theorem dX9_effect_52 : decode cX9_effect 52 = .ok (.getfield 29, 3) := by decide +kernel
theorem dX9_effect_55 : decode cX9_effect 55 = .ok (.iconst 0, 1) := by decide +kernel
theorem dX9_effect_56 : decode cX9_effect 56 = .ok (.iaload, 1) := by decide +kernel
theorem dX9_effect_57 : decode cX9_effect 57 = .ok (.iload 5, 2) := by decide +kernel
theorem dX9_effect_59 : decode cX9_effect 59 = .ok (.isub, 1) := by decide +kernel
theorem dX9_effect_60 : decode cX9_effect 60 = .ok (.istore 6, 2) := by decide +kernel
theorem dX9_effect_62 : decode cX9_effect 62 = .ok (.iconst 0, 1) := by decide +kernel
theorem dX9_effect_63 : decode cX9_effect 63 = .ok (.istore 7, 2) := by decide +kernel
theorem dX9_effect_65 : decode cX9_effect 65 = .ok (.iload_n 3, 1) := by decide +kernel
theorem dX9_effect_66 : decode cX9_effect 66 = .ok (.tableswitch 416 1 15 #[74, 96, 138, 145, 152, 174, 220, 235, 249, 314, 330, 416, 416, 337, 389], 74) := by decide +kernel
theorem dX9_effect_140 : decode cX9_effect 140 = .ok (.aload_n 0, 1) := by decide +kernel
theorem dX9_effect_141 : decode cX9_effect 141 = .ok (.iconst 1, 1) := by decide +kernel
theorem dX9_effect_142 : decode cX9_effect 142 = .ok (.invokevirtual 90, 3) := by decide +kernel
theorem dX9_effect_145 : decode cX9_effect 145 = .ok (.istore 7, 2) := by decide +kernel
theorem dX9_effect_147 : decode cX9_effect 147 = .ok (.aload_n 0, 1) := by decide +kernel
theorem dX9_effect_148 : decode cX9_effect 148 = .ok (.iload 4, 2) := by decide +kernel
theorem dX9_effect_150 : decode cX9_effect 150 = .ok (.aload_n 0, 1) := by decide +kernel
theorem dX9_effect_151 : decode cX9_effect 151 = .ok (.getfield 29, 3) := by decide +kernel
theorem dX9_effect_154 : decode cX9_effect 154 = .ok (.iconst 0, 1) := by decide +kernel
theorem dX9_effect_155 : decode cX9_effect 155 = .ok (.iaload, 1) := by decide +kernel
theorem dX9_effect_156 : decode cX9_effect 156 = .ok (.invokevirtual 93, 3) := by decide +kernel
theorem dX9_effect_159 : decode cX9_effect 159 = .ok (.iload 7, 2) := by decide +kernel
theorem dX9_effect_161 : decode cX9_effect 161 = .ok (.ireturn, 1) := by decide +kernel
theorem dX9_effect_162 : decode cX9_effect 162 = .ok (.aload_n 0, 1) := by decide +kernel
theorem dX9_effect_163 : decode cX9_effect 163 = .ok (.getfield 29, 3) := by decide +kernel
theorem dX9_effect_166 : decode cX9_effect 166 = .ok (.iconst 0, 1) := by decide +kernel
theorem dX9_effect_167 : decode cX9_effect 167 = .ok (.iaload, 1) := by decide +kernel
theorem dX9_effect_168 : decode cX9_effect 168 = .ok (.iconst 1, 1) := by decide +kernel
theorem dX9_effect_169 : decode cX9_effect 169 = .ok (.if_icmp .ne 5, 3) := by decide +kernel
theorem dX9_effect_172 : decode cX9_effect 172 = .ok (.iconst 5, 1) := by decide +kernel
theorem dX9_effect_173 : decode cX9_effect 173 = .ok (.ireturn, 1) := by decide +kernel
theorem dX9_effect_174 : decode cX9_effect 174 = .ok (.aload_n 0, 1) := by decide +kernel
theorem dX9_effect_175 : decode cX9_effect 175 = .ok (.iload 4, 2) := by decide +kernel
theorem dX9_effect_177 : decode cX9_effect 177 = .ok (.aload_n 0, 1) := by decide +kernel
theorem dX9_effect_178 : decode cX9_effect 178 = .ok (.getfield 29, 3) := by decide +kernel
theorem dX9_effect_181 : decode cX9_effect 181 = .ok (.iconst 0, 1) := by decide +kernel
theorem dX9_effect_182 : decode cX9_effect 182 = .ok (.iaload, 1) := by decide +kernel
theorem dX9_effect_183 : decode cX9_effect 183 = .ok (.invokevirtual 97, 3) := by decide +kernel
theorem dX9_effect_186 : decode cX9_effect 186 = .ok (.istore 7, 2) := by decide +kernel
theorem dX9_effect_188 : decode cX9_effect 188 = .ok (.iload 7, 2) := by decide +kernel
theorem dX9_effect_190 : decode cX9_effect 190 = .ok (.ifCond .le 8, 3) := by decide +kernel
theorem dX9_effect_193 : decode cX9_effect 193 = .ok (.iload 7, 2) := by decide +kernel
theorem dX9_effect_195 : decode cX9_effect 195 = .ok (.goto 8, 3) := by decide +kernel
theorem dX9_effect_198 : decode cX9_effect 198 = .ok (.aload_n 0, 1) := by decide +kernel
theorem dX9_effect_199 : decode cX9_effect 199 = .ok (.iconst 1, 1) := by decide +kernel
theorem dX9_effect_200 : decode cX9_effect 200 = .ok (.invokevirtual 101, 3) := by decide +kernel
theorem dX9_effect_203 : decode cX9_effect 203 = .ok (.ireturn, 1) := by decide +kernel
theorem dX9_effect_204 : decode cX9_effect 204 = .ok (.aload_n 0, 1) := by decide +kernel
theorem dX9_effect_205 : decode cX9_effect 205 = .ok (.iload 4, 2) := by decide +kernel
theorem dX9_effect_207 : decode cX9_effect 207 = .ok (.invokevirtual 90, 3) := by decide +kernel
theorem dX9_effect_210 : decode cX9_effect 210 = .ok (.ireturn, 1) := by decide +kernel
theorem dX9_effect_211 : decode cX9_effect 211 = .ok (.aload_n 0, 1) := by decide +kernel
theorem dX9_effect_212 : decode cX9_effect 212 = .ok (.iload 4, 2) := by decide +kernel
theorem dX9_effect_214 : decode cX9_effect 214 = .ok (.invokevirtual 101, 3) := by decide +kernel
theorem dX9_effect_217 : decode cX9_effect 217 = .ok (.ireturn, 1) := by decide +kernel
theorem dX9_effect_218 : decode cX9_effect 218 = .ok (.aload_n 0, 1) := by decide +kernel
theorem dX9_effect_219 : decode cX9_effect 219 = .ok (.iconst 0, 1) := by decide +kernel
theorem dX9_effect_220 : decode cX9_effect 220 = .ok (.invokevirtual 87, 3) := by decide +kernel
theorem dX9_effect_223 : decode cX9_effect 223 = .ok (.istore 7, 2) := by decide +kernel
theorem dX9_effect_225 : decode cX9_effect 225 = .ok (.aload_n 0, 1) := by decide +kernel
theorem dX9_effect_226 : decode cX9_effect 226 = .ok (.getfield 29, 3) := by decide +kernel
theorem dX9_effect_229 : decode cX9_effect 229 = .ok (.iconst 1, 1) := by decide +kernel
theorem dX9_effect_230 : decode cX9_effect 230 = .ok (.aload_n 0, 1) := by decide +kernel
theorem dX9_effect_231 : decode cX9_effect 231 = .ok (.getfield 29, 3) := by decide +kernel
theorem dX9_effect_234 : decode cX9_effect 234 = .ok (.iconst 0, 1) := by decide +kernel
theorem dX9_effect_235 : decode cX9_effect 235 = .ok (.iaload, 1) := by decide +kernel
theorem dX9_effect_236 : decode cX9_effect 236 = .ok (.iastore, 1) := by decide +kernel
theorem dX9_effect_237 : decode cX9_effect 237 = .ok (.iload 7, 2) := by decide +kernel
theorem dX9_effect_239 : decode cX9_effect 239 = .ok (.ireturn, 1) := by decide +kernel
theorem dX9_effect_240 : decode cX9_effect 240 = .ok (.aload_n 0, 1) := by decide +kernel
theorem dX9_effect_241 : decode cX9_effect 241 = .ok (.getfield 29, 3) := by decide +kernel
theorem dX9_effect_244 : decode cX9_effect 244 = .ok (.iconst 1, 1) := by decide +kernel
theorem dX9_effect_245 : decode cX9_effect 245 = .ok (.iaload, 1) := by decide +kernel
theorem dX9_effect_246 : decode cX9_effect 246 = .ok (.ifCond .eq 18, 3) := by decide +kernel
theorem dX9_effect_249 : decode cX9_effect 249 = .ok (.aload_n 0, 1) := by decide +kernel
theorem dX9_effect_250 : decode cX9_effect 250 = .ok (.getfield 29, 3) := by decide +kernel
theorem dX9_effect_253 : decode cX9_effect 253 = .ok (.iconst 1, 1) := by decide +kernel
theorem dX9_effect_254 : decode cX9_effect 254 = .ok (.iaload, 1) := by decide +kernel
theorem dX9_effect_255 : decode cX9_effect 255 = .ok (.aload_n 0, 1) := by decide +kernel
theorem dX9_effect_256 : decode cX9_effect 256 = .ok (.getfield 29, 3) := by decide +kernel
theorem dX9_effect_259 : decode cX9_effect 259 = .ok (.iconst 0, 1) := by decide +kernel
theorem dX9_effect_260 : decode cX9_effect 260 = .ok (.iaload, 1) := by decide +kernel
theorem dX9_effect_261 : decode cX9_effect 261 = .ok (.if_icmp .le 7, 3) := by decide +kernel
theorem dX9_effect_264 : decode cX9_effect 264 = .ok (.iconst 5, 1) := by decide +kernel
theorem dX9_effect_265 : decode cX9_effect 265 = .ok (.goto 20, 3) := by decide +kernel
theorem dX9_effect_268 : decode cX9_effect 268 = .ok (.aload_n 0, 1) := by decide +kernel
theorem dX9_effect_269 : decode cX9_effect 269 = .ok (.aload_n 0, 1) := by decide +kernel
theorem dX9_effect_270 : decode cX9_effect 270 = .ok (.getfield 29, 3) := by decide +kernel
theorem dX9_effect_273 : decode cX9_effect 273 = .ok (.iconst 0, 1) := by decide +kernel
theorem dX9_effect_274 : decode cX9_effect 274 = .ok (.iaload, 1) := by decide +kernel
theorem dX9_effect_275 : decode cX9_effect 275 = .ok (.aload_n 0, 1) := by decide +kernel
theorem dX9_effect_276 : decode cX9_effect 276 = .ok (.getfield 29, 3) := by decide +kernel
theorem dX9_effect_279 : decode cX9_effect 279 = .ok (.iconst 1, 1) := by decide +kernel
theorem dX9_effect_280 : decode cX9_effect 280 = .ok (.iaload, 1) := by decide +kernel
theorem dX9_effect_281 : decode cX9_effect 281 = .ok (.isub, 1) := by decide +kernel
theorem dX9_effect_282 : decode cX9_effect 282 = .ok (.invokevirtual 101, 3) := by decide +kernel
theorem dX9_effect_285 : decode cX9_effect 285 = .ok (.ireturn, 1) := by decide +kernel
theorem dX9_effect_286 : decode cX9_effect 286 = .ok (.aload_n 0, 1) := by decide +kernel
theorem dX9_effect_287 : decode cX9_effect 287 = .ok (.iload 4, 2) := by decide +kernel
theorem dX9_effect_289 : decode cX9_effect 289 = .ok (.invokevirtual 104, 3) := by decide +kernel
theorem dX9_effect_292 : decode cX9_effect 292 = .ok (.ifCond .eq 7, 3) := by decide +kernel
theorem dX9_effect_295 : decode cX9_effect 295 = .ok (.iconst 0, 1) := by decide +kernel
theorem dX9_effect_296 : decode cX9_effect 296 = .ok (.goto 4, 3) := by decide +kernel
theorem dX9_effect_299 : decode cX9_effect 299 = .ok (.iconst 3, 1) := by decide +kernel
theorem dX9_effect_300 : decode cX9_effect 300 = .ok (.ireturn, 1) := by decide +kernel
theorem dX9_effect_301 : decode cX9_effect 301 = .ok (.aload_n 0, 1) := by decide +kernel
theorem dX9_effect_302 : decode cX9_effect 302 = .ok (.invokevirtual 107, 3) := by decide +kernel
theorem dX9_effect_305 : decode cX9_effect 305 = .ok (.ifCond .eq 7, 3) := by decide +kernel
theorem dX9_effect_308 : decode cX9_effect 308 = .ok (.iconst 0, 1) := by decide +kernel
theorem dX9_effect_309 : decode cX9_effect 309 = .ok (.goto 5, 3) := by decide +kernel
theorem dX9_effect_312 : decode cX9_effect 312 = .ok (.bipush 6, 2) := by decide +kernel
theorem dX9_effect_314 : decode cX9_effect 314 = .ok (.ireturn, 1) := by decide +kernel
theorem dX9_effect_315 : decode cX9_effect 315 = .ok (.iload 4, 2) := by decide +kernel
theorem dX9_effect_317 : decode cX9_effect 317 = .ok (.aload_n 0, 1) := by decide +kernel
theorem dX9_effect_318 : decode cX9_effect 318 = .ok (.getfield 13, 3) := by decide +kernel
theorem dX9_effect_321 : decode cX9_effect 321 = .ok (.iload_n 1, 1) := by decide +kernel
theorem dX9_effect_322 : decode cX9_effect 322 = .ok (.iaload, 1) := by decide +kernel
theorem dX9_effect_323 : decode cX9_effect 323 = .ok (.if_icmp .lt 30, 3) := by decide +kernel
theorem dX9_effect_326 : decode cX9_effect 326 = .ok (.iload 4, 2) := by decide +kernel
theorem dX9_effect_328 : decode cX9_effect 328 = .ok (.aload_n 0, 1) := by decide +kernel
theorem dX9_effect_329 : decode cX9_effect 329 = .ok (.getfield 16, 3) := by decide +kernel
theorem dX9_effect_332 : decode cX9_effect 332 = .ok (.iload_n 1, 1) := by decide +kernel
theorem dX9_effect_333 : decode cX9_effect 333 = .ok (.iaload, 1) := by decide +kernel
theorem dX9_effect_334 : decode cX9_effect 334 = .ok (.if_icmp .ge 19, 3) := by decide +kernel
theorem dX9_effect_337 : decode cX9_effect 337 = .ok (.aload_n 0, 1) := by decide +kernel
theorem dX9_effect_338 : decode cX9_effect 338 = .ok (.getfield 26, 3) := by decide +kernel
theorem dX9_effect_341 : decode cX9_effect 341 = .ok (.iload 4, 2) := by decide +kernel
theorem dX9_effect_343 : decode cX9_effect 343 = .ok (.baload, 1) := by decide +kernel
theorem dX9_effect_344 : decode cX9_effect 344 = .ok (.ifCond .eq 7, 3) := by decide +kernel
theorem dX9_effect_347 : decode cX9_effect 347 = .ok (.iconst 0, 1) := by decide +kernel
theorem dX9_effect_348 : decode cX9_effect 348 = .ok (.goto 4, 3) := by decide +kernel
theorem dX9_effect_351 : decode cX9_effect 351 = .ok (.iconst 3, 1) := by decide +kernel
theorem dX9_effect_352 : decode cX9_effect 352 = .ok (.ireturn, 1) := by decide +kernel
theorem dX9_effect_353 : decode cX9_effect 353 = .ok (.aload_n 0, 1) := by decide +kernel
theorem dX9_effect_354 : decode cX9_effect 354 = .ok (.iload 4, 2) := by decide +kernel
theorem dX9_effect_356 : decode cX9_effect 356 = .ok (.invokevirtual 104, 3) := by decide +kernel
end
section
theorem dX9_effect_359 : decode cX9_effect 359 = .ok (.ifCond .ne 7, 3) := by decide +kernel
theorem dX9_effect_362 : decode cX9_effect 362 = .ok (.iconst 3, 1) := by decide +kernel
theorem dX9_effect_363 : decode cX9_effect 363 = .ok (.goto 16, 3) := by decide +kernel
theorem dX9_effect_366 : decode cX9_effect 366 = .ok (.aload_n 0, 1) := by decide +kernel
theorem dX9_effect_367 : decode cX9_effect 367 = .ok (.invokevirtual 107, 3) := by decide +kernel
theorem dX9_effect_370 : decode cX9_effect 370 = .ok (.ifCond .eq 7, 3) := by decide +kernel
theorem dX9_effect_373 : decode cX9_effect 373 = .ok (.iconst 0, 1) := by decide +kernel
theorem dX9_effect_374 : decode cX9_effect 374 = .ok (.goto 5, 3) := by decide +kernel
theorem dX9_effect_377 : decode cX9_effect 377 = .ok (.bipush 6, 2) := by decide +kernel
theorem dX9_effect_379 : decode cX9_effect 379 = .ok (.ireturn, 1) := by decide +kernel
theorem dX9_effect_380 : decode cX9_effect 380 = .ok (.aload_n 0, 1) := by decide +kernel
theorem dX9_effect_381 : decode cX9_effect 381 = .ok (.iload_n 1, 1) := by decide +kernel
theorem dX9_effect_382 : decode cX9_effect 382 = .ok (.iload 4, 2) := by decide +kernel
theorem dX9_effect_384 : decode cX9_effect 384 = .ok (.invokevirtual 111, 3) := by decide +kernel
theorem dX9_effect_387 : decode cX9_effect 387 = .ok (.ifCond .eq 7, 3) := by decide +kernel
theorem dX9_effect_390 : decode cX9_effect 390 = .ok (.iconst 0, 1) := by decide +kernel
theorem dX9_effect_391 : decode cX9_effect 391 = .ok (.goto 4, 3) := by decide +kernel
theorem dX9_effect_394 : decode cX9_effect 394 = .ok (.iconst 3, 1) := by decide +kernel
theorem dX9_effect_395 : decode cX9_effect 395 = .ok (.ireturn, 1) := by decide +kernel
theorem dX9_effect_396 : decode cX9_effect 396 = .ok (.aload_n 0, 1) := by decide +kernel
theorem dX9_effect_397 : decode cX9_effect 397 = .ok (.iload 4, 2) := by decide +kernel
theorem dX9_effect_399 : decode cX9_effect 399 = .ok (.invokevirtual 87, 3) := by decide +kernel
theorem dX9_effect_402 : decode cX9_effect 402 = .ok (.ireturn, 1) := by decide +kernel
theorem dX9_effect_403 : decode cX9_effect 403 = .ok (.iload 6, 2) := by decide +kernel
theorem dX9_effect_405 : decode cX9_effect 405 = .ok (.iconst 2, 1) := by decide +kernel
theorem dX9_effect_406 : decode cX9_effect 406 = .ok (.if_icmp .lt 36, 3) := by decide +kernel
theorem dX9_effect_409 : decode cX9_effect 409 = .ok (.aload_n 0, 1) := by decide +kernel
theorem dX9_effect_410 : decode cX9_effect 410 = .ok (.getfield 29, 3) := by decide +kernel
theorem dX9_effect_413 : decode cX9_effect 413 = .ok (.iconst 2, 1) := by decide +kernel
theorem dX9_effect_414 : decode cX9_effect 414 = .ok (.iaload, 1) := by decide +kernel
theorem dX9_effect_415 : decode cX9_effect 415 = .ok (.iload 6, 2) := by decide +kernel
theorem dX9_effect_417 : decode cX9_effect 417 = .ok (.if_icmp .eq 25, 3) := by decide +kernel
theorem dX9_effect_420 : decode cX9_effect 420 = .ok (.aload_n 0, 1) := by decide +kernel
theorem dX9_effect_421 : decode cX9_effect 421 = .ok (.getfield 29, 3) := by decide +kernel
theorem dX9_effect_424 : decode cX9_effect 424 = .ok (.iconst 3, 1) := by decide +kernel
theorem dX9_effect_425 : decode cX9_effect 425 = .ok (.iaload, 1) := by decide +kernel
theorem dX9_effect_426 : decode cX9_effect 426 = .ok (.iload 6, 2) := by decide +kernel
theorem dX9_effect_428 : decode cX9_effect 428 = .ok (.if_icmp .eq 14, 3) := by decide +kernel
theorem dX9_effect_431 : decode cX9_effect 431 = .ok (.aload_n 0, 1) := by decide +kernel
theorem dX9_effect_432 : decode cX9_effect 432 = .ok (.getfield 29, 3) := by decide +kernel
theorem dX9_effect_435 : decode cX9_effect 435 = .ok (.iconst 4, 1) := by decide +kernel
theorem dX9_effect_436 : decode cX9_effect 436 = .ok (.iaload, 1) := by decide +kernel
theorem dX9_effect_437 : decode cX9_effect 437 = .ok (.iload 6, 2) := by decide +kernel
theorem dX9_effect_439 : decode cX9_effect 439 = .ok (.if_icmp .ne 6, 3) := by decide +kernel
theorem dX9_effect_442 : decode cX9_effect 442 = .ok (.bipush 8, 2) := by decide +kernel
theorem dX9_effect_444 : decode cX9_effect 444 = .ok (.ireturn, 1) := by decide +kernel
theorem dX9_effect_445 : decode cX9_effect 445 = .ok (.aload_n 0, 1) := by decide +kernel
theorem dX9_effect_446 : decode cX9_effect 446 = .ok (.iload 4, 2) := by decide +kernel
theorem dX9_effect_448 : decode cX9_effect 448 = .ok (.iload 6, 2) := by decide +kernel
theorem dX9_effect_450 : decode cX9_effect 450 = .ok (.invokevirtual 93, 3) := by decide +kernel
theorem dX9_effect_453 : decode cX9_effect 453 = .ok (.iconst 0, 1) := by decide +kernel
theorem dX9_effect_454 : decode cX9_effect 454 = .ok (.ireturn, 1) := by decide +kernel
theorem dX9_effect_455 : decode cX9_effect 455 = .ok (.iload 5, 2) := by decide +kernel
theorem dX9_effect_457 : decode cX9_effect 457 = .ok (.aload_n 0, 1) := by decide +kernel
theorem dX9_effect_458 : decode cX9_effect 458 = .ok (.getfield 29, 3) := by decide +kernel
theorem dX9_effect_461 : decode cX9_effect 461 = .ok (.iconst 0, 1) := by decide +kernel
theorem dX9_effect_462 : decode cX9_effect 462 = .ok (.iaload, 1) := by decide +kernel
theorem dX9_effect_463 : decode cX9_effect 463 = .ok (.iconst 1, 1) := by decide +kernel
theorem dX9_effect_464 : decode cX9_effect 464 = .ok (.isub, 1) := by decide +kernel
theorem dX9_effect_465 : decode cX9_effect 465 = .ok (.if_icmp .lt 8, 3) := by decide +kernel
theorem dX9_effect_468 : decode cX9_effect 468 = .ok (.bipush 8, 2) := by decide +kernel
theorem dX9_effect_470 : decode cX9_effect 470 = .ok (.goto 11, 3) := by decide +kernel
theorem dX9_effect_473 : decode cX9_effect 473 = .ok (.aload_n 0, 1) := by decide +kernel
theorem dX9_effect_474 : decode cX9_effect 474 = .ok (.iload 4, 2) := by decide +kernel
theorem dX9_effect_476 : decode cX9_effect 476 = .ok (.iload 6, 2) := by decide +kernel
theorem dX9_effect_478 : decode cX9_effect 478 = .ok (.invokevirtual 97, 3) := by decide +kernel
theorem dX9_effect_481 : decode cX9_effect 481 = .ok (.ireturn, 1) := by decide +kernel
theorem dX9_effect_482 : decode cX9_effect 482 = .ok (.iconst 0, 1) := by decide +kernel
theorem dX9_effect_483 : decode cX9_effect 483 = .ok (.ireturn, 1) := by decide +kernel
theorem dX9_learn_0 : decode cX9_learn 0 = .ok (.iconst 1, 1) := by decide +kernel
theorem dX9_learn_1 : decode cX9_learn 1 = .ok (.istore_n 2, 1) := by decide +kernel
theorem dX9_learn_2 : decode cX9_learn 2 = .ok (.iconst 0, 1) := by decide +kernel
theorem dX9_learn_3 : decode cX9_learn 3 = .ok (.istore_n 3, 1) := by decide +kernel
theorem dX9_learn_4 : decode cX9_learn 4 = .ok (.iload_n 3, 1) := by decide +kernel
theorem dX9_learn_5 : decode cX9_learn 5 = .ok (.iconst 5, 1) := by decide +kernel
theorem dX9_learn_6 : decode cX9_learn 6 = .ok (.if_icmp .ge 38, 3) := by decide +kernel
theorem dX9_learn_9 : decode cX9_learn 9 = .ok (.iload_n 2, 1) := by decide +kernel
theorem dX9_learn_10 : decode cX9_learn 10 = .ok (.ifCond .eq 26, 3) := by decide +kernel
theorem dX9_learn_13 : decode cX9_learn 13 = .ok (.aload_n 0, 1) := by decide +kernel
theorem dX9_learn_14 : decode cX9_learn 14 = .ok (.getfield 19, 3) := by decide +kernel
theorem dX9_learn_17 : decode cX9_learn 17 = .ok (.iconst 5, 1) := by decide +kernel
theorem dX9_learn_18 : decode cX9_learn 18 = .ok (.iload_n 1, 1) := by decide +kernel
theorem dX9_learn_19 : decode cX9_learn 19 = .ok (.imul, 1) := by decide +kernel
theorem dX9_learn_20 : decode cX9_learn 20 = .ok (.iload_n 3, 1) := by decide +kernel
theorem dX9_learn_21 : decode cX9_learn 21 = .ok (.iadd, 1) := by decide +kernel
theorem dX9_learn_22 : decode cX9_learn 22 = .ok (.iaload, 1) := by decide +kernel
theorem dX9_learn_23 : decode cX9_learn 23 = .ok (.aload_n 0, 1) := by decide +kernel
theorem dX9_learn_24 : decode cX9_learn 24 = .ok (.getfield 29, 3) := by decide +kernel
theorem dX9_learn_27 : decode cX9_learn 27 = .ok (.iload_n 3, 1) := by decide +kernel
theorem dX9_learn_28 : decode cX9_learn 28 = .ok (.iaload, 1) := by decide +kernel
theorem dX9_learn_29 : decode cX9_learn 29 = .ok (.if_icmp .ne 7, 3) := by decide +kernel
theorem dX9_learn_32 : decode cX9_learn 32 = .ok (.iconst 1, 1) := by decide +kernel
theorem dX9_learn_33 : decode cX9_learn 33 = .ok (.goto 4, 3) := by decide +kernel
theorem dX9_learn_36 : decode cX9_learn 36 = .ok (.iconst 0, 1) := by decide +kernel
theorem dX9_learn_37 : decode cX9_learn 37 = .ok (.istore_n 2, 1) := by decide +kernel
theorem dX9_learn_38 : decode cX9_learn 38 = .ok (.iinc 3 1, 3) := by decide +kernel
theorem dX9_learn_41 : decode cX9_learn 41 = .ok (.goto (-37), 3) := by decide +kernel
theorem dX9_learn_44 : decode cX9_learn 44 = .ok (.aload_n 0, 1) := by decide +kernel
theorem dX9_learn_45 : decode cX9_learn 45 = .ok (.getfield 19, 3) := by decide +kernel
theorem dX9_learn_48 : decode cX9_learn 48 = .ok (.iconst 5, 1) := by decide +kernel
theorem dX9_learn_49 : decode cX9_learn 49 = .ok (.iload_n 1, 1) := by decide +kernel
theorem dX9_learn_50 : decode cX9_learn 50 = .ok (.imul, 1) := by decide +kernel
theorem dX9_learn_51 : decode cX9_learn 51 = .ok (.iaload, 1) := by decide +kernel
theorem dX9_learn_52 : decode cX9_learn 52 = .ok (.ifCond .le 5, 3) := by decide +kernel
theorem dX9_learn_55 : decode cX9_learn 55 = .ok (.iload_n 2, 1) := by decide +kernel
theorem dX9_learn_56 : decode cX9_learn 56 = .ok (.ireturn, 1) := by decide +kernel
theorem dX9_learn_57 : decode cX9_learn 57 = .ok (.iconst 0, 1) := by decide +kernel
theorem dX9_learn_58 : decode cX9_learn 58 = .ok (.istore_n 3, 1) := by decide +kernel
theorem dX9_learn_59 : decode cX9_learn 59 = .ok (.iload_n 3, 1) := by decide +kernel
theorem dX9_learn_60 : decode cX9_learn 60 = .ok (.iconst 5, 1) := by decide +kernel
theorem dX9_learn_61 : decode cX9_learn 61 = .ok (.if_icmp .ge 25, 3) := by decide +kernel
theorem dX9_learn_64 : decode cX9_learn 64 = .ok (.aload_n 0, 1) := by decide +kernel
theorem dX9_learn_65 : decode cX9_learn 65 = .ok (.getfield 19, 3) := by decide +kernel
theorem dX9_learn_68 : decode cX9_learn 68 = .ok (.iconst 5, 1) := by decide +kernel
theorem dX9_learn_69 : decode cX9_learn 69 = .ok (.iload_n 1, 1) := by decide +kernel
theorem dX9_learn_70 : decode cX9_learn 70 = .ok (.imul, 1) := by decide +kernel
theorem dX9_learn_71 : decode cX9_learn 71 = .ok (.iload_n 3, 1) := by decide +kernel
theorem dX9_learn_72 : decode cX9_learn 72 = .ok (.iadd, 1) := by decide +kernel
theorem dX9_learn_73 : decode cX9_learn 73 = .ok (.aload_n 0, 1) := by decide +kernel
theorem dX9_learn_74 : decode cX9_learn 74 = .ok (.getfield 29, 3) := by decide +kernel
theorem dX9_learn_77 : decode cX9_learn 77 = .ok (.iload_n 3, 1) := by decide +kernel
theorem dX9_learn_78 : decode cX9_learn 78 = .ok (.iaload, 1) := by decide +kernel
theorem dX9_learn_79 : decode cX9_learn 79 = .ok (.iastore, 1) := by decide +kernel
theorem dX9_learn_80 : decode cX9_learn 80 = .ok (.iinc 3 1, 3) := by decide +kernel
theorem dX9_learn_83 : decode cX9_learn 83 = .ok (.goto (-24), 3) := by decide +kernel
theorem dX9_learn_86 : decode cX9_learn 86 = .ok (.iconst 1, 1) := by decide +kernel
theorem dX9_learn_87 : decode cX9_learn 87 = .ok (.ireturn, 1) := by decide +kernel
theorem dX9_findOut_0 : decode cX9_findOut 0 = .ok (.aload_n 0, 1) := by decide +kernel
theorem dX9_findOut_1 : decode cX9_findOut 1 = .ok (.getfield 13, 3) := by decide +kernel
theorem dX9_findOut_4 : decode cX9_findOut 4 = .ok (.iload_n 1, 1) := by decide +kernel
theorem dX9_findOut_5 : decode cX9_findOut 5 = .ok (.iaload, 1) := by decide +kernel
theorem dX9_findOut_6 : decode cX9_findOut 6 = .ok (.istore_n 2, 1) := by decide +kernel
theorem dX9_findOut_7 : decode cX9_findOut 7 = .ok (.aload_n 0, 1) := by decide +kernel
theorem dX9_findOut_8 : decode cX9_findOut 8 = .ok (.getfield 26, 3) := by decide +kernel
theorem dX9_findOut_11 : decode cX9_findOut 11 = .ok (.iload_n 2, 1) := by decide +kernel
theorem dX9_findOut_12 : decode cX9_findOut 12 = .ok (.iconst 1, 1) := by decide +kernel
theorem dX9_findOut_13 : decode cX9_findOut 13 = .ok (.bastore, 1) := by decide +kernel
theorem dX9_findOut_14 : decode cX9_findOut 14 = .ok (.aload_n 0, 1) := by decide +kernel
theorem dX9_findOut_15 : decode cX9_findOut 15 = .ok (.iload_n 2, 1) := by decide +kernel
theorem dX9_findOut_16 : decode cX9_findOut 16 = .ok (.aload_n 0, 1) := by decide +kernel
theorem dX9_findOut_17 : decode cX9_findOut 17 = .ok (.getfield 16, 3) := by decide +kernel
theorem dX9_findOut_20 : decode cX9_findOut 20 = .ok (.iload_n 1, 1) := by decide +kernel
theorem dX9_findOut_21 : decode cX9_findOut 21 = .ok (.iaload, 1) := by decide +kernel
theorem dX9_findOut_22 : decode cX9_findOut 22 = .ok (.invokevirtual 115, 3) := by decide +kernel
theorem dX9_findOut_25 : decode cX9_findOut 25 = .ok (.ifCond .eq 25, 3) := by decide +kernel
theorem dX9_findOut_28 : decode cX9_findOut 28 = .ok (.iload_n 2, 1) := by decide +kernel
theorem dX9_findOut_29 : decode cX9_findOut 29 = .ok (.aload_n 0, 1) := by decide +kernel
theorem dX9_findOut_30 : decode cX9_findOut 30 = .ok (.getfield 7, 3) := by decide +kernel
theorem dX9_findOut_33 : decode cX9_findOut 33 = .ok (.iload_n 2, 1) := by decide +kernel
theorem dX9_findOut_34 : decode cX9_findOut 34 = .ok (.iaload, 1) := by decide +kernel
theorem dX9_findOut_35 : decode cX9_findOut 35 = .ok (.invokestatic 79, 3) := by decide +kernel
theorem dX9_findOut_38 : decode cX9_findOut 38 = .ok (.iadd, 1) := by decide +kernel
theorem dX9_findOut_39 : decode cX9_findOut 39 = .ok (.istore_n 2, 1) := by decide +kernel
theorem dX9_findOut_40 : decode cX9_findOut 40 = .ok (.aload_n 0, 1) := by decide +kernel
theorem dX9_findOut_41 : decode cX9_findOut 41 = .ok (.getfield 26, 3) := by decide +kernel
theorem dX9_findOut_44 : decode cX9_findOut 44 = .ok (.iload_n 2, 1) := by decide +kernel
theorem dX9_findOut_45 : decode cX9_findOut 45 = .ok (.iconst 1, 1) := by decide +kernel
theorem dX9_findOut_46 : decode cX9_findOut 46 = .ok (.bastore, 1) := by decide +kernel
theorem dX9_findOut_47 : decode cX9_findOut 47 = .ok (.goto (-33), 3) := by decide +kernel
theorem dX9_findOut_50 : decode cX9_findOut 50 = .ok (.aload_n 0, 1) := by decide +kernel
theorem dX9_findOut_51 : decode cX9_findOut 51 = .ok (.getfield 29, 3) := by decide +kernel
theorem dX9_findOut_54 : decode cX9_findOut 54 = .ok (.iconst 0, 1) := by decide +kernel
theorem dX9_findOut_55 : decode cX9_findOut 55 = .ok (.iconst 1, 1) := by decide +kernel
theorem dX9_findOut_56 : decode cX9_findOut 56 = .ok (.iastore, 1) := by decide +kernel
theorem dX9_findOut_57 : decode cX9_findOut 57 = .ok (.iconst 1, 1) := by decide +kernel
theorem dX9_findOut_58 : decode cX9_findOut 58 = .ok (.istore_n 3, 1) := by decide +kernel
theorem dX9_findOut_59 : decode cX9_findOut 59 = .ok (.iload_n 3, 1) := by decide +kernel
theorem dX9_findOut_60 : decode cX9_findOut 60 = .ok (.iconst 5, 1) := by decide +kernel
theorem dX9_findOut_61 : decode cX9_findOut 61 = .ok (.if_icmp .ge 16, 3) := by decide +kernel
theorem dX9_findOut_64 : decode cX9_findOut 64 = .ok (.aload_n 0, 1) := by decide +kernel
theorem dX9_findOut_65 : decode cX9_findOut 65 = .ok (.getfield 29, 3) := by decide +kernel
theorem dX9_findOut_68 : decode cX9_findOut 68 = .ok (.iload_n 3, 1) := by decide +kernel
theorem dX9_findOut_69 : decode cX9_findOut 69 = .ok (.iconst 0, 1) := by decide +kernel
theorem dX9_findOut_70 : decode cX9_findOut 70 = .ok (.iastore, 1) := by decide +kernel
theorem dX9_findOut_71 : decode cX9_findOut 71 = .ok (.iinc 3 1, 3) := by decide +kernel
theorem dX9_findOut_74 : decode cX9_findOut 74 = .ok (.goto (-15), 3) := by decide +kernel
theorem dX9_findOut_77 : decode cX9_findOut 77 = .ok (.aload_n 0, 1) := by decide +kernel
theorem dX9_findOut_78 : decode cX9_findOut 78 = .ok (.aload_n 0, 1) := by decide +kernel
theorem dX9_findOut_79 : decode cX9_findOut 79 = .ok (.getfield 13, 3) := by decide +kernel
theorem dX9_findOut_82 : decode cX9_findOut 82 = .ok (.iload_n 1, 1) := by decide +kernel
theorem dX9_findOut_83 : decode cX9_findOut 83 = .ok (.iaload, 1) := by decide +kernel
theorem dX9_findOut_84 : decode cX9_findOut 84 = .ok (.invokevirtual 118, 3) := by decide +kernel
theorem dX9_findOut_87 : decode cX9_findOut 87 = .ok (.istore_n 3, 1) := by decide +kernel
theorem dX9_findOut_88 : decode cX9_findOut 88 = .ok (.aload_n 0, 1) := by decide +kernel
theorem dX9_findOut_89 : decode cX9_findOut 89 = .ok (.getfield 13, 3) := by decide +kernel
theorem dX9_findOut_92 : decode cX9_findOut 92 = .ok (.iload_n 1, 1) := by decide +kernel
theorem dX9_findOut_93 : decode cX9_findOut 93 = .ok (.iaload, 1) := by decide +kernel
theorem dX9_findOut_94 : decode cX9_findOut 94 = .ok (.istore 4, 2) := by decide +kernel
theorem dX9_findOut_96 : decode cX9_findOut 96 = .ok (.iload 4, 2) := by decide +kernel
theorem dX9_findOut_98 : decode cX9_findOut 98 = .ok (.aload_n 0, 1) := by decide +kernel
theorem dX9_findOut_99 : decode cX9_findOut 99 = .ok (.getfield 16, 3) := by decide +kernel
theorem dX9_findOut_102 : decode cX9_findOut 102 = .ok (.iload_n 1, 1) := by decide +kernel
theorem dX9_findOut_103 : decode cX9_findOut 103 = .ok (.iaload, 1) := by decide +kernel
theorem dX9_findOut_104 : decode cX9_findOut 104 = .ok (.if_icmp .gt 283, 3) := by decide +kernel
theorem dX9_findOut_107 : decode cX9_findOut 107 = .ok (.aload_n 0, 1) := by decide +kernel
theorem dX9_findOut_108 : decode cX9_findOut 108 = .ok (.getfield 19, 3) := by decide +kernel
theorem dX9_findOut_111 : decode cX9_findOut 111 = .ok (.iconst 5, 1) := by decide +kernel
theorem dX9_findOut_112 : decode cX9_findOut 112 = .ok (.iload 4, 2) := by decide +kernel
theorem dX9_findOut_114 : decode cX9_findOut 114 = .ok (.imul, 1) := by decide +kernel
theorem dX9_findOut_115 : decode cX9_findOut 115 = .ok (.iaload, 1) := by decide +kernel
theorem dX9_findOut_116 : decode cX9_findOut 116 = .ok (.ifCond .eq 13, 3) := by decide +kernel
theorem dX9_findOut_119 : decode cX9_findOut 119 = .ok (.aload_n 0, 1) := by decide +kernel
theorem dX9_findOut_120 : decode cX9_findOut 120 = .ok (.getfield 22, 3) := by decide +kernel
theorem dX9_findOut_123 : decode cX9_findOut 123 = .ok (.iload 4, 2) := by decide +kernel
theorem dX9_findOut_125 : decode cX9_findOut 125 = .ok (.baload, 1) := by decide +kernel
theorem dX9_findOut_126 : decode cX9_findOut 126 = .ok (.ifCond .eq 9, 3) := by decide +kernel
theorem dX9_findOut_129 : decode cX9_findOut 129 = .ok (.iinc 4 1, 3) := by decide +kernel
theorem dX9_findOut_132 : decode cX9_findOut 132 = .ok (.goto (-36), 3) := by decide +kernel
theorem dX9_findOut_135 : decode cX9_findOut 135 = .ok (.aload_n 0, 1) := by decide +kernel
theorem dX9_findOut_136 : decode cX9_findOut 136 = .ok (.getfield 22, 3) := by decide +kernel
theorem dX9_findOut_139 : decode cX9_findOut 139 = .ok (.iload 4, 2) := by decide +kernel
theorem dX9_findOut_141 : decode cX9_findOut 141 = .ok (.iconst 1, 1) := by decide +kernel
theorem dX9_findOut_142 : decode cX9_findOut 142 = .ok (.bastore, 1) := by decide +kernel
theorem dX9_findOut_143 : decode cX9_findOut 143 = .ok (.iload 4, 2) := by decide +kernel
theorem dX9_findOut_145 : decode cX9_findOut 145 = .ok (.aload_n 0, 1) := by decide +kernel
theorem dX9_findOut_146 : decode cX9_findOut 146 = .ok (.getfield 16, 3) := by decide +kernel
theorem dX9_findOut_149 : decode cX9_findOut 149 = .ok (.iload_n 1, 1) := by decide +kernel
theorem dX9_findOut_150 : decode cX9_findOut 150 = .ok (.iaload, 1) := by decide +kernel
theorem dX9_findOut_151 : decode cX9_findOut 151 = .ok (.if_icmp .ne 10, 3) := by decide +kernel
theorem dX9_findOut_154 : decode cX9_findOut 154 = .ok (.sipush 200, 3) := by decide +kernel
theorem dX9_findOut_157 : decode cX9_findOut 157 = .ok (.iload 4, 2) := by decide +kernel
theorem dX9_findOut_159 : decode cX9_findOut 159 = .ok (.iadd, 1) := by decide +kernel
theorem dX9_findOut_160 : decode cX9_findOut 160 = .ok (.ireturn, 1) := by decide +kernel
theorem dX9_findOut_161 : decode cX9_findOut 161 = .ok (.aload_n 0, 1) := by decide +kernel
theorem dX9_findOut_162 : decode cX9_findOut 162 = .ok (.iload 4, 2) := by decide +kernel
theorem dX9_findOut_164 : decode cX9_findOut 164 = .ok (.aload_n 0, 1) := by decide +kernel
theorem dX9_findOut_165 : decode cX9_findOut 165 = .ok (.getfield 16, 3) := by decide +kernel
theorem dX9_findOut_168 : decode cX9_findOut 168 = .ok (.iload_n 1, 1) := by decide +kernel
theorem dX9_findOut_169 : decode cX9_findOut 169 = .ok (.iaload, 1) := by decide +kernel
theorem dX9_findOut_170 : decode cX9_findOut 170 = .ok (.invokevirtual 115, 3) := by decide +kernel
theorem dX9_findOut_173 : decode cX9_findOut 173 = .ok (.ifCond .ne 9, 3) := by decide +kernel
theorem dX9_findOut_176 : decode cX9_findOut 176 = .ok (.bipush 100, 2) := by decide +kernel
theorem dX9_findOut_178 : decode cX9_findOut 178 = .ok (.iload 4, 2) := by decide +kernel
theorem dX9_findOut_180 : decode cX9_findOut 180 = .ok (.iadd, 1) := by decide +kernel
theorem dX9_findOut_181 : decode cX9_findOut 181 = .ok (.ireturn, 1) := by decide +kernel
theorem dX9_findOut_182 : decode cX9_findOut 182 = .ok (.iconst 0, 1) := by decide +kernel
theorem dX9_findOut_183 : decode cX9_findOut 183 = .ok (.istore 5, 2) := by decide +kernel
theorem dX9_findOut_185 : decode cX9_findOut 185 = .ok (.iload 5, 2) := by decide +kernel
theorem dX9_findOut_187 : decode cX9_findOut 187 = .ok (.iconst 5, 1) := by decide +kernel
theorem dX9_findOut_188 : decode cX9_findOut 188 = .ok (.if_icmp .ge 28, 3) := by decide +kernel
theorem dX9_findOut_191 : decode cX9_findOut 191 = .ok (.aload_n 0, 1) := by decide +kernel
theorem dX9_findOut_192 : decode cX9_findOut 192 = .ok (.getfield 29, 3) := by decide +kernel
theorem dX9_findOut_195 : decode cX9_findOut 195 = .ok (.iload 5, 2) := by decide +kernel
theorem dX9_findOut_197 : decode cX9_findOut 197 = .ok (.aload_n 0, 1) := by decide +kernel
theorem dX9_findOut_198 : decode cX9_findOut 198 = .ok (.getfield 19, 3) := by decide +kernel
theorem dX9_findOut_201 : decode cX9_findOut 201 = .ok (.iconst 5, 1) := by decide +kernel
theorem dX9_findOut_202 : decode cX9_findOut 202 = .ok (.iload 4, 2) := by decide +kernel
theorem dX9_findOut_204 : decode cX9_findOut 204 = .ok (.imul, 1) := by decide +kernel
theorem dX9_findOut_205 : decode cX9_findOut 205 = .ok (.iload 5, 2) := by decide +kernel
theorem dX9_findOut_207 : decode cX9_findOut 207 = .ok (.iadd, 1) := by decide +kernel
theorem dX9_findOut_208 : decode cX9_findOut 208 = .ok (.iaload, 1) := by decide +kernel
theorem dX9_findOut_209 : decode cX9_findOut 209 = .ok (.iastore, 1) := by decide +kernel
theorem dX9_findOut_210 : decode cX9_findOut 210 = .ok (.iinc 5 1, 3) := by decide +kernel
theorem dX9_findOut_213 : decode cX9_findOut 213 = .ok (.goto (-28), 3) := by decide +kernel
theorem dX9_findOut_216 : decode cX9_findOut 216 = .ok (.aload_n 0, 1) := by decide +kernel
theorem dX9_findOut_217 : decode cX9_findOut 217 = .ok (.iload_n 1, 1) := by decide +kernel
theorem dX9_findOut_218 : decode cX9_findOut 218 = .ok (.iload 4, 2) := by decide +kernel
theorem dX9_findOut_220 : decode cX9_findOut 220 = .ok (.invokevirtual 121, 3) := by decide +kernel
theorem dX9_findOut_223 : decode cX9_findOut 223 = .ok (.istore 5, 2) := by decide +kernel
theorem dX9_findOut_225 : decode cX9_findOut 225 = .ok (.iload 5, 2) := by decide +kernel
theorem dX9_findOut_227 : decode cX9_findOut 227 = .ok (.ifCond .le 12, 3) := by decide +kernel
theorem dX9_findOut_230 : decode cX9_findOut 230 = .ok (.bipush 100, 2) := by decide +kernel
theorem dX9_findOut_232 : decode cX9_findOut 232 = .ok (.iload 5, 2) := by decide +kernel
theorem dX9_findOut_234 : decode cX9_findOut 234 = .ok (.imul, 1) := by decide +kernel
theorem dX9_findOut_235 : decode cX9_findOut 235 = .ok (.iload 4, 2) := by decide +kernel
theorem dX9_findOut_237 : decode cX9_findOut 237 = .ok (.iadd, 1) := by decide +kernel
theorem dX9_findOut_238 : decode cX9_findOut 238 = .ok (.ireturn, 1) := by decide +kernel
theorem dX9_findOut_239 : decode cX9_findOut 239 = .ok (.aload_n 0, 1) := by decide +kernel
theorem dX9_findOut_240 : decode cX9_findOut 240 = .ok (.getfield 7, 3) := by decide +kernel
theorem dX9_findOut_243 : decode cX9_findOut 243 = .ok (.iload 4, 2) := by decide +kernel
theorem dX9_findOut_245 : decode cX9_findOut 245 = .ok (.iaload, 1) := by decide +kernel
theorem dX9_findOut_246 : decode cX9_findOut 246 = .ok (.istore 6, 2) := by decide +kernel
theorem dX9_findOut_248 : decode cX9_findOut 248 = .ok (.iload 4, 2) := by decide +kernel
theorem dX9_findOut_250 : decode cX9_findOut 250 = .ok (.iload 6, 2) := by decide +kernel
theorem dX9_findOut_252 : decode cX9_findOut 252 = .ok (.invokestatic 79, 3) := by decide +kernel
theorem dX9_findOut_255 : decode cX9_findOut 255 = .ok (.iadd, 1) := by decide +kernel
theorem dX9_findOut_256 : decode cX9_findOut 256 = .ok (.istore 7, 2) := by decide +kernel
theorem dX9_findOut_258 : decode cX9_findOut 258 = .ok (.iload 6, 2) := by decide +kernel
theorem dX9_findOut_260 : decode cX9_findOut 260 = .ok (.invokestatic 79, 3) := by decide +kernel
theorem dX9_findOut_263 : decode cX9_findOut 263 = .ok (.iconst 1, 1) := by decide +kernel
theorem dX9_findOut_264 : decode cX9_findOut 264 = .ok (.if_icmp .le 15, 3) := by decide +kernel
theorem dX9_findOut_267 : decode cX9_findOut 267 = .ok (.aload_n 0, 1) := by decide +kernel
theorem dX9_findOut_268 : decode cX9_findOut 268 = .ok (.getfield 7, 3) := by decide +kernel
theorem dX9_findOut_271 : decode cX9_findOut 271 = .ok (.iload 4, 2) := by decide +kernel
theorem dX9_findOut_273 : decode cX9_findOut 273 = .ok (.iconst 1, 1) := by decide +kernel
theorem dX9_findOut_274 : decode cX9_findOut 274 = .ok (.iadd, 1) := by decide +kernel
theorem dX9_findOut_275 : decode cX9_findOut 275 = .ok (.iaload, 1) := by decide +kernel
theorem dX9_findOut_276 : decode cX9_findOut 276 = .ok (.goto 4, 3) := by decide +kernel
theorem dX9_findOut_279 : decode cX9_findOut 279 = .ok (.iconst 0, 1) := by decide +kernel
theorem dX9_findOut_280 : decode cX9_findOut 280 = .ok (.istore 8, 2) := by decide +kernel
theorem dX9_findOut_282 : decode cX9_findOut 282 = .ok (.iload 6, 2) := by decide +kernel
theorem dX9_findOut_284 : decode cX9_findOut 284 = .ok (.bipush 8, 2) := by decide +kernel
theorem dX9_findOut_286 : decode cX9_findOut 286 = .ok (.if_icmp .eq 26, 3) := by decide +kernel
theorem dX9_findOut_289 : decode cX9_findOut 289 = .ok (.iload 6, 2) := by decide +kernel
theorem dX9_findOut_291 : decode cX9_findOut 291 = .ok (.bipush 9, 2) := by decide +kernel
theorem dX9_findOut_293 : decode cX9_findOut 293 = .ok (.if_icmp .eq 19, 3) := by decide +kernel
theorem dX9_findOut_296 : decode cX9_findOut 296 = .ok (.aload_n 0, 1) := by decide +kernel
theorem dX9_findOut_297 : decode cX9_findOut 297 = .ok (.iload 7, 2) := by decide +kernel
theorem dX9_findOut_299 : decode cX9_findOut 299 = .ok (.invokevirtual 118, 3) := by decide +kernel
theorem dX9_findOut_302 : decode cX9_findOut 302 = .ok (.ifCond .ne 10, 3) := by decide +kernel
theorem dX9_findOut_305 : decode cX9_findOut 305 = .ok (.sipush 700, 3) := by decide +kernel
theorem dX9_findOut_308 : decode cX9_findOut 308 = .ok (.iload 7, 2) := by decide +kernel
theorem dX9_findOut_310 : decode cX9_findOut 310 = .ok (.iadd, 1) := by decide +kernel
theorem dX9_findOut_311 : decode cX9_findOut 311 = .ok (.ireturn, 1) := by decide +kernel
theorem dX9_findOut_312 : decode cX9_findOut 312 = .ok (.iload 6, 2) := by decide +kernel
theorem dX9_findOut_314 : decode cX9_findOut 314 = .ok (.bipush 10, 2) := by decide +kernel
theorem dX9_findOut_316 : decode cX9_findOut 316 = .ok (.if_icmp .eq 32, 3) := by decide +kernel
theorem dX9_findOut_319 : decode cX9_findOut 319 = .ok (.iload 6, 2) := by decide +kernel
theorem dX9_findOut_321 : decode cX9_findOut 321 = .ok (.bipush 9, 2) := by decide +kernel
theorem dX9_findOut_323 : decode cX9_findOut 323 = .ok (.if_icmp .ne 29, 3) := by decide +kernel
theorem dX9_findOut_326 : decode cX9_findOut 326 = .ok (.iload 8, 2) := by decide +kernel
theorem dX9_findOut_328 : decode cX9_findOut 328 = .ok (.aload_n 0, 1) := by decide +kernel
theorem dX9_findOut_329 : decode cX9_findOut 329 = .ok (.getfield 13, 3) := by decide +kernel
theorem dX9_findOut_332 : decode cX9_findOut 332 = .ok (.iload_n 1, 1) := by decide +kernel
theorem dX9_findOut_333 : decode cX9_findOut 333 = .ok (.iaload, 1) := by decide +kernel
theorem dX9_findOut_334 : decode cX9_findOut 334 = .ok (.if_icmp .lt 18, 3) := by decide +kernel
theorem dX9_findOut_337 : decode cX9_findOut 337 = .ok (.iload 8, 2) := by decide +kernel
theorem dX9_findOut_339 : decode cX9_findOut 339 = .ok (.aload_n 0, 1) := by decide +kernel
theorem dX9_findOut_340 : decode cX9_findOut 340 = .ok (.getfield 16, 3) := by decide +kernel
theorem dX9_findOut_343 : decode cX9_findOut 343 = .ok (.iload_n 1, 1) := by decide +kernel
theorem dX9_findOut_344 : decode cX9_findOut 344 = .ok (.iaload, 1) := by decide +kernel
theorem dX9_findOut_345 : decode cX9_findOut 345 = .ok (.if_icmp .ge 7, 3) := by decide +kernel
theorem dX9_findOut_348 : decode cX9_findOut 348 = .ok (.iconst 1, 1) := by decide +kernel
theorem dX9_findOut_349 : decode cX9_findOut 349 = .ok (.goto 4, 3) := by decide +kernel
theorem dX9_findOut_352 : decode cX9_findOut 352 = .ok (.iconst 0, 1) := by decide +kernel
theorem dX9_findOut_353 : decode cX9_findOut 353 = .ok (.istore 9, 2) := by decide +kernel
theorem dX9_findOut_355 : decode cX9_findOut 355 = .ok (.iload 9, 2) := by decide +kernel
theorem dX9_findOut_357 : decode cX9_findOut 357 = .ok (.ifCond .eq 19, 3) := by decide +kernel
theorem dX9_findOut_360 : decode cX9_findOut 360 = .ok (.aload_n 0, 1) := by decide +kernel
theorem dX9_findOut_361 : decode cX9_findOut 361 = .ok (.iload 8, 2) := by decide +kernel
theorem dX9_findOut_363 : decode cX9_findOut 363 = .ok (.invokevirtual 118, 3) := by decide +kernel
theorem dX9_findOut_366 : decode cX9_findOut 366 = .ok (.ifCond .ne 10, 3) := by decide +kernel
theorem dX9_findOut_369 : decode cX9_findOut 369 = .ok (.sipush 700, 3) := by decide +kernel
theorem dX9_findOut_372 : decode cX9_findOut 372 = .ok (.iload 8, 2) := by decide +kernel
theorem dX9_findOut_374 : decode cX9_findOut 374 = .ok (.iadd, 1) := by decide +kernel
theorem dX9_findOut_375 : decode cX9_findOut 375 = .ok (.ireturn, 1) := by decide +kernel
theorem dX9_findOut_376 : decode cX9_findOut 376 = .ok (.aload_n 0, 1) := by decide +kernel
theorem dX9_findOut_377 : decode cX9_findOut 377 = .ok (.getfield 13, 3) := by decide +kernel
theorem dX9_findOut_380 : decode cX9_findOut 380 = .ok (.iload_n 1, 1) := by decide +kernel
theorem dX9_findOut_381 : decode cX9_findOut 381 = .ok (.iaload, 1) := by decide +kernel
theorem dX9_findOut_382 : decode cX9_findOut 382 = .ok (.istore 4, 2) := by decide +kernel
theorem dX9_findOut_384 : decode cX9_findOut 384 = .ok (.goto (-288), 3) := by decide +kernel
theorem dX9_findOut_387 : decode cX9_findOut 387 = .ok (.iconst 0, 1) := by decide +kernel
theorem dX9_findOut_388 : decode cX9_findOut 388 = .ok (.ireturn, 1) := by decide +kernel
theorem dX9_put_0 : decode cX9_put 0 = .ok (.aload_n 0, 1) := by decide +kernel
theorem dX9_put_1 : decode cX9_put 1 = .ok (.getfield 35, 3) := by decide +kernel
theorem dX9_put_4 : decode cX9_put 4 = .ok (.aload_n 0, 1) := by decide +kernel
theorem dX9_put_5 : decode cX9_put 5 = .ok (.getfield 124, 3) := by decide +kernel
theorem dX9_put_8 : decode cX9_put 8 = .ok (.iload_n 1, 1) := by decide +kernel
theorem dX9_put_9 : decode cX9_put 9 = .ok (.iastore, 1) := by decide +kernel
theorem dX9_put_10 : decode cX9_put 10 = .ok (.aload_n 0, 1) := by decide +kernel
theorem dX9_put_11 : decode cX9_put 11 = .ok (.dup, 1) := by decide +kernel
theorem dX9_put_12 : decode cX9_put 12 = .ok (.getfield 124, 3) := by decide +kernel
theorem dX9_put_15 : decode cX9_put 15 = .ok (.iconst 1, 1) := by decide +kernel
theorem dX9_put_16 : decode cX9_put 16 = .ok (.iadd, 1) := by decide +kernel
theorem dX9_put_17 : decode cX9_put 17 = .ok (.putfield 124, 3) := by decide +kernel
theorem dX9_put_20 : decode cX9_put 20 = .ok (.return_, 1) := by decide +kernel
theorem dX9_packPlace_0 : decode cX9_packPlace 0 = .ok (.aload_n 0, 1) := by decide +kernel
theorem dX9_packPlace_1 : decode cX9_packPlace 1 = .ok (.getfield 19, 3) := by decide +kernel
theorem dX9_packPlace_4 : decode cX9_packPlace 4 = .ok (.iconst 5, 1) := by decide +kernel
theorem dX9_packPlace_5 : decode cX9_packPlace 5 = .ok (.iload_n 1, 1) := by decide +kernel
theorem dX9_packPlace_6 : decode cX9_packPlace 6 = .ok (.imul, 1) := by decide +kernel
theorem dX9_packPlace_7 : decode cX9_packPlace 7 = .ok (.iconst 1, 1) := by decide +kernel
theorem dX9_packPlace_8 : decode cX9_packPlace 8 = .ok (.iadd, 1) := by decide +kernel
theorem dX9_packPlace_9 : decode cX9_packPlace 9 = .ok (.iaload, 1) := by decide +kernel
theorem dX9_packPlace_10 : decode cX9_packPlace 10 = .ok (.ifCond .eq 7, 3) := by decide +kernel
theorem dX9_packPlace_13 : decode cX9_packPlace 13 = .ok (.iconst 1, 1) := by decide +kernel
theorem dX9_packPlace_14 : decode cX9_packPlace 14 = .ok (.goto 4, 3) := by decide +kernel
theorem dX9_packPlace_17 : decode cX9_packPlace 17 = .ok (.iconst 0, 1) := by decide +kernel
theorem dX9_packPlace_18 : decode cX9_packPlace 18 = .ok (.istore_n 3, 1) := by decide +kernel
theorem dX9_packPlace_19 : decode cX9_packPlace 19 = .ok (.iload_n 3, 1) := by decide +kernel
theorem dX9_packPlace_20 : decode cX9_packPlace 20 = .ok (.iconst 1, 1) := by decide +kernel
theorem dX9_packPlace_21 : decode cX9_packPlace 21 = .ok (.if_icmp .ne 16, 3) := by decide +kernel
theorem dX9_packPlace_24 : decode cX9_packPlace 24 = .ok (.aload_n 0, 1) := by decide +kernel
theorem dX9_packPlace_25 : decode cX9_packPlace 25 = .ok (.getfield 19, 3) := by decide +kernel
theorem dX9_packPlace_28 : decode cX9_packPlace 28 = .ok (.iconst 5, 1) := by decide +kernel
theorem dX9_packPlace_29 : decode cX9_packPlace 29 = .ok (.iload_n 1, 1) := by decide +kernel
theorem dX9_packPlace_30 : decode cX9_packPlace 30 = .ok (.imul, 1) := by decide +kernel
theorem dX9_packPlace_31 : decode cX9_packPlace 31 = .ok (.iconst 1, 1) := by decide +kernel
theorem dX9_packPlace_32 : decode cX9_packPlace 32 = .ok (.iadd, 1) := by decide +kernel
theorem dX9_packPlace_33 : decode cX9_packPlace 33 = .ok (.iaload, 1) := by decide +kernel
theorem dX9_packPlace_34 : decode cX9_packPlace 34 = .ok (.goto 11, 3) := by decide +kernel
theorem dX9_packPlace_37 : decode cX9_packPlace 37 = .ok (.aload_n 0, 1) := by decide +kernel
theorem dX9_packPlace_38 : decode cX9_packPlace 38 = .ok (.getfield 19, 3) := by decide +kernel
theorem dX9_packPlace_41 : decode cX9_packPlace 41 = .ok (.iconst 5, 1) := by decide +kernel
theorem dX9_packPlace_42 : decode cX9_packPlace 42 = .ok (.iload_n 1, 1) := by decide +kernel
theorem dX9_packPlace_43 : decode cX9_packPlace 43 = .ok (.imul, 1) := by decide +kernel
theorem dX9_packPlace_44 : decode cX9_packPlace 44 = .ok (.iaload, 1) := by decide +kernel
theorem dX9_packPlace_45 : decode cX9_packPlace 45 = .ok (.istore 4, 2) := by decide +kernel
theorem dX9_packPlace_47 : decode cX9_packPlace 47 = .ok (.aload_n 0, 1) := by decide +kernel
theorem dX9_packPlace_48 : decode cX9_packPlace 48 = .ok (.getfield 41, 3) := by decide +kernel
theorem dX9_packPlace_51 : decode cX9_packPlace 51 = .ok (.iconst 0, 1) := by decide +kernel
theorem dX9_packPlace_52 : decode cX9_packPlace 52 = .ok (.iaload, 1) := by decide +kernel
theorem dX9_packPlace_53 : decode cX9_packPlace 53 = .ok (.iload_n 3, 1) := by decide +kernel
theorem dX9_packPlace_54 : decode cX9_packPlace 54 = .ok (.if_icmp .ne 18, 3) := by decide +kernel
theorem dX9_packPlace_57 : decode cX9_packPlace 57 = .ok (.aload_n 0, 1) := by decide +kernel
theorem dX9_packPlace_58 : decode cX9_packPlace 58 = .ok (.getfield 41, 3) := by decide +kernel
theorem dX9_packPlace_61 : decode cX9_packPlace 61 = .ok (.iconst 1, 1) := by decide +kernel
theorem dX9_packPlace_62 : decode cX9_packPlace 62 = .ok (.iaload, 1) := by decide +kernel
theorem dX9_packPlace_63 : decode cX9_packPlace 63 = .ok (.iload 4, 2) := by decide +kernel
theorem dX9_packPlace_65 : decode cX9_packPlace 65 = .ok (.if_icmp .ne 7, 3) := by decide +kernel
theorem dX9_packPlace_68 : decode cX9_packPlace 68 = .ok (.iconst 1, 1) := by decide +kernel
theorem dX9_packPlace_69 : decode cX9_packPlace 69 = .ok (.goto 4, 3) := by decide +kernel
theorem dX9_packPlace_72 : decode cX9_packPlace 72 = .ok (.iconst 0, 1) := by decide +kernel
theorem dX9_packPlace_73 : decode cX9_packPlace 73 = .ok (.istore 5, 2) := by decide +kernel
theorem dX9_packPlace_75 : decode cX9_packPlace 75 = .ok (.iconst 2, 1) := by decide +kernel
theorem dX9_packPlace_76 : decode cX9_packPlace 76 = .ok (.istore 6, 2) := by decide +kernel
theorem dX9_packPlace_78 : decode cX9_packPlace 78 = .ok (.iload 6, 2) := by decide +kernel
theorem dX9_packPlace_80 : decode cX9_packPlace 80 = .ok (.iconst 5, 1) := by decide +kernel
theorem dX9_packPlace_81 : decode cX9_packPlace 81 = .ok (.if_icmp .ge 42, 3) := by decide +kernel
theorem dX9_packPlace_84 : decode cX9_packPlace 84 = .ok (.iload 5, 2) := by decide +kernel
theorem dX9_packPlace_86 : decode cX9_packPlace 86 = .ok (.ifCond .eq 28, 3) := by decide +kernel
theorem dX9_packPlace_89 : decode cX9_packPlace 89 = .ok (.aload_n 0, 1) := by decide +kernel
theorem dX9_packPlace_90 : decode cX9_packPlace 90 = .ok (.getfield 41, 3) := by decide +kernel
theorem dX9_packPlace_93 : decode cX9_packPlace 93 = .ok (.iload 6, 2) := by decide +kernel
theorem dX9_packPlace_95 : decode cX9_packPlace 95 = .ok (.iaload, 1) := by decide +kernel
theorem dX9_packPlace_96 : decode cX9_packPlace 96 = .ok (.aload_n 0, 1) := by decide +kernel
theorem dX9_packPlace_97 : decode cX9_packPlace 97 = .ok (.getfield 19, 3) := by decide +kernel
theorem dX9_packPlace_100 : decode cX9_packPlace 100 = .ok (.iconst 5, 1) := by decide +kernel
theorem dX9_packPlace_101 : decode cX9_packPlace 101 = .ok (.iload_n 1, 1) := by decide +kernel
theorem dX9_packPlace_102 : decode cX9_packPlace 102 = .ok (.imul, 1) := by decide +kernel
theorem dX9_packPlace_103 : decode cX9_packPlace 103 = .ok (.iload 6, 2) := by decide +kernel
theorem dX9_packPlace_105 : decode cX9_packPlace 105 = .ok (.iadd, 1) := by decide +kernel
theorem dX9_packPlace_106 : decode cX9_packPlace 106 = .ok (.iaload, 1) := by decide +kernel
theorem dX9_packPlace_107 : decode cX9_packPlace 107 = .ok (.if_icmp .ne 7, 3) := by decide +kernel
theorem dX9_packPlace_110 : decode cX9_packPlace 110 = .ok (.iconst 1, 1) := by decide +kernel
theorem dX9_packPlace_111 : decode cX9_packPlace 111 = .ok (.goto 4, 3) := by decide +kernel
theorem dX9_packPlace_114 : decode cX9_packPlace 114 = .ok (.iconst 0, 1) := by decide +kernel
theorem dX9_packPlace_115 : decode cX9_packPlace 115 = .ok (.istore 5, 2) := by decide +kernel
theorem dX9_packPlace_117 : decode cX9_packPlace 117 = .ok (.iinc 6 1, 3) := by decide +kernel
theorem dX9_packPlace_120 : decode cX9_packPlace 120 = .ok (.goto (-42), 3) := by decide +kernel
theorem dX9_packPlace_123 : decode cX9_packPlace 123 = .ok (.iload 5, 2) := by decide +kernel
theorem dX9_packPlace_125 : decode cX9_packPlace 125 = .ok (.ifCond .eq 4, 3) := by decide +kernel
theorem dX9_packPlace_128 : decode cX9_packPlace 128 = .ok (.return_, 1) := by decide +kernel
theorem dX9_packPlace_129 : decode cX9_packPlace 129 = .ok (.iload_n 1, 1) := by decide +kernel
theorem dX9_packPlace_130 : decode cX9_packPlace 130 = .ok (.iload_n 2, 1) := by decide +kernel
theorem dX9_packPlace_131 : decode cX9_packPlace 131 = .ok (.isub, 1) := by decide +kernel
theorem dX9_packPlace_132 : decode cX9_packPlace 132 = .ok (.istore 6, 2) := by decide +kernel
theorem dX9_packPlace_134 : decode cX9_packPlace 134 = .ok (.aload_n 0, 1) := by decide +kernel
theorem dX9_packPlace_135 : decode cX9_packPlace 135 = .ok (.iload 6, 2) := by decide +kernel
theorem dX9_packPlace_137 : decode cX9_packPlace 137 = .ok (.bipush 64, 2) := by decide +kernel
theorem dX9_packPlace_139 : decode cX9_packPlace 139 = .ok (.if_icmp .ge 11, 3) := by decide +kernel
theorem dX9_packPlace_142 : decode cX9_packPlace 142 = .ok (.bipush 64, 2) := by decide +kernel
theorem dX9_packPlace_144 : decode cX9_packPlace 144 = .ok (.iload 6, 2) := by decide +kernel
theorem dX9_packPlace_146 : decode cX9_packPlace 146 = .ok (.iadd, 1) := by decide +kernel
theorem dX9_packPlace_147 : decode cX9_packPlace 147 = .ok (.goto 4, 3) := by decide +kernel
theorem dX9_packPlace_150 : decode cX9_packPlace 150 = .ok (.iconst 2, 1) := by decide +kernel
theorem dX9_packPlace_151 : decode cX9_packPlace 151 = .ok (.invokevirtual 127, 3) := by decide +kernel
theorem dX9_packPlace_154 : decode cX9_packPlace 154 = .ok (.iload 6, 2) := by decide +kernel
theorem dX9_packPlace_156 : decode cX9_packPlace 156 = .ok (.bipush 63, 2) := by decide +kernel
theorem dX9_packPlace_158 : decode cX9_packPlace 158 = .ok (.if_icmp .le 9, 3) := by decide +kernel
theorem dX9_packPlace_161 : decode cX9_packPlace 161 = .ok (.aload_n 0, 1) := by decide +kernel
theorem dX9_packPlace_162 : decode cX9_packPlace 162 = .ok (.iload 6, 2) := by decide +kernel
theorem dX9_packPlace_164 : decode cX9_packPlace 164 = .ok (.invokevirtual 127, 3) := by decide +kernel
theorem dX9_packPlace_167 : decode cX9_packPlace 167 = .ok (.aload_n 0, 1) := by decide +kernel
theorem dX9_packPlace_168 : decode cX9_packPlace 168 = .ok (.getfield 41, 3) := by decide +kernel
theorem dX9_packPlace_171 : decode cX9_packPlace 171 = .ok (.iconst 0, 1) := by decide +kernel
theorem dX9_packPlace_172 : decode cX9_packPlace 172 = .ok (.iaload, 1) := by decide +kernel
theorem dX9_packPlace_173 : decode cX9_packPlace 173 = .ok (.iload_n 3, 1) := by decide +kernel
theorem dX9_packPlace_174 : decode cX9_packPlace 174 = .ok (.if_icmp .eq 50, 3) := by decide +kernel
theorem dX9_packPlace_177 : decode cX9_packPlace 177 = .ok (.aload_n 0, 1) := by decide +kernel
theorem dX9_packPlace_178 : decode cX9_packPlace 178 = .ok (.aload_n 0, 1) := by decide +kernel
theorem dX9_packPlace_179 : decode cX9_packPlace 179 = .ok (.getfield 41, 3) := by decide +kernel
theorem dX9_packPlace_182 : decode cX9_packPlace 182 = .ok (.iconst 1, 1) := by decide +kernel
theorem dX9_packPlace_183 : decode cX9_packPlace 183 = .ok (.iaload, 1) := by decide +kernel
theorem dX9_packPlace_184 : decode cX9_packPlace 184 = .ok (.iload 4, 2) := by decide +kernel
theorem dX9_packPlace_186 : decode cX9_packPlace 186 = .ok (.if_icmp .eq 8, 3) := by decide +kernel
theorem dX9_packPlace_189 : decode cX9_packPlace 189 = .ok (.bipush 12, 2) := by decide +kernel
theorem dX9_packPlace_191 : decode cX9_packPlace 191 = .ok (.goto 5, 3) := by decide +kernel
theorem dX9_packPlace_194 : decode cX9_packPlace 194 = .ok (.bipush 13, 2) := by decide +kernel
theorem dX9_packPlace_196 : decode cX9_packPlace 196 = .ok (.invokevirtual 127, 3) := by decide +kernel
theorem dX9_packPlace_199 : decode cX9_packPlace 199 = .ok (.aload_n 0, 1) := by decide +kernel
theorem dX9_packPlace_200 : decode cX9_packPlace 200 = .ok (.iload_n 3, 1) := by decide +kernel
theorem dX9_packPlace_201 : decode cX9_packPlace 201 = .ok (.invokevirtual 127, 3) := by decide +kernel
theorem dX9_packPlace_204 : decode cX9_packPlace 204 = .ok (.aload_n 0, 1) := by decide +kernel
theorem dX9_packPlace_205 : decode cX9_packPlace 205 = .ok (.getfield 41, 3) := by decide +kernel
theorem dX9_packPlace_208 : decode cX9_packPlace 208 = .ok (.iconst 1, 1) := by decide +kernel
theorem dX9_packPlace_209 : decode cX9_packPlace 209 = .ok (.iaload, 1) := by decide +kernel
theorem dX9_packPlace_210 : decode cX9_packPlace 210 = .ok (.iload 4, 2) := by decide +kernel
theorem dX9_packPlace_212 : decode cX9_packPlace 212 = .ok (.if_icmp .eq 35, 3) := by decide +kernel
theorem dX9_packPlace_215 : decode cX9_packPlace 215 = .ok (.aload_n 0, 1) := by decide +kernel
theorem dX9_packPlace_216 : decode cX9_packPlace 216 = .ok (.iload 4, 2) := by decide +kernel
theorem dX9_packPlace_218 : decode cX9_packPlace 218 = .ok (.invokevirtual 127, 3) := by decide +kernel
theorem dX9_packPlace_221 : decode cX9_packPlace 221 = .ok (.goto 26, 3) := by decide +kernel
theorem dX9_packPlace_224 : decode cX9_packPlace 224 = .ok (.aload_n 0, 1) := by decide +kernel
theorem dX9_packPlace_225 : decode cX9_packPlace 225 = .ok (.getfield 41, 3) := by decide +kernel
theorem dX9_packPlace_228 : decode cX9_packPlace 228 = .ok (.iconst 1, 1) := by decide +kernel
theorem dX9_packPlace_229 : decode cX9_packPlace 229 = .ok (.iaload, 1) := by decide +kernel
theorem dX9_packPlace_230 : decode cX9_packPlace 230 = .ok (.iload 4, 2) := by decide +kernel
theorem dX9_packPlace_232 : decode cX9_packPlace 232 = .ok (.if_icmp .eq 15, 3) := by decide +kernel
theorem dX9_packPlace_235 : decode cX9_packPlace 235 = .ok (.aload_n 0, 1) := by decide +kernel
theorem dX9_packPlace_236 : decode cX9_packPlace 236 = .ok (.bipush 14, 2) := by decide +kernel
theorem dX9_packPlace_238 : decode cX9_packPlace 238 = .ok (.invokevirtual 127, 3) := by decide +kernel
theorem dX9_packPlace_241 : decode cX9_packPlace 241 = .ok (.aload_n 0, 1) := by decide +kernel
theorem dX9_packPlace_242 : decode cX9_packPlace 242 = .ok (.iload 4, 2) := by decide +kernel
theorem dX9_packPlace_244 : decode cX9_packPlace 244 = .ok (.invokevirtual 127, 3) := by decide +kernel
theorem dX9_packPlace_247 : decode cX9_packPlace 247 = .ok (.iconst 0, 1) := by decide +kernel
theorem dX9_packPlace_248 : decode cX9_packPlace 248 = .ok (.istore 7, 2) := by decide +kernel
theorem dX9_packPlace_250 : decode cX9_packPlace 250 = .ok (.iload 7, 2) := by decide +kernel
theorem dX9_packPlace_252 : decode cX9_packPlace 252 = .ok (.iconst 3, 1) := by decide +kernel
theorem dX9_packPlace_253 : decode cX9_packPlace 253 = .ok (.if_icmp .ge 84, 3) := by decide +kernel
theorem dX9_packPlace_256 : decode cX9_packPlace 256 = .ok (.aload_n 0, 1) := by decide +kernel
theorem dX9_packPlace_257 : decode cX9_packPlace 257 = .ok (.getfield 19, 3) := by decide +kernel
theorem dX9_packPlace_260 : decode cX9_packPlace 260 = .ok (.iconst 5, 1) := by decide +kernel
theorem dX9_packPlace_261 : decode cX9_packPlace 261 = .ok (.iload_n 1, 1) := by decide +kernel
theorem dX9_packPlace_262 : decode cX9_packPlace 262 = .ok (.imul, 1) := by decide +kernel
theorem dX9_packPlace_263 : decode cX9_packPlace 263 = .ok (.iconst 2, 1) := by decide +kernel
theorem dX9_packPlace_264 : decode cX9_packPlace 264 = .ok (.iadd, 1) := by decide +kernel
theorem dX9_packPlace_265 : decode cX9_packPlace 265 = .ok (.iload 7, 2) := by decide +kernel
theorem dX9_packPlace_267 : decode cX9_packPlace 267 = .ok (.iadd, 1) := by decide +kernel
theorem dX9_packPlace_268 : decode cX9_packPlace 268 = .ok (.iaload, 1) := by decide +kernel
theorem dX9_packPlace_269 : decode cX9_packPlace 269 = .ok (.istore 8, 2) := by decide +kernel
theorem dX9_packPlace_271 : decode cX9_packPlace 271 = .ok (.aload_n 0, 1) := by decide +kernel
theorem dX9_packPlace_272 : decode cX9_packPlace 272 = .ok (.getfield 41, 3) := by decide +kernel
theorem dX9_packPlace_275 : decode cX9_packPlace 275 = .ok (.iconst 2, 1) := by decide +kernel
theorem dX9_packPlace_276 : decode cX9_packPlace 276 = .ok (.iload 7, 2) := by decide +kernel
theorem dX9_packPlace_278 : decode cX9_packPlace 278 = .ok (.iadd, 1) := by decide +kernel
theorem dX9_packPlace_279 : decode cX9_packPlace 279 = .ok (.iaload, 1) := by decide +kernel
theorem dX9_packPlace_280 : decode cX9_packPlace 280 = .ok (.iload 8, 2) := by decide +kernel
theorem dX9_packPlace_282 : decode cX9_packPlace 282 = .ok (.if_icmp .eq 38, 3) := by decide +kernel
theorem dX9_packPlace_285 : decode cX9_packPlace 285 = .ok (.aload_n 0, 1) := by decide +kernel
theorem dX9_packPlace_286 : decode cX9_packPlace 286 = .ok (.iload 8, 2) := by decide +kernel
theorem dX9_packPlace_288 : decode cX9_packPlace 288 = .ok (.ifCond .le 12, 3) := by decide +kernel
theorem dX9_packPlace_291 : decode cX9_packPlace 291 = .ok (.sipush 128, 3) := by decide +kernel
theorem dX9_packPlace_294 : decode cX9_packPlace 294 = .ok (.iload 7, 2) := by decide +kernel
theorem dX9_packPlace_296 : decode cX9_packPlace 296 = .ok (.iadd, 1) := by decide +kernel
theorem dX9_packPlace_297 : decode cX9_packPlace 297 = .ok (.goto 9, 3) := by decide +kernel
theorem dX9_packPlace_300 : decode cX9_packPlace 300 = .ok (.sipush 192, 3) := by decide +kernel
theorem dX9_packPlace_303 : decode cX9_packPlace 303 = .ok (.iload 7, 2) := by decide +kernel
theorem dX9_packPlace_305 : decode cX9_packPlace 305 = .ok (.iadd, 1) := by decide +kernel
theorem dX9_packPlace_306 : decode cX9_packPlace 306 = .ok (.invokevirtual 127, 3) := by decide +kernel
theorem dX9_packPlace_309 : decode cX9_packPlace 309 = .ok (.iload 8, 2) := by decide +kernel
theorem dX9_packPlace_311 : decode cX9_packPlace 311 = .ok (.ifCond .le 9, 3) := by decide +kernel
theorem dX9_packPlace_314 : decode cX9_packPlace 314 = .ok (.aload_n 0, 1) := by decide +kernel
theorem dX9_packPlace_315 : decode cX9_packPlace 315 = .ok (.iload 8, 2) := by decide +kernel
theorem dX9_packPlace_317 : decode cX9_packPlace 317 = .ok (.invokevirtual 127, 3) := by decide +kernel
theorem dX9_packPlace_320 : decode cX9_packPlace 320 = .ok (.aload_n 0, 1) := by decide +kernel
theorem dX9_packPlace_321 : decode cX9_packPlace 321 = .ok (.getfield 41, 3) := by decide +kernel
theorem dX9_packPlace_324 : decode cX9_packPlace 324 = .ok (.iconst 2, 1) := by decide +kernel
theorem dX9_packPlace_325 : decode cX9_packPlace 325 = .ok (.iload 7, 2) := by decide +kernel
theorem dX9_packPlace_327 : decode cX9_packPlace 327 = .ok (.iadd, 1) := by decide +kernel
theorem dX9_packPlace_328 : decode cX9_packPlace 328 = .ok (.iload 8, 2) := by decide +kernel
theorem dX9_packPlace_330 : decode cX9_packPlace 330 = .ok (.iastore, 1) := by decide +kernel
theorem dX9_packPlace_331 : decode cX9_packPlace 331 = .ok (.iinc 7 1, 3) := by decide +kernel
theorem dX9_packPlace_334 : decode cX9_packPlace 334 = .ok (.goto (-84), 3) := by decide +kernel
theorem dX9_packPlace_337 : decode cX9_packPlace 337 = .ok (.aload_n 0, 1) := by decide +kernel
theorem dX9_packPlace_338 : decode cX9_packPlace 338 = .ok (.getfield 41, 3) := by decide +kernel
theorem dX9_packPlace_341 : decode cX9_packPlace 341 = .ok (.iconst 0, 1) := by decide +kernel
theorem dX9_packPlace_342 : decode cX9_packPlace 342 = .ok (.iload_n 3, 1) := by decide +kernel
theorem dX9_packPlace_343 : decode cX9_packPlace 343 = .ok (.iastore, 1) := by decide +kernel
theorem dX9_packPlace_344 : decode cX9_packPlace 344 = .ok (.aload_n 0, 1) := by decide +kernel
theorem dX9_packPlace_345 : decode cX9_packPlace 345 = .ok (.getfield 41, 3) := by decide +kernel
theorem dX9_packPlace_348 : decode cX9_packPlace 348 = .ok (.iconst 1, 1) := by decide +kernel
theorem dX9_packPlace_349 : decode cX9_packPlace 349 = .ok (.iload 4, 2) := by decide +kernel
theorem dX9_packPlace_351 : decode cX9_packPlace 351 = .ok (.iastore, 1) := by decide +kernel
theorem dX9_packPlace_352 : decode cX9_packPlace 352 = .ok (.aload_n 0, 1) := by decide +kernel
theorem dX9_packPlace_353 : decode cX9_packPlace 353 = .ok (.iload_n 1, 1) := by decide +kernel
theorem dX9_packPlace_354 : decode cX9_packPlace 354 = .ok (.putfield 131, 3) := by decide +kernel
theorem dX9_packPlace_357 : decode cX9_packPlace 357 = .ok (.return_, 1) := by decide +kernel
theorem dX9_packFunction_0 : decode cX9_packFunction 0 = .ok (.aload_n 0, 1) := by decide +kernel
theorem dX9_packFunction_1 : decode cX9_packFunction 1 = .ok (.getfield 124, 3) := by decide +kernel
theorem dX9_packFunction_4 : decode cX9_packFunction 4 = .ok (.istore_n 2, 1) := by decide +kernel
theorem dX9_packFunction_5 : decode cX9_packFunction 5 = .ok (.aload_n 0, 1) := by decide +kernel
theorem dX9_packFunction_6 : decode cX9_packFunction 6 = .ok (.iconst 0, 1) := by decide +kernel
theorem dX9_packFunction_7 : decode cX9_packFunction 7 = .ok (.invokevirtual 127, 3) := by decide +kernel
theorem dX9_packFunction_10 : decode cX9_packFunction 10 = .ok (.aload_n 0, 1) := by decide +kernel
theorem dX9_packFunction_11 : decode cX9_packFunction 11 = .ok (.iconst 0, 1) := by decide +kernel
theorem dX9_packFunction_12 : decode cX9_packFunction 12 = .ok (.invokevirtual 127, 3) := by decide +kernel
theorem dX9_packFunction_15 : decode cX9_packFunction 15 = .ok (.aload_n 0, 1) := by decide +kernel
theorem dX9_packFunction_16 : decode cX9_packFunction 16 = .ok (.aload_n 0, 1) := by decide +kernel
theorem dX9_packFunction_17 : decode cX9_packFunction 17 = .ok (.getfield 13, 3) := by decide +kernel
theorem dX9_packFunction_20 : decode cX9_packFunction 20 = .ok (.iload_n 1, 1) := by decide +kernel
theorem dX9_packFunction_21 : decode cX9_packFunction 21 = .ok (.iaload, 1) := by decide +kernel
theorem dX9_packFunction_22 : decode cX9_packFunction 22 = .ok (.invokevirtual 127, 3) := by decide +kernel
theorem dX9_packFunction_25 : decode cX9_packFunction 25 = .ok (.aload_n 0, 1) := by decide +kernel
theorem dX9_packFunction_26 : decode cX9_packFunction 26 = .ok (.aload_n 0, 1) := by decide +kernel
theorem dX9_packFunction_27 : decode cX9_packFunction 27 = .ok (.getfield 16, 3) := by decide +kernel
theorem dX9_packFunction_30 : decode cX9_packFunction 30 = .ok (.iload_n 1, 1) := by decide +kernel
theorem dX9_packFunction_31 : decode cX9_packFunction 31 = .ok (.iaload, 1) := by decide +kernel
theorem dX9_packFunction_32 : decode cX9_packFunction 32 = .ok (.aload_n 0, 1) := by decide +kernel
theorem dX9_packFunction_33 : decode cX9_packFunction 33 = .ok (.getfield 13, 3) := by decide +kernel
theorem dX9_packFunction_36 : decode cX9_packFunction 36 = .ok (.iload_n 1, 1) := by decide +kernel
theorem dX9_packFunction_37 : decode cX9_packFunction 37 = .ok (.iaload, 1) := by decide +kernel
theorem dX9_packFunction_38 : decode cX9_packFunction 38 = .ok (.isub, 1) := by decide +kernel
theorem dX9_packFunction_39 : decode cX9_packFunction 39 = .ok (.invokevirtual 127, 3) := by decide +kernel
theorem dX9_packFunction_42 : decode cX9_packFunction 42 = .ok (.aload_n 0, 1) := by decide +kernel
theorem dX9_packFunction_43 : decode cX9_packFunction 43 = .ok (.getfield 41, 3) := by decide +kernel
theorem dX9_packFunction_46 : decode cX9_packFunction 46 = .ok (.iconst 0, 1) := by decide +kernel
theorem dX9_packFunction_47 : decode cX9_packFunction 47 = .ok (.iconst 0, 1) := by decide +kernel
theorem dX9_packFunction_48 : decode cX9_packFunction 48 = .ok (.iastore, 1) := by decide +kernel
theorem dX9_packFunction_49 : decode cX9_packFunction 49 = .ok (.aload_n 0, 1) := by decide +kernel
theorem dX9_packFunction_50 : decode cX9_packFunction 50 = .ok (.getfield 41, 3) := by decide +kernel
theorem dX9_packFunction_53 : decode cX9_packFunction 53 = .ok (.iconst 1, 1) := by decide +kernel
theorem dX9_packFunction_54 : decode cX9_packFunction 54 = .ok (.iconst 1, 1) := by decide +kernel
theorem dX9_packFunction_55 : decode cX9_packFunction 55 = .ok (.iastore, 1) := by decide +kernel
theorem dX9_packFunction_56 : decode cX9_packFunction 56 = .ok (.iconst 2, 1) := by decide +kernel
theorem dX9_packFunction_57 : decode cX9_packFunction 57 = .ok (.istore_n 3, 1) := by decide +kernel
theorem dX9_packFunction_58 : decode cX9_packFunction 58 = .ok (.iload_n 3, 1) := by decide +kernel
theorem dX9_packFunction_59 : decode cX9_packFunction 59 = .ok (.iconst 5, 1) := by decide +kernel
theorem dX9_packFunction_60 : decode cX9_packFunction 60 = .ok (.if_icmp .ge 16, 3) := by decide +kernel
theorem dX9_packFunction_63 : decode cX9_packFunction 63 = .ok (.aload_n 0, 1) := by decide +kernel
theorem dX9_packFunction_64 : decode cX9_packFunction 64 = .ok (.getfield 41, 3) := by decide +kernel
theorem dX9_packFunction_67 : decode cX9_packFunction 67 = .ok (.iload_n 3, 1) := by decide +kernel
theorem dX9_packFunction_68 : decode cX9_packFunction 68 = .ok (.iconst 0, 1) := by decide +kernel
theorem dX9_packFunction_69 : decode cX9_packFunction 69 = .ok (.iastore, 1) := by decide +kernel
theorem dX9_packFunction_70 : decode cX9_packFunction 70 = .ok (.iinc 3 1, 3) := by decide +kernel
theorem dX9_packFunction_73 : decode cX9_packFunction 73 = .ok (.goto (-15), 3) := by decide +kernel
theorem dX9_packFunction_76 : decode cX9_packFunction 76 = .ok (.aload_n 0, 1) := by decide +kernel
theorem dX9_packFunction_77 : decode cX9_packFunction 77 = .ok (.aload_n 0, 1) := by decide +kernel
theorem dX9_packFunction_78 : decode cX9_packFunction 78 = .ok (.getfield 13, 3) := by decide +kernel
theorem dX9_packFunction_81 : decode cX9_packFunction 81 = .ok (.iload_n 1, 1) := by decide +kernel
theorem dX9_packFunction_82 : decode cX9_packFunction 82 = .ok (.iaload, 1) := by decide +kernel
theorem dX9_packFunction_83 : decode cX9_packFunction 83 = .ok (.putfield 131, 3) := by decide +kernel
theorem dX9_packFunction_86 : decode cX9_packFunction 86 = .ok (.aload_n 0, 1) := by decide +kernel
theorem dX9_packFunction_87 : decode cX9_packFunction 87 = .ok (.getfield 13, 3) := by decide +kernel
theorem dX9_packFunction_90 : decode cX9_packFunction 90 = .ok (.iload_n 1, 1) := by decide +kernel
theorem dX9_packFunction_91 : decode cX9_packFunction 91 = .ok (.iaload, 1) := by decide +kernel
theorem dX9_packFunction_92 : decode cX9_packFunction 92 = .ok (.istore_n 3, 1) := by decide +kernel
theorem dX9_packFunction_93 : decode cX9_packFunction 93 = .ok (.iload_n 3, 1) := by decide +kernel
theorem dX9_packFunction_94 : decode cX9_packFunction 94 = .ok (.aload_n 0, 1) := by decide +kernel
theorem dX9_packFunction_95 : decode cX9_packFunction 95 = .ok (.getfield 16, 3) := by decide +kernel
theorem dX9_packFunction_98 : decode cX9_packFunction 98 = .ok (.iload_n 1, 1) := by decide +kernel
theorem dX9_packFunction_99 : decode cX9_packFunction 99 = .ok (.iaload, 1) := by decide +kernel
theorem dX9_packFunction_100 : decode cX9_packFunction 100 = .ok (.if_icmp .ge 29, 3) := by decide +kernel
theorem dX9_packFunction_103 : decode cX9_packFunction 103 = .ok (.aload_n 0, 1) := by decide +kernel
theorem dX9_packFunction_104 : decode cX9_packFunction 104 = .ok (.getfield 19, 3) := by decide +kernel
theorem dX9_packFunction_107 : decode cX9_packFunction 107 = .ok (.iconst 5, 1) := by decide +kernel
theorem dX9_packFunction_108 : decode cX9_packFunction 108 = .ok (.iload_n 3, 1) := by decide +kernel
theorem dX9_packFunction_109 : decode cX9_packFunction 109 = .ok (.imul, 1) := by decide +kernel
theorem dX9_packFunction_110 : decode cX9_packFunction 110 = .ok (.iaload, 1) := by decide +kernel
theorem dX9_packFunction_111 : decode cX9_packFunction 111 = .ok (.ifCond .le 12, 3) := by decide +kernel
theorem dX9_packFunction_114 : decode cX9_packFunction 114 = .ok (.aload_n 0, 1) := by decide +kernel
theorem dX9_packFunction_115 : decode cX9_packFunction 115 = .ok (.iload_n 3, 1) := by decide +kernel
theorem dX9_packFunction_116 : decode cX9_packFunction 116 = .ok (.aload_n 0, 1) := by decide +kernel
theorem dX9_packFunction_117 : decode cX9_packFunction 117 = .ok (.getfield 131, 3) := by decide +kernel
theorem dX9_packFunction_120 : decode cX9_packFunction 120 = .ok (.invokevirtual 134, 3) := by decide +kernel
theorem dX9_packFunction_123 : decode cX9_packFunction 123 = .ok (.iinc 3 1, 3) := by decide +kernel
theorem dX9_packFunction_126 : decode cX9_packFunction 126 = .ok (.goto (-33), 3) := by decide +kernel
theorem dX9_packFunction_129 : decode cX9_packFunction 129 = .ok (.aload_n 0, 1) := by decide +kernel
theorem dX9_packFunction_130 : decode cX9_packFunction 130 = .ok (.getfield 124, 3) := by decide +kernel
theorem dX9_packFunction_133 : decode cX9_packFunction 133 = .ok (.iload_n 2, 1) := by decide +kernel
theorem dX9_packFunction_134 : decode cX9_packFunction 134 = .ok (.isub, 1) := by decide +kernel
theorem dX9_packFunction_135 : decode cX9_packFunction 135 = .ok (.iconst 2, 1) := by decide +kernel
theorem dX9_packFunction_136 : decode cX9_packFunction 136 = .ok (.isub, 1) := by decide +kernel
theorem dX9_packFunction_137 : decode cX9_packFunction 137 = .ok (.istore_n 3, 1) := by decide +kernel
theorem dX9_packFunction_138 : decode cX9_packFunction 138 = .ok (.aload_n 0, 1) := by decide +kernel
theorem dX9_packFunction_139 : decode cX9_packFunction 139 = .ok (.getfield 35, 3) := by decide +kernel
theorem dX9_packFunction_142 : decode cX9_packFunction 142 = .ok (.iload_n 2, 1) := by decide +kernel
theorem dX9_packFunction_143 : decode cX9_packFunction 143 = .ok (.iload_n 3, 1) := by decide +kernel
theorem dX9_packFunction_144 : decode cX9_packFunction 144 = .ok (.sipush 256, 3) := by decide +kernel
theorem dX9_packFunction_147 : decode cX9_packFunction 147 = .ok (.idiv, 1) := by decide +kernel
theorem dX9_packFunction_148 : decode cX9_packFunction 148 = .ok (.iastore, 1) := by decide +kernel
theorem dX9_packFunction_149 : decode cX9_packFunction 149 = .ok (.aload_n 0, 1) := by decide +kernel
theorem dX9_packFunction_150 : decode cX9_packFunction 150 = .ok (.getfield 35, 3) := by decide +kernel
theorem dX9_packFunction_153 : decode cX9_packFunction 153 = .ok (.iload_n 2, 1) := by decide +kernel
theorem dX9_packFunction_154 : decode cX9_packFunction 154 = .ok (.iconst 1, 1) := by decide +kernel
theorem dX9_packFunction_155 : decode cX9_packFunction 155 = .ok (.iadd, 1) := by decide +kernel
theorem dX9_packFunction_156 : decode cX9_packFunction 156 = .ok (.iload_n 3, 1) := by decide +kernel
theorem dX9_packFunction_157 : decode cX9_packFunction 157 = .ok (.sipush 256, 3) := by decide +kernel
theorem dX9_packFunction_160 : decode cX9_packFunction 160 = .ok (.irem, 1) := by decide +kernel
theorem dX9_packFunction_161 : decode cX9_packFunction 161 = .ok (.iastore, 1) := by decide +kernel
theorem dX9_packFunction_162 : decode cX9_packFunction 162 = .ok (.return_, 1) := by decide +kernel
theorem dX9_pack_0 : decode cX9_pack 0 = .ok (.aload_n 0, 1) := by decide +kernel
theorem dX9_pack_1 : decode cX9_pack 1 = .ok (.iconst 0, 1) := by decide +kernel
theorem dX9_pack_2 : decode cX9_pack 2 = .ok (.putfield 59, 3) := by decide +kernel
theorem dX9_pack_5 : decode cX9_pack 5 = .ok (.aload_n 0, 1) := by decide +kernel
theorem dX9_pack_6 : decode cX9_pack 6 = .ok (.iconst 0, 1) := by decide +kernel
theorem dX9_pack_7 : decode cX9_pack 7 = .ok (.putfield 124, 3) := by decide +kernel
theorem dX9_pack_10 : decode cX9_pack 10 = .ok (.iconst 0, 1) := by decide +kernel
theorem dX9_pack_11 : decode cX9_pack 11 = .ok (.istore_n 1, 1) := by decide +kernel
theorem dX9_pack_12 : decode cX9_pack 12 = .ok (.iload_n 1, 1) := by decide +kernel
theorem dX9_pack_13 : decode cX9_pack 13 = .ok (.aload_n 0, 1) := by decide +kernel
theorem dX9_pack_14 : decode cX9_pack 14 = .ok (.getfield 76, 3) := by decide +kernel
theorem dX9_pack_17 : decode cX9_pack 17 = .ok (.if_icmp .ge 77, 3) := by decide +kernel
theorem dX9_pack_20 : decode cX9_pack 20 = .ok (.iconst 0, 1) := by decide +kernel
theorem dX9_pack_21 : decode cX9_pack 21 = .ok (.istore_n 2, 1) := by decide +kernel
theorem dX9_pack_22 : decode cX9_pack 22 = .ok (.iload_n 2, 1) := by decide +kernel
theorem dX9_pack_23 : decode cX9_pack 23 = .ok (.sipush 485, 3) := by decide +kernel
theorem dX9_pack_26 : decode cX9_pack 26 = .ok (.if_icmp .ge 16, 3) := by decide +kernel
theorem dX9_pack_29 : decode cX9_pack 29 = .ok (.aload_n 0, 1) := by decide +kernel
theorem dX9_pack_30 : decode cX9_pack 30 = .ok (.getfield 19, 3) := by decide +kernel
theorem dX9_pack_33 : decode cX9_pack 33 = .ok (.iload_n 2, 1) := by decide +kernel
theorem dX9_pack_34 : decode cX9_pack 34 = .ok (.iconst 0, 1) := by decide +kernel
theorem dX9_pack_35 : decode cX9_pack 35 = .ok (.iastore, 1) := by decide +kernel
theorem dX9_pack_36 : decode cX9_pack 36 = .ok (.iinc 2 1, 3) := by decide +kernel
theorem dX9_pack_39 : decode cX9_pack 39 = .ok (.goto (-17), 3) := by decide +kernel
theorem dX9_pack_42 : decode cX9_pack 42 = .ok (.iconst 0, 1) := by decide +kernel
theorem dX9_pack_43 : decode cX9_pack 43 = .ok (.istore_n 2, 1) := by decide +kernel
theorem dX9_pack_44 : decode cX9_pack 44 = .ok (.iload_n 2, 1) := by decide +kernel
theorem dX9_pack_45 : decode cX9_pack 45 = .ok (.bipush 97, 2) := by decide +kernel
theorem dX9_pack_47 : decode cX9_pack 47 = .ok (.if_icmp .ge 23, 3) := by decide +kernel
theorem dX9_pack_50 : decode cX9_pack 50 = .ok (.aload_n 0, 1) := by decide +kernel
theorem dX9_pack_51 : decode cX9_pack 51 = .ok (.getfield 22, 3) := by decide +kernel
theorem dX9_pack_54 : decode cX9_pack 54 = .ok (.iload_n 2, 1) := by decide +kernel
theorem dX9_pack_55 : decode cX9_pack 55 = .ok (.iconst 0, 1) := by decide +kernel
theorem dX9_pack_56 : decode cX9_pack 56 = .ok (.bastore, 1) := by decide +kernel
theorem dX9_pack_57 : decode cX9_pack 57 = .ok (.aload_n 0, 1) := by decide +kernel
theorem dX9_pack_58 : decode cX9_pack 58 = .ok (.getfield 26, 3) := by decide +kernel
theorem dX9_pack_61 : decode cX9_pack 61 = .ok (.iload_n 2, 1) := by decide +kernel
theorem dX9_pack_62 : decode cX9_pack 62 = .ok (.iconst 0, 1) := by decide +kernel
theorem dX9_pack_63 : decode cX9_pack 63 = .ok (.bastore, 1) := by decide +kernel
theorem dX9_pack_64 : decode cX9_pack 64 = .ok (.iinc 2 1, 3) := by decide +kernel
theorem dX9_pack_67 : decode cX9_pack 67 = .ok (.goto (-23), 3) := by decide +kernel
theorem dX9_pack_70 : decode cX9_pack 70 = .ok (.aload_n 0, 1) := by decide +kernel
theorem dX9_pack_71 : decode cX9_pack 71 = .ok (.iload_n 1, 1) := by decide +kernel
theorem dX9_pack_72 : decode cX9_pack 72 = .ok (.invokevirtual 137, 3) := by decide +kernel
theorem dX9_pack_75 : decode cX9_pack 75 = .ok (.istore_n 2, 1) := by decide +kernel
theorem dX9_pack_76 : decode cX9_pack 76 = .ok (.iload_n 2, 1) := by decide +kernel
theorem dX9_pack_77 : decode cX9_pack 77 = .ok (.ifCond .le 6, 3) := by decide +kernel
theorem dX9_pack_80 : decode cX9_pack 80 = .ok (.iload_n 2, 1) := by decide +kernel
theorem dX9_pack_81 : decode cX9_pack 81 = .ok (.ineg, 1) := by decide +kernel
theorem dX9_pack_82 : decode cX9_pack 82 = .ok (.ireturn, 1) := by decide +kernel
theorem dX9_pack_83 : decode cX9_pack 83 = .ok (.aload_n 0, 1) := by decide +kernel
theorem dX9_pack_84 : decode cX9_pack 84 = .ok (.iload_n 1, 1) := by decide +kernel
theorem dX9_pack_85 : decode cX9_pack 85 = .ok (.invokevirtual 140, 3) := by decide +kernel
theorem dX9_pack_88 : decode cX9_pack 88 = .ok (.iinc 1 1, 3) := by decide +kernel
theorem dX9_pack_91 : decode cX9_pack 91 = .ok (.goto (-79), 3) := by decide +kernel
theorem dX9_pack_94 : decode cX9_pack 94 = .ok (.iconst 0, 1) := by decide +kernel
theorem dX9_pack_95 : decode cX9_pack 95 = .ok (.istore_n 1, 1) := by decide +kernel
theorem dX9_pack_96 : decode cX9_pack 96 = .ok (.iload_n 1, 1) := by decide +kernel
theorem dX9_pack_97 : decode cX9_pack 97 = .ok (.aload_n 0, 1) := by decide +kernel
theorem dX9_pack_98 : decode cX9_pack 98 = .ok (.getfield 124, 3) := by decide +kernel
theorem dX9_pack_101 : decode cX9_pack 101 = .ok (.if_icmp .ge 21, 3) := by decide +kernel
theorem dX9_pack_104 : decode cX9_pack 104 = .ok (.aload_n 0, 1) := by decide +kernel
theorem dX9_pack_105 : decode cX9_pack 105 = .ok (.getfield 32, 3) := by decide +kernel
theorem dX9_pack_108 : decode cX9_pack 108 = .ok (.iload_n 1, 1) := by decide +kernel
theorem dX9_pack_109 : decode cX9_pack 109 = .ok (.aload_n 0, 1) := by decide +kernel
theorem dX9_pack_110 : decode cX9_pack 110 = .ok (.getfield 35, 3) := by decide +kernel
theorem dX9_pack_113 : decode cX9_pack 113 = .ok (.iload_n 1, 1) := by decide +kernel
theorem dX9_pack_114 : decode cX9_pack 114 = .ok (.iaload, 1) := by decide +kernel
theorem dX9_pack_115 : decode cX9_pack 115 = .ok (.iastore, 1) := by decide +kernel
theorem dX9_pack_116 : decode cX9_pack 116 = .ok (.iinc 1 1, 3) := by decide +kernel
theorem dX9_pack_119 : decode cX9_pack 119 = .ok (.goto (-23), 3) := by decide +kernel
theorem dX9_pack_122 : decode cX9_pack 122 = .ok (.aload_n 0, 1) := by decide +kernel
theorem dX9_pack_123 : decode cX9_pack 123 = .ok (.aload_n 0, 1) := by decide +kernel
theorem dX9_pack_124 : decode cX9_pack 124 = .ok (.getfield 124, 3) := by decide +kernel
theorem dX9_pack_127 : decode cX9_pack 127 = .ok (.putfield 143, 3) := by decide +kernel
theorem dX9_pack_130 : decode cX9_pack 130 = .ok (.aload_n 0, 1) := by decide +kernel
theorem dX9_pack_131 : decode cX9_pack 131 = .ok (.getfield 143, 3) := by decide +kernel
theorem dX9_pack_134 : decode cX9_pack 134 = .ok (.ireturn, 1) := by decide +kernel
theorem dX9_section_0 : decode cX9_section 0 = .ok (.aload_n 0, 1) := by decide +kernel
theorem dX9_section_1 : decode cX9_section 1 = .ok (.iconst 0, 1) := by decide +kernel
theorem dX9_section_2 : decode cX9_section 2 = .ok (.putfield 59, 3) := by decide +kernel
theorem dX9_section_5 : decode cX9_section 5 = .ok (.iload_n 1, 1) := by decide +kernel
theorem dX9_section_6 : decode cX9_section 6 = .ok (.ifCond .lt 11, 3) := by decide +kernel
theorem dX9_section_9 : decode cX9_section 9 = .ok (.iload_n 1, 1) := by decide +kernel
theorem dX9_section_10 : decode cX9_section 10 = .ok (.aload_n 0, 1) := by decide +kernel
theorem dX9_section_11 : decode cX9_section 11 = .ok (.getfield 143, 3) := by decide +kernel
theorem dX9_section_14 : decode cX9_section 14 = .ok (.if_icmp .lt 7, 3) := by decide +kernel
theorem dX9_section_17 : decode cX9_section 17 = .ok (.iconst (-1), 1) := by decide +kernel
theorem dX9_section_18 : decode cX9_section 18 = .ok (.goto 9, 3) := by decide +kernel
theorem dX9_section_21 : decode cX9_section 21 = .ok (.aload_n 0, 1) := by decide +kernel
theorem dX9_section_22 : decode cX9_section 22 = .ok (.getfield 32, 3) := by decide +kernel
theorem dX9_section_25 : decode cX9_section 25 = .ok (.iload_n 1, 1) := by decide +kernel
theorem dX9_section_26 : decode cX9_section 26 = .ok (.iaload, 1) := by decide +kernel
theorem dX9_section_27 : decode cX9_section 27 = .ok (.ireturn, 1) := by decide +kernel
theorem dX9_poke_0 : decode cX9_poke 0 = .ok (.aload_n 0, 1) := by decide +kernel
theorem dX9_poke_1 : decode cX9_poke 1 = .ok (.iconst 0, 1) := by decide +kernel
theorem dX9_poke_2 : decode cX9_poke 2 = .ok (.putfield 59, 3) := by decide +kernel
theorem dX9_poke_5 : decode cX9_poke 5 = .ok (.iload_n 1, 1) := by decide +kernel
theorem dX9_poke_6 : decode cX9_poke 6 = .ok (.ifCond .lt 22, 3) := by decide +kernel
theorem dX9_poke_9 : decode cX9_poke 9 = .ok (.iload_n 1, 1) := by decide +kernel
theorem dX9_poke_10 : decode cX9_poke 10 = .ok (.aload_n 0, 1) := by decide +kernel
theorem dX9_poke_11 : decode cX9_poke 11 = .ok (.getfield 143, 3) := by decide +kernel
theorem dX9_poke_14 : decode cX9_poke 14 = .ok (.if_icmp .ge 14, 3) := by decide +kernel
theorem dX9_poke_17 : decode cX9_poke 17 = .ok (.iload_n 2, 1) := by decide +kernel
theorem dX9_poke_18 : decode cX9_poke 18 = .ok (.ifCond .lt 10, 3) := by decide +kernel
theorem dX9_poke_21 : decode cX9_poke 21 = .ok (.iload_n 2, 1) := by decide +kernel
theorem dX9_poke_22 : decode cX9_poke 22 = .ok (.sipush 255, 3) := by decide +kernel
theorem dX9_poke_25 : decode cX9_poke 25 = .ok (.if_icmp .le 5, 3) := by decide +kernel
theorem dX9_poke_28 : decode cX9_poke 28 = .ok (.iconst 0, 1) := by decide +kernel
theorem dX9_poke_29 : decode cX9_poke 29 = .ok (.ireturn, 1) := by decide +kernel
theorem dX9_poke_30 : decode cX9_poke 30 = .ok (.aload_n 0, 1) := by decide +kernel
theorem dX9_poke_31 : decode cX9_poke 31 = .ok (.getfield 32, 3) := by decide +kernel
theorem dX9_poke_34 : decode cX9_poke 34 = .ok (.iload_n 1, 1) := by decide +kernel
theorem dX9_poke_35 : decode cX9_poke 35 = .ok (.iload_n 2, 1) := by decide +kernel
theorem dX9_poke_36 : decode cX9_poke 36 = .ok (.iastore, 1) := by decide +kernel
theorem dX9_poke_37 : decode cX9_poke 37 = .ok (.iconst 1, 1) := by decide +kernel
theorem dX9_poke_38 : decode cX9_poke 38 = .ok (.ireturn, 1) := by decide +kernel
theorem dX9_readProgram_0 : decode cX9_readProgram 0 = .ok (.aload_n 0, 1) := by decide +kernel
theorem dX9_readProgram_1 : decode cX9_readProgram 1 = .ok (.getfield 41, 3) := by decide +kernel
theorem dX9_readProgram_4 : decode cX9_readProgram 4 = .ok (.iconst 0, 1) := by decide +kernel
theorem dX9_readProgram_5 : decode cX9_readProgram 5 = .ok (.iconst 0, 1) := by decide +kernel
theorem dX9_readProgram_6 : decode cX9_readProgram 6 = .ok (.iastore, 1) := by decide +kernel
theorem dX9_readProgram_7 : decode cX9_readProgram 7 = .ok (.aload_n 0, 1) := by decide +kernel
theorem dX9_readProgram_8 : decode cX9_readProgram 8 = .ok (.getfield 41, 3) := by decide +kernel
theorem dX9_readProgram_11 : decode cX9_readProgram 11 = .ok (.iconst 1, 1) := by decide +kernel
theorem dX9_readProgram_12 : decode cX9_readProgram 12 = .ok (.iconst 1, 1) := by decide +kernel
theorem dX9_readProgram_13 : decode cX9_readProgram 13 = .ok (.iastore, 1) := by decide +kernel
theorem dX9_readProgram_14 : decode cX9_readProgram 14 = .ok (.iconst 2, 1) := by decide +kernel
theorem dX9_readProgram_15 : decode cX9_readProgram 15 = .ok (.istore 6, 2) := by decide +kernel
theorem dX9_readProgram_17 : decode cX9_readProgram 17 = .ok (.iload 6, 2) := by decide +kernel
theorem dX9_readProgram_19 : decode cX9_readProgram 19 = .ok (.iconst 5, 1) := by decide +kernel
theorem dX9_readProgram_20 : decode cX9_readProgram 20 = .ok (.if_icmp .ge 17, 3) := by decide +kernel
theorem dX9_readProgram_23 : decode cX9_readProgram 23 = .ok (.aload_n 0, 1) := by decide +kernel
theorem dX9_readProgram_24 : decode cX9_readProgram 24 = .ok (.getfield 41, 3) := by decide +kernel
theorem dX9_readProgram_27 : decode cX9_readProgram 27 = .ok (.iload 6, 2) := by decide +kernel
theorem dX9_readProgram_29 : decode cX9_readProgram 29 = .ok (.iconst 0, 1) := by decide +kernel
theorem dX9_readProgram_30 : decode cX9_readProgram 30 = .ok (.iastore, 1) := by decide +kernel
theorem dX9_readProgram_31 : decode cX9_readProgram 31 = .ok (.iinc 6 1, 3) := by decide +kernel
theorem dX9_readProgram_34 : decode cX9_readProgram 34 = .ok (.goto (-17), 3) := by decide +kernel
theorem dX9_readProgram_37 : decode cX9_readProgram 37 = .ok (.iload_n 3, 1) := by decide +kernel
theorem dX9_readProgram_38 : decode cX9_readProgram 38 = .ok (.istore 6, 2) := by decide +kernel
theorem dX9_readProgram_40 : decode cX9_readProgram 40 = .ok (.iconst 0, 1) := by decide +kernel
theorem dX9_readProgram_41 : decode cX9_readProgram 41 = .ok (.istore 7, 2) := by decide +kernel
theorem dX9_readProgram_43 : decode cX9_readProgram 43 = .ok (.aload_n 0, 1) := by decide +kernel
theorem dX9_readProgram_44 : decode cX9_readProgram 44 = .ok (.iload 6, 2) := by decide +kernel
theorem dX9_readProgram_46 : decode cX9_readProgram 46 = .ok (.iload 5, 2) := by decide +kernel
theorem dX9_readProgram_48 : decode cX9_readProgram 48 = .ok (.if_icmp .gt 7, 3) := by decide +kernel
theorem dX9_readProgram_51 : decode cX9_readProgram 51 = .ok (.iconst 1, 1) := by decide +kernel
theorem dX9_readProgram_52 : decode cX9_readProgram 52 = .ok (.goto 4, 3) := by decide +kernel
theorem dX9_readProgram_55 : decode cX9_readProgram 55 = .ok (.iconst 0, 1) := by decide +kernel
theorem dX9_readProgram_56 : decode cX9_readProgram 56 = .ok (.invokevirtual 146, 3) := by decide +kernel
theorem dX9_readProgram_59 : decode cX9_readProgram 59 = .ok (.iload_n 1, 1) := by decide +kernel
theorem dX9_readProgram_60 : decode cX9_readProgram 60 = .ok (.istore 8, 2) := by decide +kernel
theorem dX9_readProgram_62 : decode cX9_readProgram 62 = .ok (.iload 8, 2) := by decide +kernel
theorem dX9_readProgram_64 : decode cX9_readProgram 64 = .ok (.iload_n 2, 1) := by decide +kernel
theorem dX9_readProgram_65 : decode cX9_readProgram 65 = .ok (.if_icmp .ge 436, 3) := by decide +kernel
theorem dX9_readProgram_68 : decode cX9_readProgram 68 = .ok (.aload_n 0, 1) := by decide +kernel
theorem dX9_readProgram_69 : decode cX9_readProgram 69 = .ok (.getfield 32, 3) := by decide +kernel
theorem dX9_readProgram_72 : decode cX9_readProgram 72 = .ok (.iload 8, 2) := by decide +kernel
theorem dX9_readProgram_74 : decode cX9_readProgram 74 = .ok (.iaload, 1) := by decide +kernel
theorem dX9_readProgram_75 : decode cX9_readProgram 75 = .ok (.istore 9, 2) := by decide +kernel
theorem dX9_readProgram_77 : decode cX9_readProgram 77 = .ok (.iload 9, 2) := by decide +kernel
theorem dX9_readProgram_79 : decode cX9_readProgram 79 = .ok (.iconst 2, 1) := by decide +kernel
theorem dX9_readProgram_80 : decode cX9_readProgram 80 = .ok (.if_icmp .eq 32, 3) := by decide +kernel
theorem dX9_readProgram_83 : decode cX9_readProgram 83 = .ok (.iload 9, 2) := by decide +kernel
theorem dX9_readProgram_85 : decode cX9_readProgram 85 = .ok (.bipush 13, 2) := by decide +kernel
theorem dX9_readProgram_87 : decode cX9_readProgram 87 = .ok (.if_icmp .eq 25, 3) := by decide +kernel
theorem dX9_readProgram_90 : decode cX9_readProgram 90 = .ok (.iload 9, 2) := by decide +kernel
theorem dX9_readProgram_92 : decode cX9_readProgram 92 = .ok (.bipush 14, 2) := by decide +kernel
theorem dX9_readProgram_94 : decode cX9_readProgram 94 = .ok (.if_icmp .eq 18, 3) := by decide +kernel
theorem dX9_readProgram_97 : decode cX9_readProgram 97 = .ok (.iload 9, 2) := by decide +kernel
theorem dX9_readProgram_99 : decode cX9_readProgram 99 = .ok (.bipush 127, 2) := by decide +kernel
theorem dX9_readProgram_101 : decode cX9_readProgram 101 = .ok (.if_icmp .le 15, 3) := by decide +kernel
theorem dX9_readProgram_104 : decode cX9_readProgram 104 = .ok (.iload 9, 2) := by decide +kernel
theorem dX9_readProgram_106 : decode cX9_readProgram 106 = .ok (.sipush 131, 3) := by decide +kernel
theorem dX9_readProgram_109 : decode cX9_readProgram 109 = .ok (.if_icmp .ge 7, 3) := by decide +kernel
theorem dX9_readProgram_112 : decode cX9_readProgram 112 = .ok (.iconst 1, 1) := by decide +kernel
theorem dX9_readProgram_113 : decode cX9_readProgram 113 = .ok (.goto 15, 3) := by decide +kernel
theorem dX9_readProgram_116 : decode cX9_readProgram 116 = .ok (.iload 9, 2) := by decide +kernel
theorem dX9_readProgram_118 : decode cX9_readProgram 118 = .ok (.bipush 12, 2) := by decide +kernel
theorem dX9_readProgram_120 : decode cX9_readProgram 120 = .ok (.if_icmp .ne 7, 3) := by decide +kernel
theorem dX9_readProgram_123 : decode cX9_readProgram 123 = .ok (.iconst 2, 1) := by decide +kernel
theorem dX9_readProgram_124 : decode cX9_readProgram 124 = .ok (.goto 4, 3) := by decide +kernel
theorem dX9_readProgram_127 : decode cX9_readProgram 127 = .ok (.iconst 0, 1) := by decide +kernel
theorem dX9_readProgram_128 : decode cX9_readProgram 128 = .ok (.istore 10, 2) := by decide +kernel
theorem dX9_readProgram_130 : decode cX9_readProgram 130 = .ok (.iload 8, 2) := by decide +kernel
theorem dX9_readProgram_132 : decode cX9_readProgram 132 = .ok (.iload 10, 2) := by decide +kernel
theorem dX9_readProgram_134 : decode cX9_readProgram 134 = .ok (.iadd, 1) := by decide +kernel
theorem dX9_readProgram_135 : decode cX9_readProgram 135 = .ok (.iload_n 2, 1) := by decide +kernel
theorem dX9_readProgram_136 : decode cX9_readProgram 136 = .ok (.if_icmp .lt 5, 3) := by decide +kernel
theorem dX9_readProgram_139 : decode cX9_readProgram 139 = .ok (.iconst 0, 1) := by decide +kernel
theorem dX9_readProgram_140 : decode cX9_readProgram 140 = .ok (.ireturn, 1) := by decide +kernel
theorem dX9_readProgram_141 : decode cX9_readProgram 141 = .ok (.iload 10, 2) := by decide +kernel
theorem dX9_readProgram_143 : decode cX9_readProgram 143 = .ok (.ifCond .le 15, 3) := by decide +kernel
theorem dX9_readProgram_146 : decode cX9_readProgram 146 = .ok (.aload_n 0, 1) := by decide +kernel
theorem dX9_readProgram_147 : decode cX9_readProgram 147 = .ok (.getfield 32, 3) := by decide +kernel
theorem dX9_readProgram_150 : decode cX9_readProgram 150 = .ok (.iload 8, 2) := by decide +kernel
theorem dX9_readProgram_152 : decode cX9_readProgram 152 = .ok (.iconst 1, 1) := by decide +kernel
theorem dX9_readProgram_153 : decode cX9_readProgram 153 = .ok (.iadd, 1) := by decide +kernel
theorem dX9_readProgram_154 : decode cX9_readProgram 154 = .ok (.iaload, 1) := by decide +kernel
theorem dX9_readProgram_155 : decode cX9_readProgram 155 = .ok (.goto 4, 3) := by decide +kernel
theorem dX9_readProgram_158 : decode cX9_readProgram 158 = .ok (.iconst 0, 1) := by decide +kernel
theorem dX9_readProgram_159 : decode cX9_readProgram 159 = .ok (.istore 11, 2) := by decide +kernel
theorem dX9_readProgram_161 : decode cX9_readProgram 161 = .ok (.iload 9, 2) := by decide +kernel
theorem dX9_readProgram_163 : decode cX9_readProgram 163 = .ok (.iconst 2, 1) := by decide +kernel
theorem dX9_readProgram_164 : decode cX9_readProgram 164 = .ok (.if_icmp .eq 18, 3) := by decide +kernel
theorem dX9_readProgram_167 : decode cX9_readProgram 167 = .ok (.iload 9, 2) := by decide +kernel
theorem dX9_readProgram_169 : decode cX9_readProgram 169 = .ok (.bipush 63, 2) := by decide +kernel
theorem dX9_readProgram_171 : decode cX9_readProgram 171 = .ok (.if_icmp .le 43, 3) := by decide +kernel
theorem dX9_readProgram_174 : decode cX9_readProgram 174 = .ok (.iload 9, 2) := by decide +kernel
theorem dX9_readProgram_176 : decode cX9_readProgram 176 = .ok (.sipush 128, 3) := by decide +kernel
theorem dX9_readProgram_179 : decode cX9_readProgram 179 = .ok (.if_icmp .ge 35, 3) := by decide +kernel
theorem dX9_readProgram_182 : decode cX9_readProgram 182 = .ok (.iload 6, 2) := by decide +kernel
theorem dX9_readProgram_184 : decode cX9_readProgram 184 = .ok (.iload 9, 2) := by decide +kernel
theorem dX9_readProgram_186 : decode cX9_readProgram 186 = .ok (.iconst 2, 1) := by decide +kernel
theorem dX9_readProgram_187 : decode cX9_readProgram 187 = .ok (.if_icmp .ne 8, 3) := by decide +kernel
theorem dX9_readProgram_190 : decode cX9_readProgram 190 = .ok (.iload 11, 2) := by decide +kernel
theorem dX9_readProgram_192 : decode cX9_readProgram 192 = .ok (.goto 8, 3) := by decide +kernel
theorem dX9_readProgram_195 : decode cX9_readProgram 195 = .ok (.iload 9, 2) := by decide +kernel
theorem dX9_readProgram_197 : decode cX9_readProgram 197 = .ok (.bipush 64, 2) := by decide +kernel
theorem dX9_readProgram_199 : decode cX9_readProgram 199 = .ok (.isub, 1) := by decide +kernel
theorem dX9_readProgram_200 : decode cX9_readProgram 200 = .ok (.iadd, 1) := by decide +kernel
theorem dX9_readProgram_201 : decode cX9_readProgram 201 = .ok (.istore 6, 2) := by decide +kernel
theorem dX9_readProgram_203 : decode cX9_readProgram 203 = .ok (.iload 6, 2) := by decide +kernel
theorem dX9_readProgram_205 : decode cX9_readProgram 205 = .ok (.iload_n 3, 1) := by decide +kernel
theorem dX9_readProgram_206 : decode cX9_readProgram 206 = .ok (.iload 4, 2) := by decide +kernel
theorem dX9_readProgram_208 : decode cX9_readProgram 208 = .ok (.iadd, 1) := by decide +kernel
theorem dX9_readProgram_209 : decode cX9_readProgram 209 = .ok (.if_icmp .lt 264, 3) := by decide +kernel
theorem dX9_readProgram_212 : decode cX9_readProgram 212 = .ok (.iconst 0, 1) := by decide +kernel
theorem dX9_readProgram_213 : decode cX9_readProgram 213 = .ok (.ireturn, 1) := by decide +kernel
theorem dX9_readProgram_214 : decode cX9_readProgram 214 = .ok (.iload 9, 2) := by decide +kernel
theorem dX9_readProgram_216 : decode cX9_readProgram 216 = .ok (.bipush 10, 2) := by decide +kernel
theorem dX9_readProgram_218 : decode cX9_readProgram 218 = .ok (.if_icmp .ne 51, 3) := by decide +kernel
theorem dX9_readProgram_221 : decode cX9_readProgram 221 = .ok (.iload 7, 2) := by decide +kernel
theorem dX9_readProgram_223 : decode cX9_readProgram 223 = .ok (.iconst 4, 1) := by decide +kernel
theorem dX9_readProgram_224 : decode cX9_readProgram 224 = .ok (.if_icmp .ne 5, 3) := by decide +kernel
theorem dX9_readProgram_227 : decode cX9_readProgram 227 = .ok (.iconst 0, 1) := by decide +kernel
theorem dX9_readProgram_228 : decode cX9_readProgram 228 = .ok (.ireturn, 1) := by decide +kernel
theorem dX9_readProgram_229 : decode cX9_readProgram 229 = .ok (.iconst 0, 1) := by decide +kernel
theorem dX9_readProgram_230 : decode cX9_readProgram 230 = .ok (.istore 12, 2) := by decide +kernel
theorem dX9_readProgram_232 : decode cX9_readProgram 232 = .ok (.iload 12, 2) := by decide +kernel
theorem dX9_readProgram_234 : decode cX9_readProgram 234 = .ok (.iconst 5, 1) := by decide +kernel
theorem dX9_readProgram_235 : decode cX9_readProgram 235 = .ok (.if_icmp .ge 28, 3) := by decide +kernel
theorem dX9_readProgram_238 : decode cX9_readProgram 238 = .ok (.aload_n 0, 1) := by decide +kernel
theorem dX9_readProgram_239 : decode cX9_readProgram 239 = .ok (.getfield 44, 3) := by decide +kernel
theorem dX9_readProgram_242 : decode cX9_readProgram 242 = .ok (.iconst 5, 1) := by decide +kernel
theorem dX9_readProgram_243 : decode cX9_readProgram 243 = .ok (.iload 7, 2) := by decide +kernel
theorem dX9_readProgram_245 : decode cX9_readProgram 245 = .ok (.imul, 1) := by decide +kernel
theorem dX9_readProgram_246 : decode cX9_readProgram 246 = .ok (.iload 12, 2) := by decide +kernel
theorem dX9_readProgram_248 : decode cX9_readProgram 248 = .ok (.iadd, 1) := by decide +kernel
theorem dX9_readProgram_249 : decode cX9_readProgram 249 = .ok (.aload_n 0, 1) := by decide +kernel
theorem dX9_readProgram_250 : decode cX9_readProgram 250 = .ok (.getfield 41, 3) := by decide +kernel
theorem dX9_readProgram_253 : decode cX9_readProgram 253 = .ok (.iload 12, 2) := by decide +kernel
theorem dX9_readProgram_255 : decode cX9_readProgram 255 = .ok (.iaload, 1) := by decide +kernel
theorem dX9_readProgram_256 : decode cX9_readProgram 256 = .ok (.iastore, 1) := by decide +kernel
theorem dX9_readProgram_257 : decode cX9_readProgram 257 = .ok (.iinc 12 1, 3) := by decide +kernel
theorem dX9_readProgram_260 : decode cX9_readProgram 260 = .ok (.goto (-28), 3) := by decide +kernel
theorem dX9_readProgram_263 : decode cX9_readProgram 263 = .ok (.iinc 7 1, 3) := by decide +kernel
theorem dX9_readProgram_266 : decode cX9_readProgram 266 = .ok (.goto 207, 3) := by decide +kernel
theorem dX9_readProgram_269 : decode cX9_readProgram 269 = .ok (.iload 9, 2) := by decide +kernel
theorem dX9_readProgram_271 : decode cX9_readProgram 271 = .ok (.bipush 11, 2) := by decide +kernel
theorem dX9_readProgram_273 : decode cX9_readProgram 273 = .ok (.if_icmp .ne 50, 3) := by decide +kernel
theorem dX9_readProgram_276 : decode cX9_readProgram 276 = .ok (.iload 7, 2) := by decide +kernel
theorem dX9_readProgram_278 : decode cX9_readProgram 278 = .ok (.ifCond .ne 5, 3) := by decide +kernel
theorem dX9_readProgram_281 : decode cX9_readProgram 281 = .ok (.iconst 0, 1) := by decide +kernel
theorem dX9_readProgram_282 : decode cX9_readProgram 282 = .ok (.ireturn, 1) := by decide +kernel
theorem dX9_readProgram_283 : decode cX9_readProgram 283 = .ok (.iinc 7 (-1), 3) := by decide +kernel
theorem dX9_readProgram_286 : decode cX9_readProgram 286 = .ok (.iconst 0, 1) := by decide +kernel
theorem dX9_readProgram_287 : decode cX9_readProgram 287 = .ok (.istore 12, 2) := by decide +kernel
theorem dX9_readProgram_289 : decode cX9_readProgram 289 = .ok (.iload 12, 2) := by decide +kernel
theorem dX9_readProgram_291 : decode cX9_readProgram 291 = .ok (.iconst 5, 1) := by decide +kernel
theorem dX9_readProgram_292 : decode cX9_readProgram 292 = .ok (.if_icmp .ge 28, 3) := by decide +kernel
theorem dX9_readProgram_295 : decode cX9_readProgram 295 = .ok (.aload_n 0, 1) := by decide +kernel
theorem dX9_readProgram_296 : decode cX9_readProgram 296 = .ok (.getfield 41, 3) := by decide +kernel
theorem dX9_readProgram_299 : decode cX9_readProgram 299 = .ok (.iload 12, 2) := by decide +kernel
theorem dX9_readProgram_301 : decode cX9_readProgram 301 = .ok (.aload_n 0, 1) := by decide +kernel
theorem dX9_readProgram_302 : decode cX9_readProgram 302 = .ok (.getfield 44, 3) := by decide +kernel
theorem dX9_readProgram_305 : decode cX9_readProgram 305 = .ok (.iconst 5, 1) := by decide +kernel
theorem dX9_readProgram_306 : decode cX9_readProgram 306 = .ok (.iload 7, 2) := by decide +kernel
theorem dX9_readProgram_308 : decode cX9_readProgram 308 = .ok (.imul, 1) := by decide +kernel
theorem dX9_readProgram_309 : decode cX9_readProgram 309 = .ok (.iload 12, 2) := by decide +kernel
theorem dX9_readProgram_311 : decode cX9_readProgram 311 = .ok (.iadd, 1) := by decide +kernel
theorem dX9_readProgram_312 : decode cX9_readProgram 312 = .ok (.iaload, 1) := by decide +kernel
theorem dX9_readProgram_313 : decode cX9_readProgram 313 = .ok (.iastore, 1) := by decide +kernel
theorem dX9_readProgram_314 : decode cX9_readProgram 314 = .ok (.iinc 12 1, 3) := by decide +kernel
theorem dX9_readProgram_317 : decode cX9_readProgram 317 = .ok (.goto (-28), 3) := by decide +kernel
theorem dX9_readProgram_320 : decode cX9_readProgram 320 = .ok (.goto 153, 3) := by decide +kernel
theorem dX9_readProgram_323 : decode cX9_readProgram 323 = .ok (.iload 9, 2) := by decide +kernel
theorem dX9_readProgram_325 : decode cX9_readProgram 325 = .ok (.bipush 12, 2) := by decide +kernel
theorem dX9_readProgram_327 : decode cX9_readProgram 327 = .ok (.if_icmp .eq 10, 3) := by decide +kernel
theorem dX9_readProgram_330 : decode cX9_readProgram 330 = .ok (.iload 9, 2) := by decide +kernel
theorem dX9_readProgram_332 : decode cX9_readProgram 332 = .ok (.bipush 13, 2) := by decide +kernel
theorem dX9_readProgram_334 : decode cX9_readProgram 334 = .ok (.if_icmp .ne 53, 3) := by decide +kernel
theorem dX9_readProgram_337 : decode cX9_readProgram 337 = .ok (.iload 11, 2) := by decide +kernel
theorem dX9_readProgram_339 : decode cX9_readProgram 339 = .ok (.iconst 1, 1) := by decide +kernel
theorem dX9_readProgram_340 : decode cX9_readProgram 340 = .ok (.if_icmp .le 5, 3) := by decide +kernel
theorem dX9_readProgram_343 : decode cX9_readProgram 343 = .ok (.iconst 0, 1) := by decide +kernel
theorem dX9_readProgram_344 : decode cX9_readProgram 344 = .ok (.ireturn, 1) := by decide +kernel
theorem dX9_readProgram_345 : decode cX9_readProgram 345 = .ok (.aload_n 0, 1) := by decide +kernel
theorem dX9_readProgram_346 : decode cX9_readProgram 346 = .ok (.getfield 41, 3) := by decide +kernel
theorem dX9_readProgram_349 : decode cX9_readProgram 349 = .ok (.iconst 0, 1) := by decide +kernel
theorem dX9_readProgram_350 : decode cX9_readProgram 350 = .ok (.iload 11, 2) := by decide +kernel
theorem dX9_readProgram_352 : decode cX9_readProgram 352 = .ok (.iastore, 1) := by decide +kernel
theorem dX9_readProgram_353 : decode cX9_readProgram 353 = .ok (.aload_n 0, 1) := by decide +kernel
theorem dX9_readProgram_354 : decode cX9_readProgram 354 = .ok (.getfield 41, 3) := by decide +kernel
theorem dX9_readProgram_357 : decode cX9_readProgram 357 = .ok (.iconst 1, 1) := by decide +kernel
theorem dX9_readProgram_358 : decode cX9_readProgram 358 = .ok (.iload 9, 2) := by decide +kernel
theorem dX9_readProgram_360 : decode cX9_readProgram 360 = .ok (.bipush 12, 2) := by decide +kernel
theorem dX9_readProgram_362 : decode cX9_readProgram 362 = .ok (.if_icmp .ne 15, 3) := by decide +kernel
theorem dX9_readProgram_365 : decode cX9_readProgram 365 = .ok (.aload_n 0, 1) := by decide +kernel
theorem dX9_readProgram_366 : decode cX9_readProgram 366 = .ok (.getfield 32, 3) := by decide +kernel
theorem dX9_readProgram_369 : decode cX9_readProgram 369 = .ok (.iload 8, 2) := by decide +kernel
theorem dX9_readProgram_371 : decode cX9_readProgram 371 = .ok (.iconst 2, 1) := by decide +kernel
theorem dX9_readProgram_372 : decode cX9_readProgram 372 = .ok (.iadd, 1) := by decide +kernel
theorem dX9_readProgram_373 : decode cX9_readProgram 373 = .ok (.iaload, 1) := by decide +kernel
theorem dX9_readProgram_374 : decode cX9_readProgram 374 = .ok (.goto 9, 3) := by decide +kernel
theorem dX9_readProgram_377 : decode cX9_readProgram 377 = .ok (.aload_n 0, 1) := by decide +kernel
theorem dX9_readProgram_378 : decode cX9_readProgram 378 = .ok (.getfield 41, 3) := by decide +kernel
theorem dX9_readProgram_381 : decode cX9_readProgram 381 = .ok (.iconst 1, 1) := by decide +kernel
theorem dX9_readProgram_382 : decode cX9_readProgram 382 = .ok (.iaload, 1) := by decide +kernel
theorem dX9_readProgram_383 : decode cX9_readProgram 383 = .ok (.iastore, 1) := by decide +kernel
theorem dX9_readProgram_384 : decode cX9_readProgram 384 = .ok (.goto 89, 3) := by decide +kernel
theorem dX9_readProgram_387 : decode cX9_readProgram 387 = .ok (.iload 9, 2) := by decide +kernel
theorem dX9_readProgram_389 : decode cX9_readProgram 389 = .ok (.bipush 14, 2) := by decide +kernel
theorem dX9_readProgram_391 : decode cX9_readProgram 391 = .ok (.if_icmp .ne 14, 3) := by decide +kernel
theorem dX9_readProgram_394 : decode cX9_readProgram 394 = .ok (.aload_n 0, 1) := by decide +kernel
theorem dX9_readProgram_395 : decode cX9_readProgram 395 = .ok (.getfield 41, 3) := by decide +kernel
theorem dX9_readProgram_398 : decode cX9_readProgram 398 = .ok (.iconst 1, 1) := by decide +kernel
theorem dX9_readProgram_399 : decode cX9_readProgram 399 = .ok (.iload 11, 2) := by decide +kernel
theorem dX9_readProgram_401 : decode cX9_readProgram 401 = .ok (.iastore, 1) := by decide +kernel
theorem dX9_readProgram_402 : decode cX9_readProgram 402 = .ok (.goto 71, 3) := by decide +kernel
theorem dX9_readProgram_405 : decode cX9_readProgram 405 = .ok (.iload 9, 2) := by decide +kernel
theorem dX9_readProgram_407 : decode cX9_readProgram 407 = .ok (.bipush 127, 2) := by decide +kernel
theorem dX9_readProgram_409 : decode cX9_readProgram 409 = .ok (.if_icmp .le 26, 3) := by decide +kernel
theorem dX9_readProgram_412 : decode cX9_readProgram 412 = .ok (.iload 9, 2) := by decide +kernel
theorem dX9_readProgram_414 : decode cX9_readProgram 414 = .ok (.sipush 131, 3) := by decide +kernel
theorem dX9_readProgram_417 : decode cX9_readProgram 417 = .ok (.if_icmp .ge 18, 3) := by decide +kernel
theorem dX9_readProgram_420 : decode cX9_readProgram 420 = .ok (.aload_n 0, 1) := by decide +kernel
theorem dX9_readProgram_421 : decode cX9_readProgram 421 = .ok (.getfield 41, 3) := by decide +kernel
theorem dX9_readProgram_424 : decode cX9_readProgram 424 = .ok (.iload 9, 2) := by decide +kernel
theorem dX9_readProgram_426 : decode cX9_readProgram 426 = .ok (.bipush 126, 2) := by decide +kernel
theorem dX9_readProgram_428 : decode cX9_readProgram 428 = .ok (.isub, 1) := by decide +kernel
theorem dX9_readProgram_429 : decode cX9_readProgram 429 = .ok (.iload 11, 2) := by decide +kernel
theorem dX9_readProgram_431 : decode cX9_readProgram 431 = .ok (.iastore, 1) := by decide +kernel
theorem dX9_readProgram_432 : decode cX9_readProgram 432 = .ok (.goto 41, 3) := by decide +kernel
theorem dX9_readProgram_435 : decode cX9_readProgram 435 = .ok (.iload 9, 2) := by decide +kernel
theorem dX9_readProgram_437 : decode cX9_readProgram 437 = .ok (.sipush 191, 3) := by decide +kernel
theorem dX9_readProgram_440 : decode cX9_readProgram 440 = .ok (.if_icmp .le 26, 3) := by decide +kernel
theorem dX9_readProgram_443 : decode cX9_readProgram 443 = .ok (.iload 9, 2) := by decide +kernel
theorem dX9_readProgram_445 : decode cX9_readProgram 445 = .ok (.sipush 195, 3) := by decide +kernel
theorem dX9_readProgram_448 : decode cX9_readProgram 448 = .ok (.if_icmp .ge 18, 3) := by decide +kernel
theorem dX9_readProgram_451 : decode cX9_readProgram 451 = .ok (.aload_n 0, 1) := by decide +kernel
theorem dX9_readProgram_452 : decode cX9_readProgram 452 = .ok (.getfield 41, 3) := by decide +kernel
theorem dX9_readProgram_455 : decode cX9_readProgram 455 = .ok (.iload 9, 2) := by decide +kernel
theorem dX9_readProgram_457 : decode cX9_readProgram 457 = .ok (.sipush 190, 3) := by decide +kernel
theorem dX9_readProgram_460 : decode cX9_readProgram 460 = .ok (.isub, 1) := by decide +kernel
theorem dX9_readProgram_461 : decode cX9_readProgram 461 = .ok (.iconst 0, 1) := by decide +kernel
theorem dX9_readProgram_462 : decode cX9_readProgram 462 = .ok (.iastore, 1) := by decide +kernel
theorem dX9_readProgram_463 : decode cX9_readProgram 463 = .ok (.goto 10, 3) := by decide +kernel
theorem dX9_readProgram_466 : decode cX9_readProgram 466 = .ok (.iload 9, 2) := by decide +kernel
theorem dX9_readProgram_468 : decode cX9_readProgram 468 = .ok (.ifCond .eq 5, 3) := by decide +kernel
theorem dX9_readProgram_471 : decode cX9_readProgram 471 = .ok (.iconst 0, 1) := by decide +kernel
theorem dX9_readProgram_472 : decode cX9_readProgram 472 = .ok (.ireturn, 1) := by decide +kernel
theorem dX9_readProgram_473 : decode cX9_readProgram 473 = .ok (.iload 8, 2) := by decide +kernel
theorem dX9_readProgram_475 : decode cX9_readProgram 475 = .ok (.iconst 1, 1) := by decide +kernel
theorem dX9_readProgram_476 : decode cX9_readProgram 476 = .ok (.iload 10, 2) := by decide +kernel
theorem dX9_readProgram_478 : decode cX9_readProgram 478 = .ok (.iadd, 1) := by decide +kernel
theorem dX9_readProgram_479 : decode cX9_readProgram 479 = .ok (.iadd, 1) := by decide +kernel
theorem dX9_readProgram_480 : decode cX9_readProgram 480 = .ok (.istore 8, 2) := by decide +kernel
theorem dX9_readProgram_482 : decode cX9_readProgram 482 = .ok (.aload_n 0, 1) := by decide +kernel
theorem dX9_readProgram_483 : decode cX9_readProgram 483 = .ok (.iload 6, 2) := by decide +kernel
theorem dX9_readProgram_485 : decode cX9_readProgram 485 = .ok (.iload 5, 2) := by decide +kernel
theorem dX9_readProgram_487 : decode cX9_readProgram 487 = .ok (.if_icmp .gt 7, 3) := by decide +kernel
theorem dX9_readProgram_490 : decode cX9_readProgram 490 = .ok (.iconst 1, 1) := by decide +kernel
theorem dX9_readProgram_491 : decode cX9_readProgram 491 = .ok (.goto 4, 3) := by decide +kernel
theorem dX9_readProgram_494 : decode cX9_readProgram 494 = .ok (.iconst 0, 1) := by decide +kernel
theorem dX9_readProgram_495 : decode cX9_readProgram 495 = .ok (.invokevirtual 146, 3) := by decide +kernel
theorem dX9_readProgram_498 : decode cX9_readProgram 498 = .ok (.goto (-436), 3) := by decide +kernel
theorem dX9_readProgram_501 : decode cX9_readProgram 501 = .ok (.iconst 1, 1) := by decide +kernel
theorem dX9_readProgram_502 : decode cX9_readProgram 502 = .ok (.ireturn, 1) := by decide +kernel
theorem dX9_keep_0 : decode cX9_keep 0 = .ok (.iconst 0, 1) := by decide +kernel
theorem dX9_keep_1 : decode cX9_keep 1 = .ok (.istore_n 2, 1) := by decide +kernel
theorem dX9_keep_2 : decode cX9_keep 2 = .ok (.iload_n 2, 1) := by decide +kernel
theorem dX9_keep_3 : decode cX9_keep 3 = .ok (.iconst 5, 1) := by decide +kernel
theorem dX9_keep_4 : decode cX9_keep 4 = .ok (.if_icmp .ge 25, 3) := by decide +kernel
theorem dX9_keep_7 : decode cX9_keep 7 = .ok (.iload_n 1, 1) := by decide +kernel
theorem dX9_keep_8 : decode cX9_keep 8 = .ok (.ifCond .eq 21, 3) := by decide +kernel
theorem dX9_keep_11 : decode cX9_keep 11 = .ok (.aload_n 0, 1) := by decide +kernel
theorem dX9_keep_12 : decode cX9_keep 12 = .ok (.getfield 38, 3) := by decide +kernel
theorem dX9_keep_15 : decode cX9_keep 15 = .ok (.iload_n 2, 1) := by decide +kernel
theorem dX9_keep_16 : decode cX9_keep 16 = .ok (.aload_n 0, 1) := by decide +kernel
theorem dX9_keep_17 : decode cX9_keep 17 = .ok (.getfield 41, 3) := by decide +kernel
theorem dX9_keep_20 : decode cX9_keep 20 = .ok (.iload_n 2, 1) := by decide +kernel
theorem dX9_keep_21 : decode cX9_keep 21 = .ok (.iaload, 1) := by decide +kernel
theorem dX9_keep_22 : decode cX9_keep 22 = .ok (.iastore, 1) := by decide +kernel
theorem dX9_keep_23 : decode cX9_keep 23 = .ok (.iinc 2 1, 3) := by decide +kernel
theorem dX9_keep_26 : decode cX9_keep 26 = .ok (.goto (-24), 3) := by decide +kernel
theorem dX9_keep_29 : decode cX9_keep 29 = .ok (.return_, 1) := by decide +kernel
theorem dX9_findRow_0 : decode cX9_findRow 0 = .ok (.iconst 0, 1) := by decide +kernel
theorem dX9_findRow_1 : decode cX9_findRow 1 = .ok (.istore_n 2, 1) := by decide +kernel
theorem dX9_findRow_2 : decode cX9_findRow 2 = .ok (.iload_n 2, 1) := by decide +kernel
theorem dX9_findRow_3 : decode cX9_findRow 3 = .ok (.aload_n 0, 1) := by decide +kernel
theorem dX9_findRow_4 : decode cX9_findRow 4 = .ok (.getfield 143, 3) := by decide +kernel
theorem dX9_findRow_7 : decode cX9_findRow 7 = .ok (.if_icmp .ge 124, 3) := by decide +kernel
theorem dX9_findRow_10 : decode cX9_findRow 10 = .ok (.iload_n 2, 1) := by decide +kernel
theorem dX9_findRow_11 : decode cX9_findRow 11 = .ok (.iconst 2, 1) := by decide +kernel
theorem dX9_findRow_12 : decode cX9_findRow 12 = .ok (.iadd, 1) := by decide +kernel
theorem dX9_findRow_13 : decode cX9_findRow 13 = .ok (.aload_n 0, 1) := by decide +kernel
theorem dX9_findRow_14 : decode cX9_findRow 14 = .ok (.getfield 143, 3) := by decide +kernel
theorem dX9_findRow_17 : decode cX9_findRow 17 = .ok (.if_icmp .le 5, 3) := by decide +kernel
theorem dX9_findRow_20 : decode cX9_findRow 20 = .ok (.iconst (-1), 1) := by decide +kernel
theorem dX9_findRow_21 : decode cX9_findRow 21 = .ok (.ireturn, 1) := by decide +kernel
theorem dX9_findRow_22 : decode cX9_findRow 22 = .ok (.sipush 256, 3) := by decide +kernel
theorem dX9_findRow_25 : decode cX9_findRow 25 = .ok (.aload_n 0, 1) := by decide +kernel
theorem dX9_findRow_26 : decode cX9_findRow 26 = .ok (.getfield 32, 3) := by decide +kernel
theorem dX9_findRow_29 : decode cX9_findRow 29 = .ok (.iload_n 2, 1) := by decide +kernel
theorem dX9_findRow_30 : decode cX9_findRow 30 = .ok (.iaload, 1) := by decide +kernel
theorem dX9_findRow_31 : decode cX9_findRow 31 = .ok (.imul, 1) := by decide +kernel
theorem dX9_findRow_32 : decode cX9_findRow 32 = .ok (.aload_n 0, 1) := by decide +kernel
theorem dX9_findRow_33 : decode cX9_findRow 33 = .ok (.getfield 32, 3) := by decide +kernel
theorem dX9_findRow_36 : decode cX9_findRow 36 = .ok (.iload_n 2, 1) := by decide +kernel
theorem dX9_findRow_37 : decode cX9_findRow 37 = .ok (.iconst 1, 1) := by decide +kernel
theorem dX9_findRow_38 : decode cX9_findRow 38 = .ok (.iadd, 1) := by decide +kernel
theorem dX9_findRow_39 : decode cX9_findRow 39 = .ok (.iaload, 1) := by decide +kernel
theorem dX9_findRow_40 : decode cX9_findRow 40 = .ok (.iadd, 1) := by decide +kernel
theorem dX9_findRow_41 : decode cX9_findRow 41 = .ok (.istore_n 3, 1) := by decide +kernel
theorem dX9_findRow_42 : decode cX9_findRow 42 = .ok (.iload_n 3, 1) := by decide +kernel
theorem dX9_findRow_43 : decode cX9_findRow 43 = .ok (.iconst 2, 1) := by decide +kernel
theorem dX9_findRow_44 : decode cX9_findRow 44 = .ok (.if_icmp .lt 15, 3) := by decide +kernel
theorem dX9_findRow_47 : decode cX9_findRow 47 = .ok (.iload_n 2, 1) := by decide +kernel
theorem dX9_findRow_48 : decode cX9_findRow 48 = .ok (.iconst 2, 1) := by decide +kernel
theorem dX9_findRow_49 : decode cX9_findRow 49 = .ok (.iadd, 1) := by decide +kernel
theorem dX9_findRow_50 : decode cX9_findRow 50 = .ok (.iload_n 3, 1) := by decide +kernel
theorem dX9_findRow_51 : decode cX9_findRow 51 = .ok (.iadd, 1) := by decide +kernel
theorem dX9_findRow_52 : decode cX9_findRow 52 = .ok (.aload_n 0, 1) := by decide +kernel
theorem dX9_findRow_53 : decode cX9_findRow 53 = .ok (.getfield 143, 3) := by decide +kernel
theorem dX9_findRow_56 : decode cX9_findRow 56 = .ok (.if_icmp .le 5, 3) := by decide +kernel
theorem dX9_findRow_59 : decode cX9_findRow 59 = .ok (.iconst (-1), 1) := by decide +kernel
theorem dX9_findRow_60 : decode cX9_findRow 60 = .ok (.ireturn, 1) := by decide +kernel
theorem dX9_findRow_61 : decode cX9_findRow 61 = .ok (.aload_n 0, 1) := by decide +kernel
theorem dX9_findRow_62 : decode cX9_findRow 62 = .ok (.getfield 32, 3) := by decide +kernel
theorem dX9_findRow_65 : decode cX9_findRow 65 = .ok (.iload_n 2, 1) := by decide +kernel
theorem dX9_findRow_66 : decode cX9_findRow 66 = .ok (.iconst 2, 1) := by decide +kernel
theorem dX9_findRow_67 : decode cX9_findRow 67 = .ok (.iadd, 1) := by decide +kernel
theorem dX9_findRow_68 : decode cX9_findRow 68 = .ok (.iaload, 1) := by decide +kernel
theorem dX9_findRow_69 : decode cX9_findRow 69 = .ok (.istore 4, 2) := by decide +kernel
theorem dX9_findRow_71 : decode cX9_findRow 71 = .ok (.aload_n 0, 1) := by decide +kernel
theorem dX9_findRow_72 : decode cX9_findRow 72 = .ok (.getfield 32, 3) := by decide +kernel
theorem dX9_findRow_75 : decode cX9_findRow 75 = .ok (.iload_n 2, 1) := by decide +kernel
theorem dX9_findRow_76 : decode cX9_findRow 76 = .ok (.iconst 3, 1) := by decide +kernel
theorem dX9_findRow_77 : decode cX9_findRow 77 = .ok (.iadd, 1) := by decide +kernel
theorem dX9_findRow_78 : decode cX9_findRow 78 = .ok (.iaload, 1) := by decide +kernel
theorem dX9_findRow_79 : decode cX9_findRow 79 = .ok (.istore 5, 2) := by decide +kernel
theorem dX9_findRow_81 : decode cX9_findRow 81 = .ok (.iload_n 1, 1) := by decide +kernel
theorem dX9_findRow_82 : decode cX9_findRow 82 = .ok (.iload 4, 2) := by decide +kernel
theorem dX9_findRow_84 : decode cX9_findRow 84 = .ok (.if_icmp .lt 38, 3) := by decide +kernel
theorem dX9_findRow_87 : decode cX9_findRow 87 = .ok (.iload_n 1, 1) := by decide +kernel
theorem dX9_findRow_88 : decode cX9_findRow 88 = .ok (.iload 4, 2) := by decide +kernel
theorem dX9_findRow_90 : decode cX9_findRow 90 = .ok (.iload 5, 2) := by decide +kernel
theorem dX9_findRow_92 : decode cX9_findRow 92 = .ok (.iadd, 1) := by decide +kernel
theorem dX9_findRow_93 : decode cX9_findRow 93 = .ok (.if_icmp .ge 29, 3) := by decide +kernel
theorem dX9_findRow_96 : decode cX9_findRow 96 = .ok (.aload_n 0, 1) := by decide +kernel
theorem dX9_findRow_97 : decode cX9_findRow 97 = .ok (.iload_n 2, 1) := by decide +kernel
theorem dX9_findRow_98 : decode cX9_findRow 98 = .ok (.iconst 4, 1) := by decide +kernel
theorem dX9_findRow_99 : decode cX9_findRow 99 = .ok (.iadd, 1) := by decide +kernel
theorem dX9_findRow_100 : decode cX9_findRow 100 = .ok (.iload_n 2, 1) := by decide +kernel
theorem dX9_findRow_101 : decode cX9_findRow 101 = .ok (.iconst 2, 1) := by decide +kernel
theorem dX9_findRow_102 : decode cX9_findRow 102 = .ok (.iadd, 1) := by decide +kernel
theorem dX9_findRow_103 : decode cX9_findRow 103 = .ok (.iload_n 3, 1) := by decide +kernel
theorem dX9_findRow_104 : decode cX9_findRow 104 = .ok (.iadd, 1) := by decide +kernel
theorem dX9_findRow_105 : decode cX9_findRow 105 = .ok (.iload 4, 2) := by decide +kernel
theorem dX9_findRow_107 : decode cX9_findRow 107 = .ok (.iload 5, 2) := by decide +kernel
theorem dX9_findRow_109 : decode cX9_findRow 109 = .ok (.iload_n 1, 1) := by decide +kernel
theorem dX9_findRow_110 : decode cX9_findRow 110 = .ok (.invokevirtual 150, 3) := by decide +kernel
theorem dX9_findRow_113 : decode cX9_findRow 113 = .ok (.ifCond .eq 7, 3) := by decide +kernel
theorem dX9_findRow_116 : decode cX9_findRow 116 = .ok (.iconst 1, 1) := by decide +kernel
theorem dX9_findRow_117 : decode cX9_findRow 117 = .ok (.goto 4, 3) := by decide +kernel
theorem dX9_findRow_120 : decode cX9_findRow 120 = .ok (.iconst (-1), 1) := by decide +kernel
theorem dX9_findRow_121 : decode cX9_findRow 121 = .ok (.ireturn, 1) := by decide +kernel
theorem dX9_findRow_122 : decode cX9_findRow 122 = .ok (.iload_n 2, 1) := by decide +kernel
theorem dX9_findRow_123 : decode cX9_findRow 123 = .ok (.iconst 2, 1) := by decide +kernel
theorem dX9_findRow_124 : decode cX9_findRow 124 = .ok (.iload_n 3, 1) := by decide +kernel
theorem dX9_findRow_125 : decode cX9_findRow 125 = .ok (.iadd, 1) := by decide +kernel
theorem dX9_findRow_126 : decode cX9_findRow 126 = .ok (.iadd, 1) := by decide +kernel
theorem dX9_findRow_127 : decode cX9_findRow 127 = .ok (.istore_n 2, 1) := by decide +kernel
theorem dX9_findRow_128 : decode cX9_findRow 128 = .ok (.goto (-126), 3) := by decide +kernel
theorem dX9_findRow_131 : decode cX9_findRow 131 = .ok (.iconst 0, 1) := by decide +kernel
theorem dX9_findRow_132 : decode cX9_findRow 132 = .ok (.ireturn, 1) := by decide +kernel
end
section
theorem dX9_row_0 : decode cX9_row 0 = .ok (.aload_n 0, 1) := by decide +kernel
theorem dX9_row_1 : decode cX9_row 1 = .ok (.iload_n 1, 1) := by decide +kernel
theorem dX9_row_2 : decode cX9_row 2 = .ok (.invokevirtual 154, 3) := by decide +kernel
theorem dX9_row_5 : decode cX9_row 5 = .ok (.istore_n 3, 1) := by decide +kernel
theorem dX9_row_6 : decode cX9_row 6 = .ok (.aload_n 0, 1) := by decide +kernel
theorem dX9_row_7 : decode cX9_row 7 = .ok (.iload_n 3, 1) := by decide +kernel
theorem dX9_row_8 : decode cX9_row 8 = .ok (.ifCond .ge 7, 3) := by decide +kernel
theorem dX9_row_11 : decode cX9_row 11 = .ok (.iconst 1, 1) := by decide +kernel
theorem dX9_row_12 : decode cX9_row 12 = .ok (.goto 4, 3) := by decide +kernel
theorem dX9_row_15 : decode cX9_row 15 = .ok (.iconst 0, 1) := by decide +kernel
theorem dX9_row_16 : decode cX9_row 16 = .ok (.putfield 59, 3) := by decide +kernel
theorem dX9_row_19 : decode cX9_row 19 = .ok (.aload_n 0, 1) := by decide +kernel
theorem dX9_row_20 : decode cX9_row 20 = .ok (.getfield 59, 3) := by decide +kernel
theorem dX9_row_23 : decode cX9_row 23 = .ok (.ifCond .le 5, 3) := by decide +kernel
theorem dX9_row_26 : decode cX9_row 26 = .ok (.iconst 0, 1) := by decide +kernel
theorem dX9_row_27 : decode cX9_row 27 = .ok (.ireturn, 1) := by decide +kernel
theorem dX9_row_28 : decode cX9_row 28 = .ok (.iload_n 3, 1) := by decide +kernel
theorem dX9_row_29 : decode cX9_row 29 = .ok (.ifCond .eq 12, 3) := by decide +kernel
theorem dX9_row_32 : decode cX9_row 32 = .ok (.iload_n 2, 1) := by decide +kernel
theorem dX9_row_33 : decode cX9_row 33 = .ok (.ifCond .lt 8, 3) := by decide +kernel
theorem dX9_row_36 : decode cX9_row 36 = .ok (.iload_n 2, 1) := by decide +kernel
theorem dX9_row_37 : decode cX9_row 37 = .ok (.iconst 4, 1) := by decide +kernel
theorem dX9_row_38 : decode cX9_row 38 = .ok (.if_icmp .le 7, 3) := by decide +kernel
theorem dX9_row_41 : decode cX9_row 41 = .ok (.iconst (-1), 1) := by decide +kernel
theorem dX9_row_42 : decode cX9_row 42 = .ok (.goto 9, 3) := by decide +kernel
theorem dX9_row_45 : decode cX9_row 45 = .ok (.aload_n 0, 1) := by decide +kernel
theorem dX9_row_46 : decode cX9_row 46 = .ok (.getfield 38, 3) := by decide +kernel
theorem dX9_row_49 : decode cX9_row 49 = .ok (.iload_n 2, 1) := by decide +kernel
theorem dX9_row_50 : decode cX9_row 50 = .ok (.iaload, 1) := by decide +kernel
theorem dX9_row_51 : decode cX9_row 51 = .ok (.ireturn, 1) := by decide +kernel
theorem dX9_begin_0 : decode cX9_begin 0 = .ok (.aload_n 0, 1) := by decide +kernel
theorem dX9_begin_1 : decode cX9_begin 1 = .ok (.iconst 0, 1) := by decide +kernel
theorem dX9_begin_2 : decode cX9_begin 2 = .ok (.putfield 59, 3) := by decide +kernel
theorem dX9_begin_5 : decode cX9_begin 5 = .ok (.aload_n 0, 1) := by decide +kernel
theorem dX9_begin_6 : decode cX9_begin 6 = .ok (.getfield 76, 3) := by decide +kernel
theorem dX9_begin_9 : decode cX9_begin 9 = .ok (.ifCond .ne 5, 3) := by decide +kernel
theorem dX9_begin_12 : decode cX9_begin 12 = .ok (.iconst 0, 1) := by decide +kernel
theorem dX9_begin_13 : decode cX9_begin 13 = .ok (.ireturn, 1) := by decide +kernel
theorem dX9_begin_14 : decode cX9_begin 14 = .ok (.iconst 0, 1) := by decide +kernel
theorem dX9_begin_15 : decode cX9_begin 15 = .ok (.istore 5, 2) := by decide +kernel
theorem dX9_begin_17 : decode cX9_begin 17 = .ok (.iload 5, 2) := by decide +kernel
theorem dX9_begin_19 : decode cX9_begin 19 = .ok (.bipush 40, 2) := by decide +kernel
theorem dX9_begin_21 : decode cX9_begin 21 = .ok (.if_icmp .ge 17, 3) := by decide +kernel
theorem dX9_begin_24 : decode cX9_begin 24 = .ok (.aload_n 0, 1) := by decide +kernel
theorem dX9_begin_25 : decode cX9_begin 25 = .ok (.getfield 50, 3) := by decide +kernel
theorem dX9_begin_28 : decode cX9_begin 28 = .ok (.iload 5, 2) := by decide +kernel
theorem dX9_begin_30 : decode cX9_begin 30 = .ok (.iconst 0, 1) := by decide +kernel
theorem dX9_begin_31 : decode cX9_begin 31 = .ok (.iastore, 1) := by decide +kernel
theorem dX9_begin_32 : decode cX9_begin 32 = .ok (.iinc 5 1, 3) := by decide +kernel
theorem dX9_begin_35 : decode cX9_begin 35 = .ok (.goto (-18), 3) := by decide +kernel
theorem dX9_begin_38 : decode cX9_begin 38 = .ok (.aload_n 0, 1) := by decide +kernel
theorem dX9_begin_39 : decode cX9_begin 39 = .ok (.iconst 1, 1) := by decide +kernel
theorem dX9_begin_40 : decode cX9_begin 40 = .ok (.putfield 157, 3) := by decide +kernel
theorem dX9_begin_43 : decode cX9_begin 43 = .ok (.aload_n 0, 1) := by decide +kernel
theorem dX9_begin_44 : decode cX9_begin 44 = .ok (.iconst 1, 1) := by decide +kernel
theorem dX9_begin_45 : decode cX9_begin 45 = .ok (.putfield 63, 3) := by decide +kernel
theorem dX9_begin_48 : decode cX9_begin 48 = .ok (.aload_n 0, 1) := by decide +kernel
theorem dX9_begin_49 : decode cX9_begin 49 = .ok (.getfield 47, 3) := by decide +kernel
theorem dX9_begin_52 : decode cX9_begin 52 = .ok (.iconst 0, 1) := by decide +kernel
theorem dX9_begin_53 : decode cX9_begin 53 = .ok (.iload_n 1, 1) := by decide +kernel
theorem dX9_begin_54 : decode cX9_begin 54 = .ok (.iastore, 1) := by decide +kernel
theorem dX9_begin_55 : decode cX9_begin 55 = .ok (.aload_n 0, 1) := by decide +kernel
theorem dX9_begin_56 : decode cX9_begin 56 = .ok (.getfield 47, 3) := by decide +kernel
theorem dX9_begin_59 : decode cX9_begin 59 = .ok (.iconst 1, 1) := by decide +kernel
theorem dX9_begin_60 : decode cX9_begin 60 = .ok (.iload_n 2, 1) := by decide +kernel
theorem dX9_begin_61 : decode cX9_begin 61 = .ok (.iastore, 1) := by decide +kernel
theorem dX9_begin_62 : decode cX9_begin 62 = .ok (.aload_n 0, 1) := by decide +kernel
theorem dX9_begin_63 : decode cX9_begin 63 = .ok (.getfield 47, 3) := by decide +kernel
theorem dX9_begin_66 : decode cX9_begin 66 = .ok (.iconst 2, 1) := by decide +kernel
theorem dX9_begin_67 : decode cX9_begin 67 = .ok (.iload_n 3, 1) := by decide +kernel
theorem dX9_begin_68 : decode cX9_begin 68 = .ok (.iastore, 1) := by decide +kernel
theorem dX9_begin_69 : decode cX9_begin 69 = .ok (.aload_n 0, 1) := by decide +kernel
theorem dX9_begin_70 : decode cX9_begin 70 = .ok (.iload 4, 2) := by decide +kernel
theorem dX9_begin_72 : decode cX9_begin 72 = .ok (.putfield 160, 3) := by decide +kernel
theorem dX9_begin_75 : decode cX9_begin 75 = .ok (.aload_n 0, 1) := by decide +kernel
theorem dX9_begin_76 : decode cX9_begin 76 = .ok (.bipush 39, 2) := by decide +kernel
theorem dX9_begin_78 : decode cX9_begin 78 = .ok (.putfield 163, 3) := by decide +kernel
theorem dX9_begin_81 : decode cX9_begin 81 = .ok (.aload_n 0, 1) := by decide +kernel
theorem dX9_begin_82 : decode cX9_begin 82 = .ok (.getfield 50, 3) := by decide +kernel
theorem dX9_begin_85 : decode cX9_begin 85 = .ok (.bipush 39, 2) := by decide +kernel
theorem dX9_begin_87 : decode cX9_begin 87 = .ok (.sipush 255, 3) := by decide +kernel
theorem dX9_begin_90 : decode cX9_begin 90 = .ok (.iastore, 1) := by decide +kernel
theorem dX9_begin_91 : decode cX9_begin 91 = .ok (.aload_n 0, 1) := by decide +kernel
theorem dX9_begin_92 : decode cX9_begin 92 = .ok (.aload_n 0, 1) := by decide +kernel
theorem dX9_begin_93 : decode cX9_begin 93 = .ok (.getfield 13, 3) := by decide +kernel
theorem dX9_begin_96 : decode cX9_begin 96 = .ok (.iconst 0, 1) := by decide +kernel
theorem dX9_begin_97 : decode cX9_begin 97 = .ok (.iaload, 1) := by decide +kernel
theorem dX9_begin_98 : decode cX9_begin 98 = .ok (.putfield 67, 3) := by decide +kernel
theorem dX9_begin_101 : decode cX9_begin 101 = .ok (.aload_n 0, 1) := by decide +kernel
theorem dX9_begin_102 : decode cX9_begin 102 = .ok (.iconst 1, 1) := by decide +kernel
theorem dX9_begin_103 : decode cX9_begin 103 = .ok (.putfield 166, 3) := by decide +kernel
theorem dX9_begin_106 : decode cX9_begin 106 = .ok (.aload_n 0, 1) := by decide +kernel
theorem dX9_begin_107 : decode cX9_begin 107 = .ok (.getfield 53, 3) := by decide +kernel
theorem dX9_begin_110 : decode cX9_begin 110 = .ok (.iconst 0, 1) := by decide +kernel
theorem dX9_begin_111 : decode cX9_begin 111 = .ok (.sipush 255, 3) := by decide +kernel
theorem dX9_begin_114 : decode cX9_begin 114 = .ok (.iastore, 1) := by decide +kernel
theorem dX9_begin_115 : decode cX9_begin 115 = .ok (.iconst 1, 1) := by decide +kernel
theorem dX9_begin_116 : decode cX9_begin 116 = .ok (.ireturn, 1) := by decide +kernel
theorem dX9_isWord_0 : decode cX9_isWord 0 = .ok (.lload_n 0, 1) := by decide +kernel
theorem dX9_isWord_1 : decode cX9_isWord 1 = .ok (.lconst 0, 1) := by decide +kernel
theorem dX9_isWord_2 : decode cX9_isWord 2 = .ok (.lcmp, 1) := by decide +kernel
theorem dX9_isWord_3 : decode cX9_isWord 3 = .ok (.ifCond .lt 15, 3) := by decide +kernel
theorem dX9_isWord_6 : decode cX9_isWord 6 = .ok (.lload_n 0, 1) := by decide +kernel
theorem dX9_isWord_7 : decode cX9_isWord 7 = .ok (.ldc2_w 169, 3) := by decide +kernel
theorem dX9_isWord_10 : decode cX9_isWord 10 = .ok (.lcmp, 1) := by decide +kernel
theorem dX9_isWord_11 : decode cX9_isWord 11 = .ok (.ifCond .ge 7, 3) := by decide +kernel
theorem dX9_isWord_14 : decode cX9_isWord 14 = .ok (.iconst 1, 1) := by decide +kernel
theorem dX9_isWord_15 : decode cX9_isWord 15 = .ok (.goto 4, 3) := by decide +kernel
theorem dX9_isWord_18 : decode cX9_isWord 18 = .ok (.iconst 0, 1) := by decide +kernel
theorem dX9_isWord_19 : decode cX9_isWord 19 = .ok (.ireturn, 1) := by decide +kernel
theorem dX9_fails_0 : decode cX9_fails 0 = .ok (.iload_n 1, 1) := by decide +kernel
theorem dX9_fails_1 : decode cX9_fails 1 = .ok (.tableswitch 206 1 15 #[75, 89, 106, 121, 206, 138, 164, 89, 206, 206, 206, 206, 206, 187, 187], 75) := by decide +kernel
theorem dX9_fails_76 : decode cX9_fails 76 = .ok (.aload_n 0, 1) := by decide +kernel
theorem dX9_fails_77 : decode cX9_fails 77 = .ok (.getfield 163, 3) := by decide +kernel
theorem dX9_fails_80 : decode cX9_fails 80 = .ok (.iconst 1, 1) := by decide +kernel
theorem dX9_fails_81 : decode cX9_fails 81 = .ok (.if_icmp .ge 7, 3) := by decide +kernel
theorem dX9_fails_84 : decode cX9_fails 84 = .ok (.iconst 1, 1) := by decide +kernel
theorem dX9_fails_85 : decode cX9_fails 85 = .ok (.goto 4, 3) := by decide +kernel
theorem dX9_fails_88 : decode cX9_fails 88 = .ok (.iconst 0, 1) := by decide +kernel
theorem dX9_fails_89 : decode cX9_fails 89 = .ok (.ireturn, 1) := by decide +kernel
theorem dX9_fails_90 : decode cX9_fails 90 = .ok (.aload_n 0, 1) := by decide +kernel
theorem dX9_fails_91 : decode cX9_fails 91 = .ok (.getfield 163, 3) := by decide +kernel
theorem dX9_fails_94 : decode cX9_fails 94 = .ok (.i2l, 1) := by decide +kernel
theorem dX9_fails_95 : decode cX9_fails 95 = .ok (.invokestatic 171, 3) := by decide +kernel
theorem dX9_fails_98 : decode cX9_fails 98 = .ok (.ifCond .ne 7, 3) := by decide +kernel
theorem dX9_fails_101 : decode cX9_fails 101 = .ok (.iconst 1, 1) := by decide +kernel
theorem dX9_fails_102 : decode cX9_fails 102 = .ok (.goto 4, 3) := by decide +kernel
theorem dX9_fails_105 : decode cX9_fails 105 = .ok (.iconst 0, 1) := by decide +kernel
theorem dX9_fails_106 : decode cX9_fails 106 = .ok (.ireturn, 1) := by decide +kernel
theorem dX9_fails_107 : decode cX9_fails 107 = .ok (.aload_n 0, 1) := by decide +kernel
theorem dX9_fails_108 : decode cX9_fails 108 = .ok (.getfield 163, 3) := by decide +kernel
theorem dX9_fails_111 : decode cX9_fails 111 = .ok (.iload_n 2, 1) := by decide +kernel
theorem dX9_fails_112 : decode cX9_fails 112 = .ok (.isub, 1) := by decide +kernel
theorem dX9_fails_113 : decode cX9_fails 113 = .ok (.ifCond .ge 7, 3) := by decide +kernel
theorem dX9_fails_116 : decode cX9_fails 116 = .ok (.iconst 1, 1) := by decide +kernel
theorem dX9_fails_117 : decode cX9_fails 117 = .ok (.goto 4, 3) := by decide +kernel
theorem dX9_fails_120 : decode cX9_fails 120 = .ok (.iconst 0, 1) := by decide +kernel
theorem dX9_fails_121 : decode cX9_fails 121 = .ok (.ireturn, 1) := by decide +kernel
theorem dX9_fails_122 : decode cX9_fails 122 = .ok (.aload_n 0, 1) := by decide +kernel
theorem dX9_fails_123 : decode cX9_fails 123 = .ok (.getfield 163, 3) := by decide +kernel
theorem dX9_fails_126 : decode cX9_fails 126 = .ok (.iload_n 2, 1) := by decide +kernel
theorem dX9_fails_127 : decode cX9_fails 127 = .ok (.iadd, 1) := by decide +kernel
theorem dX9_fails_128 : decode cX9_fails 128 = .ok (.bipush 40, 2) := by decide +kernel
theorem dX9_fails_130 : decode cX9_fails 130 = .ok (.if_icmp .le 7, 3) := by decide +kernel
theorem dX9_fails_133 : decode cX9_fails 133 = .ok (.iconst 1, 1) := by decide +kernel
theorem dX9_fails_134 : decode cX9_fails 134 = .ok (.goto 4, 3) := by decide +kernel
theorem dX9_fails_137 : decode cX9_fails 137 = .ok (.iconst 0, 1) := by decide +kernel
theorem dX9_fails_138 : decode cX9_fails 138 = .ok (.ireturn, 1) := by decide +kernel
theorem dX9_fails_139 : decode cX9_fails 139 = .ok (.aload_n 0, 1) := by decide +kernel
theorem dX9_fails_140 : decode cX9_fails 140 = .ok (.getfield 47, 3) := by decide +kernel
theorem dX9_fails_143 : decode cX9_fails 143 = .ok (.iconst 0, 1) := by decide +kernel
theorem dX9_fails_144 : decode cX9_fails 144 = .ok (.iaload, 1) := by decide +kernel
theorem dX9_fails_145 : decode cX9_fails 145 = .ok (.ifCond .lt 14, 3) := by decide +kernel
theorem dX9_fails_148 : decode cX9_fails 148 = .ok (.aload_n 0, 1) := by decide +kernel
theorem dX9_fails_149 : decode cX9_fails 149 = .ok (.getfield 47, 3) := by decide +kernel
theorem dX9_fails_152 : decode cX9_fails 152 = .ok (.iconst 0, 1) := by decide +kernel
theorem dX9_fails_153 : decode cX9_fails 153 = .ok (.iaload, 1) := by decide +kernel
theorem dX9_fails_154 : decode cX9_fails 154 = .ok (.bipush 40, 2) := by decide +kernel
theorem dX9_fails_156 : decode cX9_fails 156 = .ok (.if_icmp .le 7, 3) := by decide +kernel
theorem dX9_fails_159 : decode cX9_fails 159 = .ok (.iconst 1, 1) := by decide +kernel
theorem dX9_fails_160 : decode cX9_fails 160 = .ok (.goto 4, 3) := by decide +kernel
theorem dX9_fails_163 : decode cX9_fails 163 = .ok (.iconst 0, 1) := by decide +kernel
theorem dX9_fails_164 : decode cX9_fails 164 = .ok (.ireturn, 1) := by decide +kernel
theorem dX9_fails_165 : decode cX9_fails 165 = .ok (.aload_n 0, 1) := by decide +kernel
theorem dX9_fails_166 : decode cX9_fails 166 = .ok (.getfield 163, 3) := by decide +kernel
theorem dX9_fails_169 : decode cX9_fails 169 = .ok (.iconst 1, 1) := by decide +kernel
theorem dX9_fails_170 : decode cX9_fails 170 = .ok (.if_icmp .lt 12, 3) := by decide +kernel
theorem dX9_fails_173 : decode cX9_fails 173 = .ok (.aload_n 0, 1) := by decide +kernel
theorem dX9_fails_174 : decode cX9_fails 174 = .ok (.getfield 166, 3) := by decide +kernel
theorem dX9_fails_177 : decode cX9_fails 177 = .ok (.bipush 40, 2) := by decide +kernel
theorem dX9_fails_179 : decode cX9_fails 179 = .ok (.if_icmp .ne 7, 3) := by decide +kernel
theorem dX9_fails_182 : decode cX9_fails 182 = .ok (.iconst 1, 1) := by decide +kernel
theorem dX9_fails_183 : decode cX9_fails 183 = .ok (.goto 4, 3) := by decide +kernel
theorem dX9_fails_186 : decode cX9_fails 186 = .ok (.iconst 0, 1) := by decide +kernel
theorem dX9_fails_187 : decode cX9_fails 187 = .ok (.ireturn, 1) := by decide +kernel
theorem dX9_fails_188 : decode cX9_fails 188 = .ok (.aload_n 0, 1) := by decide +kernel
theorem dX9_fails_189 : decode cX9_fails 189 = .ok (.getfield 163, 3) := by decide +kernel
theorem dX9_fails_192 : decode cX9_fails 192 = .ok (.iload_n 3, 1) := by decide +kernel
theorem dX9_fails_193 : decode cX9_fails 193 = .ok (.iadd, 1) := by decide +kernel
theorem dX9_fails_194 : decode cX9_fails 194 = .ok (.i2l, 1) := by decide +kernel
theorem dX9_fails_195 : decode cX9_fails 195 = .ok (.invokestatic 171, 3) := by decide +kernel
theorem dX9_fails_198 : decode cX9_fails 198 = .ok (.ifCond .ne 7, 3) := by decide +kernel
theorem dX9_fails_201 : decode cX9_fails 201 = .ok (.iconst 1, 1) := by decide +kernel
theorem dX9_fails_202 : decode cX9_fails 202 = .ok (.goto 4, 3) := by decide +kernel
theorem dX9_fails_205 : decode cX9_fails 205 = .ok (.iconst 0, 1) := by decide +kernel
theorem dX9_fails_206 : decode cX9_fails 206 = .ok (.ireturn, 1) := by decide +kernel
theorem dX9_fails_207 : decode cX9_fails 207 = .ok (.iconst 0, 1) := by decide +kernel
theorem dX9_fails_208 : decode cX9_fails 208 = .ok (.ireturn, 1) := by decide +kernel
theorem dX9_step_0 : decode cX9_step 0 = .ok (.aload_n 0, 1) := by decide +kernel
theorem dX9_step_1 : decode cX9_step 1 = .ok (.getfield 63, 3) := by decide +kernel
theorem dX9_step_4 : decode cX9_step 4 = .ok (.ifCond .eq 18, 3) := by decide +kernel
theorem dX9_step_7 : decode cX9_step 7 = .ok (.aload_n 0, 1) := by decide +kernel
theorem dX9_step_8 : decode cX9_step 8 = .ok (.aload_n 0, 1) := by decide +kernel
theorem dX9_step_9 : decode cX9_step 9 = .ok (.getfield 67, 3) := by decide +kernel
theorem dX9_step_12 : decode cX9_step 12 = .ok (.aload_n 0, 1) := by decide +kernel
theorem dX9_step_13 : decode cX9_step 13 = .ok (.getfield 70, 3) := by decide +kernel
theorem dX9_step_16 : decode cX9_step 16 = .ok (.invokevirtual 115, 3) := by decide +kernel
theorem dX9_step_19 : decode cX9_step 19 = .ok (.ifCond .ne 10, 3) := by decide +kernel
theorem dX9_step_22 : decode cX9_step 22 = .ok (.aload_n 0, 1) := by decide +kernel
theorem dX9_step_23 : decode cX9_step 23 = .ok (.iconst 1, 1) := by decide +kernel
theorem dX9_step_24 : decode cX9_step 24 = .ok (.putfield 59, 3) := by decide +kernel
theorem dX9_step_27 : decode cX9_step 27 = .ok (.iconst 0, 1) := by decide +kernel
theorem dX9_step_28 : decode cX9_step 28 = .ok (.ireturn, 1) := by decide +kernel
theorem dX9_step_29 : decode cX9_step 29 = .ok (.aload_n 0, 1) := by decide +kernel
theorem dX9_step_30 : decode cX9_step 30 = .ok (.getfield 7, 3) := by decide +kernel
theorem dX9_step_33 : decode cX9_step 33 = .ok (.aload_n 0, 1) := by decide +kernel
theorem dX9_step_34 : decode cX9_step 34 = .ok (.getfield 67, 3) := by decide +kernel
theorem dX9_step_37 : decode cX9_step 37 = .ok (.iaload, 1) := by decide +kernel
theorem dX9_step_38 : decode cX9_step 38 = .ok (.istore_n 1, 1) := by decide +kernel
theorem dX9_step_39 : decode cX9_step 39 = .ok (.iload_n 1, 1) := by decide +kernel
theorem dX9_step_40 : decode cX9_step 40 = .ok (.invokestatic 79, 3) := by decide +kernel
theorem dX9_step_43 : decode cX9_step 43 = .ok (.iconst 1, 1) := by decide +kernel
theorem dX9_step_44 : decode cX9_step 44 = .ok (.if_icmp .le 17, 3) := by decide +kernel
theorem dX9_step_47 : decode cX9_step 47 = .ok (.aload_n 0, 1) := by decide +kernel
theorem dX9_step_48 : decode cX9_step 48 = .ok (.getfield 7, 3) := by decide +kernel
theorem dX9_step_51 : decode cX9_step 51 = .ok (.aload_n 0, 1) := by decide +kernel
theorem dX9_step_52 : decode cX9_step 52 = .ok (.getfield 67, 3) := by decide +kernel
theorem dX9_step_55 : decode cX9_step 55 = .ok (.iconst 1, 1) := by decide +kernel
theorem dX9_step_56 : decode cX9_step 56 = .ok (.iadd, 1) := by decide +kernel
theorem dX9_step_57 : decode cX9_step 57 = .ok (.iaload, 1) := by decide +kernel
theorem dX9_step_58 : decode cX9_step 58 = .ok (.goto 4, 3) := by decide +kernel
theorem dX9_step_61 : decode cX9_step 61 = .ok (.iconst 0, 1) := by decide +kernel
theorem dX9_step_62 : decode cX9_step 62 = .ok (.istore_n 2, 1) := by decide +kernel
theorem dX9_step_63 : decode cX9_step 63 = .ok (.iload_n 1, 1) := by decide +kernel
theorem dX9_step_64 : decode cX9_step 64 = .ok (.invokestatic 79, 3) := by decide +kernel
theorem dX9_step_67 : decode cX9_step 67 = .ok (.iconst 2, 1) := by decide +kernel
theorem dX9_step_68 : decode cX9_step 68 = .ok (.if_icmp .le 17, 3) := by decide +kernel
theorem dX9_step_71 : decode cX9_step 71 = .ok (.aload_n 0, 1) := by decide +kernel
theorem dX9_step_72 : decode cX9_step 72 = .ok (.getfield 7, 3) := by decide +kernel
theorem dX9_step_75 : decode cX9_step 75 = .ok (.aload_n 0, 1) := by decide +kernel
theorem dX9_step_76 : decode cX9_step 76 = .ok (.getfield 67, 3) := by decide +kernel
theorem dX9_step_79 : decode cX9_step 79 = .ok (.iconst 2, 1) := by decide +kernel
theorem dX9_step_80 : decode cX9_step 80 = .ok (.iadd, 1) := by decide +kernel
theorem dX9_step_81 : decode cX9_step 81 = .ok (.iaload, 1) := by decide +kernel
theorem dX9_step_82 : decode cX9_step 82 = .ok (.goto 4, 3) := by decide +kernel
theorem dX9_step_85 : decode cX9_step 85 = .ok (.iconst 0, 1) := by decide +kernel
theorem dX9_step_86 : decode cX9_step 86 = .ok (.istore_n 3, 1) := by decide +kernel
theorem dX9_step_87 : decode cX9_step 87 = .ok (.aload_n 0, 1) := by decide +kernel
theorem dX9_step_88 : decode cX9_step 88 = .ok (.aload_n 0, 1) := by decide +kernel
theorem dX9_step_89 : decode cX9_step 89 = .ok (.iload_n 1, 1) := by decide +kernel
theorem dX9_step_90 : decode cX9_step 90 = .ok (.iload_n 2, 1) := by decide +kernel
theorem dX9_step_91 : decode cX9_step 91 = .ok (.iload_n 3, 1) := by decide +kernel
theorem dX9_step_92 : decode cX9_step 92 = .ok (.invokevirtual 175, 3) := by decide +kernel
theorem dX9_step_95 : decode cX9_step 95 = .ok (.ifCond .eq 7, 3) := by decide +kernel
theorem dX9_step_98 : decode cX9_step 98 = .ok (.iconst 2, 1) := by decide +kernel
theorem dX9_step_99 : decode cX9_step 99 = .ok (.goto 4, 3) := by decide +kernel
theorem dX9_step_102 : decode cX9_step 102 = .ok (.iconst 0, 1) := by decide +kernel
theorem dX9_step_103 : decode cX9_step 103 = .ok (.putfield 59, 3) := by decide +kernel
theorem dX9_step_106 : decode cX9_step 106 = .ok (.aload_n 0, 1) := by decide +kernel
theorem dX9_step_107 : decode cX9_step 107 = .ok (.getfield 59, 3) := by decide +kernel
theorem dX9_step_110 : decode cX9_step 110 = .ok (.ifCond .le 5, 3) := by decide +kernel
theorem dX9_step_113 : decode cX9_step 113 = .ok (.iconst 0, 1) := by decide +kernel
theorem dX9_step_114 : decode cX9_step 114 = .ok (.ireturn, 1) := by decide +kernel
theorem dX9_step_115 : decode cX9_step 115 = .ok (.aload_n 0, 1) := by decide +kernel
theorem dX9_step_116 : decode cX9_step 116 = .ok (.getfield 67, 3) := by decide +kernel
theorem dX9_step_119 : decode cX9_step 119 = .ok (.iload_n 1, 1) := by decide +kernel
theorem dX9_step_120 : decode cX9_step 120 = .ok (.invokestatic 79, 3) := by decide +kernel
theorem dX9_step_123 : decode cX9_step 123 = .ok (.iadd, 1) := by decide +kernel
theorem dX9_step_124 : decode cX9_step 124 = .ok (.istore 4, 2) := by decide +kernel
theorem dX9_step_126 : decode cX9_step 126 = .ok (.iload_n 1, 1) := by decide +kernel
theorem dX9_step_127 : decode cX9_step 127 = .ok (.tableswitch 386 1 15 #[73, 101, 129, 142, 155, 168, 181, 229, 291, 297, 315, 325, 333, 346, 366], 73) := by decide +kernel
theorem dX9_step_200 : decode cX9_step 200 = .ok (.aload_n 0, 1) := by decide +kernel
theorem dX9_step_201 : decode cX9_step 201 = .ok (.dup, 1) := by decide +kernel
theorem dX9_step_202 : decode cX9_step 202 = .ok (.getfield 163, 3) := by decide +kernel
theorem dX9_step_205 : decode cX9_step 205 = .ok (.iconst 1, 1) := by decide +kernel
theorem dX9_step_206 : decode cX9_step 206 = .ok (.isub, 1) := by decide +kernel
theorem dX9_step_207 : decode cX9_step 207 = .ok (.putfield 163, 3) := by decide +kernel
theorem dX9_step_210 : decode cX9_step 210 = .ok (.aload_n 0, 1) := by decide +kernel
theorem dX9_step_211 : decode cX9_step 211 = .ok (.getfield 50, 3) := by decide +kernel
theorem dX9_step_214 : decode cX9_step 214 = .ok (.aload_n 0, 1) := by decide +kernel
theorem dX9_step_215 : decode cX9_step 215 = .ok (.getfield 163, 3) := by decide +kernel
theorem dX9_step_218 : decode cX9_step 218 = .ok (.aload_n 0, 1) := by decide +kernel
theorem dX9_step_219 : decode cX9_step 219 = .ok (.getfield 47, 3) := by decide +kernel
theorem dX9_step_222 : decode cX9_step 222 = .ok (.iload_n 2, 1) := by decide +kernel
theorem dX9_step_223 : decode cX9_step 223 = .ok (.iaload, 1) := by decide +kernel
theorem dX9_step_224 : decode cX9_step 224 = .ok (.iastore, 1) := by decide +kernel
theorem dX9_step_225 : decode cX9_step 225 = .ok (.goto 288, 3) := by decide +kernel
theorem dX9_step_228 : decode cX9_step 228 = .ok (.aload_n 0, 1) := by decide +kernel
theorem dX9_step_229 : decode cX9_step 229 = .ok (.getfield 47, 3) := by decide +kernel
theorem dX9_step_232 : decode cX9_step 232 = .ok (.iload_n 2, 1) := by decide +kernel
theorem dX9_step_233 : decode cX9_step 233 = .ok (.aload_n 0, 1) := by decide +kernel
theorem dX9_step_234 : decode cX9_step 234 = .ok (.getfield 50, 3) := by decide +kernel
theorem dX9_step_237 : decode cX9_step 237 = .ok (.aload_n 0, 1) := by decide +kernel
theorem dX9_step_238 : decode cX9_step 238 = .ok (.getfield 163, 3) := by decide +kernel
theorem dX9_step_241 : decode cX9_step 241 = .ok (.iaload, 1) := by decide +kernel
theorem dX9_step_242 : decode cX9_step 242 = .ok (.iastore, 1) := by decide +kernel
theorem dX9_step_243 : decode cX9_step 243 = .ok (.aload_n 0, 1) := by decide +kernel
theorem dX9_step_244 : decode cX9_step 244 = .ok (.dup, 1) := by decide +kernel
theorem dX9_step_245 : decode cX9_step 245 = .ok (.getfield 163, 3) := by decide +kernel
theorem dX9_step_248 : decode cX9_step 248 = .ok (.iconst 1, 1) := by decide +kernel
theorem dX9_step_249 : decode cX9_step 249 = .ok (.iadd, 1) := by decide +kernel
theorem dX9_step_250 : decode cX9_step 250 = .ok (.putfield 163, 3) := by decide +kernel
theorem dX9_step_253 : decode cX9_step 253 = .ok (.goto 260, 3) := by decide +kernel
theorem dX9_step_256 : decode cX9_step 256 = .ok (.aload_n 0, 1) := by decide +kernel
theorem dX9_step_257 : decode cX9_step 257 = .ok (.dup, 1) := by decide +kernel
theorem dX9_step_258 : decode cX9_step 258 = .ok (.getfield 163, 3) := by decide +kernel
theorem dX9_step_261 : decode cX9_step 261 = .ok (.iload_n 2, 1) := by decide +kernel
theorem dX9_step_262 : decode cX9_step 262 = .ok (.isub, 1) := by decide +kernel
theorem dX9_step_263 : decode cX9_step 263 = .ok (.putfield 163, 3) := by decide +kernel
theorem dX9_step_266 : decode cX9_step 266 = .ok (.goto 247, 3) := by decide +kernel
theorem dX9_step_269 : decode cX9_step 269 = .ok (.aload_n 0, 1) := by decide +kernel
theorem dX9_step_270 : decode cX9_step 270 = .ok (.dup, 1) := by decide +kernel
theorem dX9_step_271 : decode cX9_step 271 = .ok (.getfield 163, 3) := by decide +kernel
theorem dX9_step_274 : decode cX9_step 274 = .ok (.iload_n 2, 1) := by decide +kernel
theorem dX9_step_275 : decode cX9_step 275 = .ok (.iadd, 1) := by decide +kernel
theorem dX9_step_276 : decode cX9_step 276 = .ok (.putfield 163, 3) := by decide +kernel
theorem dX9_step_279 : decode cX9_step 279 = .ok (.goto 234, 3) := by decide +kernel
theorem dX9_step_282 : decode cX9_step 282 = .ok (.aload_n 0, 1) := by decide +kernel
theorem dX9_step_283 : decode cX9_step 283 = .ok (.getfield 47, 3) := by decide +kernel
theorem dX9_step_286 : decode cX9_step 286 = .ok (.iconst 0, 1) := by decide +kernel
theorem dX9_step_287 : decode cX9_step 287 = .ok (.aload_n 0, 1) := by decide +kernel
theorem dX9_step_288 : decode cX9_step 288 = .ok (.getfield 163, 3) := by decide +kernel
theorem dX9_step_291 : decode cX9_step 291 = .ok (.iastore, 1) := by decide +kernel
theorem dX9_step_292 : decode cX9_step 292 = .ok (.goto 221, 3) := by decide +kernel
theorem dX9_step_295 : decode cX9_step 295 = .ok (.aload_n 0, 1) := by decide +kernel
theorem dX9_step_296 : decode cX9_step 296 = .ok (.aload_n 0, 1) := by decide +kernel
theorem dX9_step_297 : decode cX9_step 297 = .ok (.getfield 47, 3) := by decide +kernel
theorem dX9_step_300 : decode cX9_step 300 = .ok (.iconst 0, 1) := by decide +kernel
theorem dX9_step_301 : decode cX9_step 301 = .ok (.iaload, 1) := by decide +kernel
theorem dX9_step_302 : decode cX9_step 302 = .ok (.putfield 163, 3) := by decide +kernel
theorem dX9_step_305 : decode cX9_step 305 = .ok (.goto 208, 3) := by decide +kernel
theorem dX9_step_308 : decode cX9_step 308 = .ok (.aload_n 0, 1) := by decide +kernel
theorem dX9_step_309 : decode cX9_step 309 = .ok (.dup, 1) := by decide +kernel
theorem dX9_step_310 : decode cX9_step 310 = .ok (.getfield 163, 3) := by decide +kernel
theorem dX9_step_313 : decode cX9_step 313 = .ok (.iconst 1, 1) := by decide +kernel
theorem dX9_step_314 : decode cX9_step 314 = .ok (.isub, 1) := by decide +kernel
theorem dX9_step_315 : decode cX9_step 315 = .ok (.putfield 163, 3) := by decide +kernel
theorem dX9_step_318 : decode cX9_step 318 = .ok (.aload_n 0, 1) := by decide +kernel
theorem dX9_step_319 : decode cX9_step 319 = .ok (.getfield 50, 3) := by decide +kernel
theorem dX9_step_322 : decode cX9_step 322 = .ok (.aload_n 0, 1) := by decide +kernel
theorem dX9_step_323 : decode cX9_step 323 = .ok (.getfield 163, 3) := by decide +kernel
theorem dX9_step_326 : decode cX9_step 326 = .ok (.iload 4, 2) := by decide +kernel
theorem dX9_step_328 : decode cX9_step 328 = .ok (.iastore, 1) := by decide +kernel
theorem dX9_step_329 : decode cX9_step 329 = .ok (.aload_n 0, 1) := by decide +kernel
theorem dX9_step_330 : decode cX9_step 330 = .ok (.getfield 53, 3) := by decide +kernel
theorem dX9_step_333 : decode cX9_step 333 = .ok (.aload_n 0, 1) := by decide +kernel
theorem dX9_step_334 : decode cX9_step 334 = .ok (.getfield 166, 3) := by decide +kernel
theorem dX9_step_337 : decode cX9_step 337 = .ok (.iload 4, 2) := by decide +kernel
theorem dX9_step_339 : decode cX9_step 339 = .ok (.iastore, 1) := by decide +kernel
theorem dX9_step_340 : decode cX9_step 340 = .ok (.aload_n 0, 1) := by decide +kernel
theorem dX9_step_341 : decode cX9_step 341 = .ok (.dup, 1) := by decide +kernel
theorem dX9_step_342 : decode cX9_step 342 = .ok (.getfield 166, 3) := by decide +kernel
theorem dX9_step_345 : decode cX9_step 345 = .ok (.iconst 1, 1) := by decide +kernel
theorem dX9_step_346 : decode cX9_step 346 = .ok (.iadd, 1) := by decide +kernel
theorem dX9_step_347 : decode cX9_step 347 = .ok (.putfield 166, 3) := by decide +kernel
theorem dX9_step_350 : decode cX9_step 350 = .ok (.iload_n 2, 1) := by decide +kernel
theorem dX9_step_351 : decode cX9_step 351 = .ok (.istore 4, 2) := by decide +kernel
theorem dX9_step_353 : decode cX9_step 353 = .ok (.goto 160, 3) := by decide +kernel
theorem dX9_step_356 : decode cX9_step 356 = .ok (.aload_n 0, 1) := by decide +kernel
theorem dX9_step_357 : decode cX9_step 357 = .ok (.getfield 50, 3) := by decide +kernel
theorem dX9_step_360 : decode cX9_step 360 = .ok (.aload_n 0, 1) := by decide +kernel
theorem dX9_step_361 : decode cX9_step 361 = .ok (.getfield 163, 3) := by decide +kernel
theorem dX9_step_364 : decode cX9_step 364 = .ok (.iaload, 1) := by decide +kernel
theorem dX9_step_365 : decode cX9_step 365 = .ok (.istore 4, 2) := by decide +kernel
theorem dX9_step_367 : decode cX9_step 367 = .ok (.aload_n 0, 1) := by decide +kernel
theorem dX9_step_368 : decode cX9_step 368 = .ok (.dup, 1) := by decide +kernel
theorem dX9_step_369 : decode cX9_step 369 = .ok (.getfield 163, 3) := by decide +kernel
theorem dX9_step_372 : decode cX9_step 372 = .ok (.iconst 1, 1) := by decide +kernel
theorem dX9_step_373 : decode cX9_step 373 = .ok (.iadd, 1) := by decide +kernel
theorem dX9_step_374 : decode cX9_step 374 = .ok (.putfield 163, 3) := by decide +kernel
theorem dX9_step_377 : decode cX9_step 377 = .ok (.aload_n 0, 1) := by decide +kernel
theorem dX9_step_378 : decode cX9_step 378 = .ok (.dup, 1) := by decide +kernel
theorem dX9_step_379 : decode cX9_step 379 = .ok (.getfield 166, 3) := by decide +kernel
theorem dX9_step_382 : decode cX9_step 382 = .ok (.aload_n 0, 1) := by decide +kernel
theorem dX9_step_383 : decode cX9_step 383 = .ok (.getfield 166, 3) := by decide +kernel
theorem dX9_step_386 : decode cX9_step 386 = .ok (.ifCond .le 7, 3) := by decide +kernel
theorem dX9_step_389 : decode cX9_step 389 = .ok (.iconst 1, 1) := by decide +kernel
theorem dX9_step_390 : decode cX9_step 390 = .ok (.goto 4, 3) := by decide +kernel
theorem dX9_step_393 : decode cX9_step 393 = .ok (.iconst 0, 1) := by decide +kernel
theorem dX9_step_394 : decode cX9_step 394 = .ok (.isub, 1) := by decide +kernel
theorem dX9_step_395 : decode cX9_step 395 = .ok (.putfield 166, 3) := by decide +kernel
theorem dX9_step_398 : decode cX9_step 398 = .ok (.aload_n 0, 1) := by decide +kernel
theorem dX9_step_399 : decode cX9_step 399 = .ok (.iload 4, 2) := by decide +kernel
theorem dX9_step_401 : decode cX9_step 401 = .ok (.sipush 255, 3) := by decide +kernel
theorem dX9_step_404 : decode cX9_step 404 = .ok (.if_icmp .eq 7, 3) := by decide +kernel
theorem dX9_step_407 : decode cX9_step 407 = .ok (.iconst 1, 1) := by decide +kernel
theorem dX9_step_408 : decode cX9_step 408 = .ok (.goto 4, 3) := by decide +kernel
theorem dX9_step_411 : decode cX9_step 411 = .ok (.iconst 0, 1) := by decide +kernel
theorem dX9_step_412 : decode cX9_step 412 = .ok (.putfield 63, 3) := by decide +kernel
theorem dX9_step_415 : decode cX9_step 415 = .ok (.goto 98, 3) := by decide +kernel
theorem dX9_step_418 : decode cX9_step 418 = .ok (.iload_n 2, 1) := by decide +kernel
theorem dX9_step_419 : decode cX9_step 419 = .ok (.istore 4, 2) := by decide +kernel
theorem dX9_step_421 : decode cX9_step 421 = .ok (.goto 92, 3) := by decide +kernel
theorem dX9_step_424 : decode cX9_step 424 = .ok (.aload_n 0, 1) := by decide +kernel
theorem dX9_step_425 : decode cX9_step 425 = .ok (.getfield 160, 3) := by decide +kernel
theorem dX9_step_428 : decode cX9_step 428 = .ok (.ifCond .eq 7, 3) := by decide +kernel
theorem dX9_step_431 : decode cX9_step 431 = .ok (.iload_n 2, 1) := by decide +kernel
theorem dX9_step_432 : decode cX9_step 432 = .ok (.goto 5, 3) := by decide +kernel
theorem dX9_step_435 : decode cX9_step 435 = .ok (.iload 4, 2) := by decide +kernel
theorem dX9_step_437 : decode cX9_step 437 = .ok (.istore 4, 2) := by decide +kernel
theorem dX9_step_439 : decode cX9_step 439 = .ok (.goto 74, 3) := by decide +kernel
theorem dX9_step_442 : decode cX9_step 442 = .ok (.aload_n 0, 1) := by decide +kernel
theorem dX9_step_443 : decode cX9_step 443 = .ok (.getfield 47, 3) := by decide +kernel
theorem dX9_step_446 : decode cX9_step 446 = .ok (.iload_n 2, 1) := by decide +kernel
theorem dX9_step_447 : decode cX9_step 447 = .ok (.iload_n 3, 1) := by decide +kernel
theorem dX9_step_448 : decode cX9_step 448 = .ok (.iastore, 1) := by decide +kernel
theorem dX9_step_449 : decode cX9_step 449 = .ok (.goto 64, 3) := by decide +kernel
theorem dX9_step_452 : decode cX9_step 452 = .ok (.aload_n 0, 1) := by decide +kernel
theorem dX9_step_453 : decode cX9_step 453 = .ok (.iload_n 2, 1) := by decide +kernel
theorem dX9_step_454 : decode cX9_step 454 = .ok (.putfield 160, 3) := by decide +kernel
theorem dX9_step_457 : decode cX9_step 457 = .ok (.goto 56, 3) := by decide +kernel
theorem dX9_step_460 : decode cX9_step 460 = .ok (.aload_n 0, 1) := by decide +kernel
theorem dX9_step_461 : decode cX9_step 461 = .ok (.dup, 1) := by decide +kernel
theorem dX9_step_462 : decode cX9_step 462 = .ok (.getfield 160, 3) := by decide +kernel
theorem dX9_step_465 : decode cX9_step 465 = .ok (.iconst 1, 1) := by decide +kernel
theorem dX9_step_466 : decode cX9_step 466 = .ok (.isub, 1) := by decide +kernel
theorem dX9_step_467 : decode cX9_step 467 = .ok (.putfield 160, 3) := by decide +kernel
theorem dX9_step_470 : decode cX9_step 470 = .ok (.goto 43, 3) := by decide +kernel
theorem dX9_step_473 : decode cX9_step 473 = .ok (.aload_n 0, 1) := by decide +kernel
theorem dX9_step_474 : decode cX9_step 474 = .ok (.getfield 50, 3) := by decide +kernel
theorem dX9_step_477 : decode cX9_step 477 = .ok (.aload_n 0, 1) := by decide +kernel
theorem dX9_step_478 : decode cX9_step 478 = .ok (.getfield 163, 3) := by decide +kernel
theorem dX9_step_481 : decode cX9_step 481 = .ok (.iload_n 3, 1) := by decide +kernel
theorem dX9_step_482 : decode cX9_step 482 = .ok (.iadd, 1) := by decide +kernel
theorem dX9_step_483 : decode cX9_step 483 = .ok (.aload_n 0, 1) := by decide +kernel
theorem dX9_step_484 : decode cX9_step 484 = .ok (.getfield 47, 3) := by decide +kernel
theorem dX9_step_487 : decode cX9_step 487 = .ok (.iload_n 2, 1) := by decide +kernel
theorem dX9_step_488 : decode cX9_step 488 = .ok (.iaload, 1) := by decide +kernel
theorem dX9_step_489 : decode cX9_step 489 = .ok (.iastore, 1) := by decide +kernel
theorem dX9_step_490 : decode cX9_step 490 = .ok (.goto 23, 3) := by decide +kernel
theorem dX9_step_493 : decode cX9_step 493 = .ok (.aload_n 0, 1) := by decide +kernel
theorem dX9_step_494 : decode cX9_step 494 = .ok (.getfield 47, 3) := by decide +kernel
theorem dX9_step_497 : decode cX9_step 497 = .ok (.iload_n 2, 1) := by decide +kernel
theorem dX9_step_498 : decode cX9_step 498 = .ok (.aload_n 0, 1) := by decide +kernel
theorem dX9_step_499 : decode cX9_step 499 = .ok (.getfield 50, 3) := by decide +kernel
theorem dX9_step_502 : decode cX9_step 502 = .ok (.aload_n 0, 1) := by decide +kernel
theorem dX9_step_503 : decode cX9_step 503 = .ok (.getfield 163, 3) := by decide +kernel
theorem dX9_step_506 : decode cX9_step 506 = .ok (.iload_n 3, 1) := by decide +kernel
theorem dX9_step_507 : decode cX9_step 507 = .ok (.iadd, 1) := by decide +kernel
theorem dX9_step_508 : decode cX9_step 508 = .ok (.iaload, 1) := by decide +kernel
theorem dX9_step_509 : decode cX9_step 509 = .ok (.iastore, 1) := by decide +kernel
theorem dX9_step_510 : decode cX9_step 510 = .ok (.goto 3, 3) := by decide +kernel
theorem dX9_step_513 : decode cX9_step 513 = .ok (.aload_n 0, 1) := by decide +kernel
theorem dX9_step_514 : decode cX9_step 514 = .ok (.iload 4, 2) := by decide +kernel
theorem dX9_step_516 : decode cX9_step 516 = .ok (.putfield 67, 3) := by decide +kernel
theorem dX9_step_519 : decode cX9_step 519 = .ok (.aload_n 0, 1) := by decide +kernel
theorem dX9_step_520 : decode cX9_step 520 = .ok (.getfield 67, 3) := by decide +kernel
theorem dX9_step_523 : decode cX9_step 523 = .ok (.ireturn, 1) := by decide +kernel
theorem dX9_machine_0 : decode cX9_machine 0 = .ok (.aload_n 0, 1) := by decide +kernel
theorem dX9_machine_1 : decode cX9_machine 1 = .ok (.iconst 0, 1) := by decide +kernel
theorem dX9_machine_2 : decode cX9_machine 2 = .ok (.putfield 59, 3) := by decide +kernel
theorem dX9_machine_5 : decode cX9_machine 5 = .ok (.aload_n 0, 1) := by decide +kernel
theorem dX9_machine_6 : decode cX9_machine 6 = .ok (.getfield 157, 3) := by decide +kernel
theorem dX9_machine_9 : decode cX9_machine 9 = .ok (.ifCond .eq 13, 3) := by decide +kernel
theorem dX9_machine_12 : decode cX9_machine 12 = .ok (.iload_n 1, 1) := by decide +kernel
theorem dX9_machine_13 : decode cX9_machine 13 = .ok (.ifCond .lt 9, 3) := by decide +kernel
theorem dX9_machine_16 : decode cX9_machine 16 = .ok (.iload_n 1, 1) := by decide +kernel
theorem dX9_machine_17 : decode cX9_machine 17 = .ok (.bipush 6, 2) := by decide +kernel
theorem dX9_machine_19 : decode cX9_machine 19 = .ok (.if_icmp .le 5, 3) := by decide +kernel
theorem dX9_machine_22 : decode cX9_machine 22 = .ok (.iconst (-1), 1) := by decide +kernel
theorem dX9_machine_23 : decode cX9_machine 23 = .ok (.ireturn, 1) := by decide +kernel
theorem dX9_machine_24 : decode cX9_machine 24 = .ok (.iload_n 1, 1) := by decide +kernel
theorem dX9_machine_25 : decode cX9_machine 25 = .ok (.ifCond .ne 10, 3) := by decide +kernel
theorem dX9_machine_28 : decode cX9_machine 28 = .ok (.aload_n 0, 1) := by decide +kernel
theorem dX9_machine_29 : decode cX9_machine 29 = .ok (.getfield 67, 3) := by decide +kernel
theorem dX9_machine_32 : decode cX9_machine 32 = .ok (.goto 47, 3) := by decide +kernel
theorem dX9_machine_35 : decode cX9_machine 35 = .ok (.iload_n 1, 1) := by decide +kernel
theorem dX9_machine_36 : decode cX9_machine 36 = .ok (.iconst 1, 1) := by decide +kernel
theorem dX9_machine_37 : decode cX9_machine 37 = .ok (.if_icmp .ne 10, 3) := by decide +kernel
theorem dX9_machine_40 : decode cX9_machine 40 = .ok (.aload_n 0, 1) := by decide +kernel
theorem dX9_machine_41 : decode cX9_machine 41 = .ok (.getfield 163, 3) := by decide +kernel
theorem dX9_machine_44 : decode cX9_machine 44 = .ok (.goto 35, 3) := by decide +kernel
theorem dX9_machine_47 : decode cX9_machine 47 = .ok (.iload_n 1, 1) := by decide +kernel
theorem dX9_machine_48 : decode cX9_machine 48 = .ok (.iconst 5, 1) := by decide +kernel
theorem dX9_machine_49 : decode cX9_machine 49 = .ok (.if_icmp .ge 14, 3) := by decide +kernel
theorem dX9_machine_52 : decode cX9_machine 52 = .ok (.aload_n 0, 1) := by decide +kernel
theorem dX9_machine_53 : decode cX9_machine 53 = .ok (.getfield 47, 3) := by decide +kernel
theorem dX9_machine_56 : decode cX9_machine 56 = .ok (.iload_n 1, 1) := by decide +kernel
theorem dX9_machine_57 : decode cX9_machine 57 = .ok (.iconst 2, 1) := by decide +kernel
theorem dX9_machine_58 : decode cX9_machine 58 = .ok (.isub, 1) := by decide +kernel
theorem dX9_machine_59 : decode cX9_machine 59 = .ok (.iaload, 1) := by decide +kernel
theorem dX9_machine_60 : decode cX9_machine 60 = .ok (.goto 19, 3) := by decide +kernel
theorem dX9_machine_63 : decode cX9_machine 63 = .ok (.iload_n 1, 1) := by decide +kernel
theorem dX9_machine_64 : decode cX9_machine 64 = .ok (.iconst 5, 1) := by decide +kernel
theorem dX9_machine_65 : decode cX9_machine 65 = .ok (.if_icmp .ne 10, 3) := by decide +kernel
theorem dX9_machine_68 : decode cX9_machine 68 = .ok (.aload_n 0, 1) := by decide +kernel
theorem dX9_machine_69 : decode cX9_machine 69 = .ok (.getfield 160, 3) := by decide +kernel
theorem dX9_machine_72 : decode cX9_machine 72 = .ok (.goto 7, 3) := by decide +kernel
theorem dX9_machine_75 : decode cX9_machine 75 = .ok (.aload_n 0, 1) := by decide +kernel
theorem dX9_machine_76 : decode cX9_machine 76 = .ok (.getfield 166, 3) := by decide +kernel
theorem dX9_machine_79 : decode cX9_machine 79 = .ok (.ireturn, 1) := by decide +kernel
theorem dX9_call_0 : decode cX9_call 0 = .ok (.aload_n 0, 1) := by decide +kernel
theorem dX9_call_1 : decode cX9_call 1 = .ok (.iconst 0, 1) := by decide +kernel
theorem dX9_call_2 : decode cX9_call 2 = .ok (.putfield 59, 3) := by decide +kernel
theorem dX9_call_5 : decode cX9_call 5 = .ok (.iload_n 1, 1) := by decide +kernel
theorem dX9_call_6 : decode cX9_call 6 = .ok (.ifCond .lt 11, 3) := by decide +kernel
theorem dX9_call_9 : decode cX9_call 9 = .ok (.iload_n 1, 1) := by decide +kernel
theorem dX9_call_10 : decode cX9_call 10 = .ok (.aload_n 0, 1) := by decide +kernel
theorem dX9_call_11 : decode cX9_call 11 = .ok (.getfield 166, 3) := by decide +kernel
theorem dX9_call_14 : decode cX9_call 14 = .ok (.if_icmp .lt 7, 3) := by decide +kernel
theorem dX9_call_17 : decode cX9_call 17 = .ok (.iconst (-1), 1) := by decide +kernel
theorem dX9_call_18 : decode cX9_call 18 = .ok (.goto 16, 3) := by decide +kernel
theorem dX9_call_21 : decode cX9_call 21 = .ok (.aload_n 0, 1) := by decide +kernel
theorem dX9_call_22 : decode cX9_call 22 = .ok (.getfield 53, 3) := by decide +kernel
theorem dX9_call_25 : decode cX9_call 25 = .ok (.aload_n 0, 1) := by decide +kernel
theorem dX9_call_26 : decode cX9_call 26 = .ok (.getfield 166, 3) := by decide +kernel
theorem dX9_call_29 : decode cX9_call 29 = .ok (.iconst 1, 1) := by decide +kernel
theorem dX9_call_30 : decode cX9_call 30 = .ok (.isub, 1) := by decide +kernel
theorem dX9_call_31 : decode cX9_call 31 = .ok (.iload_n 1, 1) := by decide +kernel
theorem dX9_call_32 : decode cX9_call 32 = .ok (.isub, 1) := by decide +kernel
theorem dX9_call_33 : decode cX9_call 33 = .ok (.iaload, 1) := by decide +kernel
theorem dX9_call_34 : decode cX9_call 34 = .ok (.ireturn, 1) := by decide +kernel
theorem dX9_nextFrame_0 : decode cX9_nextFrame 0 = .ok (.iconst 5, 1) := by decide +kernel
theorem dX9_nextFrame_1 : decode cX9_nextFrame 1 = .ok (.aload_n 0, 1) := by decide +kernel
theorem dX9_nextFrame_2 : decode cX9_nextFrame 2 = .ok (.getfield 179, 3) := by decide +kernel
theorem dX9_nextFrame_5 : decode cX9_nextFrame 5 = .ok (.iconst 1, 1) := by decide +kernel
theorem dX9_nextFrame_6 : decode cX9_nextFrame 6 = .ok (.isub, 1) := by decide +kernel
theorem dX9_nextFrame_7 : decode cX9_nextFrame 7 = .ok (.imul, 1) := by decide +kernel
theorem dX9_nextFrame_8 : decode cX9_nextFrame 8 = .ok (.istore_n 1, 1) := by decide +kernel
theorem dX9_nextFrame_9 : decode cX9_nextFrame 9 = .ok (.aload_n 0, 1) := by decide +kernel
theorem dX9_nextFrame_10 : decode cX9_nextFrame 10 = .ok (.aload_n 0, 1) := by decide +kernel
theorem dX9_nextFrame_11 : decode cX9_nextFrame 11 = .ok (.getfield 56, 3) := by decide +kernel
theorem dX9_nextFrame_14 : decode cX9_nextFrame 14 = .ok (.iload_n 1, 1) := by decide +kernel
theorem dX9_nextFrame_15 : decode cX9_nextFrame 15 = .ok (.iaload, 1) := by decide +kernel
theorem dX9_nextFrame_16 : decode cX9_nextFrame 16 = .ok (.invokevirtual 154, 3) := by decide +kernel
theorem dX9_nextFrame_19 : decode cX9_nextFrame 19 = .ok (.iconst 1, 1) := by decide +kernel
theorem dX9_nextFrame_20 : decode cX9_nextFrame 20 = .ok (.if_icmp .ge 5, 3) := by decide +kernel
theorem dX9_nextFrame_23 : decode cX9_nextFrame 23 = .ok (.iconst 0, 1) := by decide +kernel
theorem dX9_nextFrame_24 : decode cX9_nextFrame 24 = .ok (.ireturn, 1) := by decide +kernel
theorem dX9_nextFrame_25 : decode cX9_nextFrame 25 = .ok (.aload_n 0, 1) := by decide +kernel
theorem dX9_nextFrame_26 : decode cX9_nextFrame 26 = .ok (.getfield 38, 3) := by decide +kernel
theorem dX9_nextFrame_29 : decode cX9_nextFrame 29 = .ok (.iconst 0, 1) := by decide +kernel
theorem dX9_nextFrame_30 : decode cX9_nextFrame 30 = .ok (.iaload, 1) := by decide +kernel
theorem dX9_nextFrame_31 : decode cX9_nextFrame 31 = .ok (.iconst 1, 1) := by decide +kernel
theorem dX9_nextFrame_32 : decode cX9_nextFrame 32 = .ok (.if_icmp .ne 14, 3) := by decide +kernel
theorem dX9_nextFrame_35 : decode cX9_nextFrame 35 = .ok (.aload_n 0, 1) := by decide +kernel
theorem dX9_nextFrame_36 : decode cX9_nextFrame 36 = .ok (.getfield 56, 3) := by decide +kernel
theorem dX9_nextFrame_39 : decode cX9_nextFrame 39 = .ok (.iload_n 1, 1) := by decide +kernel
theorem dX9_nextFrame_40 : decode cX9_nextFrame 40 = .ok (.iconst 2, 1) := by decide +kernel
theorem dX9_nextFrame_41 : decode cX9_nextFrame 41 = .ok (.iadd, 1) := by decide +kernel
theorem dX9_nextFrame_42 : decode cX9_nextFrame 42 = .ok (.iaload, 1) := by decide +kernel
theorem dX9_nextFrame_43 : decode cX9_nextFrame 43 = .ok (.goto 11, 3) := by decide +kernel
theorem dX9_nextFrame_46 : decode cX9_nextFrame 46 = .ok (.aload_n 0, 1) := by decide +kernel
theorem dX9_nextFrame_47 : decode cX9_nextFrame 47 = .ok (.getfield 56, 3) := by decide +kernel
theorem dX9_nextFrame_50 : decode cX9_nextFrame 50 = .ok (.iload_n 1, 1) := by decide +kernel
theorem dX9_nextFrame_51 : decode cX9_nextFrame 51 = .ok (.iconst 1, 1) := by decide +kernel
theorem dX9_nextFrame_52 : decode cX9_nextFrame 52 = .ok (.iadd, 1) := by decide +kernel
theorem dX9_nextFrame_53 : decode cX9_nextFrame 53 = .ok (.iaload, 1) := by decide +kernel
theorem dX9_nextFrame_54 : decode cX9_nextFrame 54 = .ok (.i2l, 1) := by decide +kernel
theorem dX9_nextFrame_55 : decode cX9_nextFrame 55 = .ok (.aload_n 0, 1) := by decide +kernel
theorem dX9_nextFrame_56 : decode cX9_nextFrame 56 = .ok (.getfield 38, 3) := by decide +kernel
theorem dX9_nextFrame_59 : decode cX9_nextFrame 59 = .ok (.iconst 1, 1) := by decide +kernel
theorem dX9_nextFrame_60 : decode cX9_nextFrame 60 = .ok (.iaload, 1) := by decide +kernel
theorem dX9_nextFrame_61 : decode cX9_nextFrame 61 = .ok (.i2l, 1) := by decide +kernel
theorem dX9_nextFrame_62 : decode cX9_nextFrame 62 = .ok (.ladd, 1) := by decide +kernel
theorem dX9_nextFrame_63 : decode cX9_nextFrame 63 = .ok (.lstore_n 2, 1) := by decide +kernel
theorem dX9_nextFrame_64 : decode cX9_nextFrame 64 = .ok (.lload_n 2, 1) := by decide +kernel
theorem dX9_nextFrame_65 : decode cX9_nextFrame 65 = .ok (.lconst 1, 1) := by decide +kernel
theorem dX9_nextFrame_66 : decode cX9_nextFrame 66 = .ok (.lsub, 1) := by decide +kernel
theorem dX9_nextFrame_67 : decode cX9_nextFrame 67 = .ok (.invokestatic 171, 3) := by decide +kernel
theorem dX9_nextFrame_70 : decode cX9_nextFrame 70 = .ok (.ifCond .ne 5, 3) := by decide +kernel
theorem dX9_nextFrame_73 : decode cX9_nextFrame 73 = .ok (.iconst 0, 1) := by decide +kernel
theorem dX9_nextFrame_74 : decode cX9_nextFrame 74 = .ok (.ireturn, 1) := by decide +kernel
theorem dX9_nextFrame_75 : decode cX9_nextFrame 75 = .ok (.iconst 0, 1) := by decide +kernel
theorem dX9_nextFrame_76 : decode cX9_nextFrame 76 = .ok (.istore 4, 2) := by decide +kernel
theorem dX9_nextFrame_78 : decode cX9_nextFrame 78 = .ok (.iload 4, 2) := by decide +kernel
theorem dX9_nextFrame_80 : decode cX9_nextFrame 80 = .ok (.iconst 3, 1) := by decide +kernel
theorem dX9_nextFrame_81 : decode cX9_nextFrame 81 = .ok (.if_icmp .ge 79, 3) := by decide +kernel
theorem dX9_nextFrame_84 : decode cX9_nextFrame 84 = .ok (.aload_n 0, 1) := by decide +kernel
theorem dX9_nextFrame_85 : decode cX9_nextFrame 85 = .ok (.getfield 38, 3) := by decide +kernel
theorem dX9_nextFrame_88 : decode cX9_nextFrame 88 = .ok (.iconst 2, 1) := by decide +kernel
theorem dX9_nextFrame_89 : decode cX9_nextFrame 89 = .ok (.iload 4, 2) := by decide +kernel
theorem dX9_nextFrame_91 : decode cX9_nextFrame 91 = .ok (.iadd, 1) := by decide +kernel
theorem dX9_nextFrame_92 : decode cX9_nextFrame 92 = .ok (.iaload, 1) := by decide +kernel
theorem dX9_nextFrame_93 : decode cX9_nextFrame 93 = .ok (.istore 5, 2) := by decide +kernel
theorem dX9_nextFrame_95 : decode cX9_nextFrame 95 = .ok (.iload 5, 2) := by decide +kernel
theorem dX9_nextFrame_97 : decode cX9_nextFrame 97 = .ok (.ifCond .le 16, 3) := by decide +kernel
theorem dX9_nextFrame_100 : decode cX9_nextFrame 100 = .ok (.lload_n 2, 1) := by decide +kernel
theorem dX9_nextFrame_101 : decode cX9_nextFrame 101 = .ok (.iload 5, 2) := by decide +kernel
theorem dX9_nextFrame_103 : decode cX9_nextFrame 103 = .ok (.i2l, 1) := by decide +kernel
theorem dX9_nextFrame_104 : decode cX9_nextFrame 104 = .ok (.lsub, 1) := by decide +kernel
theorem dX9_nextFrame_105 : decode cX9_nextFrame 105 = .ok (.invokestatic 171, 3) := by decide +kernel
theorem dX9_nextFrame_108 : decode cX9_nextFrame 108 = .ok (.ifCond .ne 5, 3) := by decide +kernel
theorem dX9_nextFrame_111 : decode cX9_nextFrame 111 = .ok (.iconst 0, 1) := by decide +kernel
theorem dX9_nextFrame_112 : decode cX9_nextFrame 112 = .ok (.ireturn, 1) := by decide +kernel
theorem dX9_nextFrame_113 : decode cX9_nextFrame 113 = .ok (.aload_n 0, 1) := by decide +kernel
theorem dX9_nextFrame_114 : decode cX9_nextFrame 114 = .ok (.getfield 56, 3) := by decide +kernel
theorem dX9_nextFrame_117 : decode cX9_nextFrame 117 = .ok (.iload_n 1, 1) := by decide +kernel
theorem dX9_nextFrame_118 : decode cX9_nextFrame 118 = .ok (.bipush 7, 2) := by decide +kernel
theorem dX9_nextFrame_120 : decode cX9_nextFrame 120 = .ok (.iadd, 1) := by decide +kernel
theorem dX9_nextFrame_121 : decode cX9_nextFrame 121 = .ok (.iload 4, 2) := by decide +kernel
theorem dX9_nextFrame_123 : decode cX9_nextFrame 123 = .ok (.iadd, 1) := by decide +kernel
theorem dX9_nextFrame_124 : decode cX9_nextFrame 124 = .ok (.iload 5, 2) := by decide +kernel
theorem dX9_nextFrame_126 : decode cX9_nextFrame 126 = .ok (.ifCond .le 16, 3) := by decide +kernel
theorem dX9_nextFrame_129 : decode cX9_nextFrame 129 = .ok (.aload_n 0, 1) := by decide +kernel
theorem dX9_nextFrame_130 : decode cX9_nextFrame 130 = .ok (.getfield 50, 3) := by decide +kernel
theorem dX9_nextFrame_133 : decode cX9_nextFrame 133 = .ok (.lload_n 2, 1) := by decide +kernel
theorem dX9_nextFrame_134 : decode cX9_nextFrame 134 = .ok (.l2i, 1) := by decide +kernel
theorem dX9_nextFrame_135 : decode cX9_nextFrame 135 = .ok (.iload 5, 2) := by decide +kernel
theorem dX9_nextFrame_137 : decode cX9_nextFrame 137 = .ok (.isub, 1) := by decide +kernel
theorem dX9_nextFrame_138 : decode cX9_nextFrame 138 = .ok (.iaload, 1) := by decide +kernel
theorem dX9_nextFrame_139 : decode cX9_nextFrame 139 = .ok (.goto 14, 3) := by decide +kernel
theorem dX9_nextFrame_142 : decode cX9_nextFrame 142 = .ok (.aload_n 0, 1) := by decide +kernel
theorem dX9_nextFrame_143 : decode cX9_nextFrame 143 = .ok (.getfield 56, 3) := by decide +kernel
theorem dX9_nextFrame_146 : decode cX9_nextFrame 146 = .ok (.iload_n 1, 1) := by decide +kernel
theorem dX9_nextFrame_147 : decode cX9_nextFrame 147 = .ok (.iconst 2, 1) := by decide +kernel
theorem dX9_nextFrame_148 : decode cX9_nextFrame 148 = .ok (.iadd, 1) := by decide +kernel
theorem dX9_nextFrame_149 : decode cX9_nextFrame 149 = .ok (.iload 4, 2) := by decide +kernel
theorem dX9_nextFrame_151 : decode cX9_nextFrame 151 = .ok (.iadd, 1) := by decide +kernel
theorem dX9_nextFrame_152 : decode cX9_nextFrame 152 = .ok (.iaload, 1) := by decide +kernel
theorem dX9_nextFrame_153 : decode cX9_nextFrame 153 = .ok (.iastore, 1) := by decide +kernel
theorem dX9_nextFrame_154 : decode cX9_nextFrame 154 = .ok (.iinc 4 1, 3) := by decide +kernel
theorem dX9_nextFrame_157 : decode cX9_nextFrame 157 = .ok (.goto (-79), 3) := by decide +kernel
theorem dX9_nextFrame_160 : decode cX9_nextFrame 160 = .ok (.aload_n 0, 1) := by decide +kernel
theorem dX9_nextFrame_161 : decode cX9_nextFrame 161 = .ok (.getfield 56, 3) := by decide +kernel
theorem dX9_nextFrame_164 : decode cX9_nextFrame 164 = .ok (.iload_n 1, 1) := by decide +kernel
theorem dX9_nextFrame_165 : decode cX9_nextFrame 165 = .ok (.iconst 5, 1) := by decide +kernel
theorem dX9_nextFrame_166 : decode cX9_nextFrame 166 = .ok (.iadd, 1) := by decide +kernel
theorem dX9_nextFrame_167 : decode cX9_nextFrame 167 = .ok (.aload_n 0, 1) := by decide +kernel
theorem dX9_nextFrame_168 : decode cX9_nextFrame 168 = .ok (.getfield 50, 3) := by decide +kernel
theorem dX9_nextFrame_171 : decode cX9_nextFrame 171 = .ok (.lload_n 2, 1) := by decide +kernel
theorem dX9_nextFrame_172 : decode cX9_nextFrame 172 = .ok (.l2i, 1) := by decide +kernel
theorem dX9_nextFrame_173 : decode cX9_nextFrame 173 = .ok (.iconst 1, 1) := by decide +kernel
theorem dX9_nextFrame_174 : decode cX9_nextFrame 174 = .ok (.isub, 1) := by decide +kernel
theorem dX9_nextFrame_175 : decode cX9_nextFrame 175 = .ok (.iaload, 1) := by decide +kernel
theorem dX9_nextFrame_176 : decode cX9_nextFrame 176 = .ok (.iastore, 1) := by decide +kernel
theorem dX9_nextFrame_177 : decode cX9_nextFrame 177 = .ok (.aload_n 0, 1) := by decide +kernel
theorem dX9_nextFrame_178 : decode cX9_nextFrame 178 = .ok (.getfield 56, 3) := by decide +kernel
theorem dX9_nextFrame_181 : decode cX9_nextFrame 181 = .ok (.iload_n 1, 1) := by decide +kernel
theorem dX9_nextFrame_182 : decode cX9_nextFrame 182 = .ok (.bipush 6, 2) := by decide +kernel
theorem dX9_nextFrame_184 : decode cX9_nextFrame 184 = .ok (.iadd, 1) := by decide +kernel
theorem dX9_nextFrame_185 : decode cX9_nextFrame 185 = .ok (.lload_n 2, 1) := by decide +kernel
theorem dX9_nextFrame_186 : decode cX9_nextFrame 186 = .ok (.l2i, 1) := by decide +kernel
theorem dX9_nextFrame_187 : decode cX9_nextFrame 187 = .ok (.iastore, 1) := by decide +kernel
theorem dX9_nextFrame_188 : decode cX9_nextFrame 188 = .ok (.aload_n 0, 1) := by decide +kernel
theorem dX9_nextFrame_189 : decode cX9_nextFrame 189 = .ok (.dup, 1) := by decide +kernel
theorem dX9_nextFrame_190 : decode cX9_nextFrame 190 = .ok (.getfield 179, 3) := by decide +kernel
theorem dX9_nextFrame_193 : decode cX9_nextFrame 193 = .ok (.iconst 1, 1) := by decide +kernel
theorem dX9_nextFrame_194 : decode cX9_nextFrame 194 = .ok (.iadd, 1) := by decide +kernel
theorem dX9_nextFrame_195 : decode cX9_nextFrame 195 = .ok (.putfield 179, 3) := by decide +kernel
theorem dX9_nextFrame_198 : decode cX9_nextFrame 198 = .ok (.iconst 1, 1) := by decide +kernel
theorem dX9_nextFrame_199 : decode cX9_nextFrame 199 = .ok (.ireturn, 1) := by decide +kernel
theorem dX9_unwind_0 : decode cX9_unwind 0 = .ok (.aload_n 0, 1) := by decide +kernel
theorem dX9_unwind_1 : decode cX9_unwind 1 = .ok (.iconst 0, 1) := by decide +kernel
theorem dX9_unwind_2 : decode cX9_unwind 2 = .ok (.putfield 59, 3) := by decide +kernel
theorem dX9_unwind_5 : decode cX9_unwind 5 = .ok (.aload_n 0, 1) := by decide +kernel
theorem dX9_unwind_6 : decode cX9_unwind 6 = .ok (.iconst 0, 1) := by decide +kernel
theorem dX9_unwind_7 : decode cX9_unwind 7 = .ok (.putfield 179, 3) := by decide +kernel
theorem dX9_unwind_10 : decode cX9_unwind 10 = .ok (.aload_n 0, 1) := by decide +kernel
theorem dX9_unwind_11 : decode cX9_unwind 11 = .ok (.getfield 63, 3) := by decide +kernel
theorem dX9_unwind_14 : decode cX9_unwind 14 = .ok (.ifCond .ne 5, 3) := by decide +kernel
theorem dX9_unwind_17 : decode cX9_unwind 17 = .ok (.iconst (-1), 1) := by decide +kernel
theorem dX9_unwind_18 : decode cX9_unwind 18 = .ok (.ireturn, 1) := by decide +kernel
theorem dX9_unwind_19 : decode cX9_unwind 19 = .ok (.aload_n 0, 1) := by decide +kernel
theorem dX9_unwind_20 : decode cX9_unwind 20 = .ok (.getfield 56, 3) := by decide +kernel
theorem dX9_unwind_23 : decode cX9_unwind 23 = .ok (.iconst 0, 1) := by decide +kernel
theorem dX9_unwind_24 : decode cX9_unwind 24 = .ok (.aload_n 0, 1) := by decide +kernel
theorem dX9_unwind_25 : decode cX9_unwind 25 = .ok (.getfield 67, 3) := by decide +kernel
theorem dX9_unwind_28 : decode cX9_unwind 28 = .ok (.iastore, 1) := by decide +kernel
theorem dX9_unwind_29 : decode cX9_unwind 29 = .ok (.aload_n 0, 1) := by decide +kernel
theorem dX9_unwind_30 : decode cX9_unwind 30 = .ok (.getfield 56, 3) := by decide +kernel
theorem dX9_unwind_33 : decode cX9_unwind 33 = .ok (.iconst 1, 1) := by decide +kernel
theorem dX9_unwind_34 : decode cX9_unwind 34 = .ok (.aload_n 0, 1) := by decide +kernel
theorem dX9_unwind_35 : decode cX9_unwind 35 = .ok (.getfield 163, 3) := by decide +kernel
theorem dX9_unwind_38 : decode cX9_unwind 38 = .ok (.iastore, 1) := by decide +kernel
theorem dX9_unwind_39 : decode cX9_unwind 39 = .ok (.iconst 0, 1) := by decide +kernel
theorem dX9_unwind_40 : decode cX9_unwind 40 = .ok (.istore_n 1, 1) := by decide +kernel
theorem dX9_unwind_41 : decode cX9_unwind 41 = .ok (.iload_n 1, 1) := by decide +kernel
theorem dX9_unwind_42 : decode cX9_unwind 42 = .ok (.iconst 3, 1) := by decide +kernel
theorem dX9_unwind_43 : decode cX9_unwind 43 = .ok (.if_icmp .ge 23, 3) := by decide +kernel
theorem dX9_unwind_46 : decode cX9_unwind 46 = .ok (.aload_n 0, 1) := by decide +kernel
theorem dX9_unwind_47 : decode cX9_unwind 47 = .ok (.getfield 56, 3) := by decide +kernel
theorem dX9_unwind_50 : decode cX9_unwind 50 = .ok (.iconst 2, 1) := by decide +kernel
theorem dX9_unwind_51 : decode cX9_unwind 51 = .ok (.iload_n 1, 1) := by decide +kernel
theorem dX9_unwind_52 : decode cX9_unwind 52 = .ok (.iadd, 1) := by decide +kernel
theorem dX9_unwind_53 : decode cX9_unwind 53 = .ok (.aload_n 0, 1) := by decide +kernel
theorem dX9_unwind_54 : decode cX9_unwind 54 = .ok (.getfield 47, 3) := by decide +kernel
theorem dX9_unwind_57 : decode cX9_unwind 57 = .ok (.iload_n 1, 1) := by decide +kernel
theorem dX9_unwind_58 : decode cX9_unwind 58 = .ok (.iaload, 1) := by decide +kernel
theorem dX9_unwind_59 : decode cX9_unwind 59 = .ok (.iastore, 1) := by decide +kernel
theorem dX9_unwind_60 : decode cX9_unwind 60 = .ok (.iinc 1 1, 3) := by decide +kernel
theorem dX9_unwind_63 : decode cX9_unwind 63 = .ok (.goto (-22), 3) := by decide +kernel
theorem dX9_unwind_66 : decode cX9_unwind 66 = .ok (.aload_n 0, 1) := by decide +kernel
theorem dX9_unwind_67 : decode cX9_unwind 67 = .ok (.iconst 1, 1) := by decide +kernel
theorem dX9_unwind_68 : decode cX9_unwind 68 = .ok (.putfield 179, 3) := by decide +kernel
theorem dX9_unwind_71 : decode cX9_unwind 71 = .ok (.iconst 1, 1) := by decide +kernel
theorem dX9_unwind_72 : decode cX9_unwind 72 = .ok (.istore_n 1, 1) := by decide +kernel
theorem dX9_unwind_73 : decode cX9_unwind 73 = .ok (.iload_n 1, 1) := by decide +kernel
theorem dX9_unwind_74 : decode cX9_unwind 74 = .ok (.ifCond .eq 47, 3) := by decide +kernel
theorem dX9_unwind_77 : decode cX9_unwind 77 = .ok (.aload_n 0, 1) := by decide +kernel
theorem dX9_unwind_78 : decode cX9_unwind 78 = .ok (.getfield 56, 3) := by decide +kernel
theorem dX9_unwind_81 : decode cX9_unwind 81 = .ok (.iconst 5, 1) := by decide +kernel
theorem dX9_unwind_82 : decode cX9_unwind 82 = .ok (.aload_n 0, 1) := by decide +kernel
theorem dX9_unwind_83 : decode cX9_unwind 83 = .ok (.getfield 179, 3) := by decide +kernel
theorem dX9_unwind_86 : decode cX9_unwind 86 = .ok (.imul, 1) := by decide +kernel
theorem dX9_unwind_87 : decode cX9_unwind 87 = .ok (.iconst 5, 1) := by decide +kernel
theorem dX9_unwind_88 : decode cX9_unwind 88 = .ok (.isub, 1) := by decide +kernel
theorem dX9_unwind_89 : decode cX9_unwind 89 = .ok (.iaload, 1) := by decide +kernel
theorem dX9_unwind_90 : decode cX9_unwind 90 = .ok (.sipush 255, 3) := by decide +kernel
theorem dX9_unwind_93 : decode cX9_unwind 93 = .ok (.if_icmp .eq 28, 3) := by decide +kernel
theorem dX9_unwind_96 : decode cX9_unwind 96 = .ok (.aload_n 0, 1) := by decide +kernel
theorem dX9_unwind_97 : decode cX9_unwind 97 = .ok (.getfield 179, 3) := by decide +kernel
theorem dX9_unwind_100 : decode cX9_unwind 100 = .ok (.bipush 20, 2) := by decide +kernel
theorem dX9_unwind_102 : decode cX9_unwind 102 = .ok (.if_icmp .ge 14, 3) := by decide +kernel
theorem dX9_unwind_105 : decode cX9_unwind 105 = .ok (.aload_n 0, 1) := by decide +kernel
theorem dX9_unwind_106 : decode cX9_unwind 106 = .ok (.invokevirtual 182, 3) := by decide +kernel
theorem dX9_unwind_109 : decode cX9_unwind 109 = .ok (.ifCond .eq 7, 3) := by decide +kernel
theorem dX9_unwind_112 : decode cX9_unwind 112 = .ok (.iconst 1, 1) := by decide +kernel
theorem dX9_unwind_113 : decode cX9_unwind 113 = .ok (.goto 4, 3) := by decide +kernel
theorem dX9_unwind_116 : decode cX9_unwind 116 = .ok (.iconst 0, 1) := by decide +kernel
theorem dX9_unwind_117 : decode cX9_unwind 117 = .ok (.istore_n 1, 1) := by decide +kernel
theorem dX9_unwind_118 : decode cX9_unwind 118 = .ok (.goto (-45), 3) := by decide +kernel
theorem dX9_unwind_121 : decode cX9_unwind 121 = .ok (.aload_n 0, 1) := by decide +kernel
theorem dX9_unwind_122 : decode cX9_unwind 122 = .ok (.iload_n 1, 1) := by decide +kernel
theorem dX9_unwind_123 : decode cX9_unwind 123 = .ok (.ifCond .eq 10, 3) := by decide +kernel
theorem dX9_unwind_126 : decode cX9_unwind 126 = .ok (.aload_n 0, 1) := by decide +kernel
theorem dX9_unwind_127 : decode cX9_unwind 127 = .ok (.getfield 179, 3) := by decide +kernel
theorem dX9_unwind_130 : decode cX9_unwind 130 = .ok (.goto 4, 3) := by decide +kernel
theorem dX9_unwind_133 : decode cX9_unwind 133 = .ok (.iconst 0, 1) := by decide +kernel
theorem dX9_unwind_134 : decode cX9_unwind 134 = .ok (.putfield 179, 3) := by decide +kernel
theorem dX9_unwind_137 : decode cX9_unwind 137 = .ok (.iload_n 1, 1) := by decide +kernel
theorem dX9_unwind_138 : decode cX9_unwind 138 = .ok (.ifCond .eq 10, 3) := by decide +kernel
theorem dX9_unwind_141 : decode cX9_unwind 141 = .ok (.aload_n 0, 1) := by decide +kernel
theorem dX9_unwind_142 : decode cX9_unwind 142 = .ok (.getfield 179, 3) := by decide +kernel
theorem dX9_unwind_145 : decode cX9_unwind 145 = .ok (.goto 4, 3) := by decide +kernel
theorem dX9_unwind_148 : decode cX9_unwind 148 = .ok (.iconst (-1), 1) := by decide +kernel
theorem dX9_unwind_149 : decode cX9_unwind 149 = .ok (.ireturn, 1) := by decide +kernel
theorem dX9_frame_0 : decode cX9_frame 0 = .ok (.aload_n 0, 1) := by decide +kernel
theorem dX9_frame_1 : decode cX9_frame 1 = .ok (.iconst 0, 1) := by decide +kernel
theorem dX9_frame_2 : decode cX9_frame 2 = .ok (.putfield 59, 3) := by decide +kernel
theorem dX9_frame_5 : decode cX9_frame 5 = .ok (.iload_n 1, 1) := by decide +kernel
theorem dX9_frame_6 : decode cX9_frame 6 = .ok (.ifCond .lt 20, 3) := by decide +kernel
theorem dX9_frame_9 : decode cX9_frame 9 = .ok (.iload_n 1, 1) := by decide +kernel
theorem dX9_frame_10 : decode cX9_frame 10 = .ok (.aload_n 0, 1) := by decide +kernel
theorem dX9_frame_11 : decode cX9_frame 11 = .ok (.getfield 179, 3) := by decide +kernel
theorem dX9_frame_14 : decode cX9_frame 14 = .ok (.if_icmp .ge 12, 3) := by decide +kernel
theorem dX9_frame_17 : decode cX9_frame 17 = .ok (.iload_n 2, 1) := by decide +kernel
theorem dX9_frame_18 : decode cX9_frame 18 = .ok (.ifCond .lt 8, 3) := by decide +kernel
theorem dX9_frame_21 : decode cX9_frame 21 = .ok (.iload_n 2, 1) := by decide +kernel
theorem dX9_frame_22 : decode cX9_frame 22 = .ok (.iconst 4, 1) := by decide +kernel
theorem dX9_frame_23 : decode cX9_frame 23 = .ok (.if_icmp .le 7, 3) := by decide +kernel
theorem dX9_frame_26 : decode cX9_frame 26 = .ok (.iconst (-1), 1) := by decide +kernel
theorem dX9_frame_27 : decode cX9_frame 27 = .ok (.goto 13, 3) := by decide +kernel
theorem dX9_frame_30 : decode cX9_frame 30 = .ok (.aload_n 0, 1) := by decide +kernel
theorem dX9_frame_31 : decode cX9_frame 31 = .ok (.getfield 56, 3) := by decide +kernel
theorem dX9_frame_34 : decode cX9_frame 34 = .ok (.iconst 5, 1) := by decide +kernel
theorem dX9_frame_35 : decode cX9_frame 35 = .ok (.iload_n 1, 1) := by decide +kernel
theorem dX9_frame_36 : decode cX9_frame 36 = .ok (.imul, 1) := by decide +kernel
theorem dX9_frame_37 : decode cX9_frame 37 = .ok (.iload_n 2, 1) := by decide +kernel
theorem dX9_frame_38 : decode cX9_frame 38 = .ok (.iadd, 1) := by decide +kernel
theorem dX9_frame_39 : decode cX9_frame 39 = .ok (.iaload, 1) := by decide +kernel
theorem dX9_frame_40 : decode cX9_frame 40 = .ok (.ireturn, 1) := by decide +kernel
theorem dL_row_0 : decode cL_row 0 = .ok (.aload_n 3, 1) := by decide +kernel
theorem dL_row_1 : decode cL_row 1 = .ok (.iconst 0, 1) := by decide +kernel
theorem dL_row_2 : decode cL_row 2 = .ok (.aload_n 0, 1) := by decide +kernel
theorem dL_row_3 : decode cL_row 3 = .ok (.iload_n 1, 1) := by decide +kernel
theorem dL_row_4 : decode cL_row 4 = .ok (.iload_n 2, 1) := by decide +kernel
theorem dL_row_5 : decode cL_row 5 = .ok (.invokevirtual 7, 3) := by decide +kernel
theorem dL_row_8 : decode cL_row 8 = .ok (.i2l, 1) := by decide +kernel
theorem dL_row_9 : decode cL_row 9 = .ok (.lastore, 1) := by decide +kernel
theorem dL_row_10 : decode cL_row 10 = .ok (.goto 7, 3) := by decide +kernel
theorem dL_row_13 : decode cL_row 13 = .ok (.astore 4, 2) := by decide +kernel
theorem dL_row_15 : decode cL_row 15 = .ok (.iconst 1, 1) := by decide +kernel
theorem dL_row_16 : decode cL_row 16 = .ok (.ireturn, 1) := by decide +kernel
theorem dL_row_17 : decode cL_row 17 = .ok (.iconst 0, 1) := by decide +kernel
theorem dL_row_18 : decode cL_row 18 = .ok (.ireturn, 1) := by decide +kernel
theorem dL_step_0 : decode cL_step 0 = .ok (.aload_n 1, 1) := by decide +kernel
theorem dL_step_1 : decode cL_step 1 = .ok (.iconst 0, 1) := by decide +kernel
theorem dL_step_2 : decode cL_step 2 = .ok (.aload_n 0, 1) := by decide +kernel
theorem dL_step_3 : decode cL_step 3 = .ok (.invokevirtual 15, 3) := by decide +kernel
theorem dL_step_6 : decode cL_step 6 = .ok (.i2l, 1) := by decide +kernel
theorem dL_step_7 : decode cL_step 7 = .ok (.lastore, 1) := by decide +kernel
theorem dL_step_8 : decode cL_step 8 = .ok (.goto 9, 3) := by decide +kernel
theorem dL_step_11 : decode cL_step 11 = .ok (.astore_n 2, 1) := by decide +kernel
theorem dL_step_12 : decode cL_step 12 = .ok (.iconst 1, 1) := by decide +kernel
theorem dL_step_13 : decode cL_step 13 = .ok (.ireturn, 1) := by decide +kernel
theorem dL_step_14 : decode cL_step 14 = .ok (.astore_n 2, 1) := by decide +kernel
theorem dL_step_15 : decode cL_step 15 = .ok (.iconst 2, 1) := by decide +kernel
theorem dL_step_16 : decode cL_step 16 = .ok (.ireturn, 1) := by decide +kernel
theorem dL_step_17 : decode cL_step 17 = .ok (.iconst 0, 1) := by decide +kernel
theorem dL_step_18 : decode cL_step 18 = .ok (.ireturn, 1) := by decide +kernel
theorem dL_law_0 : decode cL_law 0 = .ok (.new 8, 3) := by decide +kernel
theorem dL_law_3 : decode cL_law 3 = .ok (.dup, 1) := by decide +kernel
theorem dL_law_4 : decode cL_law 4 = .ok (.invokespecial 23, 3) := by decide +kernel
theorem dL_law_7 : decode cL_law 7 = .ok (.astore_n 1, 1) := by decide +kernel
theorem dL_law_8 : decode cL_law 8 = .ok (.new 24, 3) := by decide +kernel
theorem dL_law_11 : decode cL_law 11 = .ok (.dup, 1) := by decide +kernel
theorem dL_law_12 : decode cL_law 12 = .ok (.invokespecial 26, 3) := by decide +kernel
theorem dL_law_15 : decode cL_law 15 = .ok (.astore_n 2, 1) := by decide +kernel
theorem dL_law_16 : decode cL_law 16 = .ok (.iconst 1, 1) := by decide +kernel
theorem dL_law_17 : decode cL_law 17 = .ok (.newarray .long, 2) := by decide +kernel
theorem dL_law_19 : decode cL_law 19 = .ok (.astore_n 3, 1) := by decide +kernel
theorem dL_law_20 : decode cL_law 20 = .ok (.iconst 0, 1) := by decide +kernel
theorem dL_law_21 : decode cL_law 21 = .ok (.istore 4, 2) := by decide +kernel
theorem dL_law_23 : decode cL_law 23 = .ok (.iload 4, 2) := by decide +kernel
theorem dL_law_25 : decode cL_law 25 = .ok (.aload_n 0, 1) := by decide +kernel
theorem dL_law_26 : decode cL_law 26 = .ok (.arraylength, 1) := by decide +kernel
theorem dL_law_27 : decode cL_law 27 = .ok (.iconst 5, 1) := by decide +kernel
theorem dL_law_28 : decode cL_law 28 = .ok (.isub, 1) := by decide +kernel
theorem dL_law_29 : decode cL_law 29 = .ok (.if_icmp .gt 548, 3) := by decide +kernel
theorem dL_law_32 : decode cL_law 32 = .ok (.aload_n 0, 1) := by decide +kernel
theorem dL_law_33 : decode cL_law 33 = .ok (.iload 4, 2) := by decide +kernel
theorem dL_law_35 : decode cL_law 35 = .ok (.iaload, 1) := by decide +kernel
theorem dL_law_36 : decode cL_law 36 = .ok (.bipush 15, 2) := by decide +kernel
theorem dL_law_38 : decode cL_law 38 = .ok (.iand, 1) := by decide +kernel
theorem dL_law_39 : decode cL_law 39 = .ok (.tableswitch 532 0 12 #[65, 134, 171, 184, 197, 222, 259, 327, 388, 432, 457, 482, 495], 65) := by decide +kernel
theorem dL_law_104 : decode cL_law 104 = .ok (.aload_n 1, 1) := by decide +kernel
theorem dL_law_105 : decode cL_law 105 = .ok (.aload_n 0, 1) := by decide +kernel
theorem dL_law_106 : decode cL_law 106 = .ok (.iload 4, 2) := by decide +kernel
theorem dL_law_108 : decode cL_law 108 = .ok (.iconst 1, 1) := by decide +kernel
theorem dL_law_109 : decode cL_law 109 = .ok (.iadd, 1) := by decide +kernel
theorem dL_law_110 : decode cL_law 110 = .ok (.iaload, 1) := by decide +kernel
theorem dL_law_111 : decode cL_law 111 = .ok (.i2l, 1) := by decide +kernel
theorem dL_law_112 : decode cL_law 112 = .ok (.bipush 32, 2) := by decide +kernel
theorem dL_law_114 : decode cL_law 114 = .ok (.lshl, 1) := by decide +kernel
theorem dL_law_115 : decode cL_law 115 = .ok (.aload_n 0, 1) := by decide +kernel
theorem dL_law_116 : decode cL_law 116 = .ok (.iload 4, 2) := by decide +kernel
theorem dL_law_118 : decode cL_law 118 = .ok (.iconst 2, 1) := by decide +kernel
theorem dL_law_119 : decode cL_law 119 = .ok (.iadd, 1) := by decide +kernel
theorem dL_law_120 : decode cL_law 120 = .ok (.iaload, 1) := by decide +kernel
theorem dL_law_121 : decode cL_law 121 = .ok (.i2l, 1) := by decide +kernel
theorem dL_law_122 : decode cL_law 122 = .ok (.ldc2_w 27, 3) := by decide +kernel
theorem dL_law_125 : decode cL_law 125 = .ok (.land, 1) := by decide +kernel
theorem dL_law_126 : decode cL_law 126 = .ok (.lor, 1) := by decide +kernel
theorem dL_law_127 : decode cL_law 127 = .ok (.aload_n 0, 1) := by decide +kernel
theorem dL_law_128 : decode cL_law 128 = .ok (.iload 4, 2) := by decide +kernel
theorem dL_law_130 : decode cL_law 130 = .ok (.iconst 3, 1) := by decide +kernel
theorem dL_law_131 : decode cL_law 131 = .ok (.iadd, 1) := by decide +kernel
theorem dL_law_132 : decode cL_law 132 = .ok (.iaload, 1) := by decide +kernel
theorem dL_law_133 : decode cL_law 133 = .ok (.invokevirtual 29, 3) := by decide +kernel
theorem dL_law_136 : decode cL_law 136 = .ok (.aload_n 2, 1) := by decide +kernel
theorem dL_law_137 : decode cL_law 137 = .ok (.aload_n 0, 1) := by decide +kernel
theorem dL_law_138 : decode cL_law 138 = .ok (.iload 4, 2) := by decide +kernel
theorem dL_law_140 : decode cL_law 140 = .ok (.iconst 1, 1) := by decide +kernel
theorem dL_law_141 : decode cL_law 141 = .ok (.iadd, 1) := by decide +kernel
theorem dL_law_142 : decode cL_law 142 = .ok (.iaload, 1) := by decide +kernel
theorem dL_law_143 : decode cL_law 143 = .ok (.i2l, 1) := by decide +kernel
theorem dL_law_144 : decode cL_law 144 = .ok (.bipush 32, 2) := by decide +kernel
theorem dL_law_146 : decode cL_law 146 = .ok (.lshl, 1) := by decide +kernel
theorem dL_law_147 : decode cL_law 147 = .ok (.aload_n 0, 1) := by decide +kernel
theorem dL_law_148 : decode cL_law 148 = .ok (.iload 4, 2) := by decide +kernel
theorem dL_law_150 : decode cL_law 150 = .ok (.iconst 2, 1) := by decide +kernel
theorem dL_law_151 : decode cL_law 151 = .ok (.iadd, 1) := by decide +kernel
theorem dL_law_152 : decode cL_law 152 = .ok (.iaload, 1) := by decide +kernel
theorem dL_law_153 : decode cL_law 153 = .ok (.i2l, 1) := by decide +kernel
theorem dL_law_154 : decode cL_law 154 = .ok (.ldc2_w 27, 3) := by decide +kernel
theorem dL_law_157 : decode cL_law 157 = .ok (.land, 1) := by decide +kernel
theorem dL_law_158 : decode cL_law 158 = .ok (.lor, 1) := by decide +kernel
theorem dL_law_159 : decode cL_law 159 = .ok (.aload_n 0, 1) := by decide +kernel
theorem dL_law_160 : decode cL_law 160 = .ok (.iload 4, 2) := by decide +kernel
theorem dL_law_162 : decode cL_law 162 = .ok (.iconst 3, 1) := by decide +kernel
theorem dL_law_163 : decode cL_law 163 = .ok (.iadd, 1) := by decide +kernel
theorem dL_law_164 : decode cL_law 164 = .ok (.iaload, 1) := by decide +kernel
theorem dL_law_165 : decode cL_law 165 = .ok (.invokevirtual 33, 3) := by decide +kernel
theorem dL_law_168 : decode cL_law 168 = .ok (.if_icmp .eq 403, 3) := by decide +kernel
theorem dL_law_171 : decode cL_law 171 = .ok (.iconst 0, 1) := by decide +kernel
theorem dL_law_172 : decode cL_law 172 = .ok (.ireturn, 1) := by decide +kernel
theorem dL_law_173 : decode cL_law 173 = .ok (.aload_n 1, 1) := by decide +kernel
theorem dL_law_174 : decode cL_law 174 = .ok (.aload_n 0, 1) := by decide +kernel
theorem dL_law_175 : decode cL_law 175 = .ok (.iload 4, 2) := by decide +kernel
theorem dL_law_177 : decode cL_law 177 = .ok (.iconst 1, 1) := by decide +kernel
theorem dL_law_178 : decode cL_law 178 = .ok (.iadd, 1) := by decide +kernel
theorem dL_law_179 : decode cL_law 179 = .ok (.iaload, 1) := by decide +kernel
theorem dL_law_180 : decode cL_law 180 = .ok (.aload_n 0, 1) := by decide +kernel
theorem dL_law_181 : decode cL_law 181 = .ok (.iload 4, 2) := by decide +kernel
theorem dL_law_183 : decode cL_law 183 = .ok (.iconst 2, 1) := by decide +kernel
theorem dL_law_184 : decode cL_law 184 = .ok (.iadd, 1) := by decide +kernel
theorem dL_law_185 : decode cL_law 185 = .ok (.iaload, 1) := by decide +kernel
theorem dL_law_186 : decode cL_law 186 = .ok (.invokevirtual 34, 3) := by decide +kernel
theorem dL_law_189 : decode cL_law 189 = .ok (.aload_n 2, 1) := by decide +kernel
theorem dL_law_190 : decode cL_law 190 = .ok (.aload_n 0, 1) := by decide +kernel
theorem dL_law_191 : decode cL_law 191 = .ok (.iload 4, 2) := by decide +kernel
theorem dL_law_193 : decode cL_law 193 = .ok (.iconst 1, 1) := by decide +kernel
theorem dL_law_194 : decode cL_law 194 = .ok (.iadd, 1) := by decide +kernel
theorem dL_law_195 : decode cL_law 195 = .ok (.iaload, 1) := by decide +kernel
theorem dL_law_196 : decode cL_law 196 = .ok (.aload_n 0, 1) := by decide +kernel
theorem dL_law_197 : decode cL_law 197 = .ok (.iload 4, 2) := by decide +kernel
theorem dL_law_199 : decode cL_law 199 = .ok (.iconst 2, 1) := by decide +kernel
theorem dL_law_200 : decode cL_law 200 = .ok (.iadd, 1) := by decide +kernel
theorem dL_law_201 : decode cL_law 201 = .ok (.iaload, 1) := by decide +kernel
theorem dL_law_202 : decode cL_law 202 = .ok (.invokevirtual 37, 3) := by decide +kernel
theorem dL_law_205 : decode cL_law 205 = .ok (.if_icmp .eq 366, 3) := by decide +kernel
theorem dL_law_208 : decode cL_law 208 = .ok (.iconst 0, 1) := by decide +kernel
theorem dL_law_209 : decode cL_law 209 = .ok (.ireturn, 1) := by decide +kernel
theorem dL_law_210 : decode cL_law 210 = .ok (.aload_n 1, 1) := by decide +kernel
theorem dL_law_211 : decode cL_law 211 = .ok (.invokevirtual 38, 3) := by decide +kernel
theorem dL_law_214 : decode cL_law 214 = .ok (.aload_n 2, 1) := by decide +kernel
theorem dL_law_215 : decode cL_law 215 = .ok (.invokevirtual 41, 3) := by decide +kernel
theorem dL_law_218 : decode cL_law 218 = .ok (.if_icmp .eq 353, 3) := by decide +kernel
theorem dL_law_221 : decode cL_law 221 = .ok (.iconst 0, 1) := by decide +kernel
theorem dL_law_222 : decode cL_law 222 = .ok (.ireturn, 1) := by decide +kernel
theorem dL_law_223 : decode cL_law 223 = .ok (.aload_n 1, 1) := by decide +kernel
theorem dL_law_224 : decode cL_law 224 = .ok (.invokevirtual 42, 3) := by decide +kernel
theorem dL_law_227 : decode cL_law 227 = .ok (.aload_n 2, 1) := by decide +kernel
theorem dL_law_228 : decode cL_law 228 = .ok (.invokevirtual 45, 3) := by decide +kernel
theorem dL_law_231 : decode cL_law 231 = .ok (.if_icmp .eq 340, 3) := by decide +kernel
theorem dL_law_234 : decode cL_law 234 = .ok (.iconst 0, 1) := by decide +kernel
theorem dL_law_235 : decode cL_law 235 = .ok (.ireturn, 1) := by decide +kernel
theorem dL_law_236 : decode cL_law 236 = .ok (.aload_n 1, 1) := by decide +kernel
theorem dL_law_237 : decode cL_law 237 = .ok (.aload_n 0, 1) := by decide +kernel
theorem dL_law_238 : decode cL_law 238 = .ok (.iload 4, 2) := by decide +kernel
theorem dL_law_240 : decode cL_law 240 = .ok (.iconst 1, 1) := by decide +kernel
theorem dL_law_241 : decode cL_law 241 = .ok (.iadd, 1) := by decide +kernel
theorem dL_law_242 : decode cL_law 242 = .ok (.iaload, 1) := by decide +kernel
theorem dL_law_243 : decode cL_law 243 = .ok (.invokevirtual 46, 3) := by decide +kernel
theorem dL_law_246 : decode cL_law 246 = .ok (.aload_n 2, 1) := by decide +kernel
theorem dL_law_247 : decode cL_law 247 = .ok (.aload_n 0, 1) := by decide +kernel
theorem dL_law_248 : decode cL_law 248 = .ok (.iload 4, 2) := by decide +kernel
theorem dL_law_250 : decode cL_law 250 = .ok (.iconst 1, 1) := by decide +kernel
theorem dL_law_251 : decode cL_law 251 = .ok (.iadd, 1) := by decide +kernel
theorem dL_law_252 : decode cL_law 252 = .ok (.iaload, 1) := by decide +kernel
theorem dL_law_253 : decode cL_law 253 = .ok (.invokevirtual 50, 3) := by decide +kernel
theorem dL_law_256 : decode cL_law 256 = .ok (.if_icmp .eq 315, 3) := by decide +kernel
theorem dL_law_259 : decode cL_law 259 = .ok (.iconst 0, 1) := by decide +kernel
theorem dL_law_260 : decode cL_law 260 = .ok (.ireturn, 1) := by decide +kernel
theorem dL_law_261 : decode cL_law 261 = .ok (.aload_n 1, 1) := by decide +kernel
theorem dL_law_262 : decode cL_law 262 = .ok (.aload_n 0, 1) := by decide +kernel
theorem dL_law_263 : decode cL_law 263 = .ok (.iload 4, 2) := by decide +kernel
theorem dL_law_265 : decode cL_law 265 = .ok (.iconst 1, 1) := by decide +kernel
theorem dL_law_266 : decode cL_law 266 = .ok (.iadd, 1) := by decide +kernel
theorem dL_law_267 : decode cL_law 267 = .ok (.iaload, 1) := by decide +kernel
theorem dL_law_268 : decode cL_law 268 = .ok (.aload_n 0, 1) := by decide +kernel
theorem dL_law_269 : decode cL_law 269 = .ok (.iload 4, 2) := by decide +kernel
theorem dL_law_271 : decode cL_law 271 = .ok (.iconst 2, 1) := by decide +kernel
theorem dL_law_272 : decode cL_law 272 = .ok (.iadd, 1) := by decide +kernel
theorem dL_law_273 : decode cL_law 273 = .ok (.iaload, 1) := by decide +kernel
theorem dL_law_274 : decode cL_law 274 = .ok (.invokevirtual 51, 3) := by decide +kernel
theorem dL_law_277 : decode cL_law 277 = .ok (.aload_n 2, 1) := by decide +kernel
theorem dL_law_278 : decode cL_law 278 = .ok (.aload_n 0, 1) := by decide +kernel
theorem dL_law_279 : decode cL_law 279 = .ok (.iload 4, 2) := by decide +kernel
theorem dL_law_281 : decode cL_law 281 = .ok (.iconst 1, 1) := by decide +kernel
theorem dL_law_282 : decode cL_law 282 = .ok (.iadd, 1) := by decide +kernel
theorem dL_law_283 : decode cL_law 283 = .ok (.iaload, 1) := by decide +kernel
theorem dL_law_284 : decode cL_law 284 = .ok (.aload_n 0, 1) := by decide +kernel
theorem dL_law_285 : decode cL_law 285 = .ok (.iload 4, 2) := by decide +kernel
theorem dL_law_287 : decode cL_law 287 = .ok (.iconst 2, 1) := by decide +kernel
theorem dL_law_288 : decode cL_law 288 = .ok (.iadd, 1) := by decide +kernel
theorem dL_law_289 : decode cL_law 289 = .ok (.iaload, 1) := by decide +kernel
theorem dL_law_290 : decode cL_law 290 = .ok (.invokevirtual 55, 3) := by decide +kernel
theorem dL_law_293 : decode cL_law 293 = .ok (.if_icmp .eq 278, 3) := by decide +kernel
theorem dL_law_296 : decode cL_law 296 = .ok (.iconst 0, 1) := by decide +kernel
theorem dL_law_297 : decode cL_law 297 = .ok (.ireturn, 1) := by decide +kernel
theorem dL_law_298 : decode cL_law 298 = .ok (.aload_n 1, 1) := by decide +kernel
theorem dL_law_299 : decode cL_law 299 = .ok (.aload_n 0, 1) := by decide +kernel
theorem dL_law_300 : decode cL_law 300 = .ok (.iload 4, 2) := by decide +kernel
theorem dL_law_302 : decode cL_law 302 = .ok (.iconst 1, 1) := by decide +kernel
theorem dL_law_303 : decode cL_law 303 = .ok (.iadd, 1) := by decide +kernel
theorem dL_law_304 : decode cL_law 304 = .ok (.iaload, 1) := by decide +kernel
theorem dL_law_305 : decode cL_law 305 = .ok (.aload_n 0, 1) := by decide +kernel
theorem dL_law_306 : decode cL_law 306 = .ok (.iload 4, 2) := by decide +kernel
theorem dL_law_308 : decode cL_law 308 = .ok (.iconst 2, 1) := by decide +kernel
theorem dL_law_309 : decode cL_law 309 = .ok (.iadd, 1) := by decide +kernel
theorem dL_law_310 : decode cL_law 310 = .ok (.iaload, 1) := by decide +kernel
theorem dL_law_311 : decode cL_law 311 = .ok (.aload_n 3, 1) := by decide +kernel
theorem dL_law_312 : decode cL_law 312 = .ok (.invokestatic 56, 3) := by decide +kernel
theorem dL_law_315 : decode cL_law 315 = .ok (.istore 5, 2) := by decide +kernel
theorem dL_law_317 : decode cL_law 317 = .ok (.aload_n 2, 1) := by decide +kernel
theorem dL_law_318 : decode cL_law 318 = .ok (.aload_n 0, 1) := by decide +kernel
theorem dL_law_319 : decode cL_law 319 = .ok (.iload 4, 2) := by decide +kernel
theorem dL_law_321 : decode cL_law 321 = .ok (.iconst 1, 1) := by decide +kernel
theorem dL_law_322 : decode cL_law 322 = .ok (.iadd, 1) := by decide +kernel
theorem dL_law_323 : decode cL_law 323 = .ok (.iaload, 1) := by decide +kernel
theorem dL_law_324 : decode cL_law 324 = .ok (.aload_n 0, 1) := by decide +kernel
theorem dL_law_325 : decode cL_law 325 = .ok (.iload 4, 2) := by decide +kernel
theorem dL_law_327 : decode cL_law 327 = .ok (.iconst 2, 1) := by decide +kernel
theorem dL_law_328 : decode cL_law 328 = .ok (.iadd, 1) := by decide +kernel
theorem dL_law_329 : decode cL_law 329 = .ok (.iaload, 1) := by decide +kernel
theorem dL_law_330 : decode cL_law 330 = .ok (.invokevirtual 61, 3) := by decide +kernel
theorem dL_law_333 : decode cL_law 333 = .ok (.istore 6, 2) := by decide +kernel
theorem dL_law_335 : decode cL_law 335 = .ok (.aload_n 2, 1) := by decide +kernel
theorem dL_law_336 : decode cL_law 336 = .ok (.invokevirtual 62, 3) := by decide +kernel
theorem dL_law_339 : decode cL_law 339 = .ok (.iload 5, 2) := by decide +kernel
theorem dL_law_341 : decode cL_law 341 = .ok (.if_icmp .eq 5, 3) := by decide +kernel
theorem dL_law_344 : decode cL_law 344 = .ok (.iconst 0, 1) := by decide +kernel
theorem dL_law_345 : decode cL_law 345 = .ok (.ireturn, 1) := by decide +kernel
theorem dL_law_346 : decode cL_law 346 = .ok (.iload 5, 2) := by decide +kernel
theorem dL_law_348 : decode cL_law 348 = .ok (.ifCond .ne 15, 3) := by decide +kernel
theorem dL_law_351 : decode cL_law 351 = .ok (.aload_n 3, 1) := by decide +kernel
theorem dL_law_352 : decode cL_law 352 = .ok (.iconst 0, 1) := by decide +kernel
theorem dL_law_353 : decode cL_law 353 = .ok (.laload, 1) := by decide +kernel
theorem dL_law_354 : decode cL_law 354 = .ok (.iload 6, 2) := by decide +kernel
theorem dL_law_356 : decode cL_law 356 = .ok (.i2l, 1) := by decide +kernel
theorem dL_law_357 : decode cL_law 357 = .ok (.lcmp, 1) := by decide +kernel
theorem dL_law_358 : decode cL_law 358 = .ok (.ifCond .eq 5, 3) := by decide +kernel
theorem dL_law_361 : decode cL_law 361 = .ok (.iconst 0, 1) := by decide +kernel
theorem dL_law_362 : decode cL_law 362 = .ok (.ireturn, 1) := by decide +kernel
theorem dL_law_363 : decode cL_law 363 = .ok (.goto 208, 3) := by decide +kernel
theorem dL_law_366 : decode cL_law 366 = .ok (.aload_n 1, 1) := by decide +kernel
theorem dL_law_367 : decode cL_law 367 = .ok (.aload_n 0, 1) := by decide +kernel
theorem dL_law_368 : decode cL_law 368 = .ok (.iload 4, 2) := by decide +kernel
theorem dL_law_370 : decode cL_law 370 = .ok (.iconst 1, 1) := by decide +kernel
theorem dL_law_371 : decode cL_law 371 = .ok (.iadd, 1) := by decide +kernel
theorem dL_law_372 : decode cL_law 372 = .ok (.iaload, 1) := by decide +kernel
theorem dL_law_373 : decode cL_law 373 = .ok (.aload_n 0, 1) := by decide +kernel
theorem dL_law_374 : decode cL_law 374 = .ok (.iload 4, 2) := by decide +kernel
theorem dL_law_376 : decode cL_law 376 = .ok (.iconst 2, 1) := by decide +kernel
theorem dL_law_377 : decode cL_law 377 = .ok (.iadd, 1) := by decide +kernel
theorem dL_law_378 : decode cL_law 378 = .ok (.iaload, 1) := by decide +kernel
theorem dL_law_379 : decode cL_law 379 = .ok (.aload_n 0, 1) := by decide +kernel
theorem dL_law_380 : decode cL_law 380 = .ok (.iload 4, 2) := by decide +kernel
theorem dL_law_382 : decode cL_law 382 = .ok (.iconst 3, 1) := by decide +kernel
theorem dL_law_383 : decode cL_law 383 = .ok (.iadd, 1) := by decide +kernel
theorem dL_law_384 : decode cL_law 384 = .ok (.iaload, 1) := by decide +kernel
theorem dL_law_385 : decode cL_law 385 = .ok (.aload_n 0, 1) := by decide +kernel
theorem dL_law_386 : decode cL_law 386 = .ok (.iload 4, 2) := by decide +kernel
theorem dL_law_388 : decode cL_law 388 = .ok (.iconst 4, 1) := by decide +kernel
theorem dL_law_389 : decode cL_law 389 = .ok (.iadd, 1) := by decide +kernel
theorem dL_law_390 : decode cL_law 390 = .ok (.iaload, 1) := by decide +kernel
theorem dL_law_391 : decode cL_law 391 = .ok (.invokevirtual 65, 3) := by decide +kernel
theorem dL_law_394 : decode cL_law 394 = .ok (.aload_n 2, 1) := by decide +kernel
theorem dL_law_395 : decode cL_law 395 = .ok (.aload_n 0, 1) := by decide +kernel
theorem dL_law_396 : decode cL_law 396 = .ok (.iload 4, 2) := by decide +kernel
theorem dL_law_398 : decode cL_law 398 = .ok (.iconst 1, 1) := by decide +kernel
theorem dL_law_399 : decode cL_law 399 = .ok (.iadd, 1) := by decide +kernel
theorem dL_law_400 : decode cL_law 400 = .ok (.iaload, 1) := by decide +kernel
theorem dL_law_401 : decode cL_law 401 = .ok (.aload_n 0, 1) := by decide +kernel
theorem dL_law_402 : decode cL_law 402 = .ok (.iload 4, 2) := by decide +kernel
theorem dL_law_404 : decode cL_law 404 = .ok (.iconst 2, 1) := by decide +kernel
theorem dL_law_405 : decode cL_law 405 = .ok (.iadd, 1) := by decide +kernel
theorem dL_law_406 : decode cL_law 406 = .ok (.iaload, 1) := by decide +kernel
theorem dL_law_407 : decode cL_law 407 = .ok (.aload_n 0, 1) := by decide +kernel
theorem dL_law_408 : decode cL_law 408 = .ok (.iload 4, 2) := by decide +kernel
theorem dL_law_410 : decode cL_law 410 = .ok (.iconst 3, 1) := by decide +kernel
theorem dL_law_411 : decode cL_law 411 = .ok (.iadd, 1) := by decide +kernel
theorem dL_law_412 : decode cL_law 412 = .ok (.iaload, 1) := by decide +kernel
theorem dL_law_413 : decode cL_law 413 = .ok (.aload_n 0, 1) := by decide +kernel
theorem dL_law_414 : decode cL_law 414 = .ok (.iload 4, 2) := by decide +kernel
theorem dL_law_416 : decode cL_law 416 = .ok (.iconst 4, 1) := by decide +kernel
theorem dL_law_417 : decode cL_law 417 = .ok (.iadd, 1) := by decide +kernel
theorem dL_law_418 : decode cL_law 418 = .ok (.iaload, 1) := by decide +kernel
theorem dL_law_419 : decode cL_law 419 = .ok (.invokevirtual 69, 3) := by decide +kernel
theorem dL_law_422 : decode cL_law 422 = .ok (.if_icmp .eq 149, 3) := by decide +kernel
theorem dL_law_425 : decode cL_law 425 = .ok (.iconst 0, 1) := by decide +kernel
theorem dL_law_426 : decode cL_law 426 = .ok (.ireturn, 1) := by decide +kernel
theorem dL_law_427 : decode cL_law 427 = .ok (.aload_n 1, 1) := by decide +kernel
theorem dL_law_428 : decode cL_law 428 = .ok (.aload_n 3, 1) := by decide +kernel
theorem dL_law_429 : decode cL_law 429 = .ok (.invokestatic 70, 3) := by decide +kernel
theorem dL_law_432 : decode cL_law 432 = .ok (.istore 5, 2) := by decide +kernel
theorem dL_law_434 : decode cL_law 434 = .ok (.aload_n 2, 1) := by decide +kernel
theorem dL_law_435 : decode cL_law 435 = .ok (.invokevirtual 73, 3) := by decide +kernel
theorem dL_law_438 : decode cL_law 438 = .ok (.istore 6, 2) := by decide +kernel
theorem dL_law_440 : decode cL_law 440 = .ok (.aload_n 2, 1) := by decide +kernel
theorem dL_law_441 : decode cL_law 441 = .ok (.invokevirtual 62, 3) := by decide +kernel
theorem dL_law_444 : decode cL_law 444 = .ok (.iload 5, 2) := by decide +kernel
theorem dL_law_446 : decode cL_law 446 = .ok (.if_icmp .eq 5, 3) := by decide +kernel
theorem dL_law_449 : decode cL_law 449 = .ok (.iconst 0, 1) := by decide +kernel
theorem dL_law_450 : decode cL_law 450 = .ok (.ireturn, 1) := by decide +kernel
theorem dL_law_451 : decode cL_law 451 = .ok (.iload 5, 2) := by decide +kernel
theorem dL_law_453 : decode cL_law 453 = .ok (.ifCond .ne 15, 3) := by decide +kernel
theorem dL_law_456 : decode cL_law 456 = .ok (.aload_n 3, 1) := by decide +kernel
theorem dL_law_457 : decode cL_law 457 = .ok (.iconst 0, 1) := by decide +kernel
theorem dL_law_458 : decode cL_law 458 = .ok (.laload, 1) := by decide +kernel
theorem dL_law_459 : decode cL_law 459 = .ok (.iload 6, 2) := by decide +kernel
theorem dL_law_461 : decode cL_law 461 = .ok (.i2l, 1) := by decide +kernel
theorem dL_law_462 : decode cL_law 462 = .ok (.lcmp, 1) := by decide +kernel
theorem dL_law_463 : decode cL_law 463 = .ok (.ifCond .eq 5, 3) := by decide +kernel
theorem dL_law_466 : decode cL_law 466 = .ok (.iconst 0, 1) := by decide +kernel
theorem dL_law_467 : decode cL_law 467 = .ok (.ireturn, 1) := by decide +kernel
theorem dL_law_468 : decode cL_law 468 = .ok (.goto 103, 3) := by decide +kernel
theorem dL_law_471 : decode cL_law 471 = .ok (.aload_n 1, 1) := by decide +kernel
theorem dL_law_472 : decode cL_law 472 = .ok (.aload_n 0, 1) := by decide +kernel
theorem dL_law_473 : decode cL_law 473 = .ok (.iload 4, 2) := by decide +kernel
theorem dL_law_475 : decode cL_law 475 = .ok (.iconst 1, 1) := by decide +kernel
theorem dL_law_476 : decode cL_law 476 = .ok (.iadd, 1) := by decide +kernel
theorem dL_law_477 : decode cL_law 477 = .ok (.iaload, 1) := by decide +kernel
theorem dL_law_478 : decode cL_law 478 = .ok (.invokevirtual 74, 3) := by decide +kernel
theorem dL_law_481 : decode cL_law 481 = .ok (.aload_n 2, 1) := by decide +kernel
theorem dL_law_482 : decode cL_law 482 = .ok (.aload_n 0, 1) := by decide +kernel
theorem dL_law_483 : decode cL_law 483 = .ok (.iload 4, 2) := by decide +kernel
theorem dL_law_485 : decode cL_law 485 = .ok (.iconst 1, 1) := by decide +kernel
theorem dL_law_486 : decode cL_law 486 = .ok (.iadd, 1) := by decide +kernel
theorem dL_law_487 : decode cL_law 487 = .ok (.iaload, 1) := by decide +kernel
theorem dL_law_488 : decode cL_law 488 = .ok (.invokevirtual 77, 3) := by decide +kernel
theorem dL_law_491 : decode cL_law 491 = .ok (.if_icmp .eq 80, 3) := by decide +kernel
theorem dL_law_494 : decode cL_law 494 = .ok (.iconst 0, 1) := by decide +kernel
theorem dL_law_495 : decode cL_law 495 = .ok (.ireturn, 1) := by decide +kernel
theorem dL_law_496 : decode cL_law 496 = .ok (.aload_n 1, 1) := by decide +kernel
theorem dL_law_497 : decode cL_law 497 = .ok (.aload_n 0, 1) := by decide +kernel
theorem dL_law_498 : decode cL_law 498 = .ok (.iload 4, 2) := by decide +kernel
theorem dL_law_500 : decode cL_law 500 = .ok (.iconst 1, 1) := by decide +kernel
theorem dL_law_501 : decode cL_law 501 = .ok (.iadd, 1) := by decide +kernel
theorem dL_law_502 : decode cL_law 502 = .ok (.iaload, 1) := by decide +kernel
theorem dL_law_503 : decode cL_law 503 = .ok (.invokevirtual 78, 3) := by decide +kernel
theorem dL_law_506 : decode cL_law 506 = .ok (.aload_n 2, 1) := by decide +kernel
theorem dL_law_507 : decode cL_law 507 = .ok (.aload_n 0, 1) := by decide +kernel
theorem dL_law_508 : decode cL_law 508 = .ok (.iload 4, 2) := by decide +kernel
theorem dL_law_510 : decode cL_law 510 = .ok (.iconst 1, 1) := by decide +kernel
theorem dL_law_511 : decode cL_law 511 = .ok (.iadd, 1) := by decide +kernel
theorem dL_law_512 : decode cL_law 512 = .ok (.iaload, 1) := by decide +kernel
theorem dL_law_513 : decode cL_law 513 = .ok (.invokevirtual 81, 3) := by decide +kernel
theorem dL_law_516 : decode cL_law 516 = .ok (.if_icmp .eq 55, 3) := by decide +kernel
theorem dL_law_519 : decode cL_law 519 = .ok (.iconst 0, 1) := by decide +kernel
theorem dL_law_520 : decode cL_law 520 = .ok (.ireturn, 1) := by decide +kernel
theorem dL_law_521 : decode cL_law 521 = .ok (.aload_n 1, 1) := by decide +kernel
theorem dL_law_522 : decode cL_law 522 = .ok (.invokevirtual 82, 3) := by decide +kernel
theorem dL_law_525 : decode cL_law 525 = .ok (.aload_n 2, 1) := by decide +kernel
theorem dL_law_526 : decode cL_law 526 = .ok (.invokevirtual 85, 3) := by decide +kernel
theorem dL_law_529 : decode cL_law 529 = .ok (.if_icmp .eq 42, 3) := by decide +kernel
theorem dL_law_532 : decode cL_law 532 = .ok (.iconst 0, 1) := by decide +kernel
theorem dL_law_533 : decode cL_law 533 = .ok (.ireturn, 1) := by decide +kernel
theorem dL_law_534 : decode cL_law 534 = .ok (.aload_n 1, 1) := by decide +kernel
theorem dL_law_535 : decode cL_law 535 = .ok (.aload_n 0, 1) := by decide +kernel
theorem dL_law_536 : decode cL_law 536 = .ok (.iload 4, 2) := by decide +kernel
theorem dL_law_538 : decode cL_law 538 = .ok (.iconst 1, 1) := by decide +kernel
theorem dL_law_539 : decode cL_law 539 = .ok (.iadd, 1) := by decide +kernel
theorem dL_law_540 : decode cL_law 540 = .ok (.iaload, 1) := by decide +kernel
theorem dL_law_541 : decode cL_law 541 = .ok (.aload_n 0, 1) := by decide +kernel
theorem dL_law_542 : decode cL_law 542 = .ok (.iload 4, 2) := by decide +kernel
theorem dL_law_544 : decode cL_law 544 = .ok (.iconst 2, 1) := by decide +kernel
theorem dL_law_545 : decode cL_law 545 = .ok (.iadd, 1) := by decide +kernel
theorem dL_law_546 : decode cL_law 546 = .ok (.iaload, 1) := by decide +kernel
theorem dL_law_547 : decode cL_law 547 = .ok (.invokevirtual 86, 3) := by decide +kernel
theorem dL_law_550 : decode cL_law 550 = .ok (.aload_n 2, 1) := by decide +kernel
theorem dL_law_551 : decode cL_law 551 = .ok (.aload_n 0, 1) := by decide +kernel
theorem dL_law_552 : decode cL_law 552 = .ok (.iload 4, 2) := by decide +kernel
theorem dL_law_554 : decode cL_law 554 = .ok (.iconst 1, 1) := by decide +kernel
theorem dL_law_555 : decode cL_law 555 = .ok (.iadd, 1) := by decide +kernel
theorem dL_law_556 : decode cL_law 556 = .ok (.iaload, 1) := by decide +kernel
theorem dL_law_557 : decode cL_law 557 = .ok (.aload_n 0, 1) := by decide +kernel
theorem dL_law_558 : decode cL_law 558 = .ok (.iload 4, 2) := by decide +kernel
theorem dL_law_560 : decode cL_law 560 = .ok (.iconst 2, 1) := by decide +kernel
theorem dL_law_561 : decode cL_law 561 = .ok (.iadd, 1) := by decide +kernel
theorem dL_law_562 : decode cL_law 562 = .ok (.iaload, 1) := by decide +kernel
theorem dL_law_563 : decode cL_law 563 = .ok (.invokevirtual 89, 3) := by decide +kernel
theorem dL_law_566 : decode cL_law 566 = .ok (.if_icmp .eq 5, 3) := by decide +kernel
theorem dL_law_569 : decode cL_law 569 = .ok (.iconst 0, 1) := by decide +kernel
theorem dL_law_570 : decode cL_law 570 = .ok (.ireturn, 1) := by decide +kernel
theorem dL_law_571 : decode cL_law 571 = .ok (.iinc 4 5, 3) := by decide +kernel
theorem dL_law_574 : decode cL_law 574 = .ok (.goto (-551), 3) := by decide +kernel
theorem dL_law_577 : decode cL_law 577 = .ok (.iconst 1, 1) := by decide +kernel
theorem dL_law_578 : decode cL_law 578 = .ok (.ireturn, 1) := by decide +kernel
end
section
/-! ===== base: one world of all cells of an object graph, its numbers a function S (row, place); a judgement GX that carries the model's answer M ===== -/
abbrev St : Type := Nat → Nat → Int32
def st (S : St) (k i : Nat) (v : Int32) : St := fun k' => if k' = k then upd (S k) i v else S k'
theorem st_self (S : St) (k i : Nat) (v : Int32) : st S k i v k = upd (S k) i v := by simp [st]
theorem st_ne (S : St) {k k' : Nat} (i : Nat) (v : Int32) (h : k' ≠ k) : st S k i v k' = S k' := by simp [st, h]
theorem st_at (S : St) (k i : Nat) (v : Int32) (k' i' : Nat) : st S k i v k' i' = if k' = k ∧ i' = i then v else S k' i' := by
  unfold st upd
  by_cases h : k' = k
  · subst h
    by_cases h2 : i' = i <;> simp [h2]
  · simp [h]
def inb (i : Int32) (n : Nat) : Bool := decide (¬ (i < 0 ∨ n ≤ i.toNatClampNeg))
theorem inb_vp {i : Int32} {n : Nat} (h : inb i n = true) : vp_in i n := of_decide_eq_true (p := ¬ (i < 0 ∨ n ≤ i.toNatClampNeg)) h
theorem inb_lt {i : Int32} {n : Nat} (h : inb i n = true) : i.toNatClampNeg < n := Nat.not_le.mp fun q => inb_vp h (Or.inr q)


/-- links of nest mates that are carried along -/
abbrev nestAll : List Cond := [.fieldLinkNest "ChainUnwinder$Packer" 44 "ChainUnwinder$Program" "firsts" "[I" "ChainUnwinder", .fieldLinkNest "ChainUnwinder$Machine" 40 "ChainUnwinder$Program" "firsts" "[I" "ChainUnwinder", .fieldLinkNest "ChainUnwinder$Packer" 48 "ChainUnwinder$Program" "ends" "[I" "ChainUnwinder", .fieldLinkNest "ChainUnwinder$Machine" 53 "ChainUnwinder$Program" "length" "I" "ChainUnwinder", .fieldLinkNest "ChainUnwinder$Machine" 25 "ChainUnwinder$Program" "functions" "I" "ChainUnwinder", .fieldLinkNest "ChainUnwinder$Packer" 38 "ChainUnwinder$Program" "functions" "I" "ChainUnwinder", .fieldLinkNest "ChainUnwinder$Reader" 29 "ChainUnwinder$Section" "length" "I" "ChainUnwinder", .fieldLinkNest "ChainUnwinder$Packer" 64 "ChainUnwinder$Section" "length" "I" "ChainUnwinder", .fieldLinkNest "ChainUnwinder$Chain" 55 "ChainUnwinder$Row" "link" "I" "ChainUnwinder", .fieldLinkNest "ChainUnwinder$Packer" 102 "ChainUnwinder$Row" "link" "I" "ChainUnwinder", .fieldLinkNest "ChainUnwinder$Reader" 93 "ChainUnwinder$Row" "link" "I" "ChainUnwinder", .fieldLinkNest "ChainUnwinder$Finder" 127 "ChainUnwinder$Row" "link" "I" "ChainUnwinder", .fieldLinkNest "ChainUnwinder$Chain" 50 "ChainUnwinder$Row" "number" "I" "ChainUnwinder", .fieldLinkNest "ChainUnwinder$Packer" 105 "ChainUnwinder$Row" "number" "I" "ChainUnwinder", .fieldLinkNest "ChainUnwinder$Reader" 79 "ChainUnwinder$Row" "number" "I" "ChainUnwinder", .fieldLinkNest "ChainUnwinder$Finder" 132 "ChainUnwinder$Row" "number" "I" "ChainUnwinder", .fieldLinkNest "ChainUnwinder$Chain" 65 "ChainUnwinder$Row" "saved" "[I" "ChainUnwinder", .fieldLinkNest "ChainUnwinder$Packer" 108 "ChainUnwinder$Row" "saved" "[I" "ChainUnwinder", .fieldLinkNest "ChainUnwinder$Reader" 89 "ChainUnwinder$Row" "saved" "[I" "ChainUnwinder", .fieldLinkNest "ChainUnwinder$Finder" 135 "ChainUnwinder$Row" "saved" "[I" "ChainUnwinder", .fieldLinkNest "ChainUnwinder$Chain" 42 "ChainUnwinder$Reader" "found" "LChainUnwinder$Row;" "ChainUnwinder", .fieldLinkNest "ChainUnwinder" 91 "ChainUnwinder$Reader" "found" "LChainUnwinder$Row;" "ChainUnwinder", .fieldLinkNest "ChainUnwinder$Chain" 27 "ChainUnwinder$Machine" "underWay" "Z" "ChainUnwinder", .fieldLinkNest "ChainUnwinder" 113 "ChainUnwinder$Machine" "place" "I" "ChainUnwinder", .methodLinkNest "ChainUnwinder" 9 ⟨"ChainUnwinder$Program", "<init>", "()V"⟩ "ChainUnwinder", .methodLinkNest "ChainUnwinder" 18 ⟨"ChainUnwinder$Section", "<init>", "()V"⟩ "ChainUnwinder", .methodLinkNest "ChainUnwinder$Packer" 11 ⟨"ChainUnwinder$Row", "<init>", "()V"⟩ "ChainUnwinder", .methodLinkNest "ChainUnwinder$Reader" 11 ⟨"ChainUnwinder$Row", "<init>", "()V"⟩ "ChainUnwinder"]
theorem nest_kind : ∀ w ∈ nestAll, (∃ (a : String) (i : Nat) (b n d h : String), w = .fieldLinkNest a i b n d h) ∨ ∃ (a : String) (i : Nat) (x : MethodName) (h : String), w = .methodLinkNest a i x h := by
  intro w hw
  simp only [nestAll, List.mem_cons, List.not_mem_nil, or_false] at hw
  rcases hw with rfl | rfl | rfl | rfl | rfl | rfl | rfl | rfl | rfl | rfl | rfl | rfl | rfl | rfl | rfl | rfl | rfl | rfl | rfl | rfl | rfl | rfl | rfl | rfl | rfl | rfl | rfl | rfl <;> first | exact Or.inl ⟨_, _, _, _, _, _, rfl⟩ | exact Or.inr ⟨_, _, _, _, rfl⟩
theorem nest_warm {s U : State} (hW : s.WarmedH U.vm) (h : ∀ w ∈ nestAll, va_Nw w s) : ∀ w ∈ nestAll, va_Nw w U := by
  intro w hw
  rcases nest_kind w hw with ⟨a, i, b, n, d, h', rfl⟩ | ⟨a, i, x, h', rfl⟩
  · exact va_Nw.warmF hW (h _ hw)
  · exact va_Nw.warmM hW (h _ hw)
theorem nest_tab : ∀ w ∈ nestAll, w.onTables = true := by
  intro w hw
  rcases nest_kind w hw with ⟨a, i, b, n, d, h', rfl⟩ | ⟨a, i, x, h', rfl⟩ <;> rfl
/-- the table SIZES -/
def szs (j : Nat) : Int32 := ([1, 2, 2, 2, 2, 1, 1, 2, 1, 2, 2, 3, 2, 1, 3, 3] : List Int32).getD j 0
def XF (t : Nat) (A : Nat → Prop) (U : State) (H : Heap) : Prop := (∀ w ∈ nestAll, va_Nw w U) ∧ va_Z "ChainUnwinder$Program" "SIZES" "[I" (.ref t) A U H ∧ va_T .int t 16 (fun j => .int (szs j)) A U H
theorem XF.go {t : Nat} {A B : Nat → Prop} {s U : State} {H H1 : Heap} (h : XF t A s H) (hW : s.WarmedH U.vm) (hk : ∀ a : Nat, a < H.size → ¬ A a → H1[a]? = H[a]?) (hAB : ∀ q, B q → A q) : XF t B U H1 :=
  ⟨nest_warm hW h.1, ((h.2.1.kept hk).narrow hAB).moved hW.alike, ((h.2.2.kept hk).narrow hAB).moved hW.alike⟩
theorem XF.blind {t : Nat} {A : Nat → Prop} {U : State} {H : Heap} (g : JFrame) (mk : MethodId) (a : Array Value) (h : XF t A U H) : XF t A (U.calling g mk a) H :=
  ⟨fun w hw => va_Nw.same (nest_tab w hw) (u := U) (U := U.calling g mk a) rfl (h.1 w hw), va_Z.moved (u := U) (U := U.calling g mk a) (Vm.Alike.refl U.vm) h.2.1, va_T.moved (u := U) (U := U.calling g mk a) (Vm.Alike.refl U.vm) h.2.2⟩
/-- a method's start -/
def PX (D : va_G) (tys : List (ClassId × FieldType)) (t : Nat) (ws : va_W) (sz : Nat) (U : State) : Prop := U.heap.size = sz ∧ va_P D vwCl ws U.heap ∧ va_K D vwCl tys U ∧ va_D (fun _ => True) ws ∧ XF t (va_A ws sz) U U.heap
/-- its world behind it -/
def BX (D : va_G) (tys : List (ClassId × FieldType)) (w : St → va_W) (A : Nat → Prop) (u : St) (t : State) : Prop := va_P D vwCl (w u) t.heap ∧ va_K D vwCl tys t ∧ va_D A (w u)
abbrev QI (D : va_G) (tys : List (ClassId × FieldType)) (w : St → va_W) (A : Nat → Prop) (res : Int32 × St) : Array Value → State → Outcome → State → Prop := va_Qi (fun r u => (r, u) = res) (BX D tys w A) A
abbrev QV (D : va_G) (tys : List (ClassId × FieldType)) (w : St → va_W) (A : Nat → Prop) (res : Int32 × St) : Array Value → State → Outcome → State → Prop := va_Qv (fun u => u = res.2) (BX D tys w A) A
abbrev MI (l : Launch) (D : va_G) (tys : List (ClassId × FieldType)) (t : Nat) (w : St → va_W) (y : MethodName) (b : ByteArray) (n : Nat) (ret : Option FieldType) (rm : Room) (av : List Value) (S : St) (M : Option (Int32 × St)) : Prop :=
  ∀ res, M = some res → ∀ sz, Met l y (Cond.code y b n ret :: wsAll) rm (va_Pc av (PX D tys t (w S) sz)) (QI D tys w (va_A (w S) sz) res) 0 0 (va_A (w S) sz)
abbrev MV (l : Launch) (D : va_G) (tys : List (ClassId × FieldType)) (t : Nat) (w : St → va_W) (y : MethodName) (b : ByteArray) (n : Nat) (ret : Option FieldType) (rm : Room) (av : List Value) (S : St) (M : Option (Int32 × St)) : Prop :=
  ∀ res, M = some res → ∀ sz, Met l y (Cond.code y b n ret :: wsAll) rm (va_Pc av (PX D tys t (w S) sz)) (QV D tys w (va_A (w S) sz) res) 0 0 (va_A (w S) sz)
/-- what is fixed in a body -/
def CX (p : Program) (s : State) (m : MethodId) (args : Array Value) (meth : Method) (c : Code) (cc : ByteArray) (nL : Nat) (ret : Option FieldType) (own : String) (D : va_G) (tys : List (ClassId × FieldType)) (t : Nat) (A : Nat → Prop) : Prop :=
  CallFix p m c cc nL s args wsAll own ∧ va_K D vwCl tys s ∧ meth.sig.returnType = ret ∧ meth.locks = false ∧ (∀ q, s.heap.size ≤ q → A q) ∧ XF t A s s.heap
def GX (p : Program) (l : Launch) (e : Env) (R : Room) (s : State) (m : MethodId) (args : Array Value) (below : List Frame) (meth : Method) (c : Code) (nL : Nat) (D : va_G) (A : Nat → Prop) (w : St → va_W) (K : Int32 × St → State → Prop) (pc : Nat) (L : List (Nat × Value)) (stk : List Value) (S : St) (M : Option (Int32 × St)) : Prop :=
  ∀ res, M = some res → ∀ (H : Heap) (locs : List Loc) (ls : Array Slot), va_P D vwCl (w S) H → va_D A (w S) → va_S A s.heap H locs → lv_has ls nL L → W p l e R s m args below meth c H locs 0 0 (K res) (F0 m pc ls stk)
theorem lk_mem {L : List (Nat × Value)} {i : Nat} {v : Value} (h : L.lookup i = some v) : (i, v) ∈ L := by
  induction L with
  | nil => simp at h
  | cons q r ih =>
    obtain ⟨j, u⟩ := q
    rw [List.lookup_cons] at h
    by_cases hj : i = j
    · subst hj
      simp at h
      subst h
      exact List.mem_cons_self
    · have : (i == j) = false := by simpa using hj
      rw [this] at h
      exact List.mem_cons_of_mem _ (ih h)
theorem lk_at {ls : Array Slot} {nL : Nat} {L : List (Nat × Value)} (h : lv_has ls nL L) {i : Nat} {v : Value} (hk : L.lookup i = some v) : ls[i]? = some (.val v) := h.2.2 (i, v) (lk_mem hk)
section GXL
variable {p : Program} {l : Launch} {e : Env} {R : Room} {s : State} {m : MethodId} {args : Array Value} {below : List Frame} {meth : Method} {c : Code} {cc : ByteArray} {nL : Nat} {ret : Option FieldType} {own : String} {D : va_G} {tys : List (ClassId × FieldType)} {tZ : Nat} {A : Nat → Prop} {w : St → va_W} {K : Int32 × St → State → Prop} {pc : Nat} {L : List (Nat × Value)} {rest : List Value} {S : St} {M : Option (Int32 × St)}
theorem gx_iconst (hC : CX p s m args meth c cc nL ret own D tys tZ A) {n : Int} {v : Int32} {pc' : Nat} (hp : pc + 1 = pc') (hd : decode cc pc = .ok (.iconst n, 1)) (hv : Int32.ofInt n = v) (k : GX p l e R s m args below meth c nL D A w K pc' L (.int v :: rest) S M) : GX p l e R s m args below meth c nL D A w K pc L rest S M := by
  subst hp
  exact fun res hM H locs ls hP hD hS hl => lv_iconst hC.1.1 hC.1.2.1 hd hv (k res hM H locs ls hP hD hS hl)
theorem gx_bipush (hC : CX p s m args meth c cc nL ret own D tys tZ A) {n : Int} {v : Int32} {pc' : Nat} (hp : pc + 2 = pc') (hd : decode cc pc = .ok (.bipush n, 2)) (hv : (Int8.ofInt n).toInt32 = v) (k : GX p l e R s m args below meth c nL D A w K pc' L (.int v :: rest) S M) : GX p l e R s m args below meth c nL D A w K pc L rest S M := by
  subst hp
  exact fun res hM H locs ls hP hD hS hl => lv_bipush hC.1.1 hC.1.2.1 hd hv (k res hM H locs ls hP hD hS hl)
theorem gx_sipush (hC : CX p s m args meth c cc nL ret own D tys tZ A) {n : Int} {v : Int32} {pc' : Nat} (hp : pc + 3 = pc') (hd : decode cc pc = .ok (.sipush n, 3)) (hv : (Int16.ofInt n).toInt32 = v) (k : GX p l e R s m args below meth c nL D A w K pc' L (.int v :: rest) S M) : GX p l e R s m args below meth c nL D A w K pc L rest S M := by
  subst hp
  exact fun res hM H locs ls hP hD hS hl => lv_sipush hC.1.1 hC.1.2.1 hd hv (k res hM H locs ls hP hD hS hl)
theorem gx_lconst (hC : CX p s m args meth c cc nL ret own D tys tZ A) {n : Fin 2} {v : Int64} {pc' : Nat} (hp : pc + 1 = pc') (hd : decode cc pc = .ok (.lconst n, 1)) (hv : Int64.ofNat (n : Nat) = v) (k : GX p l e R s m args below meth c nL D A w K pc' L (.long v :: rest) S M) : GX p l e R s m args below meth c nL D A w K pc L rest S M := by
  subst hp
  exact fun res hM H locs ls hP hD hS hl => lv_lconst hC.1.1 hC.1.2.1 hd hv (k res hM H locs ls hP hD hS hl)
theorem gx_ldc2 (hC : CX p s m args meth c cc nL ret own D tys tZ A) {index : Nat} {v : Int64} (hw : Jvm.Cond.constantLong own index v ∈ wsAll) {pc' : Nat} (hp : pc + 3 = pc') (hd : decode cc pc = .ok (.ldc2_w index, 3)) (k : GX p l e R s m args below meth c nL D A w K pc' L (.long v :: rest) S M) : GX p l e R s m args below meth c nL D A w K pc L rest S M := by
  subst hp
  exact fun res hM H locs ls hP hD hS hl => lv_ldc2 hC.1.1 hC.1.2.1 hC.1.2.2.2.1 (hC.1.2.2.2.2 _ hw) hd (k res hM H locs ls hP hD hS hl)
theorem gx_iload_n (hC : CX p s m args meth c cc nL ret own D tys tZ A) {f : Fin 4} {x : Int32} {pc' : Nat} (hp : pc + 1 = pc') (hd : decode cc pc = .ok (.iload_n f, 1)) (hl0 : L.lookup (f : Nat) = some (.int x)) (k : GX p l e R s m args below meth c nL D A w K pc' L (.int x :: rest) S M) : GX p l e R s m args below meth c nL D A w K pc L rest S M := by
  subst hp
  exact fun res hM H locs ls hP hD hS hl => lv_iload_n hC.1.1 hC.1.2.1 hd rfl (lk_at hl hl0) (k res hM H locs ls hP hD hS hl)
theorem gx_iload (hC : CX p s m args meth c cc nL ret own D tys tZ A) {i : Nat} {x : Int32} {pc' : Nat} (hp : pc + 2 = pc') (hd : decode cc pc = .ok (.iload i, 2)) (hl0 : L.lookup i = some (.int x)) (k : GX p l e R s m args below meth c nL D A w K pc' L (.int x :: rest) S M) : GX p l e R s m args below meth c nL D A w K pc L rest S M := by
  subst hp
  exact fun res hM H locs ls hP hD hS hl => lv_iload hC.1.1 hC.1.2.1 hd (lk_at hl hl0) (k res hM H locs ls hP hD hS hl)
theorem gx_lload_n (hC : CX p s m args meth c cc nL ret own D tys tZ A) {f : Fin 4} {x : Int64} {pc' : Nat} (hp : pc + 1 = pc') (hd : decode cc pc = .ok (.lload_n f, 1)) (hl0 : L.lookup (f : Nat) = some (.long x)) (k : GX p l e R s m args below meth c nL D A w K pc' L (.long x :: rest) S M) : GX p l e R s m args below meth c nL D A w K pc L rest S M := by
  subst hp
  exact fun res hM H locs ls hP hD hS hl => lv_lload_n hC.1.1 hC.1.2.1 hd rfl (lk_at hl hl0) (k res hM H locs ls hP hD hS hl)
theorem gx_aload_n (hC : CX p s m args meth c cc nL ret own D tys tZ A) {f : Fin 4} {x : Nat} {pc' : Nat} (hp : pc + 1 = pc') (hd : decode cc pc = .ok (.aload_n f, 1)) (hl0 : L.lookup (f : Nat) = some (.ref x)) (k : GX p l e R s m args below meth c nL D A w K pc' L (.ref x :: rest) S M) : GX p l e R s m args below meth c nL D A w K pc L rest S M := by
  subst hp
  exact fun res hM H locs ls hP hD hS hl => lv_aload_n hC.1.1 hC.1.2.1 hd rfl (lk_at hl hl0) (k res hM H locs ls hP hD hS hl)
theorem gx_istore_n (hC : CX p s m args meth c cc nL ret own D tys tZ A) {f : Fin 4} {x : Int32} (L' : List (Nat × Value)) {pc' : Nat} (hp : pc + 1 = pc') (hd : decode cc pc = .ok (.istore_n f, 1)) (hn : (f : Nat) < nL) (hL : ((f : Nat), Value.int x) :: L.filter (fun q => !(q.1 == (f : Nat)) && !(q.1 + 1 == (f : Nat) && q.2.category == 2)) = L') (k : GX p l e R s m args below meth c nL D A w K pc' L' rest S M) : GX p l e R s m args below meth c nL D A w K pc L (.int x :: rest) S M := by
  subst hp
  exact fun res hM H locs ls hP hD hS hl => lv_istore_n hC.1.1 hC.1.2.1 hd rfl hl hn hL (fun ls' hl' => k res hM H locs ls' hP hD hS hl')
theorem gx_istore (hC : CX p s m args meth c cc nL ret own D tys tZ A) {i : Nat} {x : Int32} (L' : List (Nat × Value)) {pc' : Nat} (hp : pc + 2 = pc') (hd : decode cc pc = .ok (.istore i, 2)) (hn : i < nL) (hL : (i, Value.int x) :: L.filter (fun q => !(q.1 == i) && !(q.1 + 1 == i && q.2.category == 2)) = L') (k : GX p l e R s m args below meth c nL D A w K pc' L' rest S M) : GX p l e R s m args below meth c nL D A w K pc L (.int x :: rest) S M := by
  subst hp
  exact fun res hM H locs ls hP hD hS hl => lv_istore hC.1.1 hC.1.2.1 hd hl hn hL (fun ls' hl' => k res hM H locs ls' hP hD hS hl')
theorem gx_lstore_n (hC : CX p s m args meth c cc nL ret own D tys tZ A) {f : Fin 4} {x : Int64} (L' : List (Nat × Value)) {pc' : Nat} (hp : pc + 1 = pc') (hd : decode cc pc = .ok (.lstore_n f, 1)) (hn : (f : Nat) + 1 < nL) (hL : ((f : Nat), Value.long x) :: L.filter (fun q => !(q.1 == (f : Nat)) && (!(q.1 == (f : Nat) + 1) && !(q.1 + 1 == (f : Nat) && q.2.category == 2))) = L') (k : GX p l e R s m args below meth c nL D A w K pc' L' rest S M) : GX p l e R s m args below meth c nL D A w K pc L (.long x :: rest) S M := by
  subst hp
  exact fun res hM H locs ls hP hD hS hl => lv_lstore_n hC.1.1 hC.1.2.1 hd rfl hl hn hL (fun ls' hl' => k res hM H locs ls' hP hD hS hl')
theorem gx_iinc (hC : CX p s m args meth c cc nL ret own D tys tZ A) {i : Nat} {n : Int} {x v : Int32} (L' : List (Nat × Value)) {pc' : Nat} (hp : pc + 3 = pc') (hd : decode cc pc = .ok (.iinc i n, 3)) (hl0 : L.lookup i = some (.int x)) (hv : x + Int32.ofInt n = v) (hn : i < nL) (hL : (i, Value.int v) :: L.filter (fun q => !(q.1 == i) && !(q.1 + 1 == i && q.2.category == 2)) = L') (k : GX p l e R s m args below meth c nL D A w K pc' L' rest S M) : GX p l e R s m args below meth c nL D A w K pc L rest S M := by
  subst hp
  intro res hM H locs ls hP hD hS hl
  obtain ⟨j, hj⟩ := List.getElem?_of_mem (lk_mem hl0)
  exact lv_iinc hC.1.1 hC.1.2.1 hd hl hj hv hn hL (fun ls' hl' => k res hM H locs ls' hP hD hS hl')
theorem gx_goto (hC : CX p s m args meth c cc nL ret own D tys tZ A) {off : Int} (tgt : Nat) (hd : decode cc pc = .ok (.goto off, 3)) (ht : (pc : Int) + off = (tgt : Int)) (k : GX p l e R s m args below meth c nL D A w K tgt L rest S M) : GX p l e R s m args below meth c nL D A w K pc L rest S M :=
  fun res hM H locs ls hP hD hS hl => lv_goto hC.1.1 hC.1.2.1 hd ht (k res hM H locs ls hP hD hS hl)
theorem gx_dup (hC : CX p s m args meth c cc nL ret own D tys tZ A) {va : Value} {pc' : Nat} (hp : pc + 1 = pc') (hd : decode cc pc = .ok (.dup, 1)) (h1 : va.category = 1) (k : GX p l e R s m args below meth c nL D A w K pc' L (va :: va :: rest) S M) : GX p l e R s m args below meth c nL D A w K pc L (va :: rest) S M := by
  subst hp
  exact fun res hM H locs ls hP hD hS hl => lv_dup hC.1.1 hC.1.2.1 hd h1 (k res hM H locs ls hP hD hS hl)
theorem gx_dup2 (hC : CX p s m args meth c cc nL ret own D tys tZ A) {va vb : Value} {pc' : Nat} (hp : pc + 1 = pc') (hd : decode cc pc = .ok (.dup2, 1)) (h1 : va.category = 1) (h2 : vb.category = 1) (k : GX p l e R s m args below meth c nL D A w K pc' L (va :: vb :: va :: vb :: rest) S M) : GX p l e R s m args below meth c nL D A w K pc L (va :: vb :: rest) S M := by
  subst hp
  exact fun res hM H locs ls hP hD hS hl => lv_dup2_11 hC.1.1 hC.1.2.1 hd h1 h2 (k res hM H locs ls hP hD hS hl)
theorem gx_pop (hC : CX p s m args meth c cc nL ret own D tys tZ A) {va : Value} {pc' : Nat} (hp : pc + 1 = pc') (hd : decode cc pc = .ok (.pop, 1)) (h1 : va.category = 1) (k : GX p l e R s m args below meth c nL D A w K pc' L rest S M) : GX p l e R s m args below meth c nL D A w K pc L (va :: rest) S M := by
  subst hp
  exact fun res hM H locs ls hP hD hS hl => lv_pop hC.1.1 hC.1.2.1 hd h1 (k res hM H locs ls hP hD hS hl)
theorem gx_sub (L' : List (Nat × Value)) (ks : List Nat) (hL : lv_pick L ks = L') {stk : List Value} (k : GX p l e R s m args below meth c nL D A w K pc L' stk S M) : GX p l e R s m args below meth c nL D A w K pc L stk S M :=
  fun res hM H locs ls hP hD hS hl => k res hM H locs ls hP hD hS (lv_sub hl ks hL)
theorem gx_iadd (hC : CX p s m args meth c cc nL ret own D tys tZ A) {x y : Int32} {pc' : Nat} (hp : pc + 1 = pc') (hd : decode cc pc = .ok (.iadd, 1)) (k : GX p l e R s m args below meth c nL D A w K pc' L (.int (x + y) :: rest) S M) : GX p l e R s m args below meth c nL D A w K pc L (.int y :: .int x :: rest) S M := by
  subst hp
  exact fun res hM H locs ls hP hD hS hl => lv_iadd hC.1.1 hC.1.2.1 hd (k res hM H locs ls hP hD hS hl)
theorem gx_isub (hC : CX p s m args meth c cc nL ret own D tys tZ A) {x y : Int32} {pc' : Nat} (hp : pc + 1 = pc') (hd : decode cc pc = .ok (.isub, 1)) (k : GX p l e R s m args below meth c nL D A w K pc' L (.int (x - y) :: rest) S M) : GX p l e R s m args below meth c nL D A w K pc L (.int y :: .int x :: rest) S M := by
  subst hp
  exact fun res hM H locs ls hP hD hS hl => lv_isub hC.1.1 hC.1.2.1 hd (k res hM H locs ls hP hD hS hl)
theorem gx_imul (hC : CX p s m args meth c cc nL ret own D tys tZ A) {x y : Int32} {pc' : Nat} (hp : pc + 1 = pc') (hd : decode cc pc = .ok (.imul, 1)) (k : GX p l e R s m args below meth c nL D A w K pc' L (.int (x * y) :: rest) S M) : GX p l e R s m args below meth c nL D A w K pc L (.int y :: .int x :: rest) S M := by
  subst hp
  exact fun res hM H locs ls hP hD hS hl => lv_imul hC.1.1 hC.1.2.1 hd (k res hM H locs ls hP hD hS hl)
theorem gx_iand (hC : CX p s m args meth c cc nL ret own D tys tZ A) {x y : Int32} {pc' : Nat} (hp : pc + 1 = pc') (hd : decode cc pc = .ok (.iand, 1)) (k : GX p l e R s m args below meth c nL D A w K pc' L (.int (x &&& y) :: rest) S M) : GX p l e R s m args below meth c nL D A w K pc L (.int y :: .int x :: rest) S M := by
  subst hp
  exact fun res hM H locs ls hP hD hS hl => lv_iand hC.1.1 hC.1.2.1 hd (k res hM H locs ls hP hD hS hl)
theorem gx_ishl (hC : CX p s m args meth c cc nL ret own D tys tZ A) {x y : Int32} {pc' : Nat} (hp : pc + 1 = pc') (hd : decode cc pc = .ok (.ishl, 1)) (k : GX p l e R s m args below meth c nL D A w K pc' L (.int (x <<< (y &&& 31)) :: rest) S M) : GX p l e R s m args below meth c nL D A w K pc L (.int y :: .int x :: rest) S M := by
  subst hp
  exact fun res hM H locs ls hP hD hS hl => lv_ishl hC.1.1 hC.1.2.1 hd (k res hM H locs ls hP hD hS hl)
theorem gx_ishr (hC : CX p s m args meth c cc nL ret own D tys tZ A) {x y : Int32} {pc' : Nat} (hp : pc + 1 = pc') (hd : decode cc pc = .ok (.ishr, 1)) (k : GX p l e R s m args below meth c nL D A w K pc' L (.int (x >>> (y &&& 31)) :: rest) S M) : GX p l e R s m args below meth c nL D A w K pc L (.int y :: .int x :: rest) S M := by
  subst hp
  exact fun res hM H locs ls hP hD hS hl => lv_ishr hC.1.1 hC.1.2.1 hd (k res hM H locs ls hP hD hS hl)
theorem gx_ladd (hC : CX p s m args meth c cc nL ret own D tys tZ A) {x y : Int64} {pc' : Nat} (hp : pc + 1 = pc') (hd : decode cc pc = .ok (.ladd, 1)) (k : GX p l e R s m args below meth c nL D A w K pc' L (.long (x + y) :: rest) S M) : GX p l e R s m args below meth c nL D A w K pc L (.long y :: .long x :: rest) S M := by
  subst hp
  exact fun res hM H locs ls hP hD hS hl => lv_ladd hC.1.1 hC.1.2.1 hd (k res hM H locs ls hP hD hS hl)
theorem gx_lsub (hC : CX p s m args meth c cc nL ret own D tys tZ A) {x y : Int64} {pc' : Nat} (hp : pc + 1 = pc') (hd : decode cc pc = .ok (.lsub, 1)) (k : GX p l e R s m args below meth c nL D A w K pc' L (.long (x - y) :: rest) S M) : GX p l e R s m args below meth c nL D A w K pc L (.long y :: .long x :: rest) S M := by
  subst hp
  exact fun res hM H locs ls hP hD hS hl => lv_lsub hC.1.1 hC.1.2.1 hd (k res hM H locs ls hP hD hS hl)
theorem gx_land (hC : CX p s m args meth c cc nL ret own D tys tZ A) {x y : Int64} {pc' : Nat} (hp : pc + 1 = pc') (hd : decode cc pc = .ok (.land, 1)) (k : GX p l e R s m args below meth c nL D A w K pc' L (.long (x &&& y) :: rest) S M) : GX p l e R s m args below meth c nL D A w K pc L (.long y :: .long x :: rest) S M := by
  subst hp
  exact fun res hM H locs ls hP hD hS hl => lv_land hC.1.1 hC.1.2.1 hd (k res hM H locs ls hP hD hS hl)
theorem gx_lor (hC : CX p s m args meth c cc nL ret own D tys tZ A) {x y : Int64} {pc' : Nat} (hp : pc + 1 = pc') (hd : decode cc pc = .ok (.lor, 1)) (k : GX p l e R s m args below meth c nL D A w K pc' L (.long (x ||| y) :: rest) S M) : GX p l e R s m args below meth c nL D A w K pc L (.long y :: .long x :: rest) S M := by
  subst hp
  exact fun res hM H locs ls hP hD hS hl => lv_lor hC.1.1 hC.1.2.1 hd (k res hM H locs ls hP hD hS hl)
theorem gx_idiv (hC : CX p s m args meth c cc nL ret own D tys tZ A) {x y : Int32} {pc' : Nat} (hp : pc + 1 = pc') (hd : decode cc pc = .ok (.idiv, 1)) (hy : ¬ y = 0) (k : GX p l e R s m args below meth c nL D A w K pc' L (.int (x / y) :: rest) S M) : GX p l e R s m args below meth c nL D A w K pc L (.int y :: .int x :: rest) S M := by
  subst hp
  exact fun res hM H locs ls hP hD hS hl => lv_idiv hC.1.1 hC.1.2.1 hd hy (k res hM H locs ls hP hD hS hl)
theorem gx_irem (hC : CX p s m args meth c cc nL ret own D tys tZ A) {x y : Int32} {pc' : Nat} (hp : pc + 1 = pc') (hd : decode cc pc = .ok (.irem, 1)) (hy : ¬ y = 0) (k : GX p l e R s m args below meth c nL D A w K pc' L (.int (x - x / y * y) :: rest) S M) : GX p l e R s m args below meth c nL D A w K pc L (.int y :: .int x :: rest) S M := by
  subst hp
  exact fun res hM H locs ls hP hD hS hl => lv_irem hC.1.1 hC.1.2.1 hd hy (k res hM H locs ls hP hD hS hl)
theorem gx_ineg (hC : CX p s m args meth c cc nL ret own D tys tZ A) {x : Int32} {pc' : Nat} (hp : pc + 1 = pc') (hd : decode cc pc = .ok (.ineg, 1)) (k : GX p l e R s m args below meth c nL D A w K pc' L (.int (-x) :: rest) S M) : GX p l e R s m args below meth c nL D A w K pc L (.int x :: rest) S M := by
  subst hp
  exact fun res hM H locs ls hP hD hS hl => lv_ineg hC.1.1 hC.1.2.1 hd (k res hM H locs ls hP hD hS hl)
theorem gx_i2l (hC : CX p s m args meth c cc nL ret own D tys tZ A) {x : Int32} {pc' : Nat} (hp : pc + 1 = pc') (hd : decode cc pc = .ok (.i2l, 1)) (k : GX p l e R s m args below meth c nL D A w K pc' L (.long (x.toInt64) :: rest) S M) : GX p l e R s m args below meth c nL D A w K pc L (.int x :: rest) S M := by
  subst hp
  exact fun res hM H locs ls hP hD hS hl => lv_i2l hC.1.1 hC.1.2.1 hd rfl (k res hM H locs ls hP hD hS hl)
theorem gx_l2i (hC : CX p s m args meth c cc nL ret own D tys tZ A) {x : Int64} {pc' : Nat} (hp : pc + 1 = pc') (hd : decode cc pc = .ok (.l2i, 1)) (k : GX p l e R s m args below meth c nL D A w K pc' L (.int (x.toInt32) :: rest) S M) : GX p l e R s m args below meth c nL D A w K pc L (.long x :: rest) S M := by
  subst hp
  exact fun res hM H locs ls hP hD hS hl => lv_l2i hC.1.1 hC.1.2.1 hd rfl (k res hM H locs ls hP hD hS hl)
theorem gx_lushr (hC : CX p s m args meth c cc nL ret own D tys tZ A) {x : Int64} {y : Int32} {pc' : Nat} (hp : pc + 1 = pc') (hd : decode cc pc = .ok (.lushr, 1)) (k : GX p l e R s m args below meth c nL D A w K pc' L (.long ((x.toUInt64 >>> (y.toInt64.toUInt64 &&& Int64.toUInt64 63)).toInt64) :: rest) S M) : GX p l e R s m args below meth c nL D A w K pc L (.int y :: .long x :: rest) S M := by
  subst hp
  exact fun res hM H locs ls hP hD hS hl => lv_lushr hC.1.1 hC.1.2.1 hd rfl (k res hM H locs ls hP hD hS hl)
theorem gx_lshr (hC : CX p s m args meth c cc nL ret own D tys tZ A) {x : Int64} {y : Int32} {pc' : Nat} (hp : pc + 1 = pc') (hd : decode cc pc = .ok (.lshr, 1)) (k : GX p l e R s m args below meth c nL D A w K pc' L (.long (x >>> (y.toInt64 &&& 63)) :: rest) S M) : GX p l e R s m args below meth c nL D A w K pc L (.int y :: .long x :: rest) S M := by
  subst hp
  exact fun res hM H locs ls hP hD hS hl => lv_lshr hC.1.1 hC.1.2.1 hd rfl (k res hM H locs ls hP hD hS hl)
theorem gx_lshl (hC : CX p s m args meth c cc nL ret own D tys tZ A) {x : Int64} {y : Int32} {pc' : Nat} (hp : pc + 1 = pc') (hd : decode cc pc = .ok (.lshl, 1)) (k : GX p l e R s m args below meth c nL D A w K pc' L (.long (x <<< (y.toInt64 &&& 63)) :: rest) S M) : GX p l e R s m args below meth c nL D A w K pc L (.int y :: .long x :: rest) S M := by
  subst hp
  exact fun res hM H locs ls hP hD hS hl => lv_lshl hC.1.1 hC.1.2.1 hd rfl (k res hM H locs ls hP hD hS hl)
theorem gx_if_eq (hC : CX p s m args meth c cc nL ret own D tys tZ A) {x : Int32} {off : Int} {Mt Mf : Option (Int32 × St)} (tgt : Nat) {pc' : Nat} (hp : pc + 3 = pc') (hd : decode cc pc = .ok (.ifCond .eq off, 3)) (ht : (pc : Int) + off = (tgt : Int)) (kt : x = 0 → GX p l e R s m args below meth c nL D A w K tgt L rest S Mt) (kf : ¬ x = 0 → GX p l e R s m args below meth c nL D A w K pc' L rest S Mf) : GX p l e R s m args below meth c nL D A w K pc L (.int x :: rest) S (if x = 0 then Mt else Mf) := by
  subst hp
  exact fun res hM H locs ls hP hD hS hl => lv_if_eq hC.1.1 hC.1.2.1 hd ht (fun h => kt h res (by rw [if_pos h] at hM; exact hM) H locs ls hP hD hS hl) (fun h => kf h res (by rw [if_neg h] at hM; exact hM) H locs ls hP hD hS hl)
theorem gx_icmp_eq (hC : CX p s m args meth c cc nL ret own D tys tZ A) {x y : Int32} {off : Int} {Mt Mf : Option (Int32 × St)} (tgt : Nat) {pc' : Nat} (hp : pc + 3 = pc') (hd : decode cc pc = .ok (.if_icmp .eq off, 3)) (ht : (pc : Int) + off = (tgt : Int)) (kt : x = y → GX p l e R s m args below meth c nL D A w K tgt L rest S Mt) (kf : ¬ x = y → GX p l e R s m args below meth c nL D A w K pc' L rest S Mf) : GX p l e R s m args below meth c nL D A w K pc L (.int y :: .int x :: rest) S (if x = y then Mt else Mf) := by
  subst hp
  exact fun res hM H locs ls hP hD hS hl => lv_icmp_eq hC.1.1 hC.1.2.1 hd ht (fun h => kt h res (by rw [if_pos h] at hM; exact hM) H locs ls hP hD hS hl) (fun h => kf h res (by rw [if_neg h] at hM; exact hM) H locs ls hP hD hS hl)
theorem gx_if_ne (hC : CX p s m args meth c cc nL ret own D tys tZ A) {x : Int32} {off : Int} {Mt Mf : Option (Int32 × St)} (tgt : Nat) {pc' : Nat} (hp : pc + 3 = pc') (hd : decode cc pc = .ok (.ifCond .ne off, 3)) (ht : (pc : Int) + off = (tgt : Int)) (kf : x = 0 → GX p l e R s m args below meth c nL D A w K pc' L rest S Mf) (kt : ¬ x = 0 → GX p l e R s m args below meth c nL D A w K tgt L rest S Mt) : GX p l e R s m args below meth c nL D A w K pc L (.int x :: rest) S (if x = 0 then Mf else Mt) := by
  subst hp
  exact fun res hM H locs ls hP hD hS hl => lv_if_ne hC.1.1 hC.1.2.1 hd ht (fun h => kt h res (by rw [if_neg h] at hM; exact hM) H locs ls hP hD hS hl) (fun h => kf h res (by rw [if_pos h] at hM; exact hM) H locs ls hP hD hS hl)
theorem gx_icmp_ne (hC : CX p s m args meth c cc nL ret own D tys tZ A) {x y : Int32} {off : Int} {Mt Mf : Option (Int32 × St)} (tgt : Nat) {pc' : Nat} (hp : pc + 3 = pc') (hd : decode cc pc = .ok (.if_icmp .ne off, 3)) (ht : (pc : Int) + off = (tgt : Int)) (kf : x = y → GX p l e R s m args below meth c nL D A w K pc' L rest S Mf) (kt : ¬ x = y → GX p l e R s m args below meth c nL D A w K tgt L rest S Mt) : GX p l e R s m args below meth c nL D A w K pc L (.int y :: .int x :: rest) S (if x = y then Mf else Mt) := by
  subst hp
  exact fun res hM H locs ls hP hD hS hl => lv_icmp_ne hC.1.1 hC.1.2.1 hd ht (fun h => kt h res (by rw [if_neg h] at hM; exact hM) H locs ls hP hD hS hl) (fun h => kf h res (by rw [if_pos h] at hM; exact hM) H locs ls hP hD hS hl)
theorem gx_if_lt (hC : CX p s m args meth c cc nL ret own D tys tZ A) {x : Int32} {off : Int} {Mt Mf : Option (Int32 × St)} (tgt : Nat) {pc' : Nat} (hp : pc + 3 = pc') (hd : decode cc pc = .ok (.ifCond .lt off, 3)) (ht : (pc : Int) + off = (tgt : Int)) (kt : x < 0 → GX p l e R s m args below meth c nL D A w K tgt L rest S Mt) (kf : ¬ x < 0 → GX p l e R s m args below meth c nL D A w K pc' L rest S Mf) : GX p l e R s m args below meth c nL D A w K pc L (.int x :: rest) S (if x < 0 then Mt else Mf) := by
  subst hp
  exact fun res hM H locs ls hP hD hS hl => lv_if_lt hC.1.1 hC.1.2.1 hd ht (fun h => kt h res (by rw [if_pos h] at hM; exact hM) H locs ls hP hD hS hl) (fun h => kf h res (by rw [if_neg h] at hM; exact hM) H locs ls hP hD hS hl)
theorem gx_icmp_lt (hC : CX p s m args meth c cc nL ret own D tys tZ A) {x y : Int32} {off : Int} {Mt Mf : Option (Int32 × St)} (tgt : Nat) {pc' : Nat} (hp : pc + 3 = pc') (hd : decode cc pc = .ok (.if_icmp .lt off, 3)) (ht : (pc : Int) + off = (tgt : Int)) (kt : x < y → GX p l e R s m args below meth c nL D A w K tgt L rest S Mt) (kf : ¬ x < y → GX p l e R s m args below meth c nL D A w K pc' L rest S Mf) : GX p l e R s m args below meth c nL D A w K pc L (.int y :: .int x :: rest) S (if x < y then Mt else Mf) := by
  subst hp
  exact fun res hM H locs ls hP hD hS hl => lv_icmp_lt hC.1.1 hC.1.2.1 hd ht (fun h => kt h res (by rw [if_pos h] at hM; exact hM) H locs ls hP hD hS hl) (fun h => kf h res (by rw [if_neg h] at hM; exact hM) H locs ls hP hD hS hl)
theorem gx_if_ge (hC : CX p s m args meth c cc nL ret own D tys tZ A) {x : Int32} {off : Int} {Mt Mf : Option (Int32 × St)} (tgt : Nat) {pc' : Nat} (hp : pc + 3 = pc') (hd : decode cc pc = .ok (.ifCond .ge off, 3)) (ht : (pc : Int) + off = (tgt : Int)) (kt : 0 ≤ x → GX p l e R s m args below meth c nL D A w K tgt L rest S Mt) (kf : ¬ 0 ≤ x → GX p l e R s m args below meth c nL D A w K pc' L rest S Mf) : GX p l e R s m args below meth c nL D A w K pc L (.int x :: rest) S (if 0 ≤ x then Mt else Mf) := by
  subst hp
  exact fun res hM H locs ls hP hD hS hl => lv_if_ge hC.1.1 hC.1.2.1 hd ht (fun h => kt h res (by rw [if_pos h] at hM; exact hM) H locs ls hP hD hS hl) (fun h => kf h res (by rw [if_neg h] at hM; exact hM) H locs ls hP hD hS hl)
theorem gx_icmp_ge (hC : CX p s m args meth c cc nL ret own D tys tZ A) {x y : Int32} {off : Int} {Mt Mf : Option (Int32 × St)} (tgt : Nat) {pc' : Nat} (hp : pc + 3 = pc') (hd : decode cc pc = .ok (.if_icmp .ge off, 3)) (ht : (pc : Int) + off = (tgt : Int)) (kt : y ≤ x → GX p l e R s m args below meth c nL D A w K tgt L rest S Mt) (kf : ¬ y ≤ x → GX p l e R s m args below meth c nL D A w K pc' L rest S Mf) : GX p l e R s m args below meth c nL D A w K pc L (.int y :: .int x :: rest) S (if y ≤ x then Mt else Mf) := by
  subst hp
  exact fun res hM H locs ls hP hD hS hl => lv_icmp_ge hC.1.1 hC.1.2.1 hd ht (fun h => kt h res (by rw [if_pos h] at hM; exact hM) H locs ls hP hD hS hl) (fun h => kf h res (by rw [if_neg h] at hM; exact hM) H locs ls hP hD hS hl)
theorem gx_if_gt (hC : CX p s m args meth c cc nL ret own D tys tZ A) {x : Int32} {off : Int} {Mt Mf : Option (Int32 × St)} (tgt : Nat) {pc' : Nat} (hp : pc + 3 = pc') (hd : decode cc pc = .ok (.ifCond .gt off, 3)) (ht : (pc : Int) + off = (tgt : Int)) (kt : 0 < x → GX p l e R s m args below meth c nL D A w K tgt L rest S Mt) (kf : ¬ 0 < x → GX p l e R s m args below meth c nL D A w K pc' L rest S Mf) : GX p l e R s m args below meth c nL D A w K pc L (.int x :: rest) S (if 0 < x then Mt else Mf) := by
  subst hp
  exact fun res hM H locs ls hP hD hS hl => lv_if_gt hC.1.1 hC.1.2.1 hd ht (fun h => kt h res (by rw [if_pos h] at hM; exact hM) H locs ls hP hD hS hl) (fun h => kf h res (by rw [if_neg h] at hM; exact hM) H locs ls hP hD hS hl)
theorem gx_icmp_gt (hC : CX p s m args meth c cc nL ret own D tys tZ A) {x y : Int32} {off : Int} {Mt Mf : Option (Int32 × St)} (tgt : Nat) {pc' : Nat} (hp : pc + 3 = pc') (hd : decode cc pc = .ok (.if_icmp .gt off, 3)) (ht : (pc : Int) + off = (tgt : Int)) (kt : y < x → GX p l e R s m args below meth c nL D A w K tgt L rest S Mt) (kf : ¬ y < x → GX p l e R s m args below meth c nL D A w K pc' L rest S Mf) : GX p l e R s m args below meth c nL D A w K pc L (.int y :: .int x :: rest) S (if y < x then Mt else Mf) := by
  subst hp
  exact fun res hM H locs ls hP hD hS hl => lv_icmp_gt hC.1.1 hC.1.2.1 hd ht (fun h => kt h res (by rw [if_pos h] at hM; exact hM) H locs ls hP hD hS hl) (fun h => kf h res (by rw [if_neg h] at hM; exact hM) H locs ls hP hD hS hl)
theorem gx_if_le (hC : CX p s m args meth c cc nL ret own D tys tZ A) {x : Int32} {off : Int} {Mt Mf : Option (Int32 × St)} (tgt : Nat) {pc' : Nat} (hp : pc + 3 = pc') (hd : decode cc pc = .ok (.ifCond .le off, 3)) (ht : (pc : Int) + off = (tgt : Int)) (kt : x ≤ 0 → GX p l e R s m args below meth c nL D A w K tgt L rest S Mt) (kf : ¬ x ≤ 0 → GX p l e R s m args below meth c nL D A w K pc' L rest S Mf) : GX p l e R s m args below meth c nL D A w K pc L (.int x :: rest) S (if x ≤ 0 then Mt else Mf) := by
  subst hp
  exact fun res hM H locs ls hP hD hS hl => lv_if_le hC.1.1 hC.1.2.1 hd ht (fun h => kt h res (by rw [if_pos h] at hM; exact hM) H locs ls hP hD hS hl) (fun h => kf h res (by rw [if_neg h] at hM; exact hM) H locs ls hP hD hS hl)
theorem gx_icmp_le (hC : CX p s m args meth c cc nL ret own D tys tZ A) {x y : Int32} {off : Int} {Mt Mf : Option (Int32 × St)} (tgt : Nat) {pc' : Nat} (hp : pc + 3 = pc') (hd : decode cc pc = .ok (.if_icmp .le off, 3)) (ht : (pc : Int) + off = (tgt : Int)) (kt : x ≤ y → GX p l e R s m args below meth c nL D A w K tgt L rest S Mt) (kf : ¬ x ≤ y → GX p l e R s m args below meth c nL D A w K pc' L rest S Mf) : GX p l e R s m args below meth c nL D A w K pc L (.int y :: .int x :: rest) S (if x ≤ y then Mt else Mf) := by
  subst hp
  exact fun res hM H locs ls hP hD hS hl => lv_icmp_le hC.1.1 hC.1.2.1 hd ht (fun h => kt h res (by rw [if_pos h] at hM; exact hM) H locs ls hP hD hS hl) (fun h => kf h res (by rw [if_neg h] at hM; exact hM) H locs ls hP hD hS hl)
theorem gx_lcmp (hC : CX p s m args meth c cc nL ret own D tys tZ A) {x y : Int64} {pc' : Nat} (hp : pc + 1 = pc') (hd : decode cc pc = .ok (.lcmp, 1)) (k : GX p l e R s m args below meth c nL D A w K pc' L (.int (lg_cmp x y) :: rest) S M) : GX p l e R s m args below meth c nL D A w K pc L (.long y :: .long x :: rest) S M := by
  subst hp
  exact fun res hM H locs ls hP hD hS hl => W.lcmp hC.1.1 hC.1.2.1 hd (k res hM H locs ls hP hD hS hl)
theorem gx_ite {cnd : Prop} [Decidable cnd] {Mt Mf : Option (Int32 × St)} {stk : List Value} (kt : cnd → GX p l e R s m args below meth c nL D A w K pc L stk S Mt) (kf : ¬ cnd → GX p l e R s m args below meth c nL D A w K pc L stk S Mf) : GX p l e R s m args below meth c nL D A w K pc L stk S (if cnd then Mt else Mf) := by
  by_cases h : cnd
  · rw [if_pos h]; exact kt h
  · rw [if_neg h]; exact kf h
theorem gx_case (hC : CX p s m args meth c cc nL ret own D tys tZ A) {x v : Int32} {dflt lo hi off : Int} {offs : Array Int} {len : Nat} (tgt : Nat) (hx : x = v) (hd : decode cc pc = .ok (.tableswitch dflt lo hi offs, len)) (h : (¬ v.toInt < lo ∧ ¬ hi < v.toInt) ∧ offs[(v.toInt - lo).toNat]? = some off ∧ (pc : Int) + off = (tgt : Int)) (k : GX p l e R s m args below meth c nL D A w K tgt L rest S M) : GX p l e R s m args below meth c nL D A w K pc L (.int x :: rest) S M := by
  subst hx
  exact fun res hM H locs ls hP hD hS hl => lv_tableIn hC.1.1 hC.1.2.1 hd h.1.1 h.1.2 h.2.1 h.2.2 (k res hM H locs ls hP hD hS hl)
theorem gx_dflt (hC : CX p s m args meth c cc nL ret own D tys tZ A) {x : Int32} {dflt lo hi : Int} {offs : Array Int} {len : Nat} (tgt : Nat) (hd : decode cc pc = .ok (.tableswitch dflt lo hi offs, len)) (h : x.toInt < lo ∨ hi < x.toInt) (ht : (pc : Int) + dflt = (tgt : Int)) (k : GX p l e R s m args below meth c nL D A w K tgt L rest S M) : GX p l e R s m args below meth c nL D A w K pc L (.int x :: rest) S M :=
  fun res hM H locs ls hP hD hS hl => lv_tableOut hC.1.1 hC.1.2.1 hd h ht (k res hM H locs ls hP hD hS hl)
theorem gx_get (hC : CX p s m args meth c cc nL ret own D tys tZ A) {Cn : String} {T : u_T} {N ci index b : Nat} {fs : List Value} {v : Value} (q0 : Nat) (hq : (w S)[q0]? = some (b, .inr (ci, fs))) (hc : vwCl[ci]? = some (Cn, T, N)) (hin : ∀ z ∈ u_ws Cn T N, z ∈ wsAll) (k0 : Nat) (hk : k0 < N) (hlk : Cond.fieldLink own index (T k0).1 (T k0).2.1 (T k0).2.2.1 ∈ wsAll) (hv : fs[k0]? = some v) {pc' : Nat} (hp : pc + 3 = pc') (hd : decode cc pc = .ok (.getfield index, 3)) (k : GX p l e R s m args below meth c nL D A w K pc' L (v :: rest) S M) : GX p l e R s m args below meth c nL D A w K pc L (.ref b :: rest) S M := by
  subst hp
  exact fun res hM H locs ls hP hD hS hl => va_get (D := D) (C := Cn) hC.1.1 hC.1.2.1 hC.1.2.2.2.2 hin hC.1.2.2.2.1 hC.2.1 hP q0 hq hc k0 hk (hC.1.2.2.2.2 _ hlk) (fun _ h9 => h9) hv hd (k res hM H locs ls hP hD hS hl)
theorem gx_getN (hC : CX p s m args meth c cc nL ret own D tys tZ A) {Cn host : String} {T : u_T} {N ci index b : Nat} {fs : List Value} {v : Value} (q0 : Nat) (hq : (w S)[q0]? = some (b, .inr (ci, fs))) (hc : vwCl[ci]? = some (Cn, T, N)) (hin : ∀ z ∈ u_ws Cn T N, z ∈ wsAll) (k0 : Nat) (hk : k0 < N) (hlk : Cond.fieldLinkNest own index (T k0).1 (T k0).2.1 (T k0).2.2.1 host ∈ nestAll) (hv : fs[k0]? = some v) {pc' : Nat} (hp : pc + 3 = pc') (hd : decode cc pc = .ok (.getfield index, 3)) (k : GX p l e R s m args below meth c nL D A w K pc' L (v :: rest) S M) : GX p l e R s m args below meth c nL D A w K pc L (.ref b :: rest) S M := by
  subst hp
  exact fun res hM H locs ls hP hD hS hl => va_getN (D := D) (C := Cn) hC.1.1 hC.1.2.1 hC.1.2.2.2.2 hin hC.1.2.2.2.1 hC.2.1 hP q0 hq hc k0 hk (va_Nw.use (nest_tab _ hlk) (hC.2.2.2.2.2.1 _ hlk)) (fun _ h9 => h9) hv hd (k res hM H locs ls hP hD hS hl)
theorem gx_put (hC : CX p s m args meth c cc nL ret own D tys tZ A) {Cn : String} {T : u_T} {N ci index b : Nat} {fs : List Value} {v : Value} {ty0 : Nat → FieldType} (hty : ∀ k, k < N → parseFieldDescriptor (T k).2.2.1 = some (ty0 k)) (hnm : ∀ a, a < N → ∀ b, b < N → a ≠ b → (T a).2.1 ≠ (T b).2.1) (q0 : Nat) (hq : (w S)[q0]? = some (b, .inr (ci, fs))) (hc : vwCl[ci]? = some (Cn, T, N)) (hin : ∀ z ∈ u_ws Cn T N, z ∈ wsAll) (k0 : Nat) (hk : k0 < N) (hlk : Cond.fieldLink own index (T k0).1 (T k0).2.1 (T k0).2.2.1 ∈ wsAll) (hfin : (T k0).2.2.2 = false) (hn : narrow (ty0 k0) v = v) (hf : fits (ty0 k0) v = true) (hl0 : k0 < fs.length) (S' : St) (hset : (w S).set q0 (b, .inr (ci, fs.set k0 v)) = w S') {pc' : Nat} (hp : pc + 3 = pc') (hd : decode cc pc = .ok (.putfield index, 3)) (k : GX p l e R s m args below meth c nL D A w K pc' L rest S' M) : GX p l e R s m args below meth c nL D A w K pc L (v :: .ref b :: rest) S M := by
  subst hp
  exact fun res hM H locs ls hP hD hS hl => va_put (D := D) (C := Cn) hC.1.1 hC.1.2.1 hC.1.2.2.2.2 hin ty0 hty hnm hC.1.2.2.2.1 hC.2.1 hP hD hS q0 hq hc k0 hk (hC.1.2.2.2.2 _ hlk) (fun _ h9 => h9) hfin (hty k0 hk) hn hf hl0 hd (fun H1 locs1 hP1 hD1 hS1 => k res hM H1 locs1 ls (hset ▸ hP1) (hset ▸ hD1) hS1 hl)
theorem gx_putN (hC : CX p s m args meth c cc nL ret own D tys tZ A) {Cn host : String} {T : u_T} {N ci index b : Nat} {fs : List Value} {v : Value} {ty0 : Nat → FieldType} (hty : ∀ k, k < N → parseFieldDescriptor (T k).2.2.1 = some (ty0 k)) (hnm : ∀ a, a < N → ∀ b, b < N → a ≠ b → (T a).2.1 ≠ (T b).2.1) (q0 : Nat) (hq : (w S)[q0]? = some (b, .inr (ci, fs))) (hc : vwCl[ci]? = some (Cn, T, N)) (hin : ∀ z ∈ u_ws Cn T N, z ∈ wsAll) (k0 : Nat) (hk : k0 < N) (hlk : Cond.fieldLinkNest own index (T k0).1 (T k0).2.1 (T k0).2.2.1 host ∈ nestAll) (hfin : (T k0).2.2.2 = false) (hn : narrow (ty0 k0) v = v) (hf : fits (ty0 k0) v = true) (hl0 : k0 < fs.length) (S' : St) (hset : (w S).set q0 (b, .inr (ci, fs.set k0 v)) = w S') {pc' : Nat} (hp : pc + 3 = pc') (hd : decode cc pc = .ok (.putfield index, 3)) (k : GX p l e R s m args below meth c nL D A w K pc' L rest S' M) : GX p l e R s m args below meth c nL D A w K pc L (v :: .ref b :: rest) S M := by
  subst hp
  exact fun res hM H locs ls hP hD hS hl => va_putN (D := D) (C := Cn) hC.1.1 hC.1.2.1 hC.1.2.2.2.2 hin ty0 hty hnm hC.1.2.2.2.1 hC.2.1 hP hD hS q0 hq hc k0 hk (va_Nw.use (nest_tab _ hlk) (hC.2.2.2.2.2.1 _ hlk)) (fun _ h9 => h9) hfin (hty k0 hk) hn hf hl0 hd (fun H1 locs1 hP1 hD1 hS1 => k res hM H1 locs1 ls (hset ▸ hP1) (hset ▸ hD1) hS1 hl)
theorem gx_iald (hC : CX p s m args meth c cc nL ret own D tys tZ A) {cA : ClassId} {n b : Nat} {f : Nat → Int32} {i : Int32} (q0 t0 : Nat) (hq : (w S)[q0]? = some (b, .inl (cA, n, .inl f))) (ht : tys[t0]? = some (cA, .int)) {pc' : Nat} (hp : pc + 1 = pc') (hd : decode cc pc = .ok (.iaload, 1)) (k : GX p l e R s m args below meth c nL D A w K pc' L (.int (f i.toNatClampNeg) :: rest) S M) : GX p l e R s m args below meth c nL D A w K pc L (.int i :: .ref b :: rest) S (if inb i n = true then M else none) := by
  subst hp
  refine gx_ite (fun h => ?_) (fun h res hM => by cases hM)
  exact fun res hM H locs ls hP hD hS hl => va_iald hC.1.1 hC.1.2.1 hC.2.1 hP q0 t0 hq ht (inb_vp h) hd (k res hM H locs ls hP hD hS hl)
theorem gx_zald (hC : CX p s m args meth c cc nL ret own D tys tZ A) {cA : ClassId} {n b : Nat} {f : Nat → Int32} {i : Int32} (q0 t0 : Nat) (hq : (w S)[q0]? = some (b, .inl (cA, n, .inl f))) (ht : tys[t0]? = some (cA, .boolean)) {pc' : Nat} (hp : pc + 1 = pc') (hd : decode cc pc = .ok (.baload, 1)) (k : GX p l e R s m args below meth c nL D A w K pc' L (.int (f i.toNatClampNeg) :: rest) S M) : GX p l e R s m args below meth c nL D A w K pc L (.int i :: .ref b :: rest) S (if inb i n = true then M else none) := by
  subst hp
  refine gx_ite (fun h => ?_) (fun h res hM => by cases hM)
  exact fun res hM H locs ls hP hD hS hl => va_zald hC.1.1 hC.1.2.1 hC.2.1 hP q0 t0 hq ht (inb_vp h) hd (k res hM H locs ls hP hD hS hl)
theorem gx_iast (hC : CX p s m args meth c cc nL ret own D tys tZ A) {cA : ClassId} {n b : Nat} {f : Nat → Int32} {i x : Int32} (q0 t0 : Nat) (hq : (w S)[q0]? = some (b, .inl (cA, n, .inl f))) (ht : tys[t0]? = some (cA, .int)) (S' : St) (hset : (w S).set q0 (b, .inl (cA, n, .inl (upd f i.toNatClampNeg x))) = w S') {pc' : Nat} (hp : pc + 1 = pc') (hd : decode cc pc = .ok (.iastore, 1)) (k : GX p l e R s m args below meth c nL D A w K pc' L rest S' M) : GX p l e R s m args below meth c nL D A w K pc L (.int x :: .int i :: .ref b :: rest) S (if inb i n = true then M else none) := by
  subst hp
  refine gx_ite (fun h => ?_) (fun h res hM => by cases hM)
  exact fun res hM H locs ls hP hD hS hl => va_iast hC.1.1 hC.1.2.1 hC.2.1 hP hD hS q0 t0 hq ht (inb_vp h) hd (fun H1 locs1 hP1 hD1 hS1 => k res hM H1 locs1 ls (hset ▸ hP1) (hset ▸ hD1) hS1 hl)
theorem gx_zast (hC : CX p s m args meth c cc nL ret own D tys tZ A) {cA : ClassId} {n b : Nat} {f : Nat → Int32} {i x : Int32} (q0 t0 : Nat) (hq : (w S)[q0]? = some (b, .inl (cA, n, .inl f))) (ht : tys[t0]? = some (cA, .boolean)) (hx : vp_nar .boolean x = x) (S' : St) (hset : (w S).set q0 (b, .inl (cA, n, .inl (upd f i.toNatClampNeg x))) = w S') {pc' : Nat} (hp : pc + 1 = pc') (hd : decode cc pc = .ok (.bastore, 1)) (k : GX p l e R s m args below meth c nL D A w K pc' L rest S' M) : GX p l e R s m args below meth c nL D A w K pc L (.int x :: .int i :: .ref b :: rest) S (if inb i n = true then M else none) := by
  subst hp
  refine gx_ite (fun h => ?_) (fun h res hM => by cases hM)
  intro res hM H locs ls hP hD hS hl
  refine va_zast hC.1.1 hC.1.2.1 hC.2.1 hP hD hS q0 t0 hq ht (inb_vp h) hd (fun H1 locs1 hP1 hD1 hS1 => ?_)
  rw [hx] at hP1 hD1
  exact k res hM H1 locs1 ls (hset ▸ hP1) (hset ▸ hD1) hS1 hl
theorem gx_aald (hC : CX p s m args meth c cc nL ret own D tys tZ A) {cA : ClassId} {C : String} {n b : Nat} {f : Nat → Option Nat} {i : Int32} (q0 t0 : Nat) (hq : (w S)[q0]? = some (b, .inl (cA, n, .inr (.inr (.inr (.inr f)))))) (ht : tys[t0]? = some (cA, .object C)) {pc' : Nat} (hp : pc + 1 = pc') (hd : decode cc pc = .ok (.aaload, 1)) (k : inb i n = true → GX p l e R s m args below meth c nL D A w K pc' L (va_rf (f i.toNatClampNeg) :: rest) S M) : GX p l e R s m args below meth c nL D A w K pc L (.int i :: .ref b :: rest) S (if inb i n = true then M else none) := by
  subst hp
  refine gx_ite (fun h => ?_) (fun h res hM => by cases hM)
  exact fun res hM H locs ls hP hD hS hl => va_aldq hC.1.1 hC.1.2.1 hC.2.1 hP q0 t0 hq ht (inb_vp h) hd (k h res hM H locs ls hP hD hS hl)
theorem gx_gets (hC : CX p s m args meth c cc nL ret own D tys tZ A) {index : Nat} (hlk : Cond.fieldLink own index "ChainUnwinder$Program" "SIZES" "[I" ∈ wsAll) {pc' : Nat} (hp : pc + 3 = pc') (hd : decode cc pc = .ok (.getstatic index, 3)) (k : GX p l e R s m args below meth c nL D A w K pc' L (.ref tZ :: rest) S M) : GX p l e R s m args below meth c nL D A w K pc L rest S M := by
  subst hp
  exact fun res hM H locs ls hP hD hS hl => va_gets hC.1.1 hC.1.2.1 hC.2.2.2.2.2.2.1 hS hC.1.2.2.2.1 (hC.1.2.2.2.2 _ hlk) (fun _ h9 => h9) hd (k res hM H locs ls hP hD hS hl)
theorem gx_tlen (hC : CX p s m args meth c cc nL ret own D tys tZ A) {pc' : Nat} (hp : pc + 1 = pc') (hd : decode cc pc = .ok (.arraylength, 1)) (k : GX p l e R s m args below meth c nL D A w K pc' L (.int 16 :: rest) S M) : GX p l e R s m args below meth c nL D A w K pc L (.ref tZ :: rest) S M := by
  subst hp
  exact fun res hM H locs ls hP hD hS hl => va_tlen hC.1.1 hC.1.2.1 hC.2.2.2.2.2.2.2 hS rfl hd (k res hM H locs ls hP hD hS hl)
theorem gx_ti (hC : CX p s m args meth c cc nL ret own D tys tZ A) {i : Int32} {pc' : Nat} (hp : pc + 1 = pc') (hd : decode cc pc = .ok (.iaload, 1)) (k : GX p l e R s m args below meth c nL D A w K pc' L (.int (szs i.toNatClampNeg) :: rest) S M) : GX p l e R s m args below meth c nL D A w K pc L (.int i :: .ref tZ :: rest) S (if inb i 16 = true then M else none) := by
  subst hp
  refine gx_ite (fun h => ?_) (fun h res hM => by cases hM)
  exact fun res hM H locs ls hP hD hS hl => va_ti hC.1.1 hC.1.2.1 hC.2.2.2.2.2.2.2 hS (inb_vp h) rfl hd (k res hM H locs ls hP hD hS hl)
theorem gx_iret (hC : CX p s m args meth c cc nL (some .int) own D tys tZ A) {v : Int32} (hd : decode cc pc = .ok (.ireturn, 1)) : GX p l e R s m args below meth c nL D A w (fun res => MQ below (QI D tys w A res) args s 0 0 A) pc L [.int v] S (some (v, S)) := by
  intro res hM H locs ls hP hD hS hl
  have hlocks := hC.2.2.2.1
  exact W.iret (v := v) hC.1.1 hC.1.2.1 hC.2.2.1 (fun t ht hW => ⟨⟨v, S, rfl, Option.some.inj hM, by rw [ht]; exact hP, va_K.moved hW.alike hC.2.1, hD⟩, hS.F ht⟩) hS.2.2 hd
def bz (v : Int32) (S : St) : Option (Int32 × St) := if v = 0 ∨ v = 1 then some (v, S) else none
theorem gx_zret (hC : CX p s m args meth c cc nL (some .boolean) own D tys tZ A) {v : Int32} (hd : decode cc pc = .ok (.ireturn, 1)) : GX p l e R s m args below meth c nL D A w (fun res => MQ below (QI D tys w A res) args s 0 0 A) pc L [.int v] S (bz v S) := by
  refine gx_ite (fun h => ?_) (fun h res hM => by cases hM)
  intro res hM H locs ls hP hD hS hl
  have hlocks := hC.2.2.2.1
  exact W.zret (v := v) hC.1.1 hC.1.2.1 hC.2.2.1 (by rcases h with rfl | rfl <;> rfl) (fun t ht hW => ⟨⟨v, S, rfl, Option.some.inj hM, by rw [ht]; exact hP, va_K.moved hW.alike hC.2.1, hD⟩, hS.F ht⟩) hS.2.2 hd
theorem gx_vret (hC : CX p s m args meth c cc nL none own D tys tZ A) (hd : decode cc pc = .ok (.return_, 1)) : GX p l e R s m args below meth c nL D A w (fun res => MQ below (QV D tys w A res) args s 0 0 A) pc L [] S (some (0, S)) := by
  intro res hM H locs ls hP hD hS hl
  have hlocks := hC.2.2.2.1
  have he : S = res.2 := by rw [← Option.some.inj hM]
  exact W.vret hC.1.1 hC.1.2.1 hC.2.2.1 (fun t ht hW => ⟨⟨S, rfl, he, by rw [ht]; exact hP, va_K.moved hW.alike hC.2.1, hD⟩, hS.F ht⟩) hS.2.2 hd
theorem PX.blind {t sz : Nat} {ws : va_W} {av : List Value} : FrameBlind (va_Pc av (PX D tys t ws sz)) := fun a U g mk q => by
  obtain ⟨q0, q1, qP, qK, qD, qX⟩ := q
  exact ⟨q0, q1, qP, va_K.moved (u := U) (U := U.calling g mk a) (Vm.Alike.refl U.vm) qK, qD, XF.blind g mk a qX⟩
theorem ax_free {H : Heap} {locs : List Loc} (hD : va_D A (w S)) (hS : va_S A s.heap H locs) (hA : ∀ q, s.heap.size ≤ q → A q) : ∀ q, va_A (w S) H.size q → A q := fun q h => h.elim (fun ⟨k, e, hk⟩ => hD.2 k (q, e) hk) (fun h => hA q (Nat.le_trans hS.1 h))
theorem ax_pre {av : List Value} {H : Heap} {locs : List Loc} (hC : CX p s m args meth c cc nL ret own D tys tZ A) (hP : va_P D vwCl (w S) H) (hD : va_D A (w S)) (hS : va_S A s.heap H locs) : ∀ U : State, U.heap = H → s.WarmedH U.vm → va_Pc av (PX D tys tZ (w S) H.size) av.toArray U := fun U hU hW =>
  ⟨rfl, by rw [hU], by rw [hU]; exact hP, va_K.moved hW.alike hC.2.1, hD.weaken (fun _ _ _ _ => trivial), by rw [hU]; exact hC.2.2.2.2.2.go hW (fun a h1 h2 => hS.2.1 a h1 h2) (ax_free hD hS hC.2.2.2.2.1)⟩
abbrev hdY (y : MethodName) (C : String) (n : Nat) : Prop := y.cls = C ∧ y.cls ≠ "java/lang/invoke/MethodHandle" ∧ y.cls ≠ "java/lang/invoke/VarHandle" ∧ (parseMethodDescriptor y.desc).map (fun d => d.parameters.length) = some n
theorem gx_callVI (hC : CX p s m args meth c cc nL ret own D tys tZ A) {y : MethodName} {C : String} {T : u_T} {N ci index b maxL n : Nat} {bytes : ByteArray} {rt : Option FieldType} {rm : Room} {fs As stk : List Value} {Mc : Option (Int32 × St)} {Mk : Int32 × St → Option (Int32 × St)} (hcal : MI l D tys tZ w y bytes maxL rt rm (.ref b :: As) S Mc) (q0 : Nat) (hq : (w S)[q0]? = some (b, .inr (ci, fs))) (hc : vwCl[ci]? = some (C, T, N)) (hG : GoodIn wsAll (wsV own index C y (Cond.code y bytes maxL rt :: wsAll))) (hy : hdY y C n) (hrm : rm.cells = 0 ∧ rm.slots = 0) (hR : rm.frames + 1 ≤ R.frames ∧ 8 + (maxL + 11) + rm.locals ≤ R.locals) (hn : As.length = n) (hstk : stk = As.reverse ++ .ref b :: rest) (hroom : (rest.map fun v => v.category).sum ≤ 8) {pc' : Nat} (hp : pc + 3 = pc') (hd : decode cc pc = .ok (.invokevirtual index, 3)) (k : ∀ r, GX p l e R s m args below meth c nL D A w K pc' L (.int r.1 :: rest) r.2 (Mk r)) : GX p l e R s m args below meth c nL D A w K pc L stk S (Mc.bind Mk) := by
  subst hp
  intro res hM H locs ls hP hD hS hl
  obtain ⟨r, hMc, hMk⟩ := Option.bind_eq_some_iff.mp hM
  have hF := ax_free hD hS hC.2.2.2.2.1
  refine va_calli (va_runV (As := As) (rest := rest) hC.1 (hcal r hMc H.size) (cwV n hC.1.2.2.2.2 hG rfl hrm.1 hrm.2 hy hR) ⟨PX.blind, va_recv hC.2.1 hP hc hq, ax_pre hC hP hD hS⟩ rfl hn hl.1 hstk (lv_room hroom) hd ⟨Nat.zero_le _, Nat.zero_le _⟩) hS (fun q _ h => hF q h) hF (fun r' u t H1 locs1 ht hvm hpost hB hz hk hS1 => ?_)
  obtain ⟨hP1, hK1, hD1⟩ := hB
  rw [ht] at hP1
  subst hpost
  exact k (r', u) res hMk H1 locs1 ls hP1 (hD1.weaken (fun _ q _ h => hF q.1 h)) hS1 hl
theorem gx_callVV (hC : CX p s m args meth c cc nL ret own D tys tZ A) {y : MethodName} {C : String} {T : u_T} {N ci index b maxL n : Nat} {bytes : ByteArray} {rt : Option FieldType} {rm : Room} {fs As stk : List Value} {Mc : Option (Int32 × St)} {Mk : Int32 × St → Option (Int32 × St)} (hcal : MV l D tys tZ w y bytes maxL rt rm (.ref b :: As) S Mc) (q0 : Nat) (hq : (w S)[q0]? = some (b, .inr (ci, fs))) (hc : vwCl[ci]? = some (C, T, N)) (hG : GoodIn wsAll (wsV own index C y (Cond.code y bytes maxL rt :: wsAll))) (hy : hdY y C n) (hrm : rm.cells = 0 ∧ rm.slots = 0) (hR : rm.frames + 1 ≤ R.frames ∧ 8 + (maxL + 11) + rm.locals ≤ R.locals) (hn : As.length = n) (hstk : stk = As.reverse ++ .ref b :: rest) (hroom : (rest.map fun v => v.category).sum ≤ 8) {pc' : Nat} (hp : pc + 3 = pc') (hd : decode cc pc = .ok (.invokevirtual index, 3)) (k : ∀ r, GX p l e R s m args below meth c nL D A w K pc' L rest r.2 (Mk r)) : GX p l e R s m args below meth c nL D A w K pc L stk S (Mc.bind Mk) := by
  subst hp
  intro res hM H locs ls hP hD hS hl
  obtain ⟨r, hMc, hMk⟩ := Option.bind_eq_some_iff.mp hM
  have hF := ax_free hD hS hC.2.2.2.2.1
  refine va_callv (va_runV (As := As) (rest := rest) hC.1 (hcal r hMc H.size) (cwV n hC.1.2.2.2.2 hG rfl hrm.1 hrm.2 hy hR) ⟨PX.blind, va_recv hC.2.1 hP hc hq, ax_pre hC hP hD hS⟩ rfl hn hl.1 hstk (lv_room hroom) hd ⟨Nat.zero_le _, Nat.zero_le _⟩) hS (fun q _ h => hF q h) hF (fun u t H1 locs1 ht hvm hpost hB hz hk hS1 => ?_)
  obtain ⟨hP1, hK1, hD1⟩ := hB
  rw [ht] at hP1
  subst hpost
  exact k r res hMk H1 locs1 ls hP1 (hD1.weaken (fun _ q _ h => hF q.1 h)) hS1 hl
theorem gx_callSI (hC : CX p s m args meth c cc nL ret own D tys tZ A) {y : MethodName} {index maxL n : Nat} {bytes : ByteArray} {rt : Option FieldType} {rm : Room} {As stk : List Value} {Mc : Option (Int32 × St)} {Mk : Int32 × St → Option (Int32 × St)} (hcal : MI l D tys tZ w y bytes maxL rt rm As S Mc) (hG : GoodIn wsAll (va_wsS own index y (Cond.code y bytes maxL rt :: wsAll))) (hy : y.cls ≠ "java/lang/invoke/MethodHandle" ∧ y.cls ≠ "java/lang/invoke/VarHandle" ∧ (parseMethodDescriptor y.desc).map (fun d => d.parameters.length) = some n) (hrm : rm.cells = 0 ∧ rm.slots = 0) (hR : rm.frames + 1 ≤ R.frames ∧ 8 + (maxL + 11) + rm.locals ≤ R.locals) (hn : As.length = n) (hstk : stk = As.reverse ++ rest) (hroom : (rest.map fun v => v.category).sum ≤ 8) {pc' : Nat} (hp : pc + 3 = pc') (hd : decode cc pc = .ok (.invokestatic index, 3)) (k : ∀ r, GX p l e R s m args below meth c nL D A w K pc' L (.int r.1 :: rest) r.2 (Mk r)) : GX p l e R s m args below meth c nL D A w K pc L stk S (Mc.bind Mk) := by
  subst hp
  intro res hM H locs ls hP hD hS hl
  obtain ⟨r, hMc, hMk⟩ := Option.bind_eq_some_iff.mp hM
  have hF := ax_free hD hS hC.2.2.2.2.1
  refine va_calli (va_runS (As := As) (rest := rest) hC.1 (hcal r hMc H.size) (va_cwS n hC.1.2.2.2.2 hG rfl hrm.1 hrm.2 hy hR) ⟨PX.blind, ax_pre hC hP hD hS⟩ rfl hn hl.1 hstk (lv_room hroom) hd ⟨Nat.zero_le _, Nat.zero_le _⟩) hS (fun q _ h => hF q h) hF (fun r' u t H1 locs1 ht hvm hpost hB hz hk hS1 => ?_)
  obtain ⟨hP1, hK1, hD1⟩ := hB
  rw [ht] at hP1
  subst hpost
  exact k (r', u) res hMk H1 locs1 ls hP1 (hD1.weaken (fun _ q _ h => hF q.1 h)) hS1 hl
end GXL
theorem gx_metI {l : Launch} {D : va_G} {tys : List (ClassId × FieldType)} {tZ : Nat} {w : St → va_W} {y : MethodName} {cc : ByteArray} {maxL : Nat} {ret : Option FieldType} {rm : Room} {av : List Value} {S : St} {M : Option (Int32 × St)} (hy : plainName y.cls = true) (hlen : (lg_sl av).length ≤ maxL)
    (body : ∀ (p : Program) (e : Env) (s : State) (m : MethodId) (below : List Frame) (meth : Method) (c : Code) (A : Nat → Prop), CX p s m av.toArray meth c cc maxL ret y.cls D tys tZ A → GX p l e rm s m av.toArray below meth c maxL D A w (fun res => MQ below (QI D tys w A res) av.toArray s 0 0 A) 0 (lv_args 0 av) [] S M) : MI l D tys tZ w y cc maxL ret rm av S M := by
  intro res hM sz
  refine Met.ofW (cc := cc) (maxL := maxL) (ret := ret) hy rfl ?_
  intro p e s m args below meth c s₁ B hml hv
  obtain ⟨rfl, hsz, hP, hK, hD0, hX⟩ := hv
  subst hsz
  have hts := atoms_spec (ws := Cond.code y cc maxL ret :: wsAll) B.pre
  have hown := findClass_of_methodNamed B.named
  rw [lg_entry_eq]
  exact body p e s m below meth c (va_A (w S) s.heap.size) ⟨⟨B.exec, B.bytes, hml, hown, fun w h => hts w (List.mem_cons_of_mem _ h)⟩, hK, B.returns, B.notSynchronized, fun q h => Or.inr h, hX⟩ res hM s.heap [] _ hP hD0.self va_S.rf (lv_entry av (n := maxL) hlen)
theorem gx_metV {l : Launch} {D : va_G} {tys : List (ClassId × FieldType)} {tZ : Nat} {w : St → va_W} {y : MethodName} {cc : ByteArray} {maxL : Nat} {ret : Option FieldType} {rm : Room} {av : List Value} {S : St} {M : Option (Int32 × St)} (hy : plainName y.cls = true) (hlen : (lg_sl av).length ≤ maxL)
    (body : ∀ (p : Program) (e : Env) (s : State) (m : MethodId) (below : List Frame) (meth : Method) (c : Code) (A : Nat → Prop), CX p s m av.toArray meth c cc maxL ret y.cls D tys tZ A → GX p l e rm s m av.toArray below meth c maxL D A w (fun res => MQ below (QV D tys w A res) av.toArray s 0 0 A) 0 (lv_args 0 av) [] S M) : MV l D tys tZ w y cc maxL ret rm av S M := by
  intro res hM sz
  refine Met.ofW (cc := cc) (maxL := maxL) (ret := ret) hy rfl ?_
  intro p e s m args below meth c s₁ B hml hv
  obtain ⟨rfl, hsz, hP, hK, hD0, hX⟩ := hv
  subst hsz
  have hts := atoms_spec (ws := Cond.code y cc maxL ret :: wsAll) B.pre
  have hown := findClass_of_methodNamed B.named
  rw [lg_entry_eq]
  exact body p e s m below meth c (va_A (w S) s.heap.size) ⟨⟨B.exec, B.bytes, hml, hown, fun w h => hts w (List.mem_cons_of_mem _ h)⟩, hK, B.returns, B.notSynchronized, fun q h => Or.inr h, hX⟩ res hM s.heap [] _ hP hD0.self va_S.rf (lv_entry av (n := maxL) hlen)
end
section
def wX (cI cZ cR : ClassId) (a : Nat → Nat) (S : St) : va_W := [
  (a 0, .inr (8, [.ref (a 1), .ref (a 5), .ref (a 11), .ref (a 13), .ref (a 15), .ref (a 19)])),
  (a 1, .inr (4, [.ref (a 2), .ref (a 3), .ref (a 4), .int (S 20 0), .int (S 20 1)])),
  (a 2, .inl (cI, 96, .inl (S 0))),
  (a 3, .inl (cI, 5, .inl (S 1))),
  (a 4, .inl (cI, 5, .inl (S 2))),
  (a 5, .inr (3, [.ref (a 1), .ref (a 11), .ref (a 6), .ref (a 21), .ref (a 23)])),
  (a 6, .inr (1, [.ref (a 1), .ref (a 7), .ref (a 8), .ref (a 9), .ref (a 10), .int (S 20 2), .int (S 20 3), .int (S 20 4), .int (S 20 5)])),
  (a 7, .inl (cI, 97, .inl (S 3))),
  (a 8, .inl (cZ, 97, .inl (S 4))),
  (a 9, .inl (cI, 485, .inl (S 5))),
  (a 10, .inl (cI, 3, .inl (S 6))),
  (a 11, .inr (7, [.ref (a 12), .int (S 20 6)])),
  (a 12, .inl (cI, 1076, .inl (S 7))),
  (a 13, .inr (5, [.ref (a 11), .ref (a 25), .ref (a 27), .ref (a 14), .int (S 20 7), .int (S 20 8), .int (S 20 9)])),
  (a 14, .inl (cR, 4, .inr (.inr (.inr (.inr (fun k => some (a (21 + 2 * (4 + k))))))))),
  (a 15, .inr (2, [.ref (a 1), .ref (a 16), .ref (a 17), .ref (a 18), .int (S 20 10), .int (S 20 11), .int (S 20 12), .int (S 20 13), .int (S 20 14), .int (S 20 15)])),
  (a 16, .inl (cI, 40, .inl (S 8))),
  (a 17, .inl (cI, 3, .inl (S 9))),
  (a 18, .inl (cI, 40, .inl (S 10))),
  (a 19, .inr (0, [.ref (a 15), .ref (a 13), .ref (a 20), .int (S 20 16)])),
  (a 20, .inl (cI, 100, .inl (S 11))),
  (a 21, .inr (6, [.int (S 20 17), .int (S 20 18), .ref (a 22)])),
  (a 22, .inl (cI, 3, .inl (S 12))),
  (a 23, .inr (6, [.int (S 20 19), .int (S 20 20), .ref (a 24)])),
  (a 24, .inl (cI, 3, .inl (S 13))),
  (a 25, .inr (6, [.int (S 20 21), .int (S 20 22), .ref (a 26)])),
  (a 26, .inl (cI, 3, .inl (S 14))),
  (a 27, .inr (6, [.int (S 20 23), .int (S 20 24), .ref (a 28)])),
  (a 28, .inl (cI, 3, .inl (S 15))),
  (a 29, .inr (6, [.int (S 20 25), .int (S 20 26), .ref (a 30)])),
  (a 30, .inl (cI, 3, .inl (S 16))),
  (a 31, .inr (6, [.int (S 20 27), .int (S 20 28), .ref (a 32)])),
  (a 32, .inl (cI, 3, .inl (S 17))),
  (a 33, .inr (6, [.int (S 20 29), .int (S 20 30), .ref (a 34)])),
  (a 34, .inl (cI, 3, .inl (S 18))),
  (a 35, .inr (6, [.int (S 20 31), .int (S 20 32), .ref (a 36)])),
  (a 36, .inl (cI, 3, .inl (S 19)))]
def wM (cI cZ : ClassId) (a : Nat → Nat) (S : St) : va_W := [
  (a 0, .inr (9, [.int (S 30 0), .ref (a 1), .int (S 30 2), .int (S 30 3), .ref (a 2), .ref (a 3), .ref (a 4), .ref (a 5), .ref (a 6), .ref (a 7), .ref (a 8), .ref (a 9), .int (S 30 12), .ref (a 10), .ref (a 11), .ref (a 12), .int (S 30 16), .int (S 30 17), .int (S 30 18), .int (S 30 19), .int (S 30 20), .ref (a 13), .ref (a 14), .int (S 30 23), .ref (a 15), .int (S 30 25), .ref (a 16), .int (S 30 27), .int (S 30 28)])),
  (a 1, .inl (cI, 96, .inl (S 1))),
  (a 2, .inl (cI, 5, .inl (S 4))),
  (a 3, .inl (cI, 5, .inl (S 5))),
  (a 4, .inl (cI, 485, .inl (S 6))),
  (a 5, .inl (cZ, 97, .inl (S 7))),
  (a 6, .inl (cZ, 97, .inl (S 8))),
  (a 7, .inl (cI, 5, .inl (S 9))),
  (a 8, .inl (cI, 6000, .inl (S 10))),
  (a 9, .inl (cI, 6000, .inl (S 11))),
  (a 10, .inl (cI, 5, .inl (S 13))),
  (a 11, .inl (cI, 5, .inl (S 14))),
  (a 12, .inl (cI, 20, .inl (S 15))),
  (a 13, .inl (cI, 3, .inl (S 21))),
  (a 14, .inl (cI, 40, .inl (S 22))),
  (a 15, .inl (cI, 40, .inl (S 24))),
  (a 16, .inl (cI, 100, .inl (S 26)))]
abbrev tyl (cI cZ cR : ClassId) : List (ClassId × FieldType) := [(cI, .int), (cZ, .boolean), (cR, .object RX6)]
abbrev KI (below : List Frame) (D : va_G) (tys : List (ClassId × FieldType)) (w : St → va_W) (A : Nat → Prop) (args : Array Value) (s : State) : Int32 × St → State → Prop := fun res => MQ below (QI D tys w A res) args s 0 0 A
abbrev KV (below : List Frame) (D : va_G) (tys : List (ClassId × FieldType)) (w : St → va_W) (A : Nat → Prop) (args : Array Value) (s : State) : Int32 × St → State → Prop := fun res => MQ below (QV D tys w A res) args s 0 0 A
theorem gx_none {p : Program} {l : Launch} {e : Env} {R : Room} {s : State} {m : MethodId} {args : Array Value} {below : List Frame} {meth : Method} {c : Code} {nL : Nat} {D : va_G} {A : Nat → Prop} {w : St → va_W} {K : Int32 × St → State → Prop} {pc : Nat} {L : List (Nat × Value)} {stk : List Value} {S : St} : GX p l e R s m args below meth c nL D A w K pc L stk S none := fun res hM => by cases hM
theorem atX0 (cI cZ cR : ClassId) (a : Nat → Nat) (S : St) : (wX cI cZ cR a S)[0]? = some (a 0, .inr (8, [.ref (a 1), .ref (a 5), .ref (a 11), .ref (a 13), .ref (a 15), .ref (a 19)])) := rfl
theorem atX1 (cI cZ cR : ClassId) (a : Nat → Nat) (S : St) : (wX cI cZ cR a S)[1]? = some (a 1, .inr (4, [.ref (a 2), .ref (a 3), .ref (a 4), .int (S 20 0), .int (S 20 1)])) := rfl
theorem atX2 (cI cZ cR : ClassId) (a : Nat → Nat) (S : St) : (wX cI cZ cR a S)[2]? = some (a 2, .inl (cI, 96, .inl (S 0))) := rfl
theorem atX3 (cI cZ cR : ClassId) (a : Nat → Nat) (S : St) : (wX cI cZ cR a S)[3]? = some (a 3, .inl (cI, 5, .inl (S 1))) := rfl
theorem atX4 (cI cZ cR : ClassId) (a : Nat → Nat) (S : St) : (wX cI cZ cR a S)[4]? = some (a 4, .inl (cI, 5, .inl (S 2))) := rfl
theorem atX5 (cI cZ cR : ClassId) (a : Nat → Nat) (S : St) : (wX cI cZ cR a S)[5]? = some (a 5, .inr (3, [.ref (a 1), .ref (a 11), .ref (a 6), .ref (a 21), .ref (a 23)])) := rfl
theorem atX6 (cI cZ cR : ClassId) (a : Nat → Nat) (S : St) : (wX cI cZ cR a S)[6]? = some (a 6, .inr (1, [.ref (a 1), .ref (a 7), .ref (a 8), .ref (a 9), .ref (a 10), .int (S 20 2), .int (S 20 3), .int (S 20 4), .int (S 20 5)])) := rfl
theorem atX7 (cI cZ cR : ClassId) (a : Nat → Nat) (S : St) : (wX cI cZ cR a S)[7]? = some (a 7, .inl (cI, 97, .inl (S 3))) := rfl
theorem atX8 (cI cZ cR : ClassId) (a : Nat → Nat) (S : St) : (wX cI cZ cR a S)[8]? = some (a 8, .inl (cZ, 97, .inl (S 4))) := rfl
theorem atX9 (cI cZ cR : ClassId) (a : Nat → Nat) (S : St) : (wX cI cZ cR a S)[9]? = some (a 9, .inl (cI, 485, .inl (S 5))) := rfl
theorem atX10 (cI cZ cR : ClassId) (a : Nat → Nat) (S : St) : (wX cI cZ cR a S)[10]? = some (a 10, .inl (cI, 3, .inl (S 6))) := rfl
theorem atX11 (cI cZ cR : ClassId) (a : Nat → Nat) (S : St) : (wX cI cZ cR a S)[11]? = some (a 11, .inr (7, [.ref (a 12), .int (S 20 6)])) := rfl
theorem atX12 (cI cZ cR : ClassId) (a : Nat → Nat) (S : St) : (wX cI cZ cR a S)[12]? = some (a 12, .inl (cI, 1076, .inl (S 7))) := rfl
theorem atX13 (cI cZ cR : ClassId) (a : Nat → Nat) (S : St) : (wX cI cZ cR a S)[13]? = some (a 13, .inr (5, [.ref (a 11), .ref (a 25), .ref (a 27), .ref (a 14), .int (S 20 7), .int (S 20 8), .int (S 20 9)])) := rfl
theorem atX14 (cI cZ cR : ClassId) (a : Nat → Nat) (S : St) : (wX cI cZ cR a S)[14]? = some (a 14, .inl (cR, 4, .inr (.inr (.inr (.inr (fun k => some (a (21 + 2 * (4 + k))))))))) := rfl
theorem atX15 (cI cZ cR : ClassId) (a : Nat → Nat) (S : St) : (wX cI cZ cR a S)[15]? = some (a 15, .inr (2, [.ref (a 1), .ref (a 16), .ref (a 17), .ref (a 18), .int (S 20 10), .int (S 20 11), .int (S 20 12), .int (S 20 13), .int (S 20 14), .int (S 20 15)])) := rfl
theorem atX16 (cI cZ cR : ClassId) (a : Nat → Nat) (S : St) : (wX cI cZ cR a S)[16]? = some (a 16, .inl (cI, 40, .inl (S 8))) := rfl
theorem atX17 (cI cZ cR : ClassId) (a : Nat → Nat) (S : St) : (wX cI cZ cR a S)[17]? = some (a 17, .inl (cI, 3, .inl (S 9))) := rfl
theorem atX18 (cI cZ cR : ClassId) (a : Nat → Nat) (S : St) : (wX cI cZ cR a S)[18]? = some (a 18, .inl (cI, 40, .inl (S 10))) := rfl
theorem atX19 (cI cZ cR : ClassId) (a : Nat → Nat) (S : St) : (wX cI cZ cR a S)[19]? = some (a 19, .inr (0, [.ref (a 15), .ref (a 13), .ref (a 20), .int (S 20 16)])) := rfl
theorem atX20 (cI cZ cR : ClassId) (a : Nat → Nat) (S : St) : (wX cI cZ cR a S)[20]? = some (a 20, .inl (cI, 100, .inl (S 11))) := rfl
theorem atX21 (cI cZ cR : ClassId) (a : Nat → Nat) (S : St) : (wX cI cZ cR a S)[21]? = some (a 21, .inr (6, [.int (S 20 17), .int (S 20 18), .ref (a 22)])) := rfl
theorem atX22 (cI cZ cR : ClassId) (a : Nat → Nat) (S : St) : (wX cI cZ cR a S)[22]? = some (a 22, .inl (cI, 3, .inl (S 12))) := rfl
theorem atX23 (cI cZ cR : ClassId) (a : Nat → Nat) (S : St) : (wX cI cZ cR a S)[23]? = some (a 23, .inr (6, [.int (S 20 19), .int (S 20 20), .ref (a 24)])) := rfl
theorem atX24 (cI cZ cR : ClassId) (a : Nat → Nat) (S : St) : (wX cI cZ cR a S)[24]? = some (a 24, .inl (cI, 3, .inl (S 13))) := rfl
theorem atX25 (cI cZ cR : ClassId) (a : Nat → Nat) (S : St) : (wX cI cZ cR a S)[25]? = some (a 25, .inr (6, [.int (S 20 21), .int (S 20 22), .ref (a 26)])) := rfl
theorem atX26 (cI cZ cR : ClassId) (a : Nat → Nat) (S : St) : (wX cI cZ cR a S)[26]? = some (a 26, .inl (cI, 3, .inl (S 14))) := rfl
theorem atX27 (cI cZ cR : ClassId) (a : Nat → Nat) (S : St) : (wX cI cZ cR a S)[27]? = some (a 27, .inr (6, [.int (S 20 23), .int (S 20 24), .ref (a 28)])) := rfl
theorem atX28 (cI cZ cR : ClassId) (a : Nat → Nat) (S : St) : (wX cI cZ cR a S)[28]? = some (a 28, .inl (cI, 3, .inl (S 15))) := rfl
theorem atX29 (cI cZ cR : ClassId) (a : Nat → Nat) (S : St) : (wX cI cZ cR a S)[29]? = some (a 29, .inr (6, [.int (S 20 25), .int (S 20 26), .ref (a 30)])) := rfl
theorem atX30 (cI cZ cR : ClassId) (a : Nat → Nat) (S : St) : (wX cI cZ cR a S)[30]? = some (a 30, .inl (cI, 3, .inl (S 16))) := rfl
theorem atX31 (cI cZ cR : ClassId) (a : Nat → Nat) (S : St) : (wX cI cZ cR a S)[31]? = some (a 31, .inr (6, [.int (S 20 27), .int (S 20 28), .ref (a 32)])) := rfl
theorem atX32 (cI cZ cR : ClassId) (a : Nat → Nat) (S : St) : (wX cI cZ cR a S)[32]? = some (a 32, .inl (cI, 3, .inl (S 17))) := rfl
theorem atX33 (cI cZ cR : ClassId) (a : Nat → Nat) (S : St) : (wX cI cZ cR a S)[33]? = some (a 33, .inr (6, [.int (S 20 29), .int (S 20 30), .ref (a 34)])) := rfl
theorem atX34 (cI cZ cR : ClassId) (a : Nat → Nat) (S : St) : (wX cI cZ cR a S)[34]? = some (a 34, .inl (cI, 3, .inl (S 18))) := rfl
theorem atX35 (cI cZ cR : ClassId) (a : Nat → Nat) (S : St) : (wX cI cZ cR a S)[35]? = some (a 35, .inr (6, [.int (S 20 31), .int (S 20 32), .ref (a 36)])) := rfl
theorem atX36 (cI cZ cR : ClassId) (a : Nat → Nat) (S : St) : (wX cI cZ cR a S)[36]? = some (a 36, .inl (cI, 3, .inl (S 19))) := rfl
theorem ptX1_3 (cI cZ cR : ClassId) (a : Nat → Nat) (S : St) (v : Int32) : (wX cI cZ cR a S).set 1 (a 1, .inr (4, ([.ref (a 2), .ref (a 3), .ref (a 4), .int (S 20 0), .int (S 20 1)] : List Value).set 3 (.int v))) = wX cI cZ cR a (st S 20 0 v) := rfl
theorem ptX1_4 (cI cZ cR : ClassId) (a : Nat → Nat) (S : St) (v : Int32) : (wX cI cZ cR a S).set 1 (a 1, .inr (4, ([.ref (a 2), .ref (a 3), .ref (a 4), .int (S 20 0), .int (S 20 1)] : List Value).set 4 (.int v))) = wX cI cZ cR a (st S 20 1 v) := rfl
theorem stX2 (cI cZ cR : ClassId) (a : Nat → Nat) (S : St) (i : Nat) (v : Int32) : (wX cI cZ cR a S).set 2 (a 2, .inl (cI, 96, .inl (upd (S 0) i v))) = wX cI cZ cR a (st S 0 i v) := rfl
theorem stX3 (cI cZ cR : ClassId) (a : Nat → Nat) (S : St) (i : Nat) (v : Int32) : (wX cI cZ cR a S).set 3 (a 3, .inl (cI, 5, .inl (upd (S 1) i v))) = wX cI cZ cR a (st S 1 i v) := rfl
theorem stX4 (cI cZ cR : ClassId) (a : Nat → Nat) (S : St) (i : Nat) (v : Int32) : (wX cI cZ cR a S).set 4 (a 4, .inl (cI, 5, .inl (upd (S 2) i v))) = wX cI cZ cR a (st S 2 i v) := rfl
theorem ptX6_5 (cI cZ cR : ClassId) (a : Nat → Nat) (S : St) (v : Int32) : (wX cI cZ cR a S).set 6 (a 6, .inr (1, ([.ref (a 1), .ref (a 7), .ref (a 8), .ref (a 9), .ref (a 10), .int (S 20 2), .int (S 20 3), .int (S 20 4), .int (S 20 5)] : List Value).set 5 (.int v))) = wX cI cZ cR a (st S 20 2 v) := rfl
theorem ptX6_6 (cI cZ cR : ClassId) (a : Nat → Nat) (S : St) (v : Int32) : (wX cI cZ cR a S).set 6 (a 6, .inr (1, ([.ref (a 1), .ref (a 7), .ref (a 8), .ref (a 9), .ref (a 10), .int (S 20 2), .int (S 20 3), .int (S 20 4), .int (S 20 5)] : List Value).set 6 (.int v))) = wX cI cZ cR a (st S 20 3 v) := rfl
theorem ptX6_7 (cI cZ cR : ClassId) (a : Nat → Nat) (S : St) (v : Int32) : (wX cI cZ cR a S).set 6 (a 6, .inr (1, ([.ref (a 1), .ref (a 7), .ref (a 8), .ref (a 9), .ref (a 10), .int (S 20 2), .int (S 20 3), .int (S 20 4), .int (S 20 5)] : List Value).set 7 (.int v))) = wX cI cZ cR a (st S 20 4 v) := rfl
theorem ptX6_8 (cI cZ cR : ClassId) (a : Nat → Nat) (S : St) (v : Int32) : (wX cI cZ cR a S).set 6 (a 6, .inr (1, ([.ref (a 1), .ref (a 7), .ref (a 8), .ref (a 9), .ref (a 10), .int (S 20 2), .int (S 20 3), .int (S 20 4), .int (S 20 5)] : List Value).set 8 (.int v))) = wX cI cZ cR a (st S 20 5 v) := rfl
theorem stX7 (cI cZ cR : ClassId) (a : Nat → Nat) (S : St) (i : Nat) (v : Int32) : (wX cI cZ cR a S).set 7 (a 7, .inl (cI, 97, .inl (upd (S 3) i v))) = wX cI cZ cR a (st S 3 i v) := rfl
theorem stX8 (cI cZ cR : ClassId) (a : Nat → Nat) (S : St) (i : Nat) (v : Int32) : (wX cI cZ cR a S).set 8 (a 8, .inl (cZ, 97, .inl (upd (S 4) i v))) = wX cI cZ cR a (st S 4 i v) := rfl
theorem stX9 (cI cZ cR : ClassId) (a : Nat → Nat) (S : St) (i : Nat) (v : Int32) : (wX cI cZ cR a S).set 9 (a 9, .inl (cI, 485, .inl (upd (S 5) i v))) = wX cI cZ cR a (st S 5 i v) := rfl
theorem stX10 (cI cZ cR : ClassId) (a : Nat → Nat) (S : St) (i : Nat) (v : Int32) : (wX cI cZ cR a S).set 10 (a 10, .inl (cI, 3, .inl (upd (S 6) i v))) = wX cI cZ cR a (st S 6 i v) := rfl
theorem ptX11_1 (cI cZ cR : ClassId) (a : Nat → Nat) (S : St) (v : Int32) : (wX cI cZ cR a S).set 11 (a 11, .inr (7, ([.ref (a 12), .int (S 20 6)] : List Value).set 1 (.int v))) = wX cI cZ cR a (st S 20 6 v) := rfl
theorem stX12 (cI cZ cR : ClassId) (a : Nat → Nat) (S : St) (i : Nat) (v : Int32) : (wX cI cZ cR a S).set 12 (a 12, .inl (cI, 1076, .inl (upd (S 7) i v))) = wX cI cZ cR a (st S 7 i v) := rfl
theorem ptX13_4 (cI cZ cR : ClassId) (a : Nat → Nat) (S : St) (v : Int32) : (wX cI cZ cR a S).set 13 (a 13, .inr (5, ([.ref (a 11), .ref (a 25), .ref (a 27), .ref (a 14), .int (S 20 7), .int (S 20 8), .int (S 20 9)] : List Value).set 4 (.int v))) = wX cI cZ cR a (st S 20 7 v) := rfl
theorem ptX13_5 (cI cZ cR : ClassId) (a : Nat → Nat) (S : St) (v : Int32) : (wX cI cZ cR a S).set 13 (a 13, .inr (5, ([.ref (a 11), .ref (a 25), .ref (a 27), .ref (a 14), .int (S 20 7), .int (S 20 8), .int (S 20 9)] : List Value).set 5 (.int v))) = wX cI cZ cR a (st S 20 8 v) := rfl
theorem ptX13_6 (cI cZ cR : ClassId) (a : Nat → Nat) (S : St) (v : Int32) : (wX cI cZ cR a S).set 13 (a 13, .inr (5, ([.ref (a 11), .ref (a 25), .ref (a 27), .ref (a 14), .int (S 20 7), .int (S 20 8), .int (S 20 9)] : List Value).set 6 (.int v))) = wX cI cZ cR a (st S 20 9 v) := rfl
theorem ptX15_4 (cI cZ cR : ClassId) (a : Nat → Nat) (S : St) (v : Int32) : (wX cI cZ cR a S).set 15 (a 15, .inr (2, ([.ref (a 1), .ref (a 16), .ref (a 17), .ref (a 18), .int (S 20 10), .int (S 20 11), .int (S 20 12), .int (S 20 13), .int (S 20 14), .int (S 20 15)] : List Value).set 4 (.int v))) = wX cI cZ cR a (st S 20 10 v) := rfl
theorem ptX15_5 (cI cZ cR : ClassId) (a : Nat → Nat) (S : St) (v : Int32) : (wX cI cZ cR a S).set 15 (a 15, .inr (2, ([.ref (a 1), .ref (a 16), .ref (a 17), .ref (a 18), .int (S 20 10), .int (S 20 11), .int (S 20 12), .int (S 20 13), .int (S 20 14), .int (S 20 15)] : List Value).set 5 (.int v))) = wX cI cZ cR a (st S 20 11 v) := rfl
theorem ptX15_6 (cI cZ cR : ClassId) (a : Nat → Nat) (S : St) (v : Int32) : (wX cI cZ cR a S).set 15 (a 15, .inr (2, ([.ref (a 1), .ref (a 16), .ref (a 17), .ref (a 18), .int (S 20 10), .int (S 20 11), .int (S 20 12), .int (S 20 13), .int (S 20 14), .int (S 20 15)] : List Value).set 6 (.int v))) = wX cI cZ cR a (st S 20 12 v) := rfl
theorem ptX15_7 (cI cZ cR : ClassId) (a : Nat → Nat) (S : St) (v : Int32) : (wX cI cZ cR a S).set 15 (a 15, .inr (2, ([.ref (a 1), .ref (a 16), .ref (a 17), .ref (a 18), .int (S 20 10), .int (S 20 11), .int (S 20 12), .int (S 20 13), .int (S 20 14), .int (S 20 15)] : List Value).set 7 (.int v))) = wX cI cZ cR a (st S 20 13 v) := rfl
theorem ptX15_8 (cI cZ cR : ClassId) (a : Nat → Nat) (S : St) (v : Int32) : (wX cI cZ cR a S).set 15 (a 15, .inr (2, ([.ref (a 1), .ref (a 16), .ref (a 17), .ref (a 18), .int (S 20 10), .int (S 20 11), .int (S 20 12), .int (S 20 13), .int (S 20 14), .int (S 20 15)] : List Value).set 8 (.int v))) = wX cI cZ cR a (st S 20 14 v) := rfl
theorem ptX15_9 (cI cZ cR : ClassId) (a : Nat → Nat) (S : St) (v : Int32) : (wX cI cZ cR a S).set 15 (a 15, .inr (2, ([.ref (a 1), .ref (a 16), .ref (a 17), .ref (a 18), .int (S 20 10), .int (S 20 11), .int (S 20 12), .int (S 20 13), .int (S 20 14), .int (S 20 15)] : List Value).set 9 (.int v))) = wX cI cZ cR a (st S 20 15 v) := rfl
theorem stX16 (cI cZ cR : ClassId) (a : Nat → Nat) (S : St) (i : Nat) (v : Int32) : (wX cI cZ cR a S).set 16 (a 16, .inl (cI, 40, .inl (upd (S 8) i v))) = wX cI cZ cR a (st S 8 i v) := rfl
theorem stX17 (cI cZ cR : ClassId) (a : Nat → Nat) (S : St) (i : Nat) (v : Int32) : (wX cI cZ cR a S).set 17 (a 17, .inl (cI, 3, .inl (upd (S 9) i v))) = wX cI cZ cR a (st S 9 i v) := rfl
theorem stX18 (cI cZ cR : ClassId) (a : Nat → Nat) (S : St) (i : Nat) (v : Int32) : (wX cI cZ cR a S).set 18 (a 18, .inl (cI, 40, .inl (upd (S 10) i v))) = wX cI cZ cR a (st S 10 i v) := rfl
theorem ptX19_3 (cI cZ cR : ClassId) (a : Nat → Nat) (S : St) (v : Int32) : (wX cI cZ cR a S).set 19 (a 19, .inr (0, ([.ref (a 15), .ref (a 13), .ref (a 20), .int (S 20 16)] : List Value).set 3 (.int v))) = wX cI cZ cR a (st S 20 16 v) := rfl
theorem stX20 (cI cZ cR : ClassId) (a : Nat → Nat) (S : St) (i : Nat) (v : Int32) : (wX cI cZ cR a S).set 20 (a 20, .inl (cI, 100, .inl (upd (S 11) i v))) = wX cI cZ cR a (st S 11 i v) := rfl
theorem ptX21_0 (cI cZ cR : ClassId) (a : Nat → Nat) (S : St) (v : Int32) : (wX cI cZ cR a S).set 21 (a 21, .inr (6, ([.int (S 20 17), .int (S 20 18), .ref (a 22)] : List Value).set 0 (.int v))) = wX cI cZ cR a (st S 20 17 v) := rfl
theorem ptX21_1 (cI cZ cR : ClassId) (a : Nat → Nat) (S : St) (v : Int32) : (wX cI cZ cR a S).set 21 (a 21, .inr (6, ([.int (S 20 17), .int (S 20 18), .ref (a 22)] : List Value).set 1 (.int v))) = wX cI cZ cR a (st S 20 18 v) := rfl
theorem stX22 (cI cZ cR : ClassId) (a : Nat → Nat) (S : St) (i : Nat) (v : Int32) : (wX cI cZ cR a S).set 22 (a 22, .inl (cI, 3, .inl (upd (S 12) i v))) = wX cI cZ cR a (st S 12 i v) := rfl
theorem ptX23_0 (cI cZ cR : ClassId) (a : Nat → Nat) (S : St) (v : Int32) : (wX cI cZ cR a S).set 23 (a 23, .inr (6, ([.int (S 20 19), .int (S 20 20), .ref (a 24)] : List Value).set 0 (.int v))) = wX cI cZ cR a (st S 20 19 v) := rfl
theorem ptX23_1 (cI cZ cR : ClassId) (a : Nat → Nat) (S : St) (v : Int32) : (wX cI cZ cR a S).set 23 (a 23, .inr (6, ([.int (S 20 19), .int (S 20 20), .ref (a 24)] : List Value).set 1 (.int v))) = wX cI cZ cR a (st S 20 20 v) := rfl
theorem stX24 (cI cZ cR : ClassId) (a : Nat → Nat) (S : St) (i : Nat) (v : Int32) : (wX cI cZ cR a S).set 24 (a 24, .inl (cI, 3, .inl (upd (S 13) i v))) = wX cI cZ cR a (st S 13 i v) := rfl
theorem ptX25_0 (cI cZ cR : ClassId) (a : Nat → Nat) (S : St) (v : Int32) : (wX cI cZ cR a S).set 25 (a 25, .inr (6, ([.int (S 20 21), .int (S 20 22), .ref (a 26)] : List Value).set 0 (.int v))) = wX cI cZ cR a (st S 20 21 v) := rfl
theorem ptX25_1 (cI cZ cR : ClassId) (a : Nat → Nat) (S : St) (v : Int32) : (wX cI cZ cR a S).set 25 (a 25, .inr (6, ([.int (S 20 21), .int (S 20 22), .ref (a 26)] : List Value).set 1 (.int v))) = wX cI cZ cR a (st S 20 22 v) := rfl
theorem stX26 (cI cZ cR : ClassId) (a : Nat → Nat) (S : St) (i : Nat) (v : Int32) : (wX cI cZ cR a S).set 26 (a 26, .inl (cI, 3, .inl (upd (S 14) i v))) = wX cI cZ cR a (st S 14 i v) := rfl
theorem ptX27_0 (cI cZ cR : ClassId) (a : Nat → Nat) (S : St) (v : Int32) : (wX cI cZ cR a S).set 27 (a 27, .inr (6, ([.int (S 20 23), .int (S 20 24), .ref (a 28)] : List Value).set 0 (.int v))) = wX cI cZ cR a (st S 20 23 v) := rfl
theorem ptX27_1 (cI cZ cR : ClassId) (a : Nat → Nat) (S : St) (v : Int32) : (wX cI cZ cR a S).set 27 (a 27, .inr (6, ([.int (S 20 23), .int (S 20 24), .ref (a 28)] : List Value).set 1 (.int v))) = wX cI cZ cR a (st S 20 24 v) := rfl
theorem stX28 (cI cZ cR : ClassId) (a : Nat → Nat) (S : St) (i : Nat) (v : Int32) : (wX cI cZ cR a S).set 28 (a 28, .inl (cI, 3, .inl (upd (S 15) i v))) = wX cI cZ cR a (st S 15 i v) := rfl
theorem ptX29_0 (cI cZ cR : ClassId) (a : Nat → Nat) (S : St) (v : Int32) : (wX cI cZ cR a S).set 29 (a 29, .inr (6, ([.int (S 20 25), .int (S 20 26), .ref (a 30)] : List Value).set 0 (.int v))) = wX cI cZ cR a (st S 20 25 v) := rfl
theorem ptX29_1 (cI cZ cR : ClassId) (a : Nat → Nat) (S : St) (v : Int32) : (wX cI cZ cR a S).set 29 (a 29, .inr (6, ([.int (S 20 25), .int (S 20 26), .ref (a 30)] : List Value).set 1 (.int v))) = wX cI cZ cR a (st S 20 26 v) := rfl
theorem stX30 (cI cZ cR : ClassId) (a : Nat → Nat) (S : St) (i : Nat) (v : Int32) : (wX cI cZ cR a S).set 30 (a 30, .inl (cI, 3, .inl (upd (S 16) i v))) = wX cI cZ cR a (st S 16 i v) := rfl
theorem ptX31_0 (cI cZ cR : ClassId) (a : Nat → Nat) (S : St) (v : Int32) : (wX cI cZ cR a S).set 31 (a 31, .inr (6, ([.int (S 20 27), .int (S 20 28), .ref (a 32)] : List Value).set 0 (.int v))) = wX cI cZ cR a (st S 20 27 v) := rfl
theorem ptX31_1 (cI cZ cR : ClassId) (a : Nat → Nat) (S : St) (v : Int32) : (wX cI cZ cR a S).set 31 (a 31, .inr (6, ([.int (S 20 27), .int (S 20 28), .ref (a 32)] : List Value).set 1 (.int v))) = wX cI cZ cR a (st S 20 28 v) := rfl
theorem stX32 (cI cZ cR : ClassId) (a : Nat → Nat) (S : St) (i : Nat) (v : Int32) : (wX cI cZ cR a S).set 32 (a 32, .inl (cI, 3, .inl (upd (S 17) i v))) = wX cI cZ cR a (st S 17 i v) := rfl
theorem ptX33_0 (cI cZ cR : ClassId) (a : Nat → Nat) (S : St) (v : Int32) : (wX cI cZ cR a S).set 33 (a 33, .inr (6, ([.int (S 20 29), .int (S 20 30), .ref (a 34)] : List Value).set 0 (.int v))) = wX cI cZ cR a (st S 20 29 v) := rfl
theorem ptX33_1 (cI cZ cR : ClassId) (a : Nat → Nat) (S : St) (v : Int32) : (wX cI cZ cR a S).set 33 (a 33, .inr (6, ([.int (S 20 29), .int (S 20 30), .ref (a 34)] : List Value).set 1 (.int v))) = wX cI cZ cR a (st S 20 30 v) := rfl
theorem stX34 (cI cZ cR : ClassId) (a : Nat → Nat) (S : St) (i : Nat) (v : Int32) : (wX cI cZ cR a S).set 34 (a 34, .inl (cI, 3, .inl (upd (S 18) i v))) = wX cI cZ cR a (st S 18 i v) := rfl
theorem ptX35_0 (cI cZ cR : ClassId) (a : Nat → Nat) (S : St) (v : Int32) : (wX cI cZ cR a S).set 35 (a 35, .inr (6, ([.int (S 20 31), .int (S 20 32), .ref (a 36)] : List Value).set 0 (.int v))) = wX cI cZ cR a (st S 20 31 v) := rfl
theorem ptX35_1 (cI cZ cR : ClassId) (a : Nat → Nat) (S : St) (v : Int32) : (wX cI cZ cR a S).set 35 (a 35, .inr (6, ([.int (S 20 31), .int (S 20 32), .ref (a 36)] : List Value).set 1 (.int v))) = wX cI cZ cR a (st S 20 32 v) := rfl
theorem stX36 (cI cZ cR : ClassId) (a : Nat → Nat) (S : St) (i : Nat) (v : Int32) : (wX cI cZ cR a S).set 36 (a 36, .inl (cI, 3, .inl (upd (S 19) i v))) = wX cI cZ cR a (st S 19 i v) := rfl
theorem atM0 (cI cZ : ClassId) (a : Nat → Nat) (S : St) : (wM cI cZ a S)[0]? = some (a 0, .inr (9, [.int (S 30 0), .ref (a 1), .int (S 30 2), .int (S 30 3), .ref (a 2), .ref (a 3), .ref (a 4), .ref (a 5), .ref (a 6), .ref (a 7), .ref (a 8), .ref (a 9), .int (S 30 12), .ref (a 10), .ref (a 11), .ref (a 12), .int (S 30 16), .int (S 30 17), .int (S 30 18), .int (S 30 19), .int (S 30 20), .ref (a 13), .ref (a 14), .int (S 30 23), .ref (a 15), .int (S 30 25), .ref (a 16), .int (S 30 27), .int (S 30 28)])) := rfl
theorem atM1 (cI cZ : ClassId) (a : Nat → Nat) (S : St) : (wM cI cZ a S)[1]? = some (a 1, .inl (cI, 96, .inl (S 1))) := rfl
theorem atM2 (cI cZ : ClassId) (a : Nat → Nat) (S : St) : (wM cI cZ a S)[2]? = some (a 2, .inl (cI, 5, .inl (S 4))) := rfl
theorem atM3 (cI cZ : ClassId) (a : Nat → Nat) (S : St) : (wM cI cZ a S)[3]? = some (a 3, .inl (cI, 5, .inl (S 5))) := rfl
theorem atM4 (cI cZ : ClassId) (a : Nat → Nat) (S : St) : (wM cI cZ a S)[4]? = some (a 4, .inl (cI, 485, .inl (S 6))) := rfl
theorem atM5 (cI cZ : ClassId) (a : Nat → Nat) (S : St) : (wM cI cZ a S)[5]? = some (a 5, .inl (cZ, 97, .inl (S 7))) := rfl
theorem atM6 (cI cZ : ClassId) (a : Nat → Nat) (S : St) : (wM cI cZ a S)[6]? = some (a 6, .inl (cZ, 97, .inl (S 8))) := rfl
theorem atM7 (cI cZ : ClassId) (a : Nat → Nat) (S : St) : (wM cI cZ a S)[7]? = some (a 7, .inl (cI, 5, .inl (S 9))) := rfl
theorem atM8 (cI cZ : ClassId) (a : Nat → Nat) (S : St) : (wM cI cZ a S)[8]? = some (a 8, .inl (cI, 6000, .inl (S 10))) := rfl
theorem atM9 (cI cZ : ClassId) (a : Nat → Nat) (S : St) : (wM cI cZ a S)[9]? = some (a 9, .inl (cI, 6000, .inl (S 11))) := rfl
theorem atM10 (cI cZ : ClassId) (a : Nat → Nat) (S : St) : (wM cI cZ a S)[10]? = some (a 10, .inl (cI, 5, .inl (S 13))) := rfl
theorem atM11 (cI cZ : ClassId) (a : Nat → Nat) (S : St) : (wM cI cZ a S)[11]? = some (a 11, .inl (cI, 5, .inl (S 14))) := rfl
theorem atM12 (cI cZ : ClassId) (a : Nat → Nat) (S : St) : (wM cI cZ a S)[12]? = some (a 12, .inl (cI, 20, .inl (S 15))) := rfl
theorem atM13 (cI cZ : ClassId) (a : Nat → Nat) (S : St) : (wM cI cZ a S)[13]? = some (a 13, .inl (cI, 3, .inl (S 21))) := rfl
theorem atM14 (cI cZ : ClassId) (a : Nat → Nat) (S : St) : (wM cI cZ a S)[14]? = some (a 14, .inl (cI, 40, .inl (S 22))) := rfl
theorem atM15 (cI cZ : ClassId) (a : Nat → Nat) (S : St) : (wM cI cZ a S)[15]? = some (a 15, .inl (cI, 40, .inl (S 24))) := rfl
theorem atM16 (cI cZ : ClassId) (a : Nat → Nat) (S : St) : (wM cI cZ a S)[16]? = some (a 16, .inl (cI, 100, .inl (S 26))) := rfl
theorem ptM0_0 (cI cZ : ClassId) (a : Nat → Nat) (S : St) (v : Int32) : (wM cI cZ a S).set 0 (a 0, .inr (9, ([.int (S 30 0), .ref (a 1), .int (S 30 2), .int (S 30 3), .ref (a 2), .ref (a 3), .ref (a 4), .ref (a 5), .ref (a 6), .ref (a 7), .ref (a 8), .ref (a 9), .int (S 30 12), .ref (a 10), .ref (a 11), .ref (a 12), .int (S 30 16), .int (S 30 17), .int (S 30 18), .int (S 30 19), .int (S 30 20), .ref (a 13), .ref (a 14), .int (S 30 23), .ref (a 15), .int (S 30 25), .ref (a 16), .int (S 30 27), .int (S 30 28)] : List Value).set 0 (.int v))) = wM cI cZ a (st S 30 0 v) := rfl
theorem ptM0_2 (cI cZ : ClassId) (a : Nat → Nat) (S : St) (v : Int32) : (wM cI cZ a S).set 0 (a 0, .inr (9, ([.int (S 30 0), .ref (a 1), .int (S 30 2), .int (S 30 3), .ref (a 2), .ref (a 3), .ref (a 4), .ref (a 5), .ref (a 6), .ref (a 7), .ref (a 8), .ref (a 9), .int (S 30 12), .ref (a 10), .ref (a 11), .ref (a 12), .int (S 30 16), .int (S 30 17), .int (S 30 18), .int (S 30 19), .int (S 30 20), .ref (a 13), .ref (a 14), .int (S 30 23), .ref (a 15), .int (S 30 25), .ref (a 16), .int (S 30 27), .int (S 30 28)] : List Value).set 2 (.int v))) = wM cI cZ a (st S 30 2 v) := rfl
theorem ptM0_3 (cI cZ : ClassId) (a : Nat → Nat) (S : St) (v : Int32) : (wM cI cZ a S).set 0 (a 0, .inr (9, ([.int (S 30 0), .ref (a 1), .int (S 30 2), .int (S 30 3), .ref (a 2), .ref (a 3), .ref (a 4), .ref (a 5), .ref (a 6), .ref (a 7), .ref (a 8), .ref (a 9), .int (S 30 12), .ref (a 10), .ref (a 11), .ref (a 12), .int (S 30 16), .int (S 30 17), .int (S 30 18), .int (S 30 19), .int (S 30 20), .ref (a 13), .ref (a 14), .int (S 30 23), .ref (a 15), .int (S 30 25), .ref (a 16), .int (S 30 27), .int (S 30 28)] : List Value).set 3 (.int v))) = wM cI cZ a (st S 30 3 v) := rfl
theorem ptM0_12 (cI cZ : ClassId) (a : Nat → Nat) (S : St) (v : Int32) : (wM cI cZ a S).set 0 (a 0, .inr (9, ([.int (S 30 0), .ref (a 1), .int (S 30 2), .int (S 30 3), .ref (a 2), .ref (a 3), .ref (a 4), .ref (a 5), .ref (a 6), .ref (a 7), .ref (a 8), .ref (a 9), .int (S 30 12), .ref (a 10), .ref (a 11), .ref (a 12), .int (S 30 16), .int (S 30 17), .int (S 30 18), .int (S 30 19), .int (S 30 20), .ref (a 13), .ref (a 14), .int (S 30 23), .ref (a 15), .int (S 30 25), .ref (a 16), .int (S 30 27), .int (S 30 28)] : List Value).set 12 (.int v))) = wM cI cZ a (st S 30 12 v) := rfl
theorem ptM0_16 (cI cZ : ClassId) (a : Nat → Nat) (S : St) (v : Int32) : (wM cI cZ a S).set 0 (a 0, .inr (9, ([.int (S 30 0), .ref (a 1), .int (S 30 2), .int (S 30 3), .ref (a 2), .ref (a 3), .ref (a 4), .ref (a 5), .ref (a 6), .ref (a 7), .ref (a 8), .ref (a 9), .int (S 30 12), .ref (a 10), .ref (a 11), .ref (a 12), .int (S 30 16), .int (S 30 17), .int (S 30 18), .int (S 30 19), .int (S 30 20), .ref (a 13), .ref (a 14), .int (S 30 23), .ref (a 15), .int (S 30 25), .ref (a 16), .int (S 30 27), .int (S 30 28)] : List Value).set 16 (.int v))) = wM cI cZ a (st S 30 16 v) := rfl
theorem ptM0_17 (cI cZ : ClassId) (a : Nat → Nat) (S : St) (v : Int32) : (wM cI cZ a S).set 0 (a 0, .inr (9, ([.int (S 30 0), .ref (a 1), .int (S 30 2), .int (S 30 3), .ref (a 2), .ref (a 3), .ref (a 4), .ref (a 5), .ref (a 6), .ref (a 7), .ref (a 8), .ref (a 9), .int (S 30 12), .ref (a 10), .ref (a 11), .ref (a 12), .int (S 30 16), .int (S 30 17), .int (S 30 18), .int (S 30 19), .int (S 30 20), .ref (a 13), .ref (a 14), .int (S 30 23), .ref (a 15), .int (S 30 25), .ref (a 16), .int (S 30 27), .int (S 30 28)] : List Value).set 17 (.int v))) = wM cI cZ a (st S 30 17 v) := rfl
theorem ptM0_18 (cI cZ : ClassId) (a : Nat → Nat) (S : St) (v : Int32) : (wM cI cZ a S).set 0 (a 0, .inr (9, ([.int (S 30 0), .ref (a 1), .int (S 30 2), .int (S 30 3), .ref (a 2), .ref (a 3), .ref (a 4), .ref (a 5), .ref (a 6), .ref (a 7), .ref (a 8), .ref (a 9), .int (S 30 12), .ref (a 10), .ref (a 11), .ref (a 12), .int (S 30 16), .int (S 30 17), .int (S 30 18), .int (S 30 19), .int (S 30 20), .ref (a 13), .ref (a 14), .int (S 30 23), .ref (a 15), .int (S 30 25), .ref (a 16), .int (S 30 27), .int (S 30 28)] : List Value).set 18 (.int v))) = wM cI cZ a (st S 30 18 v) := rfl
theorem ptM0_19 (cI cZ : ClassId) (a : Nat → Nat) (S : St) (v : Int32) : (wM cI cZ a S).set 0 (a 0, .inr (9, ([.int (S 30 0), .ref (a 1), .int (S 30 2), .int (S 30 3), .ref (a 2), .ref (a 3), .ref (a 4), .ref (a 5), .ref (a 6), .ref (a 7), .ref (a 8), .ref (a 9), .int (S 30 12), .ref (a 10), .ref (a 11), .ref (a 12), .int (S 30 16), .int (S 30 17), .int (S 30 18), .int (S 30 19), .int (S 30 20), .ref (a 13), .ref (a 14), .int (S 30 23), .ref (a 15), .int (S 30 25), .ref (a 16), .int (S 30 27), .int (S 30 28)] : List Value).set 19 (.int v))) = wM cI cZ a (st S 30 19 v) := rfl
theorem ptM0_20 (cI cZ : ClassId) (a : Nat → Nat) (S : St) (v : Int32) : (wM cI cZ a S).set 0 (a 0, .inr (9, ([.int (S 30 0), .ref (a 1), .int (S 30 2), .int (S 30 3), .ref (a 2), .ref (a 3), .ref (a 4), .ref (a 5), .ref (a 6), .ref (a 7), .ref (a 8), .ref (a 9), .int (S 30 12), .ref (a 10), .ref (a 11), .ref (a 12), .int (S 30 16), .int (S 30 17), .int (S 30 18), .int (S 30 19), .int (S 30 20), .ref (a 13), .ref (a 14), .int (S 30 23), .ref (a 15), .int (S 30 25), .ref (a 16), .int (S 30 27), .int (S 30 28)] : List Value).set 20 (.int v))) = wM cI cZ a (st S 30 20 v) := rfl
theorem ptM0_23 (cI cZ : ClassId) (a : Nat → Nat) (S : St) (v : Int32) : (wM cI cZ a S).set 0 (a 0, .inr (9, ([.int (S 30 0), .ref (a 1), .int (S 30 2), .int (S 30 3), .ref (a 2), .ref (a 3), .ref (a 4), .ref (a 5), .ref (a 6), .ref (a 7), .ref (a 8), .ref (a 9), .int (S 30 12), .ref (a 10), .ref (a 11), .ref (a 12), .int (S 30 16), .int (S 30 17), .int (S 30 18), .int (S 30 19), .int (S 30 20), .ref (a 13), .ref (a 14), .int (S 30 23), .ref (a 15), .int (S 30 25), .ref (a 16), .int (S 30 27), .int (S 30 28)] : List Value).set 23 (.int v))) = wM cI cZ a (st S 30 23 v) := rfl
theorem ptM0_25 (cI cZ : ClassId) (a : Nat → Nat) (S : St) (v : Int32) : (wM cI cZ a S).set 0 (a 0, .inr (9, ([.int (S 30 0), .ref (a 1), .int (S 30 2), .int (S 30 3), .ref (a 2), .ref (a 3), .ref (a 4), .ref (a 5), .ref (a 6), .ref (a 7), .ref (a 8), .ref (a 9), .int (S 30 12), .ref (a 10), .ref (a 11), .ref (a 12), .int (S 30 16), .int (S 30 17), .int (S 30 18), .int (S 30 19), .int (S 30 20), .ref (a 13), .ref (a 14), .int (S 30 23), .ref (a 15), .int (S 30 25), .ref (a 16), .int (S 30 27), .int (S 30 28)] : List Value).set 25 (.int v))) = wM cI cZ a (st S 30 25 v) := rfl
theorem ptM0_27 (cI cZ : ClassId) (a : Nat → Nat) (S : St) (v : Int32) : (wM cI cZ a S).set 0 (a 0, .inr (9, ([.int (S 30 0), .ref (a 1), .int (S 30 2), .int (S 30 3), .ref (a 2), .ref (a 3), .ref (a 4), .ref (a 5), .ref (a 6), .ref (a 7), .ref (a 8), .ref (a 9), .int (S 30 12), .ref (a 10), .ref (a 11), .ref (a 12), .int (S 30 16), .int (S 30 17), .int (S 30 18), .int (S 30 19), .int (S 30 20), .ref (a 13), .ref (a 14), .int (S 30 23), .ref (a 15), .int (S 30 25), .ref (a 16), .int (S 30 27), .int (S 30 28)] : List Value).set 27 (.int v))) = wM cI cZ a (st S 30 27 v) := rfl
theorem ptM0_28 (cI cZ : ClassId) (a : Nat → Nat) (S : St) (v : Int32) : (wM cI cZ a S).set 0 (a 0, .inr (9, ([.int (S 30 0), .ref (a 1), .int (S 30 2), .int (S 30 3), .ref (a 2), .ref (a 3), .ref (a 4), .ref (a 5), .ref (a 6), .ref (a 7), .ref (a 8), .ref (a 9), .int (S 30 12), .ref (a 10), .ref (a 11), .ref (a 12), .int (S 30 16), .int (S 30 17), .int (S 30 18), .int (S 30 19), .int (S 30 20), .ref (a 13), .ref (a 14), .int (S 30 23), .ref (a 15), .int (S 30 25), .ref (a 16), .int (S 30 27), .int (S 30 28)] : List Value).set 28 (.int v))) = wM cI cZ a (st S 30 28 v) := rfl
theorem stM1 (cI cZ : ClassId) (a : Nat → Nat) (S : St) (i : Nat) (v : Int32) : (wM cI cZ a S).set 1 (a 1, .inl (cI, 96, .inl (upd (S 1) i v))) = wM cI cZ a (st S 1 i v) := rfl
theorem stM2 (cI cZ : ClassId) (a : Nat → Nat) (S : St) (i : Nat) (v : Int32) : (wM cI cZ a S).set 2 (a 2, .inl (cI, 5, .inl (upd (S 4) i v))) = wM cI cZ a (st S 4 i v) := rfl
theorem stM3 (cI cZ : ClassId) (a : Nat → Nat) (S : St) (i : Nat) (v : Int32) : (wM cI cZ a S).set 3 (a 3, .inl (cI, 5, .inl (upd (S 5) i v))) = wM cI cZ a (st S 5 i v) := rfl
theorem stM4 (cI cZ : ClassId) (a : Nat → Nat) (S : St) (i : Nat) (v : Int32) : (wM cI cZ a S).set 4 (a 4, .inl (cI, 485, .inl (upd (S 6) i v))) = wM cI cZ a (st S 6 i v) := rfl
theorem stM5 (cI cZ : ClassId) (a : Nat → Nat) (S : St) (i : Nat) (v : Int32) : (wM cI cZ a S).set 5 (a 5, .inl (cZ, 97, .inl (upd (S 7) i v))) = wM cI cZ a (st S 7 i v) := rfl
theorem stM6 (cI cZ : ClassId) (a : Nat → Nat) (S : St) (i : Nat) (v : Int32) : (wM cI cZ a S).set 6 (a 6, .inl (cZ, 97, .inl (upd (S 8) i v))) = wM cI cZ a (st S 8 i v) := rfl
theorem stM7 (cI cZ : ClassId) (a : Nat → Nat) (S : St) (i : Nat) (v : Int32) : (wM cI cZ a S).set 7 (a 7, .inl (cI, 5, .inl (upd (S 9) i v))) = wM cI cZ a (st S 9 i v) := rfl
theorem stM8 (cI cZ : ClassId) (a : Nat → Nat) (S : St) (i : Nat) (v : Int32) : (wM cI cZ a S).set 8 (a 8, .inl (cI, 6000, .inl (upd (S 10) i v))) = wM cI cZ a (st S 10 i v) := rfl
theorem stM9 (cI cZ : ClassId) (a : Nat → Nat) (S : St) (i : Nat) (v : Int32) : (wM cI cZ a S).set 9 (a 9, .inl (cI, 6000, .inl (upd (S 11) i v))) = wM cI cZ a (st S 11 i v) := rfl
theorem stM10 (cI cZ : ClassId) (a : Nat → Nat) (S : St) (i : Nat) (v : Int32) : (wM cI cZ a S).set 10 (a 10, .inl (cI, 5, .inl (upd (S 13) i v))) = wM cI cZ a (st S 13 i v) := rfl
theorem stM11 (cI cZ : ClassId) (a : Nat → Nat) (S : St) (i : Nat) (v : Int32) : (wM cI cZ a S).set 11 (a 11, .inl (cI, 5, .inl (upd (S 14) i v))) = wM cI cZ a (st S 14 i v) := rfl
theorem stM12 (cI cZ : ClassId) (a : Nat → Nat) (S : St) (i : Nat) (v : Int32) : (wM cI cZ a S).set 12 (a 12, .inl (cI, 20, .inl (upd (S 15) i v))) = wM cI cZ a (st S 15 i v) := rfl
theorem stM13 (cI cZ : ClassId) (a : Nat → Nat) (S : St) (i : Nat) (v : Int32) : (wM cI cZ a S).set 13 (a 13, .inl (cI, 3, .inl (upd (S 21) i v))) = wM cI cZ a (st S 21 i v) := rfl
theorem stM14 (cI cZ : ClassId) (a : Nat → Nat) (S : St) (i : Nat) (v : Int32) : (wM cI cZ a S).set 14 (a 14, .inl (cI, 40, .inl (upd (S 22) i v))) = wM cI cZ a (st S 22 i v) := rfl
theorem stM15 (cI cZ : ClassId) (a : Nat → Nat) (S : St) (i : Nat) (v : Int32) : (wM cI cZ a S).set 15 (a 15, .inl (cI, 40, .inl (upd (S 24) i v))) = wM cI cZ a (st S 24 i v) := rfl
theorem stM16 (cI cZ : ClassId) (a : Nat → Nat) (S : St) (i : Nat) (v : Int32) : (wM cI cZ a S).set 16 (a 16, .inl (cI, 100, .inl (upd (S 26) i v))) = wM cI cZ a (st S 26 i v) := rfl
theorem row_at (cI cZ cR : ClassId) (a : Nat → Nat) (S : St) {i : Nat} (hi : i < 8) : (wX cI cZ cR a S)[21 + 2 * i]? = some (a (21 + 2 * i), .inr (6, [.int (S 20 (17 + 2 * i)), .int (S 20 (18 + 2 * i)), .ref (a (22 + 2 * i))])) := by
  match i, hi with
  | 0, _ => rfl
  | 1, _ => rfl
  | 2, _ => rfl
  | 3, _ => rfl
  | 4, _ => rfl
  | 5, _ => rfl
  | 6, _ => rfl
  | 7, _ => rfl
theorem row_sv (cI cZ cR : ClassId) (a : Nat → Nat) (S : St) {i : Nat} (hi : i < 8) : (wX cI cZ cR a S)[22 + 2 * i]? = some (a (22 + 2 * i), .inl (cI, 3, .inl (S (12 + i)))) := by
  match i, hi with
  | 0, _ => rfl
  | 1, _ => rfl
  | 2, _ => rfl
  | 3, _ => rfl
  | 4, _ => rfl
  | 5, _ => rfl
  | 6, _ => rfl
  | 7, _ => rfl
theorem row_p0 (cI cZ cR : ClassId) (a : Nat → Nat) (S : St) {i : Nat} (hi : i < 8) (v : Int32) : (wX cI cZ cR a S).set (21 + 2 * i) (a (21 + 2 * i), .inr (6, ([.int (S 20 (17 + 2 * i)), .int (S 20 (18 + 2 * i)), .ref (a (22 + 2 * i))] : List Value).set 0 (.int v))) = wX cI cZ cR a (st S 20 (17 + 2 * i) v) := by
  match i, hi with
  | 0, _ => rfl
  | 1, _ => rfl
  | 2, _ => rfl
  | 3, _ => rfl
  | 4, _ => rfl
  | 5, _ => rfl
  | 6, _ => rfl
  | 7, _ => rfl
theorem row_p1 (cI cZ cR : ClassId) (a : Nat → Nat) (S : St) {i : Nat} (hi : i < 8) (v : Int32) : (wX cI cZ cR a S).set (21 + 2 * i) (a (21 + 2 * i), .inr (6, ([.int (S 20 (17 + 2 * i)), .int (S 20 (18 + 2 * i)), .ref (a (22 + 2 * i))] : List Value).set 1 (.int v))) = wX cI cZ cR a (st S 20 (18 + 2 * i) v) := by
  match i, hi with
  | 0, _ => rfl
  | 1, _ => rfl
  | 2, _ => rfl
  | 3, _ => rfl
  | 4, _ => rfl
  | 5, _ => rfl
  | 6, _ => rfl
  | 7, _ => rfl
theorem row_st (cI cZ cR : ClassId) (a : Nat → Nat) (S : St) {i : Nat} (hi : i < 8) (j : Nat) (v : Int32) : (wX cI cZ cR a S).set (22 + 2 * i) (a (22 + 2 * i), .inl (cI, 3, .inl (upd (S (12 + i)) j v))) = wX cI cZ cR a (st S (12 + i) j v) := by
  match i, hi with
  | 0, _ => rfl
  | 1, _ => rfl
  | 2, _ => rfl
  | 3, _ => rfl
  | 4, _ => rfl
  | 5, _ => rfl
  | 6, _ => rfl
  | 7, _ => rfl
end
