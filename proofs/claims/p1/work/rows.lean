section
-- ===== PART A: goes FIRST, ahead of the names: the tables' words, and 'selects' of the private methods out of them =====
/-- a private method of a class that the tables say can be made, by its rows of tables_1 -/
def lw_okq (q : MethodName × Nat) : Prop := (q.1.cls ≠ "java/lang/invoke/MethodHandle" ∧ q.1.cls ≠ "java/lang/invoke/VarHandle") ∧ Cond.instantiable q.1.cls q.2 ∈ tables_1 ∧ Cond.privateMethod q.1 ∈ tables_1 ∧ Cond.instanceMethod q.1 ∈ tables_1
theorem lw_p0 : lw_okq (⟨"DrawingVault", "drawingAt", "(I)LDrawingVault$Drawing;"⟩, 9) := ⟨⟨by decide +kernel, by decide +kernel⟩, List.mem_of_getElem? (i := 18) (by decide +kernel), List.mem_of_getElem? (i := 136) (by decide +kernel), List.mem_of_getElem? (i := 137) (by decide +kernel)⟩
theorem lw_p1 : lw_okq (⟨"DrawingVault", "usersOf", "(IZ)I"⟩, 9) := ⟨⟨by decide +kernel, by decide +kernel⟩, List.mem_of_getElem? (i := 18) (by decide +kernel), List.mem_of_getElem? (i := 140) (by decide +kernel), List.mem_of_getElem? (i := 141) (by decide +kernel)⟩
theorem lw_p2 : lw_okq (⟨"DrawingVault", "usersOfAny", "(I)I"⟩, 9) := ⟨⟨by decide +kernel, by decide +kernel⟩, List.mem_of_getElem? (i := 18) (by decide +kernel), List.mem_of_getElem? (i := 147) (by decide +kernel), List.mem_of_getElem? (i := 148) (by decide +kernel)⟩
theorem lw_p3 : lw_okq (⟨"DrawingVault", "drawingsOut", "()I"⟩, 9) := ⟨⟨by decide +kernel, by decide +kernel⟩, List.mem_of_getElem? (i := 18) (by decide +kernel), List.mem_of_getElem? (i := 191) (by decide +kernel), List.mem_of_getElem? (i := 192) (by decide +kernel)⟩
theorem lw_p4 : lw_okq (⟨"DrawingVault", "chunksKept", "()I"⟩, 9) := ⟨⟨by decide +kernel, by decide +kernel⟩, List.mem_of_getElem? (i := 18) (by decide +kernel), List.mem_of_getElem? (i := 199) (by decide +kernel), List.mem_of_getElem? (i := 200) (by decide +kernel)⟩
theorem lw_p5 : lw_okq (⟨"DrawingVault", "chunksOfRevisions", "()I"⟩, 9) := ⟨⟨by decide +kernel, by decide +kernel⟩, List.mem_of_getElem? (i := 18) (by decide +kernel), List.mem_of_getElem? (i := 203) (by decide +kernel), List.mem_of_getElem? (i := 204) (by decide +kernel)⟩
theorem lw_p6 : lw_okq (⟨"DrawingVault$ChunkSet", "addOne", "(JI)V"⟩, 3) := ⟨⟨by decide +kernel, by decide +kernel⟩, List.mem_of_getElem? (i := 52) (by decide +kernel), List.mem_of_getElem? (i := 229) (by decide +kernel), List.mem_of_getElem? (i := 230) (by decide +kernel)⟩
theorem lw_p7 : lw_okq (⟨"DrawingVault", "baselinesMade", "()I"⟩, 9) := ⟨⟨by decide +kernel, by decide +kernel⟩, List.mem_of_getElem? (i := 18) (by decide +kernel), List.mem_of_getElem? (i := 233) (by decide +kernel), List.mem_of_getElem? (i := 234) (by decide +kernel)⟩
theorem lw_p8 : lw_okq (⟨"DrawingVault", "needPower", "()V"⟩, 9) := ⟨⟨by decide +kernel, by decide +kernel⟩, List.mem_of_getElem? (i := 18) (by decide +kernel), List.mem_of_getElem? (i := 245) (by decide +kernel), List.mem_of_getElem? (i := 246) (by decide +kernel)⟩
theorem lw_p9 : lw_okq (⟨"java/lang/Throwable", "fillInStackTrace", "(I)Ljava/lang/Throwable;"⟩, 6) := ⟨⟨by decide +kernel, by decide +kernel⟩, List.mem_of_getElem? (i := 286) (by decide +kernel), List.mem_of_getElem? (i := 284) (by decide +kernel), List.mem_of_getElem? (i := 285) (by decide +kernel)⟩
theorem lw_p10 : lw_okq (⟨"DrawingVault", "mayWrite", "(II)Z"⟩, 9) := ⟨⟨by decide +kernel, by decide +kernel⟩, List.mem_of_getElem? (i := 18) (by decide +kernel), List.mem_of_getElem? (i := 314) (by decide +kernel), List.mem_of_getElem? (i := 315) (by decide +kernel)⟩
theorem lw_p11 : lw_okq (⟨"DrawingVault", "allowed", "(I)Z"⟩, 9) := ⟨⟨by decide +kernel, by decide +kernel⟩, List.mem_of_getElem? (i := 18) (by decide +kernel), List.mem_of_getElem? (i := 318) (by decide +kernel), List.mem_of_getElem? (i := 319) (by decide +kernel)⟩
theorem lw_p12 : lw_okq (⟨"DrawingVault", "finish", "(I)V"⟩, 9) := ⟨⟨by decide +kernel, by decide +kernel⟩, List.mem_of_getElem? (i := 18) (by decide +kernel), List.mem_of_getElem? (i := 326) (by decide +kernel), List.mem_of_getElem? (i := 327) (by decide +kernel)⟩
theorem lw_p13 : lw_okq (⟨"DrawingVault", "pagesOfTheSame", "()I"⟩, 9) := ⟨⟨by decide +kernel, by decide +kernel⟩, List.mem_of_getElem? (i := 18) (by decide +kernel), List.mem_of_getElem? (i := 338) (by decide +kernel), List.mem_of_getElem? (i := 339) (by decide +kernel)⟩
theorem lw_p14 : lw_okq (⟨"DrawingVault", "drawingRefusal", "(I)I"⟩, 9) := ⟨⟨by decide +kernel, by decide +kernel⟩, List.mem_of_getElem? (i := 18) (by decide +kernel), List.mem_of_getElem? (i := 357) (by decide +kernel), List.mem_of_getElem? (i := 358) (by decide +kernel)⟩
theorem lw_p15 : lw_okq (⟨"DrawingVault", "hasRight", "(II)Z"⟩, 9) := ⟨⟨by decide +kernel, by decide +kernel⟩, List.mem_of_getElem? (i := 18) (by decide +kernel), List.mem_of_getElem? (i := 361) (by decide +kernel), List.mem_of_getElem? (i := 362) (by decide +kernel)⟩
def lw_privs_1 : List (MethodName × Nat) := [(⟨"DrawingVault", "drawingAt", "(I)LDrawingVault$Drawing;"⟩, 9), (⟨"DrawingVault", "usersOf", "(IZ)I"⟩, 9), (⟨"DrawingVault", "usersOfAny", "(I)I"⟩, 9), (⟨"DrawingVault", "drawingsOut", "()I"⟩, 9), (⟨"DrawingVault", "chunksKept", "()I"⟩, 9), (⟨"DrawingVault", "chunksOfRevisions", "()I"⟩, 9), (⟨"DrawingVault$ChunkSet", "addOne", "(JI)V"⟩, 3), (⟨"DrawingVault", "baselinesMade", "()I"⟩, 9), (⟨"DrawingVault", "needPower", "()V"⟩, 9), (⟨"java/lang/Throwable", "fillInStackTrace", "(I)Ljava/lang/Throwable;"⟩, 6), (⟨"DrawingVault", "mayWrite", "(II)Z"⟩, 9), (⟨"DrawingVault", "allowed", "(I)Z"⟩, 9), (⟨"DrawingVault", "finish", "(I)V"⟩, 9), (⟨"DrawingVault", "pagesOfTheSame", "()I"⟩, 9), (⟨"DrawingVault", "drawingRefusal", "(I)I"⟩, 9), (⟨"DrawingVault", "hasRight", "(II)Z"⟩, 9)]
theorem lw_r1 : ∀ q ∈ lw_privs_1, lw_okq q := List.forall_mem_cons.mpr ⟨lw_p0, List.forall_mem_cons.mpr ⟨lw_p1, List.forall_mem_cons.mpr ⟨lw_p2, List.forall_mem_cons.mpr ⟨lw_p3, List.forall_mem_cons.mpr ⟨lw_p4, List.forall_mem_cons.mpr ⟨lw_p5, List.forall_mem_cons.mpr ⟨lw_p6, List.forall_mem_cons.mpr ⟨lw_p7, List.forall_mem_cons.mpr ⟨lw_p8, List.forall_mem_cons.mpr ⟨lw_p9, List.forall_mem_cons.mpr ⟨lw_p10, List.forall_mem_cons.mpr ⟨lw_p11, List.forall_mem_cons.mpr ⟨lw_p12, List.forall_mem_cons.mpr ⟨lw_p13, List.forall_mem_cons.mpr ⟨lw_p14, List.forall_mem_cons.mpr ⟨lw_p15, fun _ h => absurd h List.not_mem_nil⟩⟩⟩⟩⟩⟩⟩⟩⟩⟩⟩⟩⟩⟩⟩⟩
theorem lw_p16 : lw_okq (⟨"DrawingVault", "outRefusal", "(LDrawingVault$Drawing;I)I"⟩, 9) := ⟨⟨by decide +kernel, by decide +kernel⟩, List.mem_of_getElem? (i := 18) (by decide +kernel), List.mem_of_getElem? (i := 454) (by decide +kernel), List.mem_of_getElem? (i := 455) (by decide +kernel)⟩
theorem lw_p17 : lw_okq (⟨"DrawingVault", "copyRefusal", "(LDrawingVault$Drawing;I)I"⟩, 9) := ⟨⟨by decide +kernel, by decide +kernel⟩, List.mem_of_getElem? (i := 18) (by decide +kernel), List.mem_of_getElem? (i := 469) (by decide +kernel), List.mem_of_getElem? (i := 470) (by decide +kernel)⟩
theorem lw_p18 : lw_okq (⟨"DrawingVault", "refRefusal", "(LDrawingVault$Content;III)I"⟩, 9) := ⟨⟨by decide +kernel, by decide +kernel⟩, List.mem_of_getElem? (i := 18) (by decide +kernel), List.mem_of_getElem? (i := 523) (by decide +kernel), List.mem_of_getElem? (i := 524) (by decide +kernel)⟩
theorem lw_p19 : lw_okq (⟨"DrawingVault", "checkInRefusal", "(ILDrawingVault$Drawing;)I"⟩, 9) := ⟨⟨by decide +kernel, by decide +kernel⟩, List.mem_of_getElem? (i := 18) (by decide +kernel), List.mem_of_getElem? (i := 553) (by decide +kernel), List.mem_of_getElem? (i := 554) (by decide +kernel)⟩
theorem lw_p20 : lw_okq (⟨"DrawingVault", "fixedOnesAreThere", "(LDrawingVault$Content;)Z"⟩, 9) := ⟨⟨by decide +kernel, by decide +kernel⟩, List.mem_of_getElem? (i := 18) (by decide +kernel), List.mem_of_getElem? (i := 558) (by decide +kernel), List.mem_of_getElem? (i := 559) (by decide +kernel)⟩
theorem lw_p21 : lw_okq (⟨"DrawingVault", "revisionAt", "(II)LDrawingVault$Revision;"⟩, 9) := ⟨⟨by decide +kernel, by decide +kernel⟩, List.mem_of_getElem? (i := 18) (by decide +kernel), List.mem_of_getElem? (i := 562) (by decide +kernel), List.mem_of_getElem? (i := 563) (by decide +kernel)⟩
theorem lw_p22 : lw_okq (⟨"DrawingVault", "checkRefusal", "(III)I"⟩, 9) := ⟨⟨by decide +kernel, by decide +kernel⟩, List.mem_of_getElem? (i := 18) (by decide +kernel), List.mem_of_getElem? (i := 581) (by decide +kernel), List.mem_of_getElem? (i := 582) (by decide +kernel)⟩
theorem lw_p23 : lw_okq (⟨"DrawingVault", "becomes", "(IIII)Z"⟩, 9) := ⟨⟨by decide +kernel, by decide +kernel⟩, List.mem_of_getElem? (i := 18) (by decide +kernel), List.mem_of_getElem? (i := 585) (by decide +kernel), List.mem_of_getElem? (i := 586) (by decide +kernel)⟩
theorem lw_p24 : lw_okq (⟨"DrawingVault", "releaseRefusal", "(III)I"⟩, 9) := ⟨⟨by decide +kernel, by decide +kernel⟩, List.mem_of_getElem? (i := 18) (by decide +kernel), List.mem_of_getElem? (i := 596) (by decide +kernel), List.mem_of_getElem? (i := 597) (by decide +kernel)⟩
theorem lw_p25 : lw_okq (⟨"DrawingVault", "allResolveToReleased", "(LDrawingVault$Content;)Z"⟩, 9) := ⟨⟨by decide +kernel, by decide +kernel⟩, List.mem_of_getElem? (i := 18) (by decide +kernel), List.mem_of_getElem? (i := 600) (by decide +kernel), List.mem_of_getElem? (i := 601) (by decide +kernel)⟩
theorem lw_p26 : lw_okq (⟨"DrawingVault", "resolved", "(II)I"⟩, 9) := ⟨⟨by decide +kernel, by decide +kernel⟩, List.mem_of_getElem? (i := 18) (by decide +kernel), List.mem_of_getElem? (i := 604) (by decide +kernel), List.mem_of_getElem? (i := 605) (by decide +kernel)⟩
theorem lw_p27 : lw_okq (⟨"DrawingVault", "isReleased", "(II)Z"⟩, 9) := ⟨⟨by decide +kernel, by decide +kernel⟩, List.mem_of_getElem? (i := 18) (by decide +kernel), List.mem_of_getElem? (i := 612) (by decide +kernel), List.mem_of_getElem? (i := 613) (by decide +kernel)⟩
theorem lw_p28 : lw_okq (⟨"DrawingVault", "withdrawRefusal", "(III)I"⟩, 9) := ⟨⟨by decide +kernel, by decide +kernel⟩, List.mem_of_getElem? (i := 18) (by decide +kernel), List.mem_of_getElem? (i := 623) (by decide +kernel), List.mem_of_getElem? (i := 624) (by decide +kernel)⟩
theorem lw_p29 : lw_okq (⟨"DrawingVault", "isInABaseline", "(II)Z"⟩, 9) := ⟨⟨by decide +kernel, by decide +kernel⟩, List.mem_of_getElem? (i := 18) (by decide +kernel), List.mem_of_getElem? (i := 627) (by decide +kernel), List.mem_of_getElem? (i := 628) (by decide +kernel)⟩
theorem lw_p30 : lw_okq (⟨"DrawingVault", "isFixedByAReleasedOne", "(II)Z"⟩, 9) := ⟨⟨by decide +kernel, by decide +kernel⟩, List.mem_of_getElem? (i := 18) (by decide +kernel), List.mem_of_getElem? (i := 631) (by decide +kernel), List.mem_of_getElem? (i := 632) (by decide +kernel)⟩
theorem lw_p31 : lw_okq (⟨"DrawingVault", "baselineRefusal", "(II)I"⟩, 9) := ⟨⟨by decide +kernel, by decide +kernel⟩, List.mem_of_getElem? (i := 18) (by decide +kernel), List.mem_of_getElem? (i := 646) (by decide +kernel), List.mem_of_getElem? (i := 647) (by decide +kernel)⟩
def lw_privs_2 : List (MethodName × Nat) := [(⟨"DrawingVault", "outRefusal", "(LDrawingVault$Drawing;I)I"⟩, 9), (⟨"DrawingVault", "copyRefusal", "(LDrawingVault$Drawing;I)I"⟩, 9), (⟨"DrawingVault", "refRefusal", "(LDrawingVault$Content;III)I"⟩, 9), (⟨"DrawingVault", "checkInRefusal", "(ILDrawingVault$Drawing;)I"⟩, 9), (⟨"DrawingVault", "fixedOnesAreThere", "(LDrawingVault$Content;)Z"⟩, 9), (⟨"DrawingVault", "revisionAt", "(II)LDrawingVault$Revision;"⟩, 9), (⟨"DrawingVault", "checkRefusal", "(III)I"⟩, 9), (⟨"DrawingVault", "becomes", "(IIII)Z"⟩, 9), (⟨"DrawingVault", "releaseRefusal", "(III)I"⟩, 9), (⟨"DrawingVault", "allResolveToReleased", "(LDrawingVault$Content;)Z"⟩, 9), (⟨"DrawingVault", "resolved", "(II)I"⟩, 9), (⟨"DrawingVault", "isReleased", "(II)Z"⟩, 9), (⟨"DrawingVault", "withdrawRefusal", "(III)I"⟩, 9), (⟨"DrawingVault", "isInABaseline", "(II)Z"⟩, 9), (⟨"DrawingVault", "isFixedByAReleasedOne", "(II)Z"⟩, 9), (⟨"DrawingVault", "baselineRefusal", "(II)I"⟩, 9)]
theorem lw_r2 : ∀ q ∈ lw_privs_2, lw_okq q := List.forall_mem_cons.mpr ⟨lw_p16, List.forall_mem_cons.mpr ⟨lw_p17, List.forall_mem_cons.mpr ⟨lw_p18, List.forall_mem_cons.mpr ⟨lw_p19, List.forall_mem_cons.mpr ⟨lw_p20, List.forall_mem_cons.mpr ⟨lw_p21, List.forall_mem_cons.mpr ⟨lw_p22, List.forall_mem_cons.mpr ⟨lw_p23, List.forall_mem_cons.mpr ⟨lw_p24, List.forall_mem_cons.mpr ⟨lw_p25, List.forall_mem_cons.mpr ⟨lw_p26, List.forall_mem_cons.mpr ⟨lw_p27, List.forall_mem_cons.mpr ⟨lw_p28, List.forall_mem_cons.mpr ⟨lw_p29, List.forall_mem_cons.mpr ⟨lw_p30, List.forall_mem_cons.mpr ⟨lw_p31, fun _ h => absurd h List.not_mem_nil⟩⟩⟩⟩⟩⟩⟩⟩⟩⟩⟩⟩⟩⟩⟩⟩
theorem lw_p32 : lw_okq (⟨"DrawingVault", "baselineAt", "(I)LDrawingVault$Baseline;"⟩, 9) := ⟨⟨by decide +kernel, by decide +kernel⟩, List.mem_of_getElem? (i := 18) (by decide +kernel), List.mem_of_getElem? (i := 654) (by decide +kernel), List.mem_of_getElem? (i := 655) (by decide +kernel)⟩
theorem lw_p33 : lw_okq (⟨"DrawingVault", "fillDraft", "(II)I"⟩, 9) := ⟨⟨by decide +kernel, by decide +kernel⟩, List.mem_of_getElem? (i := 18) (by decide +kernel), List.mem_of_getElem? (i := 658) (by decide +kernel), List.mem_of_getElem? (i := 659) (by decide +kernel)⟩
theorem lw_p34 : lw_okq (⟨"DrawingVault", "follow", "(LDrawingVault$Revision;)I"⟩, 9) := ⟨⟨by decide +kernel, by decide +kernel⟩, List.mem_of_getElem? (i := 18) (by decide +kernel), List.mem_of_getElem? (i := 666) (by decide +kernel), List.mem_of_getElem? (i := 667) (by decide +kernel)⟩
theorem lw_p35 : lw_okq (⟨"DrawingVaultModel", "keep", "()V"⟩, 11) := ⟨⟨by decide +kernel, by decide +kernel⟩, List.mem_of_getElem? (i := 741) (by decide +kernel), List.mem_of_getElem? (i := 747) (by decide +kernel), List.mem_of_getElem? (i := 748) (by decide +kernel)⟩
theorem lw_p36 : lw_okq (⟨"DrawingVaultModel", "isPerson", "(I)Z"⟩, 11) := ⟨⟨by decide +kernel, by decide +kernel⟩, List.mem_of_getElem? (i := 741) (by decide +kernel), List.mem_of_getElem? (i := 794) (by decide +kernel), List.mem_of_getElem? (i := 795) (by decide +kernel)⟩
theorem lw_p37 : lw_okq (⟨"DrawingVaultModel", "may", "(II)Z"⟩, 11) := ⟨⟨by decide +kernel, by decide +kernel⟩, List.mem_of_getElem? (i := 741) (by decide +kernel), List.mem_of_getElem? (i := 798) (by decide +kernel), List.mem_of_getElem? (i := 799) (by decide +kernel)⟩
theorem lw_p38 : lw_okq (⟨"DrawingVaultModel", "close", "()V"⟩, 11) := ⟨⟨by decide +kernel, by decide +kernel⟩, List.mem_of_getElem? (i := 741) (by decide +kernel), List.mem_of_getElem? (i := 802) (by decide +kernel), List.mem_of_getElem? (i := 803) (by decide +kernel)⟩
theorem lw_p39 : lw_okq (⟨"DrawingVaultModel", "needed", "()I"⟩, 11) := ⟨⟨by decide +kernel, by decide +kernel⟩, List.mem_of_getElem? (i := 741) (by decide +kernel), List.mem_of_getElem? (i := 806) (by decide +kernel), List.mem_of_getElem? (i := 807) (by decide +kernel)⟩
theorem lw_p40 : lw_okq (⟨"DrawingVaultModel", "allRevisions", "()I"⟩, 11) := ⟨⟨by decide +kernel, by decide +kernel⟩, List.mem_of_getElem? (i := 741) (by decide +kernel), List.mem_of_getElem? (i := 810) (by decide +kernel), List.mem_of_getElem? (i := 811) (by decide +kernel)⟩
theorem lw_p41 : lw_okq (⟨"DrawingVaultModel", "made", "(I)I"⟩, 11) := ⟨⟨by decide +kernel, by decide +kernel⟩, List.mem_of_getElem? (i := 741) (by decide +kernel), List.mem_of_getElem? (i := 814) (by decide +kernel), List.mem_of_getElem? (i := 815) (by decide +kernel)⟩
theorem lw_p42 : lw_okq (⟨"DrawingVaultModel", "drawingAt", "(I)I"⟩, 11) := ⟨⟨by decide +kernel, by decide +kernel⟩, List.mem_of_getElem? (i := 741) (by decide +kernel), List.mem_of_getElem? (i := 818) (by decide +kernel), List.mem_of_getElem? (i := 819) (by decide +kernel)⟩
theorem lw_p43 : lw_okq (⟨"DrawingVaultModel", "chunks", "(I)I"⟩, 11) := ⟨⟨by decide +kernel, by decide +kernel⟩, List.mem_of_getElem? (i := 741) (by decide +kernel), List.mem_of_getElem? (i := 822) (by decide +kernel), List.mem_of_getElem? (i := 823) (by decide +kernel)⟩
theorem lw_p44 : lw_okq (⟨"DrawingVaultModel", "contentAt", "(I)I"⟩, 11) := ⟨⟨by decide +kernel, by decide +kernel⟩, List.mem_of_getElem? (i := 741) (by decide +kernel), List.mem_of_getElem? (i := 826) (by decide +kernel), List.mem_of_getElem? (i := 827) (by decide +kernel)⟩
theorem lw_p45 : lw_okq (⟨"DrawingVaultModel", "isDrawing", "(I)Z"⟩, 11) := ⟨⟨by decide +kernel, by decide +kernel⟩, List.mem_of_getElem? (i := 741) (by decide +kernel), List.mem_of_getElem? (i := 830) (by decide +kernel), List.mem_of_getElem? (i := 831) (by decide +kernel)⟩
theorem lw_p46 : lw_okq (⟨"DrawingVaultModel", "with", "(I)I"⟩, 11) := ⟨⟨by decide +kernel, by decide +kernel⟩, List.mem_of_getElem? (i := 741) (by decide +kernel), List.mem_of_getElem? (i := 834) (by decide +kernel), List.mem_of_getElem? (i := 835) (by decide +kernel)⟩
theorem lw_p47 : lw_okq (⟨"DrawingVaultModel", "isRevision", "(II)Z"⟩, 11) := ⟨⟨by decide +kernel, by decide +kernel⟩, List.mem_of_getElem? (i := 741) (by decide +kernel), List.mem_of_getElem? (i := 838) (by decide +kernel), List.mem_of_getElem? (i := 839) (by decide +kernel)⟩
def lw_privs_3 : List (MethodName × Nat) := [(⟨"DrawingVault", "baselineAt", "(I)LDrawingVault$Baseline;"⟩, 9), (⟨"DrawingVault", "fillDraft", "(II)I"⟩, 9), (⟨"DrawingVault", "follow", "(LDrawingVault$Revision;)I"⟩, 9), (⟨"DrawingVaultModel", "keep", "()V"⟩, 11), (⟨"DrawingVaultModel", "isPerson", "(I)Z"⟩, 11), (⟨"DrawingVaultModel", "may", "(II)Z"⟩, 11), (⟨"DrawingVaultModel", "close", "()V"⟩, 11), (⟨"DrawingVaultModel", "needed", "()I"⟩, 11), (⟨"DrawingVaultModel", "allRevisions", "()I"⟩, 11), (⟨"DrawingVaultModel", "made", "(I)I"⟩, 11), (⟨"DrawingVaultModel", "drawingAt", "(I)I"⟩, 11), (⟨"DrawingVaultModel", "chunks", "(I)I"⟩, 11), (⟨"DrawingVaultModel", "contentAt", "(I)I"⟩, 11), (⟨"DrawingVaultModel", "isDrawing", "(I)Z"⟩, 11), (⟨"DrawingVaultModel", "with", "(I)I"⟩, 11), (⟨"DrawingVaultModel", "isRevision", "(II)Z"⟩, 11)]
theorem lw_r3 : ∀ q ∈ lw_privs_3, lw_okq q := List.forall_mem_cons.mpr ⟨lw_p32, List.forall_mem_cons.mpr ⟨lw_p33, List.forall_mem_cons.mpr ⟨lw_p34, List.forall_mem_cons.mpr ⟨lw_p35, List.forall_mem_cons.mpr ⟨lw_p36, List.forall_mem_cons.mpr ⟨lw_p37, List.forall_mem_cons.mpr ⟨lw_p38, List.forall_mem_cons.mpr ⟨lw_p39, List.forall_mem_cons.mpr ⟨lw_p40, List.forall_mem_cons.mpr ⟨lw_p41, List.forall_mem_cons.mpr ⟨lw_p42, List.forall_mem_cons.mpr ⟨lw_p43, List.forall_mem_cons.mpr ⟨lw_p44, List.forall_mem_cons.mpr ⟨lw_p45, List.forall_mem_cons.mpr ⟨lw_p46, List.forall_mem_cons.mpr ⟨lw_p47, fun _ h => absurd h List.not_mem_nil⟩⟩⟩⟩⟩⟩⟩⟩⟩⟩⟩⟩⟩⟩⟩⟩
theorem lw_p48 : lw_okq (⟨"DrawingVaultModel", "revisionAt", "(II)I"⟩, 11) := ⟨⟨by decide +kernel, by decide +kernel⟩, List.mem_of_getElem? (i := 741) (by decide +kernel), List.mem_of_getElem? (i := 842) (by decide +kernel), List.mem_of_getElem? (i := 843) (by decide +kernel)⟩
theorem lw_p49 : lw_okq (⟨"DrawingVaultModel", "stands", "(IIII)Z"⟩, 11) := ⟨⟨by decide +kernel, by decide +kernel⟩, List.mem_of_getElem? (i := 741) (by decide +kernel), List.mem_of_getElem? (i := 849) (by decide +kernel), List.mem_of_getElem? (i := 850) (by decide +kernel)⟩
theorem lw_p50 : lw_okq (⟨"DrawingVaultModel", "isSame", "(IIII)Z"⟩, 11) := ⟨⟨by decide +kernel, by decide +kernel⟩, List.mem_of_getElem? (i := 741) (by decide +kernel), List.mem_of_getElem? (i := 853) (by decide +kernel), List.mem_of_getElem? (i := 854) (by decide +kernel)⟩
theorem lw_p51 : lw_okq (⟨"DrawingVaultModel", "pieceLength", "(II)I"⟩, 11) := ⟨⟨by decide +kernel, by decide +kernel⟩, List.mem_of_getElem? (i := 741) (by decide +kernel), List.mem_of_getElem? (i := 857) (by decide +kernel), List.mem_of_getElem? (i := 858) (by decide +kernel)⟩
theorem lw_p52 : lw_okq (⟨"DrawingVaultModel", "baselineAt", "(I)I"⟩, 11) := ⟨⟨by decide +kernel, by decide +kernel⟩, List.mem_of_getElem? (i := 741) (by decide +kernel), List.mem_of_getElem? (i := 861) (by decide +kernel), List.mem_of_getElem? (i := 862) (by decide +kernel)⟩
theorem lw_p53 : lw_okq (⟨"DrawingVaultModel", "rights", "(I)I"⟩, 11) := ⟨⟨by decide +kernel, by decide +kernel⟩, List.mem_of_getElem? (i := 741) (by decide +kernel), List.mem_of_getElem? (i := 869) (by decide +kernel), List.mem_of_getElem? (i := 870) (by decide +kernel)⟩
theorem lw_p54 : lw_okq (⟨"DrawingVaultModel", "blank", "(I)V"⟩, 11) := ⟨⟨by decide +kernel, by decide +kernel⟩, List.mem_of_getElem? (i := 741) (by decide +kernel), List.mem_of_getElem? (i := 876) (by decide +kernel), List.mem_of_getElem? (i := 877) (by decide +kernel)⟩
theorem lw_p55 : lw_okq (⟨"DrawingVaultModel", "copy", "(II)V"⟩, 11) := ⟨⟨by decide +kernel, by decide +kernel⟩, List.mem_of_getElem? (i := 741) (by decide +kernel), List.mem_of_getElem? (i := 884) (by decide +kernel), List.mem_of_getElem? (i := 885) (by decide +kernel)⟩
theorem lw_p56 : lw_okq (⟨"DrawingVaultModel", "whyNot", "(II)I"⟩, 11) := ⟨⟨by decide +kernel, by decide +kernel⟩, List.mem_of_getElem? (i := 741) (by decide +kernel), List.mem_of_getElem? (i := 892) (by decide +kernel), List.mem_of_getElem? (i := 893) (by decide +kernel)⟩
theorem lw_p57 : lw_okq (⟨"DrawingVaultModel", "mayHere", "(I)Z"⟩, 11) := ⟨⟨by decide +kernel, by decide +kernel⟩, List.mem_of_getElem? (i := 741) (by decide +kernel), List.mem_of_getElem? (i := 900) (by decide +kernel), List.mem_of_getElem? (i := 901) (by decide +kernel)⟩
theorem lw_p58 : lw_okq (⟨"DrawingVaultModel", "loops", "(I)Z"⟩, 11) := ⟨⟨by decide +kernel, by decide +kernel⟩, List.mem_of_getElem? (i := 741) (by decide +kernel), List.mem_of_getElem? (i := 920) (by decide +kernel), List.mem_of_getElem? (i := 921) (by decide +kernel)⟩
theorem lw_p59 : lw_okq (⟨"DrawingVaultModel", "markUsers", "(I)V"⟩, 11) := ⟨⟨by decide +kernel, by decide +kernel⟩, List.mem_of_getElem? (i := 741) (by decide +kernel), List.mem_of_getElem? (i := 924) (by decide +kernel), List.mem_of_getElem? (i := 925) (by decide +kernel)⟩
theorem lw_p60 : lw_okq (⟨"DrawingVaultModel", "uses", "(II)Z"⟩, 11) := ⟨⟨by decide +kernel, by decide +kernel⟩, List.mem_of_getElem? (i := 741) (by decide +kernel), List.mem_of_getElem? (i := 928) (by decide +kernel), List.mem_of_getElem? (i := 929) (by decide +kernel)⟩
theorem lw_p61 : lw_okq (⟨"DrawingVaultModel", "refersTo", "(II)Z"⟩, 11) := ⟨⟨by decide +kernel, by decide +kernel⟩, List.mem_of_getElem? (i := 741) (by decide +kernel), List.mem_of_getElem? (i := 932) (by decide +kernel), List.mem_of_getElem? (i := 933) (by decide +kernel)⟩
theorem lw_p62 : lw_okq (⟨"DrawingVaultModel", "refDrawing", "(II)I"⟩, 11) := ⟨⟨by decide +kernel, by decide +kernel⟩, List.mem_of_getElem? (i := 741) (by decide +kernel), List.mem_of_getElem? (i := 936) (by decide +kernel), List.mem_of_getElem? (i := 937) (by decide +kernel)⟩
theorem lw_p63 : lw_okq (⟨"DrawingVaultModel", "lacksRevision", "(I)Z"⟩, 11) := ⟨⟨by decide +kernel, by decide +kernel⟩, List.mem_of_getElem? (i := 741) (by decide +kernel), List.mem_of_getElem? (i := 940) (by decide +kernel), List.mem_of_getElem? (i := 941) (by decide +kernel)⟩
def lw_privs_4 : List (MethodName × Nat) := [(⟨"DrawingVaultModel", "revisionAt", "(II)I"⟩, 11), (⟨"DrawingVaultModel", "stands", "(IIII)Z"⟩, 11), (⟨"DrawingVaultModel", "isSame", "(IIII)Z"⟩, 11), (⟨"DrawingVaultModel", "pieceLength", "(II)I"⟩, 11), (⟨"DrawingVaultModel", "baselineAt", "(I)I"⟩, 11), (⟨"DrawingVaultModel", "rights", "(I)I"⟩, 11), (⟨"DrawingVaultModel", "blank", "(I)V"⟩, 11), (⟨"DrawingVaultModel", "copy", "(II)V"⟩, 11), (⟨"DrawingVaultModel", "whyNot", "(II)I"⟩, 11), (⟨"DrawingVaultModel", "mayHere", "(I)Z"⟩, 11), (⟨"DrawingVaultModel", "loops", "(I)Z"⟩, 11), (⟨"DrawingVaultModel", "markUsers", "(I)V"⟩, 11), (⟨"DrawingVaultModel", "uses", "(II)Z"⟩, 11), (⟨"DrawingVaultModel", "refersTo", "(II)Z"⟩, 11), (⟨"DrawingVaultModel", "refDrawing", "(II)I"⟩, 11), (⟨"DrawingVaultModel", "lacksRevision", "(I)Z"⟩, 11)]
theorem lw_r4 : ∀ q ∈ lw_privs_4, lw_okq q := List.forall_mem_cons.mpr ⟨lw_p48, List.forall_mem_cons.mpr ⟨lw_p49, List.forall_mem_cons.mpr ⟨lw_p50, List.forall_mem_cons.mpr ⟨lw_p51, List.forall_mem_cons.mpr ⟨lw_p52, List.forall_mem_cons.mpr ⟨lw_p53, List.forall_mem_cons.mpr ⟨lw_p54, List.forall_mem_cons.mpr ⟨lw_p55, List.forall_mem_cons.mpr ⟨lw_p56, List.forall_mem_cons.mpr ⟨lw_p57, List.forall_mem_cons.mpr ⟨lw_p58, List.forall_mem_cons.mpr ⟨lw_p59, List.forall_mem_cons.mpr ⟨lw_p60, List.forall_mem_cons.mpr ⟨lw_p61, List.forall_mem_cons.mpr ⟨lw_p62, List.forall_mem_cons.mpr ⟨lw_p63, fun _ h => absurd h List.not_mem_nil⟩⟩⟩⟩⟩⟩⟩⟩⟩⟩⟩⟩⟩⟩⟩⟩
theorem lw_p64 : lw_okq (⟨"DrawingVaultModel", "refRevision", "(II)I"⟩, 11) := ⟨⟨by decide +kernel, by decide +kernel⟩, List.mem_of_getElem? (i := 741) (by decide +kernel), List.mem_of_getElem? (i := 944) (by decide +kernel), List.mem_of_getElem? (i := 945) (by decide +kernel)⟩
theorem lw_p65 : lw_okq (⟨"DrawingVaultModel", "ownChunks", "(I)I"⟩, 11) := ⟨⟨by decide +kernel, by decide +kernel⟩, List.mem_of_getElem? (i := 741) (by decide +kernel), List.mem_of_getElem? (i := 948) (by decide +kernel), List.mem_of_getElem? (i := 949) (by decide +kernel)⟩
theorem lw_p66 : lw_okq (⟨"DrawingVaultModel", "whyNotRevision", "(IIII)I"⟩, 11) := ⟨⟨by decide +kernel, by decide +kernel⟩, List.mem_of_getElem? (i := 741) (by decide +kernel), List.mem_of_getElem? (i := 956) (by decide +kernel), List.mem_of_getElem? (i := 957) (by decide +kernel)⟩
theorem lw_p67 : lw_okq (⟨"DrawingVaultModel", "stateOf", "(II)I"⟩, 11) := ⟨⟨by decide +kernel, by decide +kernel⟩, List.mem_of_getElem? (i := 741) (by decide +kernel), List.mem_of_getElem? (i := 960) (by decide +kernel), List.mem_of_getElem? (i := 961) (by decide +kernel)⟩
theorem lw_p68 : lw_okq (⟨"DrawingVaultModel", "lacksReleased", "(I)Z"⟩, 11) := ⟨⟨by decide +kernel, by decide +kernel⟩, List.mem_of_getElem? (i := 741) (by decide +kernel), List.mem_of_getElem? (i := 968) (by decide +kernel), List.mem_of_getElem? (i := 969) (by decide +kernel)⟩
theorem lw_p69 : lw_okq (⟨"DrawingVaultModel", "isReleased", "(II)Z"⟩, 11) := ⟨⟨by decide +kernel, by decide +kernel⟩, List.mem_of_getElem? (i := 741) (by decide +kernel), List.mem_of_getElem? (i := 972) (by decide +kernel), List.mem_of_getElem? (i := 973) (by decide +kernel)⟩
theorem lw_p70 : lw_okq (⟨"DrawingVaultModel", "resolved", "(II)I"⟩, 11) := ⟨⟨by decide +kernel, by decide +kernel⟩, List.mem_of_getElem? (i := 741) (by decide +kernel), List.mem_of_getElem? (i := 976) (by decide +kernel), List.mem_of_getElem? (i := 977) (by decide +kernel)⟩
theorem lw_p71 : lw_okq (⟨"DrawingVaultModel", "released", "(I)I"⟩, 11) := ⟨⟨by decide +kernel, by decide +kernel⟩, List.mem_of_getElem? (i := 741) (by decide +kernel), List.mem_of_getElem? (i := 980) (by decide +kernel), List.mem_of_getElem? (i := 981) (by decide +kernel)⟩
theorem lw_p72 : lw_okq (⟨"DrawingVaultModel", "isInUse", "(II)Z"⟩, 11) := ⟨⟨by decide +kernel, by decide +kernel⟩, List.mem_of_getElem? (i := 741) (by decide +kernel), List.mem_of_getElem? (i := 988) (by decide +kernel), List.mem_of_getElem? (i := 989) (by decide +kernel)⟩
theorem lw_p73 : lw_okq (⟨"DrawingVaultModel", "reach", "(I)V"⟩, 11) := ⟨⟨by decide +kernel, by decide +kernel⟩, List.mem_of_getElem? (i := 741) (by decide +kernel), List.mem_of_getElem? (i := 996) (by decide +kernel), List.mem_of_getElem? (i := 997) (by decide +kernel)⟩
theorem lw_p74 : lw_okq (⟨"DrawingVaultModel", "spread", "(I)Z"⟩, 11) := ⟨⟨by decide +kernel, by decide +kernel⟩, List.mem_of_getElem? (i := 741) (by decide +kernel), List.mem_of_getElem? (i := 1000) (by decide +kernel), List.mem_of_getElem? (i := 1001) (by decide +kernel)⟩
def lw_privs_5 : List (MethodName × Nat) := [(⟨"DrawingVaultModel", "refRevision", "(II)I"⟩, 11), (⟨"DrawingVaultModel", "ownChunks", "(I)I"⟩, 11), (⟨"DrawingVaultModel", "whyNotRevision", "(IIII)I"⟩, 11), (⟨"DrawingVaultModel", "stateOf", "(II)I"⟩, 11), (⟨"DrawingVaultModel", "lacksReleased", "(I)Z"⟩, 11), (⟨"DrawingVaultModel", "isReleased", "(II)Z"⟩, 11), (⟨"DrawingVaultModel", "resolved", "(II)I"⟩, 11), (⟨"DrawingVaultModel", "released", "(I)I"⟩, 11), (⟨"DrawingVaultModel", "isInUse", "(II)Z"⟩, 11), (⟨"DrawingVaultModel", "reach", "(I)V"⟩, 11), (⟨"DrawingVaultModel", "spread", "(I)Z"⟩, 11)]
theorem lw_r5 : ∀ q ∈ lw_privs_5, lw_okq q := List.forall_mem_cons.mpr ⟨lw_p64, List.forall_mem_cons.mpr ⟨lw_p65, List.forall_mem_cons.mpr ⟨lw_p66, List.forall_mem_cons.mpr ⟨lw_p67, List.forall_mem_cons.mpr ⟨lw_p68, List.forall_mem_cons.mpr ⟨lw_p69, List.forall_mem_cons.mpr ⟨lw_p70, List.forall_mem_cons.mpr ⟨lw_p71, List.forall_mem_cons.mpr ⟨lw_p72, List.forall_mem_cons.mpr ⟨lw_p73, List.forall_mem_cons.mpr ⟨lw_p74, fun _ h => absurd h List.not_mem_nil⟩⟩⟩⟩⟩⟩⟩⟩⟩⟩⟩
def lw_privs : List (MethodName × Nat) := lw_privs_1 ++ (lw_privs_2 ++ (lw_privs_3 ++ (lw_privs_4 ++ (lw_privs_5))))
def lw_tbl : List Cond := k2_sels lw_privs ++ tables_1
theorem lw_privs_ok : ∀ q ∈ lw_privs, lw_okq q := by
  show ∀ q ∈ lw_privs_1 ++ (lw_privs_2 ++ (lw_privs_3 ++ (lw_privs_4 ++ (lw_privs_5)))), lw_okq q
  exact List.forall_mem_append.mpr ⟨lw_r1, List.forall_mem_append.mpr ⟨lw_r2, List.forall_mem_append.mpr ⟨lw_r3, List.forall_mem_append.mpr ⟨lw_r4, lw_r5⟩⟩⟩⟩
end
section
abbrev RV : String := "DrawingVault"
abbrev RB : String := "DrawingVault$Baseline"
abbrev RK : String := "DrawingVault$ChunkSet"
abbrev RC : String := "DrawingVault$Content"
abbrev RD : String := "DrawingVault$Drawing"
abbrev RP : String := "DrawingVault$Pages"
abbrev RS : String := "DrawingVault$Revision"
abbrev RM : String := "DrawingVaultModel"
abbrev RL : String := "DrawingVaultLaw"
abbrev RA : String := "java/util/Arrays"
def TV : u_T := fun k => match k with
  | 0 => ("DrawingVault", "rightsOf", "[I", true)
  | 1 => ("DrawingVault", "drawings", "[LDrawingVault$Drawing;", true)
  | 2 => ("DrawingVault", "drawingCount", "I", false)
  | 3 => ("DrawingVault", "revisionCount", "I", false)
  | 4 => ("DrawingVault", "baselines", "[LDrawingVault$Baseline;", true)
  | 5 => ("DrawingVault", "draft", "LDrawingVault$Baseline;", false)
  | 6 => ("DrawingVault", "chunks", "LDrawingVault$ChunkSet;", true)
  | 7 => ("DrawingVault", "pages", "LDrawingVault$Pages;", true)
  | _ => ("DrawingVault", "reason", "I", false)
def tyV : Nat → FieldType := fun k => match k with
  | 0 => (.array .int)
  | 1 => (.array (.object "DrawingVault$Drawing"))
  | 2 => .int
  | 3 => .int
  | 4 => (.array (.object "DrawingVault$Baseline"))
  | 5 => (.object "DrawingVault$Baseline")
  | 6 => (.object "DrawingVault$ChunkSet")
  | 7 => (.object "DrawingVault$Pages")
  | _ => .int
theorem nmV : ∀ a, a < 9 → ∀ b, b < 9 → a ≠ b → (TV a).2.1 ≠ (TV b).2.1 := by decide +kernel
theorem tyV_ok : ∀ k, k < 9 → parseFieldDescriptor (TV k).2.2.1 = some (tyV k) := by decide +kernel
def TB : u_T := fun k => match k with
  | 0 => ("DrawingVault$Baseline", "revisionOf", "[I", true)
  | 1 => ("DrawingVault$Baseline", "order", "[I", true)
  | _ => ("DrawingVault$Baseline", "size", "I", false)
def tyB : Nat → FieldType := fun k => match k with
  | 0 => (.array .int)
  | 1 => (.array .int)
  | _ => .int
theorem nmB : ∀ a, a < 3 → ∀ b, b < 3 → a ≠ b → (TB a).2.1 ≠ (TB b).2.1 := by decide +kernel
theorem tyB_ok : ∀ k, k < 3 → parseFieldDescriptor (TB k).2.2.1 = some (tyB k) := by decide +kernel
def TK : u_T := fun k => match k with
  | 0 => ("DrawingVault$ChunkSet", "pieces", "[J", true)
  | 1 => ("DrawingVault$ChunkSet", "lengths", "[B", true)
  | _ => ("DrawingVault$ChunkSet", "size", "I", false)
def tyK : Nat → FieldType := fun k => match k with
  | 0 => (.array .long)
  | 1 => (.array .byte)
  | _ => .int
theorem nmK : ∀ a, a < 3 → ∀ b, b < 3 → a ≠ b → (TK a).2.1 ≠ (TK b).2.1 := by decide +kernel
theorem tyK_ok : ∀ k, k < 3 → parseFieldDescriptor (TK k).2.2.1 = some (tyK k) := by decide +kernel
def TP : u_T := fun k => match k with
  | 0 => ("DrawingVault$Pages", "free", "I", false)
  | 1 => ("DrawingVault$Pages", "commands", "I", false)
  | 2 => ("DrawingVault$Pages", "copiedForward", "I", false)
  | 3 => ("DrawingVault$Pages", "failed", "Z", false)
  | 4 => ("DrawingVault$Pages", "failureAhead", "Z", false)
  | _ => ("DrawingVault$Pages", "beforeFailure", "I", false)
def tyP : Nat → FieldType := fun k => match k with
  | 0 => .int
  | 1 => .int
  | 2 => .int
  | 3 => .boolean
  | 4 => .boolean
  | _ => .int
theorem nmP : ∀ a, a < 6 → ∀ b, b < 6 → a ≠ b → (TP a).2.1 ≠ (TP b).2.1 := by decide +kernel
theorem tyP_ok : ∀ k, k < 6 → parseFieldDescriptor (TP k).2.2.1 = some (tyP k) := by decide +kernel
def TM : u_T := fun k => match k with
  | 0 => ("DrawingVaultModel", "thrown", "I", false)
  | 1 => ("DrawingVaultModel", "reason", "I", false)
  | 2 => ("DrawingVaultModel", "now", "[I", true)
  | 3 => ("DrawingVaultModel", "kept", "[I", true)
  | 4 => ("DrawingVaultModel", "failed", "Z", false)
  | 5 => ("DrawingVaultModel", "powerLeft", "I", false)
  | 6 => ("DrawingVaultModel", "marked", "[Z", true)
  | 7 => ("DrawingVaultModel", "come", "[I", true)
  | 8 => ("DrawingVaultModel", "parts2", "Z", false)
  | 9 => ("DrawingVaultModel", "open", "Z", false)
  | _ => ("DrawingVaultModel", "seen", "[Z", true)
def tyM : Nat → FieldType := fun k => match k with
  | 0 => .int
  | 1 => .int
  | 2 => (.array .int)
  | 3 => (.array .int)
  | 4 => .boolean
  | 5 => .int
  | 6 => (.array .boolean)
  | 7 => (.array .int)
  | 8 => .boolean
  | 9 => .boolean
  | _ => (.array .boolean)
theorem nmM : ∀ a, a < 11 → ∀ b, b < 11 → a ≠ b → (TM a).2.1 ≠ (TM b).2.1 := by decide +kernel
theorem tyM_ok : ∀ k, k < 11 → parseFieldDescriptor (TM k).2.2.1 = some (tyM k) := by decide +kernel
abbrev kCl : List vw_C := [(RV, TV, 9), (RB, TB, 3), (RK, TK, 3), (RP, TP, 6), (RM, TM, 11)]

/-- the words of the tables that every callee may carry -/
def aw : List Cond := lw_tbl.filter goodWord
theorem aw_in {w : Cond} (h : w ∈ lw_tbl) (g : goodWord w = true) : w ∈ aw := List.mem_filter.mpr ⟨h, g⟩
theorem aw_good {w : Cond} (h : w ∈ aw) : (w.onTables && w.keeps) = true ∨ ∃ ty, w = .arrayClass ty := good_of_word (List.mem_filter.mp h).2
theorem tb_1 {w : Cond} (h : w ∈ tables_1_1) : w ∈ lw_tbl := List.mem_append_right _ (List.mem_append_left _ h)
theorem tb_2 {w : Cond} (h : w ∈ tables_1_2) : w ∈ lw_tbl := List.mem_append_right _ (List.mem_append_right _ (List.mem_append_left _ h))
theorem tb_3 {w : Cond} (h : w ∈ tables_1_3) : w ∈ lw_tbl := List.mem_append_right _ (List.mem_append_right _ (List.mem_append_right _ (List.mem_append_left _ h)))
theorem tb_4 {w : Cond} (h : w ∈ tables_1_4) : w ∈ lw_tbl := List.mem_append_right _ (List.mem_append_right _ (List.mem_append_right _ (List.mem_append_right _ (List.mem_append_left _ h))))
theorem tb_5 {w : Cond} (h : w ∈ tables_1_5) : w ∈ lw_tbl := List.mem_append_right _ (List.mem_append_right _ (List.mem_append_right _ (List.mem_append_right _ (List.mem_append_right _ h))))
theorem tb_s {q : MethodName × Nat} (h : q ∈ lw_privs) : Cond.selects q.1.cls q.1 q.1 ∈ lw_tbl := List.mem_append_left _ (List.mem_map.mpr ⟨q, h, rfl⟩)
theorem gI {c : Cond} (h : c ∈ aw) : GoodIn aw (c :: aw) := fun w hw => (List.mem_cons.mp hw).elim (fun e => e ▸ ⟨h, aw_good h⟩) (fun h2 => ⟨h2, aw_good h2⟩)
theorem gA {l1 l2 : List Cond} (h1 : ∀ w ∈ l1, w ∈ aw) (h2 : GoodIn aw l2) : GoodIn aw (l1 ++ l2) := fun w hw => (List.mem_append.mp hw).elim (fun h => ⟨h1 w h, aw_good (h1 w h)⟩) (h2 w)
theorem gV {own C : String} {idx : Nat} {y : MethodName} {c : Cond} (h1 : Cond.methodLink own idx y ∈ aw) (h2 : Cond.instanceMethod y ∈ aw) (h3 : Cond.selects C y y ∈ aw) (h4 : Cond.initialized C ∈ aw) (h5 : c ∈ aw) : GoodIn aw (wsV own idx C y (c :: aw)) :=
  gA (fun w hw => by simp only [List.mem_cons, List.not_mem_nil, or_false] at hw; rcases hw with rfl | rfl | rfl | rfl <;> assumption) (gI h5)
theorem gS {own : String} {idx : Nat} {y : MethodName} {c : Cond} (h1 : Cond.methodLink own idx y ∈ aw) (h2 : Cond.static y ∈ aw) (h3 : Cond.initialized own ∈ aw) (h5 : c ∈ aw) : GoodIn aw (wsS own idx y (c :: aw)) :=
  gA (fun w hw => by simp only [List.mem_cons, List.not_mem_nil, or_false] at hw; rcases hw with rfl | rfl | rfl <;> assumption) (gI h5)
theorem gSU {own : String} {idx : Nat} {y : MethodName} {c : Cond} (h1 : Cond.methodLink own idx y ∈ aw) (h2 : Cond.static y ∈ aw) (h3 : Cond.initialized y.cls ∈ aw) (h5 : c ∈ aw) : GoodIn aw (va_wsS own idx y (c :: aw)) :=
  gA (fun w hw => by simp only [List.mem_cons, List.not_mem_nil, or_false] at hw; rcases hw with rfl | rfl | rfl <;> assumption) (gI h5)
/-- the start of a method that only reads -/
def pR (D : va_G) (ws : va_W) (tys : List (ClassId × FieldType)) (av : List Value) : Array Value → State → Prop := va_Pc av (fun U => va_P D kCl ws U.heap ∧ va_K D kCl tys U)
theorem pR_blind {D : va_G} {ws : va_W} {tys : List (ClassId × FieldType)} {av : List Value} : FrameBlind (pR D ws tys av) := fun a U g mk h => ⟨h.1, h.2.1, va_K.moved (u := U) (U := U.calling g mk a) (Vm.Alike.refl U.vm) h.2.2⟩
theorem pR_pre {D : va_G} {ws : va_W} {tys : List (ClassId × FieldType)} {av : List Value} {s : State} {H : Heap} (hP : va_P D kCl ws H) (hK : va_K D kCl tys s) : ∀ U : State, U.heap = H → s.WarmedH U.vm → pR D ws tys av av.toArray U := fun U hU hW => ⟨rfl, by rw [hU]; exact hP, va_K.moved hW.alike hK⟩
/-- the start of a method that writes in its world -/
def pW (D : va_G) (sz : Nat) (ws : va_W) (tys : List (ClassId × FieldType)) (av : List Value) : Array Value → State → Prop := va_Pc av (fun U => U.heap.size = sz ∧ va_P D kCl ws U.heap ∧ va_K D kCl tys U ∧ va_D (fun _ => True) ws)
theorem pW_blind {D : va_G} {sz : Nat} {ws : va_W} {tys : List (ClassId × FieldType)} {av : List Value} : FrameBlind (pW D sz ws tys av) := fun a U g mk h => ⟨h.1, h.2.1, h.2.2.1, va_K.moved (u := U) (U := U.calling g mk a) (Vm.Alike.refl U.vm) h.2.2.2.1, h.2.2.2.2⟩
theorem pW_pre {D : va_G} {ws : va_W} {tys : List (ClassId × FieldType)} {av : List Value} {s : State} {H : Heap} {A : Nat → Prop} (hP : va_P D kCl ws H) (hK : va_K D kCl tys s) (hD : va_D A ws) : ∀ U : State, U.heap = H → s.WarmedH U.vm → pW D H.size ws tys av av.toArray U := fun U hU hW => ⟨rfl, by rw [hU], by rw [hU]; exact hP, va_K.moved hW.alike hK, hD.weaken (fun _ _ _ _ => trivial)⟩
/-- the world behind a method -/
def wW (D : va_G) (A : Nat → Prop) (ws : va_W) (tys : List (ClassId × FieldType)) (t : State) : Prop := va_P D kCl ws t.heap ∧ va_K D kCl tys t ∧ va_D A ws
theorem vp_in_lit (i : Int32) (n : Nat) (h : vp_in i n) : vp_in i n := h
theorem vin_of {i : Int32} {n : Nat} {k : Int32} (hk : k.toInt = n) (h1 : ¬ i < 0) (h2 : ¬ k ≤ i) : vp_in i n := vp_in_iff.mpr ⟨by have := Int32.not_lt.mp h1; exact Int32.le_iff_toInt_le.mp this, by rw [← hk]; exact Int32.lt_iff_toInt_lt.mp (Int32.not_le.mp h2)⟩
theorem wd_0 : (.laysFinal "DrawingVault" "DrawingVault" "rightsOf" "[I" : Cond) ∈ aw := aw_in (tb_1 (List.mem_of_getElem? (i := 108) rfl)) rfl
theorem wd_1 : (.laysFinal "DrawingVault" "DrawingVault" "drawings" "[LDrawingVault$Drawing;" : Cond) ∈ aw := aw_in (tb_1 (List.mem_of_getElem? (i := 110) rfl)) rfl
theorem wd_2 : (.lays "DrawingVault" "DrawingVault" "drawingCount" "I" : Cond) ∈ aw := aw_in (tb_1 (List.mem_of_getElem? (i := 112) rfl)) rfl
theorem wd_3 : (.lays "DrawingVault" "DrawingVault" "revisionCount" "I" : Cond) ∈ aw := aw_in (tb_1 (List.mem_of_getElem? (i := 114) rfl)) rfl
theorem wd_4 : (.laysFinal "DrawingVault" "DrawingVault" "baselines" "[LDrawingVault$Baseline;" : Cond) ∈ aw := aw_in (tb_1 (List.mem_of_getElem? (i := 116) rfl)) rfl
theorem wd_5 : (.lays "DrawingVault" "DrawingVault" "draft" "LDrawingVault$Baseline;" : Cond) ∈ aw := aw_in (tb_1 (List.mem_of_getElem? (i := 118) rfl)) rfl
theorem wd_6 : (.laysFinal "DrawingVault" "DrawingVault" "chunks" "LDrawingVault$ChunkSet;" : Cond) ∈ aw := aw_in (tb_1 (List.mem_of_getElem? (i := 120) rfl)) rfl
theorem wd_7 : (.laysFinal "DrawingVault" "DrawingVault" "pages" "LDrawingVault$Pages;" : Cond) ∈ aw := aw_in (tb_1 (List.mem_of_getElem? (i := 122) rfl)) rfl
theorem wd_8 : (.lays "DrawingVault" "DrawingVault" "reason" "I" : Cond) ∈ aw := aw_in (tb_1 (List.mem_of_getElem? (i := 124) rfl)) rfl
theorem wd_9 : (.laysFinal "DrawingVault$Baseline" "DrawingVault$Baseline" "revisionOf" "[I" : Cond) ∈ aw := aw_in (tb_1 (List.mem_of_getElem? (i := 43) rfl)) rfl
theorem wd_10 : (.laysFinal "DrawingVault$Baseline" "DrawingVault$Baseline" "order" "[I" : Cond) ∈ aw := aw_in (tb_1 (List.mem_of_getElem? (i := 45) rfl)) rfl
theorem wd_11 : (.lays "DrawingVault$Baseline" "DrawingVault$Baseline" "size" "I" : Cond) ∈ aw := aw_in (tb_1 (List.mem_of_getElem? (i := 47) rfl)) rfl
theorem wd_12 : (.laysFinal "DrawingVault$ChunkSet" "DrawingVault$ChunkSet" "pieces" "[J" : Cond) ∈ aw := aw_in (tb_1 (List.mem_of_getElem? (i := 61) rfl)) rfl
theorem wd_13 : (.laysFinal "DrawingVault$ChunkSet" "DrawingVault$ChunkSet" "lengths" "[B" : Cond) ∈ aw := aw_in (tb_1 (List.mem_of_getElem? (i := 63) rfl)) rfl
theorem wd_14 : (.lays "DrawingVault$ChunkSet" "DrawingVault$ChunkSet" "size" "I" : Cond) ∈ aw := aw_in (tb_1 (List.mem_of_getElem? (i := 65) rfl)) rfl
theorem wd_15 : (.lays "DrawingVault$Pages" "DrawingVault$Pages" "free" "I" : Cond) ∈ aw := aw_in (tb_1 (List.mem_of_getElem? (i := 86) rfl)) rfl
theorem wd_16 : (.lays "DrawingVault$Pages" "DrawingVault$Pages" "commands" "I" : Cond) ∈ aw := aw_in (tb_1 (List.mem_of_getElem? (i := 88) rfl)) rfl
theorem wd_17 : (.lays "DrawingVault$Pages" "DrawingVault$Pages" "copiedForward" "I" : Cond) ∈ aw := aw_in (tb_1 (List.mem_of_getElem? (i := 90) rfl)) rfl
theorem wd_18 : (.lays "DrawingVault$Pages" "DrawingVault$Pages" "failed" "Z" : Cond) ∈ aw := aw_in (tb_1 (List.mem_of_getElem? (i := 92) rfl)) rfl
theorem wd_19 : (.lays "DrawingVault$Pages" "DrawingVault$Pages" "failureAhead" "Z" : Cond) ∈ aw := aw_in (tb_1 (List.mem_of_getElem? (i := 94) rfl)) rfl
theorem wd_20 : (.lays "DrawingVault$Pages" "DrawingVault$Pages" "beforeFailure" "I" : Cond) ∈ aw := aw_in (tb_1 (List.mem_of_getElem? (i := 96) rfl)) rfl
theorem wd_21 : (.lays "DrawingVaultModel" "DrawingVaultModel" "thrown" "I" : Cond) ∈ aw := aw_in (tb_4 (List.mem_of_getElem? (i := 41) rfl)) rfl
theorem wd_22 : (.lays "DrawingVaultModel" "DrawingVaultModel" "reason" "I" : Cond) ∈ aw := aw_in (tb_4 (List.mem_of_getElem? (i := 43) rfl)) rfl
theorem wd_23 : (.laysFinal "DrawingVaultModel" "DrawingVaultModel" "now" "[I" : Cond) ∈ aw := aw_in (tb_4 (List.mem_of_getElem? (i := 45) rfl)) rfl
theorem wd_24 : (.laysFinal "DrawingVaultModel" "DrawingVaultModel" "kept" "[I" : Cond) ∈ aw := aw_in (tb_4 (List.mem_of_getElem? (i := 47) rfl)) rfl
theorem wd_25 : (.lays "DrawingVaultModel" "DrawingVaultModel" "failed" "Z" : Cond) ∈ aw := aw_in (tb_4 (List.mem_of_getElem? (i := 49) rfl)) rfl
theorem wd_26 : (.lays "DrawingVaultModel" "DrawingVaultModel" "powerLeft" "I" : Cond) ∈ aw := aw_in (tb_4 (List.mem_of_getElem? (i := 51) rfl)) rfl
theorem wd_27 : (.laysFinal "DrawingVaultModel" "DrawingVaultModel" "marked" "[Z" : Cond) ∈ aw := aw_in (tb_4 (List.mem_of_getElem? (i := 53) rfl)) rfl
theorem wd_28 : (.laysFinal "DrawingVaultModel" "DrawingVaultModel" "come" "[I" : Cond) ∈ aw := aw_in (tb_4 (List.mem_of_getElem? (i := 55) rfl)) rfl
theorem wd_29 : (.lays "DrawingVaultModel" "DrawingVaultModel" "parts2" "Z" : Cond) ∈ aw := aw_in (tb_4 (List.mem_of_getElem? (i := 57) rfl)) rfl
theorem wd_30 : (.lays "DrawingVaultModel" "DrawingVaultModel" "open" "Z" : Cond) ∈ aw := aw_in (tb_4 (List.mem_of_getElem? (i := 59) rfl)) rfl
theorem wd_31 : (.laysFinal "DrawingVaultModel" "DrawingVaultModel" "seen" "[Z" : Cond) ∈ aw := aw_in (tb_4 (List.mem_of_getElem? (i := 61) rfl)) rfl
theorem inV : ∀ w ∈ u_ws RV TV 9, w ∈ aw := by
  intro w hw
  obtain ⟨k, hk, rfl⟩ := List.mem_map.mp hw
  rw [List.mem_range] at hk
  rcases (show k = 0 ∨ k = 1 ∨ k = 2 ∨ k = 3 ∨ k = 4 ∨ k = 5 ∨ k = 6 ∨ k = 7 ∨ k = 8 by omega) with rfl | rfl | rfl | rfl | rfl | rfl | rfl | rfl | rfl
  · exact wd_0
  · exact wd_1
  · exact wd_2
  · exact wd_3
  · exact wd_4
  · exact wd_5
  · exact wd_6
  · exact wd_7
  · exact wd_8
theorem inB : ∀ w ∈ u_ws RB TB 3, w ∈ aw := by
  intro w hw
  obtain ⟨k, hk, rfl⟩ := List.mem_map.mp hw
  rw [List.mem_range] at hk
  rcases (show k = 0 ∨ k = 1 ∨ k = 2 by omega) with rfl | rfl | rfl
  · exact wd_9
  · exact wd_10
  · exact wd_11
theorem inK : ∀ w ∈ u_ws RK TK 3, w ∈ aw := by
  intro w hw
  obtain ⟨k, hk, rfl⟩ := List.mem_map.mp hw
  rw [List.mem_range] at hk
  rcases (show k = 0 ∨ k = 1 ∨ k = 2 by omega) with rfl | rfl | rfl
  · exact wd_12
  · exact wd_13
  · exact wd_14
theorem inP : ∀ w ∈ u_ws RP TP 6, w ∈ aw := by
  intro w hw
  obtain ⟨k, hk, rfl⟩ := List.mem_map.mp hw
  rw [List.mem_range] at hk
  rcases (show k = 0 ∨ k = 1 ∨ k = 2 ∨ k = 3 ∨ k = 4 ∨ k = 5 by omega) with rfl | rfl | rfl | rfl | rfl | rfl
  · exact wd_15
  · exact wd_16
  · exact wd_17
  · exact wd_18
  · exact wd_19
  · exact wd_20
theorem inM : ∀ w ∈ u_ws RM TM 11, w ∈ aw := by
  intro w hw
  obtain ⟨k, hk, rfl⟩ := List.mem_map.mp hw
  rw [List.mem_range] at hk
  rcases (show k = 0 ∨ k = 1 ∨ k = 2 ∨ k = 3 ∨ k = 4 ∨ k = 5 ∨ k = 6 ∨ k = 7 ∨ k = 8 ∨ k = 9 ∨ k = 10 by omega) with rfl | rfl | rfl | rfl | rfl | rfl | rfl | rfl | rfl | rfl | rfl
  · exact wd_21
  · exact wd_22
  · exact wd_23
  · exact wd_24
  · exact wd_25
  · exact wd_26
  · exact wd_27
  · exact wd_28
  · exact wd_29
  · exact wd_30
  · exact wd_31
end
