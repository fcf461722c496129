section
-- ===== PART A: goes FIRST, ahead of the names: the tables' words, and 'selects' of the private methods out of them =====
/-- a private method of a class that the tables say can be made, by its rows of tables_1 -/
def lw_okq (q : MethodName × Nat) : Prop := (q.1.cls ≠ "java/lang/invoke/MethodHandle" ∧ q.1.cls ≠ "java/lang/invoke/VarHandle") ∧ Cond.instantiable q.1.cls q.2 ∈ tables_1 ∧ Cond.privateMethod q.1 ∈ tables_1 ∧ Cond.instanceMethod q.1 ∈ tables_1
theorem lw_p0 : lw_okq (⟨"DrawingVault", "drawingAt", "(I)LDrawingVault$Drawing;"⟩, 9) := ⟨⟨by decide +kernel, by decide +kernel⟩, List.mem_of_getElem? (i := 18) (by decide +kernel), List.mem_of_getElem? (i := 136) (by decide +kernel), List.mem_of_getElem? (i := 137) (by decide +kernel)⟩
theorem lw_p1 : lw_okq (⟨"DrawingVault", "usersOf", "(IZ)I"⟩, 9) := ⟨⟨by decide +kernel, by decide +kernel⟩, List.mem_of_getElem? (i := 18) (by decide +kernel), List.mem_of_getElem? (i := 140) (by decide +kernel), List.mem_of_getElem? (i := 141) (by decide +kernel)⟩
theorem lw_p2 : lw_okq (⟨"DrawingVault", "usersOfAny", "(I)I"⟩, 9) := ⟨⟨by decide +kernel, by decide +kernel⟩, List.mem_of_getElem? (i := 18) (by decide +kernel), List.mem_of_getElem? (i := 147) (by decide +kernel), List.mem_of_getElem? (i := 148) (by decide +kernel)⟩
theorem lw_p3 : lw_okq (⟨"DrawingVault", "drawingsOut", "()I"⟩, 9) := ⟨⟨by decide +kernel, by decide +kernel⟩, List.mem_of_getElem? (i := 18) (by decide +kernel), List.mem_of_getElem? (i := 191) (by decide +kernel), List.mem_of_getElem? (i := 192) (by decide +kernel)⟩
theorem lw_p4 : lw_okq (⟨"DrawingVault", "chunksKept", "()I"⟩, 9) := ⟨⟨by decide +kernel, by decide +kernel⟩, List.mem_of_getElem? (i := 18) (by decide +kernel), List.mem_of_getElem? (i := 199) (by decide +kernel), List.mem_of_getElem? (i := 200) (by decide +kernel)⟩
theorem lw_p5 : lw_okq (⟨"DrawingVault", "chunksOfRevisions", "()I"⟩, 9) := ⟨⟨by decide +kernel, by decide +kernel⟩, List.mem_of_getElem? (i := 18) (by decide +kernel), List.mem_of_getElem? (i := 203) (by decide +kernel), List.mem_of_getElem? (i := 204) (by decide +kernel)⟩
theorem lw_p6 : lw_okq (⟨"DrawingVault$ChunkSet", "addOne", "(JI)V"⟩, 3) := ⟨⟨by decide +kernel, by decide +kernel⟩, List.mem_of_getElem? (i := 52) (by decide +kernel), List.mem_of_getElem? (i := 229) (by decide +kernel), List.mem_of_getElem? (i := 230) (by decide +kernel)⟩
theorem lw_p7 : lw_okq (⟨"DrawingVault", "baselinesMade", "()I"⟩, 9) := ⟨⟨by decide +kernel, by decide +kernel⟩, List.mem_of_getElem? (i := 18) (by decide +kernel), List.mem_of_getElem? (i := 233) (by decide +kernel), List.mem_of_getElem? (i := 234) (by decide +kernel)⟩
theorem lw_p8 : lw_okq (⟨"DrawingVault", "needPower", "()V"⟩, 9) := ⟨⟨by decide +kernel, by decide +kernel⟩, List.mem_of_getElem? (i := 18) (by decide +kernel), List.mem_of_getElem? (i := 245) (by decide +kernel), List.mem_of_getElem? (i := 246) (by decide +kernel)⟩
theorem lw_p9 : lw_okq (⟨"java/lang/Throwable", "fillInStackTrace", "(I)Ljava/lang/Throwable;"⟩, 6) := ⟨⟨by decide +kernel, by decide +kernel⟩, List.mem_of_getElem? (i := 286) (by decide +kernel), List.mem_of_getElem? (i := 284) (by decide +kernel), List.mem_of_getElem? (i := 285) (by decide +kernel)⟩
theorem lw_p10 : lw_okq (⟨"DrawingVault", "mayWrite", "(II)Z"⟩, 9) := ⟨⟨by decide +kernel, by decide +kernel⟩, List.mem_of_getElem? (i := 18) (by decide +kernel), List.mem_of_getElem? (i := 314) (by decide +kernel), List.mem_of_getElem? (i := 315) (by decide +kernel)⟩
theorem lw_p11 : lw_okq (⟨"DrawingVault", "allowed", "(I)Z"⟩, 9) := ⟨⟨by decide +kernel, by decide +kernel⟩, List.mem_of_getElem? (i := 18) (by decide +kernel), List.mem_of_getElem? (i := 318) (by decide +kernel), List.mem_of_getElem? (i := 319) (by decide +kernel)⟩
theorem lw_p12 : lw_okq (⟨"DrawingVault", "finish", "(I)V"⟩, 9) := ⟨⟨by decide +kernel, by decide +kernel⟩, List.mem_of_getElem? (i := 18) (by decide +kernel), List.mem_of_getElem? (i := 326) (by decide +kernel), List.mem_of_getElem? (i := 327) (by decide +kernel)⟩
theorem lw_p13 : lw_okq (⟨"DrawingVault", "pagesOfTheSame", "()I"⟩, 9) := ⟨⟨by decide +kernel, by decide +kernel⟩, List.mem_of_getElem? (i := 18) (by decide +kernel), List.mem_of_getElem? (i := 338) (by decide +kernel), List.mem_of_getElem? (i := 339) (by decide +kernel)⟩
theorem lw_p14 : lw_okq (⟨"DrawingVault", "drawingRefusal", "(I)I"⟩, 9) := ⟨⟨by decide +kernel, by decide +kernel⟩, List.mem_of_getElem? (i := 18) (by decide +kernel), List.mem_of_getElem? (i := 357) (by decide +kernel), List.mem_of_getElem? (i := 358) (by decide +kernel)⟩
theorem lw_p15 : lw_okq (⟨"DrawingVault", "hasRight", "(II)Z"⟩, 9) := ⟨⟨by decide +kernel, by decide +kernel⟩, List.mem_of_getElem? (i := 18) (by decide +kernel), List.mem_of_getElem? (i := 361) (by decide +kernel), List.mem_of_getElem? (i := 362) (by decide +kernel)⟩
def lw_privs_1 : List (MethodName × Nat) := [(⟨"DrawingVault", "drawingAt", "(I)LDrawingVault$Drawing;"⟩, 9), (⟨"DrawingVault", "usersOf", "(IZ)I"⟩, 9), (⟨"DrawingVault", "usersOfAny", "(I)I"⟩, 9), (⟨"DrawingVault", "drawingsOut", "()I"⟩, 9), (⟨"DrawingVault", "chunksKept", "()I"⟩, 9), (⟨"DrawingVault", "chunksOfRevisions", "()I"⟩, 9), (⟨"DrawingVault$ChunkSet", "addOne", "(JI)V"⟩, 3), (⟨"DrawingVault", "baselinesMade", "()I"⟩, 9), (⟨"DrawingVault", "needPower", "()V"⟩, 9), (⟨"java/lang/Throwable", "fillInStackTrace", "(I)Ljava/lang/Throwable;"⟩, 6), (⟨"DrawingVault", "mayWrite", "(II)Z"⟩, 9), (⟨"DrawingVault", "allowed", "(I)Z"⟩, 9), (⟨"DrawingVault", "finish", "(I)V"⟩, 9), (⟨"DrawingVault", "pagesOfTheSame", "()I"⟩, 9), (⟨"DrawingVault", "drawingRefusal", "(I)I"⟩, 9), (⟨"DrawingVault", "hasRight", "(II)Z"⟩, 9)]
theorem lw_r1 : ∀ q ∈ lw_privs_1, lw_okq q := List.forall_mem_cons.mpr ⟨lw_p0, List.forall_mem_cons.mpr ⟨lw_p1, List.forall_mem_cons.mpr ⟨lw_p2, List.forall_mem_cons.mpr ⟨lw_p3, List.forall_mem_cons.mpr ⟨lw_p4, List.forall_mem_cons.mpr ⟨lw_p5, List.forall_mem_cons.mpr ⟨lw_p6, List.forall_mem_cons.mpr ⟨lw_p7, List.forall_mem_cons.mpr ⟨lw_p8, List.forall_mem_cons.mpr ⟨lw_p9, List.forall_mem_cons.mpr ⟨lw_p10, List.forall_mem_cons.mpr ⟨lw_p11, List.forall_mem_cons.mpr ⟨lw_p12, List.forall_mem_cons.mpr ⟨lw_p13, List.forall_mem_cons.mpr ⟨lw_p14, List.forall_mem_cons.mpr ⟨lw_p15, fun _ h => absurd h List.not_mem_nil⟩⟩⟩⟩⟩⟩⟩⟩⟩⟩⟩⟩⟩⟩⟩⟩
theorem lw_p16 : lw_okq (⟨"DrawingVault", "outRefusal", "(LDrawingVault$Drawing;I)I"⟩, 9) := ⟨⟨by decide +kernel, by decide +kernel⟩, List.mem_of_getElem? (i := 18) (by decide +kernel), List.mem_of_getElem? (i := 454) (by decide +kernel), List.mem_of_getElem? (i := 455) (by decide +kernel)⟩
theorem lw_p17 : lw_okq (⟨"DrawingVault", "copyRefusal", "(LDrawingVault$Drawing;I)I"⟩, 9) := ⟨⟨by decide +kernel, by decide +kernel⟩, List.mem_of_getElem? (i := 18) (by decide +kernel), List.mem_of_getElem? (i := 469) (by decide +kernel), List.mem_of_getElem? (i := 470) (by decide +kernel)⟩
theorem lw_p18 : lw_okq (⟨"DrawingVault", "refRefusal", "(LDrawingVault$Content;III)I"⟩, 9) := ⟨⟨by decide +kernel, by decide +kernel⟩, List.mem_of_getElem? (i := 18) (by decide +kernel), List.mem_of_getElem? (i := 523) (by decide +kernel), List.mem_of_getElem? (i := 524) (by decide +kernel)⟩
theorem lw_p19 : lw_okq (⟨"DrawingVault", "checkInRefusal", "(ILDrawingVault$Drawing;)I"⟩, 9) := ⟨⟨by decide +kernel, by decide +kernel⟩, List.mem_of_getElem? (i := 18) (by decide +kernel), List.mem_of_getElem? (i := 553) (by decide +kernel), List.mem_of_getElem? (i := 554) (by decide +kernel)⟩
theorem lw_p20 : lw_okq (⟨"DrawingVault", "fixedOnesAreThere", "(LDrawingVault$Content;)Z"⟩, 9) := ⟨⟨by decide +kernel, by decide +kernel⟩, List.mem_of_getElem? (i := 18) (by decide +kernel), List.mem_of_getElem? (i := 558) (by decide +kernel), List.mem_of_getElem? (i := 559) (by decide +kernel)⟩
theorem lw_p21 : lw_okq (⟨"DrawingVault", "revisionAt", "(II)LDrawingVault$Revision;"⟩, 9) := ⟨⟨by decide +kernel, by decide +kernel⟩, List.mem_of_getElem? (i := 18) (by decide +kernel), List.mem_of_getElem? (i := 562) (by decide +kernel), List.mem_of_getElem? (i := 563) (by decide +kernel)⟩
theorem lw_p22 : lw_okq (⟨"DrawingVault", "checkRefusal", "(III)I"⟩, 9) := ⟨⟨by decide +kernel, by decide +kernel⟩, List.mem_of_getElem? (i := 18) (by decide +kernel), List.mem_of_getElem? (i := 581) (by decide +kernel), List.mem_of_getElem? (i := 582) (by decide +kernel)⟩
theorem lw_p23 : lw_okq (⟨"DrawingVault", "becomes", "(IIII)Z"⟩, 9) := ⟨⟨by decide +kernel, by decide +kernel⟩, List.mem_of_getElem? (i := 18) (by decide +kernel), List.mem_of_getElem? (i := 585) (by decide +kernel), List.mem_of_getElem? (i := 586) (by decide +kernel)⟩
theorem lw_p24 : lw_okq (⟨"DrawingVault", "releaseRefusal", "(III)I"⟩, 9) := ⟨⟨by decide +kernel, by decide +kernel⟩, List.mem_of_getElem? (i := 18) (by decide +kernel), List.mem_of_getElem? (i := 596) (by decide +kernel), List.mem_of_getElem? (i := 597) (by decide +kernel)⟩
theorem lw_p25 : lw_okq (⟨"DrawingVault", "allResolveToReleased", "(LDrawingVault$Content;)Z"⟩, 9) := ⟨⟨by decide +kernel, by decide +kernel⟩, List.mem_of_getElem? (i := 18) (by decide +kernel), List.mem_of_getElem? (i := 600) (by decide +kernel), List.mem_of_getElem? (i := 601) (by decide +kernel)⟩
theorem lw_p26 : lw_okq (⟨"DrawingVault", "resolved", "(II)I"⟩, 9) := ⟨⟨by decide +kernel, by decide +kernel⟩, List.mem_of_getElem? (i := 18) (by decide +kernel), List.mem_of_getElem? (i := 604) (by decide +kernel), List.mem_of_getElem? (i := 605) (by decide +kernel)⟩
theorem lw_p27 : lw_okq (⟨"DrawingVault", "isReleased", "(II)Z"⟩, 9) := ⟨⟨by decide +kernel, by decide +kernel⟩, List.mem_of_getElem? (i := 18) (by decide +kernel), List.mem_of_getElem? (i := 612) (by decide +kernel), List.mem_of_getElem? (i := 613) (by decide +kernel)⟩
theorem lw_p28 : lw_okq (⟨"DrawingVault", "withdrawRefusal", "(III)I"⟩, 9) := ⟨⟨by decide +kernel, by decide +kernel⟩, List.mem_of_getElem? (i := 18) (by decide +kernel), List.mem_of_getElem? (i := 623) (by decide +kernel), List.mem_of_getElem? (i := 624) (by decide +kernel)⟩
theorem lw_p29 : lw_okq (⟨"DrawingVault", "isInABaseline", "(II)Z"⟩, 9) := ⟨⟨by decide +kernel, by decide +kernel⟩, List.mem_of_getElem? (i := 18) (by decide +kernel), List.mem_of_getElem? (i := 627) (by decide +kernel), List.mem_of_getElem? (i := 628) (by decide +kernel)⟩
theorem lw_p30 : lw_okq (⟨"DrawingVault", "isFixedByAReleasedOne", "(II)Z"⟩, 9) := ⟨⟨by decide +kernel, by decide +kernel⟩, List.mem_of_getElem? (i := 18) (by decide +kernel), List.mem_of_getElem? (i := 631) (by decide +kernel), List.mem_of_getElem? (i := 632) (by decide +kernel)⟩
theorem lw_p31 : lw_okq (⟨"DrawingVault", "baselineRefusal", "(II)I"⟩, 9) := ⟨⟨by decide +kernel, by decide +kernel⟩, List.mem_of_getElem? (i := 18) (by decide +kernel), List.mem_of_getElem? (i := 646) (by decide +kernel), List.mem_of_getElem? (i := 647) (by decide +kernel)⟩
def lw_privs_2 : List (MethodName × Nat) := [(⟨"DrawingVault", "outRefusal", "(LDrawingVault$Drawing;I)I"⟩, 9), (⟨"DrawingVault", "copyRefusal", "(LDrawingVault$Drawing;I)I"⟩, 9), (⟨"DrawingVault", "refRefusal", "(LDrawingVault$Content;III)I"⟩, 9), (⟨"DrawingVault", "checkInRefusal", "(ILDrawingVault$Drawing;)I"⟩, 9), (⟨"DrawingVault", "fixedOnesAreThere", "(LDrawingVault$Content;)Z"⟩, 9), (⟨"DrawingVault", "revisionAt", "(II)LDrawingVault$Revision;"⟩, 9), (⟨"DrawingVault", "checkRefusal", "(III)I"⟩, 9), (⟨"DrawingVault", "becomes", "(IIII)Z"⟩, 9), (⟨"DrawingVault", "releaseRefusal", "(III)I"⟩, 9), (⟨"DrawingVault", "allResolveToReleased", "(LDrawingVault$Content;)Z"⟩, 9), (⟨"DrawingVault", "resolved", "(II)I"⟩, 9), (⟨"DrawingVault", "isReleased", "(II)Z"⟩, 9), (⟨"DrawingVault", "withdrawRefusal", "(III)I"⟩, 9), (⟨"DrawingVault", "isInABaseline", "(II)Z"⟩, 9), (⟨"DrawingVault", "isFixedByAReleasedOne", "(II)Z"⟩, 9), (⟨"DrawingVault", "baselineRefusal", "(II)I"⟩, 9)]
theorem lw_r2 : ∀ q ∈ lw_privs_2, lw_okq q := List.forall_mem_cons.mpr ⟨lw_p16, List.forall_mem_cons.mpr ⟨lw_p17, List.forall_mem_cons.mpr ⟨lw_p18, List.forall_mem_cons.mpr ⟨lw_p19, List.forall_mem_cons.mpr ⟨lw_p20, List.forall_mem_cons.mpr ⟨lw_p21, List.forall_mem_cons.mpr ⟨lw_p22, List.forall_mem_cons.mpr ⟨lw_p23, List.forall_mem_cons.mpr ⟨lw_p24, List.forall_mem_cons.mpr ⟨lw_p25, List.forall_mem_cons.mpr ⟨lw_p26, List.forall_mem_cons.mpr ⟨lw_p27, List.forall_mem_cons.mpr ⟨lw_p28, List.forall_mem_cons.mpr ⟨lw_p29, List.forall_mem_cons.mpr ⟨lw_p30, List.forall_mem_cons.mpr ⟨lw_p31, fun _ h => absurd h List.not_mem_nil⟩⟩⟩⟩⟩⟩⟩⟩⟩⟩⟩⟩⟩⟩⟩⟩
theorem lw_p32 : lw_okq (⟨"DrawingVault", "baselineAt", "(I)LDrawingVault$Baseline;"⟩, 9) := ⟨⟨by decide +kernel, by decide +kernel⟩, List.mem_of_getElem? (i := 18) (by decide +kernel), List.mem_of_getElem? (i := 654) (by decide +kernel), List.mem_of_getElem? (i := 655) (by decide +kernel)⟩
theorem lw_p33 : lw_okq (⟨"DrawingVault", "fillDraft", "(II)I"⟩, 9) := ⟨⟨by decide +kernel, by decide +kernel⟩, List.mem_of_getElem? (i := 18) (by decide +kernel), List.mem_of_getElem? (i := 658) (by decide +kernel), List.mem_of_getElem? (i := 659) (by decide +kernel)⟩
theorem lw_p34 : lw_okq (⟨"DrawingVault", "follow", "(LDrawingVault$Revision;)I"⟩, 9) := ⟨⟨by decide +kernel, by decide +kernel⟩, List.mem_of_getElem? (i := 18) (by decide +kernel), List.mem_of_getElem? (i := 666) (by decide +kernel), List.mem_of_getElem? (i := 667) (by decide +kernel)⟩
theorem lw_p35 : lw_okq (⟨"DrawingVaultModel", "keep", "()V"⟩, 11) := ⟨⟨by decide +kernel, by decide +kernel⟩, List.mem_of_getElem? (i := 741) (by decide +kernel), List.mem_of_getElem? (i := 747) (by decide +kernel), List.mem_of_getElem? (i := 748) (by decide +kernel)⟩
theorem lw_p36 : lw_okq (⟨"DrawingVaultModel", "isPerson", "(I)Z"⟩, 11) := ⟨⟨by decide +kernel, by decide +kernel⟩, List.mem_of_getElem? (i := 741) (by decide +kernel), List.mem_of_getElem? (i := 794) (by decide +kernel), List.mem_of_getElem? (i := 795) (by decide +kernel)⟩
theorem lw_p37 : lw_okq (⟨"DrawingVaultModel", "may", "(II)Z"⟩, 11) := ⟨⟨by decide +kernel, by decide +kernel⟩, List.mem_of_getElem? (i := 741) (by decide +kernel), List.mem_of_getElem? (i := 798) (by decide +kernel), List.mem_of_getElem? (i := 799) (by decide +kernel)⟩
theorem lw_p38 : lw_okq (⟨"DrawingVaultModel", "close", "()V"⟩, 11) := ⟨⟨by decide +kernel, by decide +kernel⟩, List.mem_of_getElem? (i := 741) (by decide +kernel), List.mem_of_getElem? (i := 802) (by decide +kernel), List.mem_of_getElem? (i := 803) (by decide +kernel)⟩
theorem lw_p39 : lw_okq (⟨"DrawingVaultModel", "needed", "()I"⟩, 11) := ⟨⟨by decide +kernel, by decide +kernel⟩, List.mem_of_getElem? (i := 741) (by decide +kernel), List.mem_of_getElem? (i := 806) (by decide +kernel), List.mem_of_getElem? (i := 807) (by decide +kernel)⟩
theorem lw_p40 : lw_okq (⟨"DrawingVaultModel", "allRevisions", "()I"⟩, 11) := ⟨⟨by decide +kernel, by decide +kernel⟩, List.mem_of_getElem? (i := 741) (by decide +kernel), List.mem_of_getElem? (i := 810) (by decide +kernel), List.mem_of_getElem? (i := 811) (by decide +kernel)⟩
theorem lw_p41 : lw_okq (⟨"DrawingVaultModel", "made", "(I)I"⟩, 11) := ⟨⟨by decide +kernel, by decide +kernel⟩, List.mem_of_getElem? (i := 741) (by decide +kernel), List.mem_of_getElem? (i := 814) (by decide +kernel), List.mem_of_getElem? (i := 815) (by decide +kernel)⟩
theorem lw_p42 : lw_okq (⟨"DrawingVaultModel", "drawingAt", "(I)I"⟩, 11) := ⟨⟨by decide +kernel, by decide +kernel⟩, List.mem_of_getElem? (i := 741) (by decide +kernel), List.mem_of_getElem? (i := 818) (by decide +kernel), List.mem_of_getElem? (i := 819) (by decide +kernel)⟩
theorem lw_p43 : lw_okq (⟨"DrawingVaultModel", "chunks", "(I)I"⟩, 11) := ⟨⟨by decide +kernel, by decide +kernel⟩, List.mem_of_getElem? (i := 741) (by decide +kernel), List.mem_of_getElem? (i := 822) (by decide +kernel), List.mem_of_getElem? (i := 823) (by decide +kernel)⟩
theorem lw_p44 : lw_okq (⟨"DrawingVaultModel", "contentAt", "(I)I"⟩, 11) := ⟨⟨by decide +kernel, by decide +kernel⟩, List.mem_of_getElem? (i := 741) (by decide +kernel), List.mem_of_getElem? (i := 826) (by decide +kernel), List.mem_of_getElem? (i := 827) (by decide +kernel)⟩
theorem lw_p45 : lw_okq (⟨"DrawingVaultModel", "isDrawing", "(I)Z"⟩, 11) := ⟨⟨by decide +kernel, by decide +kernel⟩, List.mem_of_getElem? (i := 741) (by decide +kernel), List.mem_of_getElem? (i := 830) (by decide +kernel), List.mem_of_getElem? (i := 831) (by decide +kernel)⟩
theorem lw_p46 : lw_okq (⟨"DrawingVaultModel", "with", "(I)I"⟩, 11) := ⟨⟨by decide +kernel, by decide +kernel⟩, List.mem_of_getElem? (i := 741) (by decide +kernel), List.mem_of_getElem? (i := 834) (by decide +kernel), List.mem_of_getElem? (i := 835) (by decide +kernel)⟩
theorem lw_p47 : lw_okq (⟨"DrawingVaultModel", "isRevision", "(II)Z"⟩, 11) := ⟨⟨by decide +kernel, by decide +kernel⟩, List.mem_of_getElem? (i := 741) (by decide +kernel), List.mem_of_getElem? (i := 838) (by decide +kernel), List.mem_of_getElem? (i := 839) (by decide +kernel)⟩
def lw_privs_3 : List (MethodName × Nat) := [(⟨"DrawingVault", "baselineAt", "(I)LDrawingVault$Baseline;"⟩, 9), (⟨"DrawingVault", "fillDraft", "(II)I"⟩, 9), (⟨"DrawingVault", "follow", "(LDrawingVault$Revision;)I"⟩, 9), (⟨"DrawingVaultModel", "keep", "()V"⟩, 11), (⟨"DrawingVaultModel", "isPerson", "(I)Z"⟩, 11), (⟨"DrawingVaultModel", "may", "(II)Z"⟩, 11), (⟨"DrawingVaultModel", "close", "()V"⟩, 11), (⟨"DrawingVaultModel", "needed", "()I"⟩, 11), (⟨"DrawingVaultModel", "allRevisions", "()I"⟩, 11), (⟨"DrawingVaultModel", "made", "(I)I"⟩, 11), (⟨"DrawingVaultModel", "drawingAt", "(I)I"⟩, 11), (⟨"DrawingVaultModel", "chunks", "(I)I"⟩, 11), (⟨"DrawingVaultModel", "contentAt", "(I)I"⟩, 11), (⟨"DrawingVaultModel", "isDrawing", "(I)Z"⟩, 11), (⟨"DrawingVaultModel", "with", "(I)I"⟩, 11), (⟨"DrawingVaultModel", "isRevision", "(II)Z"⟩, 11)]
theorem lw_r3 : ∀ q ∈ lw_privs_3, lw_okq q := List.forall_mem_cons.mpr ⟨lw_p32, List.forall_mem_cons.mpr ⟨lw_p33, List.forall_mem_cons.mpr ⟨lw_p34, List.forall_mem_cons.mpr ⟨lw_p35, List.forall_mem_cons.mpr ⟨lw_p36, List.forall_mem_cons.mpr ⟨lw_p37, List.forall_mem_cons.mpr ⟨lw_p38, List.forall_mem_cons.mpr ⟨lw_p39, List.forall_mem_cons.mpr ⟨lw_p40, List.forall_mem_cons.mpr ⟨lw_p41, List.forall_mem_cons.mpr ⟨lw_p42, List.forall_mem_cons.mpr ⟨lw_p43, List.forall_mem_cons.mpr ⟨lw_p44, List.forall_mem_cons.mpr ⟨lw_p45, List.forall_mem_cons.mpr ⟨lw_p46, List.forall_mem_cons.mpr ⟨lw_p47, fun _ h => absurd h List.not_mem_nil⟩⟩⟩⟩⟩⟩⟩⟩⟩⟩⟩⟩⟩⟩⟩⟩
theorem lw_p48 : lw_okq (⟨"DrawingVaultModel", "revisionAt", "(II)I"⟩, 11) := ⟨⟨by decide +kernel, by decide +kernel⟩, List.mem_of_getElem? (i := 741) (by decide +kernel), List.mem_of_getElem? (i := 842) (by decide +kernel), List.mem_of_getElem? (i := 843) (by decide +kernel)⟩
theorem lw_p49 : lw_okq (⟨"DrawingVaultModel", "stands", "(IIII)Z"⟩, 11) := ⟨⟨by decide +kernel, by decide +kernel⟩, List.mem_of_getElem? (i := 741) (by decide +kernel), List.mem_of_getElem? (i := 849) (by decide +kernel), List.mem_of_getElem? (i := 850) (by decide +kernel)⟩
theorem lw_p50 : lw_okq (⟨"DrawingVaultModel", "isSame", "(IIII)Z"⟩, 11) := ⟨⟨by decide +kernel, by decide +kernel⟩, List.mem_of_getElem? (i := 741) (by decide +kernel), List.mem_of_getElem? (i := 853) (by decide +kernel), List.mem_of_getElem? (i := 854) (by decide +kernel)⟩
theorem lw_p51 : lw_okq (⟨"DrawingVaultModel", "pieceLength", "(II)I"⟩, 11) := ⟨⟨by decide +kernel, by decide +kernel⟩, List.mem_of_getElem? (i := 741) (by decide +kernel), List.mem_of_getElem? (i := 857) (by decide +kernel), List.mem_of_getElem? (i := 858) (by decide +kernel)⟩
theorem lw_p52 : lw_okq (⟨"DrawingVaultModel", "baselineAt", "(I)I"⟩, 11) := ⟨⟨by decide +kernel, by decide +kernel⟩, List.mem_of_getElem? (i := 741) (by decide +kernel), List.mem_of_getElem? (i := 861) (by decide +kernel), List.mem_of_getElem? (i := 862) (by decide +kernel)⟩
theorem lw_p53 : lw_okq (⟨"DrawingVaultModel", "rights", "(I)I"⟩, 11) := ⟨⟨by decide +kernel, by decide +kernel⟩, List.mem_of_getElem? (i := 741) (by decide +kernel), List.mem_of_getElem? (i := 869) (by decide +kernel), List.mem_of_getElem? (i := 870) (by decide +kernel)⟩
theorem lw_p54 : lw_okq (⟨"DrawingVaultModel", "blank", "(I)V"⟩, 11) := ⟨⟨by decide +kernel, by decide +kernel⟩, List.mem_of_getElem? (i := 741) (by decide +kernel), List.mem_of_getElem? (i := 876) (by decide +kernel), List.mem_of_getElem? (i := 877) (by decide +kernel)⟩
theorem lw_p55 : lw_okq (⟨"DrawingVaultModel", "copy", "(II)V"⟩, 11) := ⟨⟨by decide +kernel, by decide +kernel⟩, List.mem_of_getElem? (i := 741) (by decide +kernel), List.mem_of_getElem? (i := 884) (by decide +kernel), List.mem_of_getElem? (i := 885) (by decide +kernel)⟩
theorem lw_p56 : lw_okq (⟨"DrawingVaultModel", "whyNot", "(II)I"⟩, 11) := ⟨⟨by decide +kernel, by decide +kernel⟩, List.mem_of_getElem? (i := 741) (by decide +kernel), List.mem_of_getElem? (i := 892) (by decide +kernel), List.mem_of_getElem? (i := 893) (by decide +kernel)⟩
theorem lw_p57 : lw_okq (⟨"DrawingVaultModel", "mayHere", "(I)Z"⟩, 11) := ⟨⟨by decide +kernel, by decide +kernel⟩, List.mem_of_getElem? (i := 741) (by decide +kernel), List.mem_of_getElem? (i := 900) (by decide +kernel), List.mem_of_getElem? (i := 901) (by decide +kernel)⟩
theorem lw_p58 : lw_okq (⟨"DrawingVaultModel", "loops", "(I)Z"⟩, 11) := ⟨⟨by decide +kernel, by decide +kernel⟩, List.mem_of_getElem? (i := 741) (by decide +kernel), List.mem_of_getElem? (i := 920) (by decide +kernel), List.mem_of_getElem? (i := 921) (by decide +kernel)⟩
theorem lw_p59 : lw_okq (⟨"DrawingVaultModel", "markUsers", "(I)V"⟩, 11) := ⟨⟨by decide +kernel, by decide +kernel⟩, List.mem_of_getElem? (i := 741) (by decide +kernel), List.mem_of_getElem? (i := 924) (by decide +kernel), List.mem_of_getElem? (i := 925) (by decide +kernel)⟩
theorem lw_p60 : lw_okq (⟨"DrawingVaultModel", "uses", "(II)Z"⟩, 11) := ⟨⟨by decide +kernel, by decide +kernel⟩, List.mem_of_getElem? (i := 741) (by decide +kernel), List.mem_of_getElem? (i := 928) (by decide +kernel), List.mem_of_getElem? (i := 929) (by decide +kernel)⟩
theorem lw_p61 : lw_okq (⟨"DrawingVaultModel", "refersTo", "(II)Z"⟩, 11) := ⟨⟨by decide +kernel, by decide +kernel⟩, List.mem_of_getElem? (i := 741) (by decide +kernel), List.mem_of_getElem? (i := 932) (by decide +kernel), List.mem_of_getElem? (i := 933) (by decide +kernel)⟩
theorem lw_p62 : lw_okq (⟨"DrawingVaultModel", "refDrawing", "(II)I"⟩, 11) := ⟨⟨by decide +kernel, by decide +kernel⟩, List.mem_of_getElem? (i := 741) (by decide +kernel), List.mem_of_getElem? (i := 936) (by decide +kernel), List.mem_of_getElem? (i := 937) (by decide +kernel)⟩
theorem lw_p63 : lw_okq (⟨"DrawingVaultModel", "lacksRevision", "(I)Z"⟩, 11) := ⟨⟨by decide +kernel, by decide +kernel⟩, List.mem_of_getElem? (i := 741) (by decide +kernel), List.mem_of_getElem? (i := 940) (by decide +kernel), List.mem_of_getElem? (i := 941) (by decide +kernel)⟩
def lw_privs_4 : List (MethodName × Nat) := [(⟨"DrawingVaultModel", "revisionAt", "(II)I"⟩, 11), (⟨"DrawingVaultModel", "stands", "(IIII)Z"⟩, 11), (⟨"DrawingVaultModel", "isSame", "(IIII)Z"⟩, 11), (⟨"DrawingVaultModel", "pieceLength", "(II)I"⟩, 11), (⟨"DrawingVaultModel", "baselineAt", "(I)I"⟩, 11), (⟨"DrawingVaultModel", "rights", "(I)I"⟩, 11), (⟨"DrawingVaultModel", "blank", "(I)V"⟩, 11), (⟨"DrawingVaultModel", "copy", "(II)V"⟩, 11), (⟨"DrawingVaultModel", "whyNot", "(II)I"⟩, 11), (⟨"DrawingVaultModel", "mayHere", "(I)Z"⟩, 11), (⟨"DrawingVaultModel", "loops", "(I)Z"⟩, 11), (⟨"DrawingVaultModel", "markUsers", "(I)V"⟩, 11), (⟨"DrawingVaultModel", "uses", "(II)Z"⟩, 11), (⟨"DrawingVaultModel", "refersTo", "(II)Z"⟩, 11), (⟨"DrawingVaultModel", "refDrawing", "(II)I"⟩, 11), (⟨"DrawingVaultModel", "lacksRevision", "(I)Z"⟩, 11)]
theorem lw_r4 : ∀ q ∈ lw_privs_4, lw_okq q := List.forall_mem_cons.mpr ⟨lw_p48, List.forall_mem_cons.mpr ⟨lw_p49, List.forall_mem_cons.mpr ⟨lw_p50, List.forall_mem_cons.mpr ⟨lw_p51, List.forall_mem_cons.mpr ⟨lw_p52, List.forall_mem_cons.mpr ⟨lw_p53, List.forall_mem_cons.mpr ⟨lw_p54, List.forall_mem_cons.mpr ⟨lw_p55, List.forall_mem_cons.mpr ⟨lw_p56, List.forall_mem_cons.mpr ⟨lw_p57, List.forall_mem_cons.mpr ⟨lw_p58, List.forall_mem_cons.mpr ⟨lw_p59, List.forall_mem_cons.mpr ⟨lw_p60, List.forall_mem_cons.mpr ⟨lw_p61, List.forall_mem_cons.mpr ⟨lw_p62, List.forall_mem_cons.mpr ⟨lw_p63, fun _ h => absurd h List.not_mem_nil⟩⟩⟩⟩⟩⟩⟩⟩⟩⟩⟩⟩⟩⟩⟩⟩
theorem lw_p64 : lw_okq (⟨"DrawingVaultModel", "refRevision", "(II)I"⟩, 11) := ⟨⟨by decide +kernel, by decide +kernel⟩, List.mem_of_getElem? (i := 741) (by decide +kernel), List.mem_of_getElem? (i := 944) (by decide +kernel), List.mem_of_getElem? (i := 945) (by decide +kernel)⟩
theorem lw_p65 : lw_okq (⟨"DrawingVaultModel", "ownChunks", "(I)I"⟩, 11) := ⟨⟨by decide +kernel, by decide +kernel⟩, List.mem_of_getElem? (i := 741) (by decide +kernel), List.mem_of_getElem? (i := 948) (by decide +kernel), List.mem_of_getElem? (i := 949) (by decide +kernel)⟩
theorem lw_p66 : lw_okq (⟨"DrawingVaultModel", "whyNotRevision", "(IIII)I"⟩, 11) := ⟨⟨by decide +kernel, by decide +kernel⟩, List.mem_of_getElem? (i := 741) (by decide +kernel), List.mem_of_getElem? (i := 956) (by decide +kernel), List.mem_of_getElem? (i := 957) (by decide +kernel)⟩
theorem lw_p67 : lw_okq (⟨"DrawingVaultModel", "stateOf", "(II)I"⟩, 11) := ⟨⟨by decide +kernel, by decide +kernel⟩, List.mem_of_getElem? (i := 741) (by decide +kernel), List.mem_of_getElem? (i := 960) (by decide +kernel), List.mem_of_getElem? (i := 961) (by decide +kernel)⟩
theorem lw_p68 : lw_okq (⟨"DrawingVaultModel", "lacksReleased", "(I)Z"⟩, 11) := ⟨⟨by decide +kernel, by decide +kernel⟩, List.mem_of_getElem? (i := 741) (by decide +kernel), List.mem_of_getElem? (i := 968) (by decide +kernel), List.mem_of_getElem? (i := 969) (by decide +kernel)⟩
theorem lw_p69 : lw_okq (⟨"DrawingVaultModel", "isReleased", "(II)Z"⟩, 11) := ⟨⟨by decide +kernel, by decide +kernel⟩, List.mem_of_getElem? (i := 741) (by decide +kernel), List.mem_of_getElem? (i := 972) (by decide +kernel), List.mem_of_getElem? (i := 973) (by decide +kernel)⟩
theorem lw_p70 : lw_okq (⟨"DrawingVaultModel", "resolved", "(II)I"⟩, 11) := ⟨⟨by decide +kernel, by decide +kernel⟩, List.mem_of_getElem? (i := 741) (by decide +kernel), List.mem_of_getElem? (i := 976) (by decide +kernel), List.mem_of_getElem? (i := 977) (by decide +kernel)⟩
theorem lw_p71 : lw_okq (⟨"DrawingVaultModel", "released", "(I)I"⟩, 11) := ⟨⟨by decide +kernel, by decide +kernel⟩, List.mem_of_getElem? (i := 741) (by decide +kernel), List.mem_of_getElem? (i := 980) (by decide +kernel), List.mem_of_getElem? (i := 981) (by decide +kernel)⟩
theorem lw_p72 : lw_okq (⟨"DrawingVaultModel", "isInUse", "(II)Z"⟩, 11) := ⟨⟨by decide +kernel, by decide +kernel⟩, List.mem_of_getElem? (i := 741) (by decide +kernel), List.mem_of_getElem? (i := 988) (by decide +kernel), List.mem_of_getElem? (i := 989) (by decide +kernel)⟩
theorem lw_p73 : lw_okq (⟨"DrawingVaultModel", "reach", "(I)V"⟩, 11) := ⟨⟨by decide +kernel, by decide +kernel⟩, List.mem_of_getElem? (i := 741) (by decide +kernel), List.mem_of_getElem? (i := 996) (by decide +kernel), List.mem_of_getElem? (i := 997) (by decide +kernel)⟩
theorem lw_p74 : lw_okq (⟨"DrawingVaultModel", "spread", "(I)Z"⟩, 11) := ⟨⟨by decide +kernel, by decide +kernel⟩, List.mem_of_getElem? (i := 741) (by decide +kernel), List.mem_of_getElem? (i := 1000) (by decide +kernel), List.mem_of_getElem? (i := 1001) (by decide +kernel)⟩
def lw_privs_5 : List (MethodName × Nat) := [(⟨"DrawingVaultModel", "refRevision", "(II)I"⟩, 11), (⟨"DrawingVaultModel", "ownChunks", "(I)I"⟩, 11), (⟨"DrawingVaultModel", "whyNotRevision", "(IIII)I"⟩, 11), (⟨"DrawingVaultModel", "stateOf", "(II)I"⟩, 11), (⟨"DrawingVaultModel", "lacksReleased", "(I)Z"⟩, 11), (⟨"DrawingVaultModel", "isReleased", "(II)Z"⟩, 11), (⟨"DrawingVaultModel", "resolved", "(II)I"⟩, 11), (⟨"DrawingVaultModel", "released", "(I)I"⟩, 11), (⟨"DrawingVaultModel", "isInUse", "(II)Z"⟩, 11), (⟨"DrawingVaultModel", "reach", "(I)V"⟩, 11), (⟨"DrawingVaultModel", "spread", "(I)Z"⟩, 11)]
theorem lw_r5 : ∀ q ∈ lw_privs_5, lw_okq q := List.forall_mem_cons.mpr ⟨lw_p64, List.forall_mem_cons.mpr ⟨lw_p65, List.forall_mem_cons.mpr ⟨lw_p66, List.forall_mem_cons.mpr ⟨lw_p67, List.forall_mem_cons.mpr ⟨lw_p68, List.forall_mem_cons.mpr ⟨lw_p69, List.forall_mem_cons.mpr ⟨lw_p70, List.forall_mem_cons.mpr ⟨lw_p71, List.forall_mem_cons.mpr ⟨lw_p72, List.forall_mem_cons.mpr ⟨lw_p73, List.forall_mem_cons.mpr ⟨lw_p74, fun _ h => absurd h List.not_mem_nil⟩⟩⟩⟩⟩⟩⟩⟩⟩⟩⟩
def lw_privs : List (MethodName × Nat) := lw_privs_1 ++ (lw_privs_2 ++ (lw_privs_3 ++ (lw_privs_4 ++ (lw_privs_5))))
def lw_tbl : List Cond := k2_sels lw_privs ++ tables_1
theorem lw_privs_ok : ∀ q ∈ lw_privs, lw_okq q := by
  show ∀ q ∈ lw_privs_1 ++ (lw_privs_2 ++ (lw_privs_3 ++ (lw_privs_4 ++ (lw_privs_5)))), lw_okq q
  exact List.forall_mem_append.mpr ⟨lw_r1, List.forall_mem_append.mpr ⟨lw_r2, List.forall_mem_append.mpr ⟨lw_r3, List.forall_mem_append.mpr ⟨lw_r4, lw_r5⟩⟩⟩⟩
end
section
abbrev RV : String := "DrawingVault"
abbrev RB : String := "DrawingVault$Baseline"
abbrev RK : String := "DrawingVault$ChunkSet"
abbrev RC : String := "DrawingVault$Content"
abbrev RD : String := "DrawingVault$Drawing"
abbrev RP : String := "DrawingVault$Pages"
abbrev RS : String := "DrawingVault$Revision"
abbrev RM : String := "DrawingVaultModel"
abbrev RL : String := "DrawingVaultLaw"
abbrev RA : String := "java/util/Arrays"
def TV : u_T := fun k => match k with
  | 0 => ("DrawingVault", "rightsOf", "[I", true)
  | 1 => ("DrawingVault", "drawings", "[LDrawingVault$Drawing;", true)
  | 2 => ("DrawingVault", "drawingCount", "I", false)
  | 3 => ("DrawingVault", "revisionCount", "I", false)
  | 4 => ("DrawingVault", "baselines", "[LDrawingVault$Baseline;", true)
  | 5 => ("DrawingVault", "draft", "LDrawingVault$Baseline;", false)
  | 6 => ("DrawingVault", "chunks", "LDrawingVault$ChunkSet;", true)
  | 7 => ("DrawingVault", "pages", "LDrawingVault$Pages;", true)
  | _ => ("DrawingVault", "reason", "I", false)
def tyV : Nat → FieldType := fun k => match k with
  | 0 => (.array .int)
  | 1 => (.array (.object "DrawingVault$Drawing"))
  | 2 => .int
  | 3 => .int
  | 4 => (.array (.object "DrawingVault$Baseline"))
  | 5 => (.object "DrawingVault$Baseline")
  | 6 => (.object "DrawingVault$ChunkSet")
  | 7 => (.object "DrawingVault$Pages")
  | _ => .int
theorem nmV : ∀ a, a < 9 → ∀ b, b < 9 → a ≠ b → (TV a).2.1 ≠ (TV b).2.1 := by decide +kernel
theorem tyV_ok : ∀ k, k < 9 → parseFieldDescriptor (TV k).2.2.1 = some (tyV k) := by decide +kernel
def TB : u_T := fun k => match k with
  | 0 => ("DrawingVault$Baseline", "revisionOf", "[I", true)
  | 1 => ("DrawingVault$Baseline", "order", "[I", true)
  | _ => ("DrawingVault$Baseline", "size", "I", false)
def tyB : Nat → FieldType := fun k => match k with
  | 0 => (.array .int)
  | 1 => (.array .int)
  | _ => .int
theorem nmB : ∀ a, a < 3 → ∀ b, b < 3 → a ≠ b → (TB a).2.1 ≠ (TB b).2.1 := by decide +kernel
theorem tyB_ok : ∀ k, k < 3 → parseFieldDescriptor (TB k).2.2.1 = some (tyB k) := by decide +kernel
def TK : u_T := fun k => match k with
  | 0 => ("DrawingVault$ChunkSet", "pieces", "[J", true)
  | 1 => ("DrawingVault$ChunkSet", "lengths", "[B", true)
  | _ => ("DrawingVault$ChunkSet", "size", "I", false)
def tyK : Nat → FieldType := fun k => match k with
  | 0 => (.array .long)
  | 1 => (.array .byte)
  | _ => .int
theorem nmK : ∀ a, a < 3 → ∀ b, b < 3 → a ≠ b → (TK a).2.1 ≠ (TK b).2.1 := by decide +kernel
theorem tyK_ok : ∀ k, k < 3 → parseFieldDescriptor (TK k).2.2.1 = some (tyK k) := by decide +kernel
def TP : u_T := fun k => match k with
  | 0 => ("DrawingVault$Pages", "free", "I", false)
  | 1 => ("DrawingVault$Pages", "commands", "I", false)
  | 2 => ("DrawingVault$Pages", "copiedForward", "I", false)
  | 3 => ("DrawingVault$Pages", "failed", "Z", false)
  | 4 => ("DrawingVault$Pages", "failureAhead", "Z", false)
  | _ => ("DrawingVault$Pages", "beforeFailure", "I", false)
def tyP : Nat → FieldType := fun k => match k with
  | 0 => .int
  | 1 => .int
  | 2 => .int
  | 3 => .boolean
  | 4 => .boolean
  | _ => .int
theorem nmP : ∀ a, a < 6 → ∀ b, b < 6 → a ≠ b → (TP a).2.1 ≠ (TP b).2.1 := by decide +kernel
theorem tyP_ok : ∀ k, k < 6 → parseFieldDescriptor (TP k).2.2.1 = some (tyP k) := by decide +kernel
def TM : u_T := fun k => match k with
  | 0 => ("DrawingVaultModel", "thrown", "I", false)
  | 1 => ("DrawingVaultModel", "reason", "I", false)
  | 2 => ("DrawingVaultModel", "now", "[I", true)
  | 3 => ("DrawingVaultModel", "kept", "[I", true)
  | 4 => ("DrawingVaultModel", "failed", "Z", false)
  | 5 => ("DrawingVaultModel", "powerLeft", "I", false)
  | 6 => ("DrawingVaultModel", "marked", "[Z", true)
  | 7 => ("DrawingVaultModel", "come", "[I", true)
  | 8 => ("DrawingVaultModel", "parts2", "Z", false)
  | 9 => ("DrawingVaultModel", "open", "Z", false)
  | _ => ("DrawingVaultModel", "seen", "[Z", true)
def tyM : Nat → FieldType := fun k => match k with
  | 0 => .int
  | 1 => .int
  | 2 => (.array .int)
  | 3 => (.array .int)
  | 4 => .boolean
  | 5 => .int
  | 6 => (.array .boolean)
  | 7 => (.array .int)
  | 8 => .boolean
  | 9 => .boolean
  | _ => (.array .boolean)
theorem nmM : ∀ a, a < 11 → ∀ b, b < 11 → a ≠ b → (TM a).2.1 ≠ (TM b).2.1 := by decide +kernel
theorem tyM_ok : ∀ k, k < 11 → parseFieldDescriptor (TM k).2.2.1 = some (tyM k) := by decide +kernel
abbrev kCl : List vw_C := [(RV, TV, 9), (RB, TB, 3), (RK, TK, 3), (RP, TP, 6), (RM, TM, 11)]

/-- the words of the tables that every callee may carry -/
def aw : List Cond := lw_tbl.filter goodWord
theorem aw_in {w : Cond} (h : w ∈ lw_tbl) (g : goodWord w = true) : w ∈ aw := List.mem_filter.mpr ⟨h, g⟩
theorem aw_good {w : Cond} (h : w ∈ aw) : (w.onTables && w.keeps) = true ∨ ∃ ty, w = .arrayClass ty := good_of_word (List.mem_filter.mp h).2
theorem tb_1 {w : Cond} (h : w ∈ tables_1_1) : w ∈ lw_tbl := List.mem_append_right _ (List.mem_append_left _ h)
theorem tb_2 {w : Cond} (h : w ∈ tables_1_2) : w ∈ lw_tbl := List.mem_append_right _ (List.mem_append_right _ (List.mem_append_left _ h))
theorem tb_3 {w : Cond} (h : w ∈ tables_1_3) : w ∈ lw_tbl := List.mem_append_right _ (List.mem_append_right _ (List.mem_append_right _ (List.mem_append_left _ h)))
theorem tb_4 {w : Cond} (h : w ∈ tables_1_4) : w ∈ lw_tbl := List.mem_append_right _ (List.mem_append_right _ (List.mem_append_right _ (List.mem_append_right _ (List.mem_append_left _ h))))
theorem tb_5 {w : Cond} (h : w ∈ tables_1_5) : w ∈ lw_tbl := List.mem_append_right _ (List.mem_append_right _ (List.mem_append_right _ (List.mem_append_right _ (List.mem_append_right _ h))))
theorem tb_s {q : MethodName × Nat} (h : q ∈ lw_privs) : Cond.selects q.1.cls q.1 q.1 ∈ lw_tbl := List.mem_append_left _ (List.mem_map.mpr ⟨q, h, rfl⟩)
theorem gI {c : Cond} (h : c ∈ aw) : GoodIn aw (c :: aw) := fun w hw => (List.mem_cons.mp hw).elim (fun e => e ▸ ⟨h, aw_good h⟩) (fun h2 => ⟨h2, aw_good h2⟩)
theorem gA {l1 l2 : List Cond} (h1 : ∀ w ∈ l1, w ∈ aw) (h2 : GoodIn aw l2) : GoodIn aw (l1 ++ l2) := fun w hw => (List.mem_append.mp hw).elim (fun h => ⟨h1 w h, aw_good (h1 w h)⟩) (h2 w)
theorem gV {own C : String} {idx : Nat} {y : MethodName} {c : Cond} (h1 : Cond.methodLink own idx y ∈ aw) (h2 : Cond.instanceMethod y ∈ aw) (h3 : Cond.selects C y y ∈ aw) (h4 : Cond.initialized C ∈ aw) (h5 : c ∈ aw) : GoodIn aw (wsV own idx C y (c :: aw)) :=
  gA (fun w hw => by simp only [List.mem_cons, List.not_mem_nil, or_false] at hw; rcases hw with rfl | rfl | rfl | rfl <;> assumption) (gI h5)
theorem gS {own : String} {idx : Nat} {y : MethodName} {c : Cond} (h1 : Cond.methodLink own idx y ∈ aw) (h2 : Cond.static y ∈ aw) (h3 : Cond.initialized own ∈ aw) (h5 : c ∈ aw) : GoodIn aw (wsS own idx y (c :: aw)) :=
  gA (fun w hw => by simp only [List.mem_cons, List.not_mem_nil, or_false] at hw; rcases hw with rfl | rfl | rfl <;> assumption) (gI h5)
theorem gSU {own : String} {idx : Nat} {y : MethodName} {c : Cond} (h1 : Cond.methodLink own idx y ∈ aw) (h2 : Cond.static y ∈ aw) (h3 : Cond.initialized y.cls ∈ aw) (h5 : c ∈ aw) : GoodIn aw (va_wsS own idx y (c :: aw)) :=
  gA (fun w hw => by simp only [List.mem_cons, List.not_mem_nil, or_false] at hw; rcases hw with rfl | rfl | rfl <;> assumption) (gI h5)
/-- the start of a method that only reads -/
def pR (D : va_G) (ws : va_W) (tys : List (ClassId × FieldType)) (av : List Value) : Array Value → State → Prop := va_Pc av (fun U => va_P D kCl ws U.heap ∧ va_K D kCl tys U)
theorem pR_blind {D : va_G} {ws : va_W} {tys : List (ClassId × FieldType)} {av : List Value} : FrameBlind (pR D ws tys av) := fun a U g mk h => ⟨h.1, h.2.1, va_K.moved (u := U) (U := U.calling g mk a) (Vm.Alike.refl U.vm) h.2.2⟩
theorem pR_pre {D : va_G} {ws : va_W} {tys : List (ClassId × FieldType)} {av : List Value} {s : State} {H : Heap} (hP : va_P D kCl ws H) (hK : va_K D kCl tys s) : ∀ U : State, U.heap = H → s.WarmedH U.vm → pR D ws tys av av.toArray U := fun U hU hW => ⟨rfl, by rw [hU]; exact hP, va_K.moved hW.alike hK⟩
/-- the start of a method that writes in its world -/
def pW (D : va_G) (sz : Nat) (ws : va_W) (tys : List (ClassId × FieldType)) (av : List Value) : Array Value → State → Prop := va_Pc av (fun U => U.heap.size = sz ∧ va_P D kCl ws U.heap ∧ va_K D kCl tys U ∧ va_D (fun _ => True) ws)
theorem pW_blind {D : va_G} {sz : Nat} {ws : va_W} {tys : List (ClassId × FieldType)} {av : List Value} : FrameBlind (pW D sz ws tys av) := fun a U g mk h => ⟨h.1, h.2.1, h.2.2.1, va_K.moved (u := U) (U := U.calling g mk a) (Vm.Alike.refl U.vm) h.2.2.2.1, h.2.2.2.2⟩
theorem pW_pre {D : va_G} {ws : va_W} {tys : List (ClassId × FieldType)} {av : List Value} {s : State} {H : Heap} {A : Nat → Prop} (hP : va_P D kCl ws H) (hK : va_K D kCl tys s) (hD : va_D A ws) : ∀ U : State, U.heap = H → s.WarmedH U.vm → pW D H.size ws tys av av.toArray U := fun U hU hW => ⟨rfl, by rw [hU], by rw [hU]; exact hP, va_K.moved hW.alike hK, hD.weaken (fun _ _ _ _ => trivial)⟩
/-- the world behind a method -/
def wW (D : va_G) (A : Nat → Prop) (ws : va_W) (tys : List (ClassId × FieldType)) (t : State) : Prop := va_P D kCl ws t.heap ∧ va_K D kCl tys t ∧ va_D A ws
theorem vp_in_lit (i : Int32) (n : Nat) (h : ¬ (i < 0 ∨ n ≤ i.toNatClampNeg)) : vp_in i n := h
theorem vin_of {i : Int32} {n : Nat} {k : Int32} (hk : k.toInt = n) (h1 : ¬ i < 0) (h2 : ¬ k ≤ i) : vp_in i n := vp_in_iff.mpr ⟨by have := Int32.not_lt.mp h1; exact Int32.le_iff_toInt_le.mp this, by rw [← hk]; exact Int32.lt_iff_toInt_lt.mp (Int32.not_le.mp h2)⟩

theorem tsw_lo {w : Int32} (h : w < 0) : w.toInt < 0 := Int32.lt_iff_toInt_lt.mp h
theorem tsw_hi {w : Int32} {n : Nat} (hn : n + 1 < 2 ^ 31) (h : nI (n + 1) ≤ w) : (n : Int) < w.toInt := by
  have h1 := Int32.le_iff_toInt_le.mp h
  rw [nI_toInt hn] at h1
  omega
/-- what count answers on a fresh object -/
def cnt0 (w : Int32) : Int32 := if w = 3 then 400 else if w < 0 ∨ nI 8 ≤ w then -1 else 0
theorem cnt0_lo {w : Int32} (h : w < 0) : (-1 : Int32) = cnt0 w := by
  unfold cnt0
  rw [if_neg (fun e => by subst e; exact absurd h (by decide)), if_pos (Or.inl h)]
theorem cnt0_hi {w : Int32} (h : nI 8 ≤ w) : (-1 : Int32) = cnt0 w := by
  unfold cnt0
  rw [if_neg (fun e => by subst e; exact absurd h (by decide)), if_pos (Or.inr h)]
theorem wd_0 : (.laysFinal "DrawingVault" "DrawingVault" "rightsOf" "[I" : Cond) ∈ aw := aw_in (tb_1 (List.mem_of_getElem? (i := 108) rfl)) rfl
theorem wd_1 : (.laysFinal "DrawingVault" "DrawingVault" "drawings" "[LDrawingVault$Drawing;" : Cond) ∈ aw := aw_in (tb_1 (List.mem_of_getElem? (i := 110) rfl)) rfl
theorem wd_2 : (.lays "DrawingVault" "DrawingVault" "drawingCount" "I" : Cond) ∈ aw := aw_in (tb_1 (List.mem_of_getElem? (i := 112) rfl)) rfl
theorem wd_3 : (.lays "DrawingVault" "DrawingVault" "revisionCount" "I" : Cond) ∈ aw := aw_in (tb_1 (List.mem_of_getElem? (i := 114) rfl)) rfl
theorem wd_4 : (.laysFinal "DrawingVault" "DrawingVault" "baselines" "[LDrawingVault$Baseline;" : Cond) ∈ aw := aw_in (tb_1 (List.mem_of_getElem? (i := 116) rfl)) rfl
theorem wd_5 : (.lays "DrawingVault" "DrawingVault" "draft" "LDrawingVault$Baseline;" : Cond) ∈ aw := aw_in (tb_1 (List.mem_of_getElem? (i := 118) rfl)) rfl
theorem wd_6 : (.laysFinal "DrawingVault" "DrawingVault" "chunks" "LDrawingVault$ChunkSet;" : Cond) ∈ aw := aw_in (tb_1 (List.mem_of_getElem? (i := 120) rfl)) rfl
theorem wd_7 : (.laysFinal "DrawingVault" "DrawingVault" "pages" "LDrawingVault$Pages;" : Cond) ∈ aw := aw_in (tb_1 (List.mem_of_getElem? (i := 122) rfl)) rfl
theorem wd_8 : (.lays "DrawingVault" "DrawingVault" "reason" "I" : Cond) ∈ aw := aw_in (tb_1 (List.mem_of_getElem? (i := 124) rfl)) rfl
theorem wd_9 : (.laysFinal "DrawingVault$Baseline" "DrawingVault$Baseline" "revisionOf" "[I" : Cond) ∈ aw := aw_in (tb_1 (List.mem_of_getElem? (i := 43) rfl)) rfl
theorem wd_10 : (.laysFinal "DrawingVault$Baseline" "DrawingVault$Baseline" "order" "[I" : Cond) ∈ aw := aw_in (tb_1 (List.mem_of_getElem? (i := 45) rfl)) rfl
theorem wd_11 : (.lays "DrawingVault$Baseline" "DrawingVault$Baseline" "size" "I" : Cond) ∈ aw := aw_in (tb_1 (List.mem_of_getElem? (i := 47) rfl)) rfl
theorem wd_12 : (.laysFinal "DrawingVault$ChunkSet" "DrawingVault$ChunkSet" "pieces" "[J" : Cond) ∈ aw := aw_in (tb_1 (List.mem_of_getElem? (i := 61) rfl)) rfl
theorem wd_13 : (.laysFinal "DrawingVault$ChunkSet" "DrawingVault$ChunkSet" "lengths" "[B" : Cond) ∈ aw := aw_in (tb_1 (List.mem_of_getElem? (i := 63) rfl)) rfl
theorem wd_14 : (.lays "DrawingVault$ChunkSet" "DrawingVault$ChunkSet" "size" "I" : Cond) ∈ aw := aw_in (tb_1 (List.mem_of_getElem? (i := 65) rfl)) rfl
theorem wd_15 : (.lays "DrawingVault$Pages" "DrawingVault$Pages" "free" "I" : Cond) ∈ aw := aw_in (tb_1 (List.mem_of_getElem? (i := 86) rfl)) rfl
theorem wd_16 : (.lays "DrawingVault$Pages" "DrawingVault$Pages" "commands" "I" : Cond) ∈ aw := aw_in (tb_1 (List.mem_of_getElem? (i := 88) rfl)) rfl
theorem wd_17 : (.lays "DrawingVault$Pages" "DrawingVault$Pages" "copiedForward" "I" : Cond) ∈ aw := aw_in (tb_1 (List.mem_of_getElem? (i := 90) rfl)) rfl
theorem wd_18 : (.lays "DrawingVault$Pages" "DrawingVault$Pages" "failed" "Z" : Cond) ∈ aw := aw_in (tb_1 (List.mem_of_getElem? (i := 92) rfl)) rfl
theorem wd_19 : (.lays "DrawingVault$Pages" "DrawingVault$Pages" "failureAhead" "Z" : Cond) ∈ aw := aw_in (tb_1 (List.mem_of_getElem? (i := 94) rfl)) rfl
theorem wd_20 : (.lays "DrawingVault$Pages" "DrawingVault$Pages" "beforeFailure" "I" : Cond) ∈ aw := aw_in (tb_1 (List.mem_of_getElem? (i := 96) rfl)) rfl
theorem wd_21 : (.lays "DrawingVaultModel" "DrawingVaultModel" "thrown" "I" : Cond) ∈ aw := aw_in (tb_4 (List.mem_of_getElem? (i := 41) rfl)) rfl
theorem wd_22 : (.lays "DrawingVaultModel" "DrawingVaultModel" "reason" "I" : Cond) ∈ aw := aw_in (tb_4 (List.mem_of_getElem? (i := 43) rfl)) rfl
theorem wd_23 : (.laysFinal "DrawingVaultModel" "DrawingVaultModel" "now" "[I" : Cond) ∈ aw := aw_in (tb_4 (List.mem_of_getElem? (i := 45) rfl)) rfl
theorem wd_24 : (.laysFinal "DrawingVaultModel" "DrawingVaultModel" "kept" "[I" : Cond) ∈ aw := aw_in (tb_4 (List.mem_of_getElem? (i := 47) rfl)) rfl
theorem wd_25 : (.lays "DrawingVaultModel" "DrawingVaultModel" "failed" "Z" : Cond) ∈ aw := aw_in (tb_4 (List.mem_of_getElem? (i := 49) rfl)) rfl
theorem wd_26 : (.lays "DrawingVaultModel" "DrawingVaultModel" "powerLeft" "I" : Cond) ∈ aw := aw_in (tb_4 (List.mem_of_getElem? (i := 51) rfl)) rfl
theorem wd_27 : (.laysFinal "DrawingVaultModel" "DrawingVaultModel" "marked" "[Z" : Cond) ∈ aw := aw_in (tb_4 (List.mem_of_getElem? (i := 53) rfl)) rfl
theorem wd_28 : (.laysFinal "DrawingVaultModel" "DrawingVaultModel" "come" "[I" : Cond) ∈ aw := aw_in (tb_4 (List.mem_of_getElem? (i := 55) rfl)) rfl
theorem wd_29 : (.lays "DrawingVaultModel" "DrawingVaultModel" "parts2" "Z" : Cond) ∈ aw := aw_in (tb_4 (List.mem_of_getElem? (i := 57) rfl)) rfl
theorem wd_30 : (.lays "DrawingVaultModel" "DrawingVaultModel" "open" "Z" : Cond) ∈ aw := aw_in (tb_4 (List.mem_of_getElem? (i := 59) rfl)) rfl
theorem wd_31 : (.laysFinal "DrawingVaultModel" "DrawingVaultModel" "seen" "[Z" : Cond) ∈ aw := aw_in (tb_4 (List.mem_of_getElem? (i := 61) rfl)) rfl
theorem inV : ∀ w ∈ u_ws RV TV 9, w ∈ aw := by
  intro w hw
  obtain ⟨k, hk, rfl⟩ := List.mem_map.mp hw
  rw [List.mem_range] at hk
  rcases (show k = 0 ∨ k = 1 ∨ k = 2 ∨ k = 3 ∨ k = 4 ∨ k = 5 ∨ k = 6 ∨ k = 7 ∨ k = 8 by omega) with rfl | rfl | rfl | rfl | rfl | rfl | rfl | rfl | rfl
  · exact wd_0
  · exact wd_1
  · exact wd_2
  · exact wd_3
  · exact wd_4
  · exact wd_5
  · exact wd_6
  · exact wd_7
  · exact wd_8
theorem inB : ∀ w ∈ u_ws RB TB 3, w ∈ aw := by
  intro w hw
  obtain ⟨k, hk, rfl⟩ := List.mem_map.mp hw
  rw [List.mem_range] at hk
  rcases (show k = 0 ∨ k = 1 ∨ k = 2 by omega) with rfl | rfl | rfl
  · exact wd_9
  · exact wd_10
  · exact wd_11
theorem inK : ∀ w ∈ u_ws RK TK 3, w ∈ aw := by
  intro w hw
  obtain ⟨k, hk, rfl⟩ := List.mem_map.mp hw
  rw [List.mem_range] at hk
  rcases (show k = 0 ∨ k = 1 ∨ k = 2 by omega) with rfl | rfl | rfl
  · exact wd_12
  · exact wd_13
  · exact wd_14
theorem inP : ∀ w ∈ u_ws RP TP 6, w ∈ aw := by
  intro w hw
  obtain ⟨k, hk, rfl⟩ := List.mem_map.mp hw
  rw [List.mem_range] at hk
  rcases (show k = 0 ∨ k = 1 ∨ k = 2 ∨ k = 3 ∨ k = 4 ∨ k = 5 by omega) with rfl | rfl | rfl | rfl | rfl | rfl
  · exact wd_15
  · exact wd_16
  · exact wd_17
  · exact wd_18
  · exact wd_19
  · exact wd_20
theorem inM : ∀ w ∈ u_ws RM TM 11, w ∈ aw := by
  intro w hw
  obtain ⟨k, hk, rfl⟩ := List.mem_map.mp hw
  rw [List.mem_range] at hk
  rcases (show k = 0 ∨ k = 1 ∨ k = 2 ∨ k = 3 ∨ k = 4 ∨ k = 5 ∨ k = 6 ∨ k = 7 ∨ k = 8 ∨ k = 9 ∨ k = 10 by omega) with rfl | rfl | rfl | rfl | rfl | rfl | rfl | rfl | rfl | rfl | rfl
  · exact wd_21
  · exact wd_22
  · exact wd_23
  · exact wd_24
  · exact wd_25
  · exact wd_26
  · exact wd_27
  · exact wd_28
  · exact wd_29
  · exact wd_30
  · exact wd_31
end
section
abbrev cV_isPerson : ByteArray := prog_1_method_42_code
abbrev yV_isPerson : MethodName := ⟨"DrawingVault", "isPerson", "(I)Z"⟩
theorem dV_isPerson_0 : decode cV_isPerson 0 = .ok (.iload_n 0, 1) := by decide +kernel
theorem dV_isPerson_1 : decode cV_isPerson 1 = .ok (.ifCond .lt 13, 3) := by decide +kernel
theorem dV_isPerson_4 : decode cV_isPerson 4 = .ok (.iload_n 0, 1) := by decide +kernel
theorem dV_isPerson_5 : decode cV_isPerson 5 = .ok (.bipush 16, 2) := by decide +kernel
theorem dV_isPerson_7 : decode cV_isPerson 7 = .ok (.if_icmp .ge 7, 3) := by decide +kernel
theorem dV_isPerson_10 : decode cV_isPerson 10 = .ok (.iconst 1, 1) := by decide +kernel
theorem dV_isPerson_11 : decode cV_isPerson 11 = .ok (.goto 4, 3) := by decide +kernel
theorem dV_isPerson_14 : decode cV_isPerson 14 = .ok (.iconst 0, 1) := by decide +kernel
theorem dV_isPerson_15 : decode cV_isPerson 15 = .ok (.ireturn, 1) := by decide +kernel
abbrev cV_hasRight : ByteArray := prog_1_method_43_code
abbrev yV_hasRight : MethodName := ⟨"DrawingVault", "hasRight", "(II)Z"⟩
theorem dV_hasRight_0 : decode cV_hasRight 0 = .ok (.iload_n 1, 1) := by decide +kernel
theorem dV_hasRight_1 : decode cV_hasRight 1 = .ok (.invokestatic 47, 3) := by decide +kernel
theorem dV_hasRight_4 : decode cV_hasRight 4 = .ok (.ifCond .eq 18, 3) := by decide +kernel
theorem dV_hasRight_7 : decode cV_hasRight 7 = .ok (.aload_n 0, 1) := by decide +kernel
theorem dV_hasRight_8 : decode cV_hasRight 8 = .ok (.getfield 9, 3) := by decide +kernel
theorem dV_hasRight_11 : decode cV_hasRight 11 = .ok (.iload_n 1, 1) := by decide +kernel
theorem dV_hasRight_12 : decode cV_hasRight 12 = .ok (.iaload, 1) := by decide +kernel
theorem dV_hasRight_13 : decode cV_hasRight 13 = .ok (.iload_n 2, 1) := by decide +kernel
theorem dV_hasRight_14 : decode cV_hasRight 14 = .ok (.iand, 1) := by decide +kernel
theorem dV_hasRight_15 : decode cV_hasRight 15 = .ok (.ifCond .eq 7, 3) := by decide +kernel
theorem dV_hasRight_22 : decode cV_hasRight 22 = .ok (.iconst 0, 1) := by decide +kernel
theorem dV_hasRight_23 : decode cV_hasRight 23 = .ok (.ireturn, 1) := by decide +kernel
abbrev cV_needPower : ByteArray := prog_1_method_25_code
abbrev yV_needPower : MethodName := ⟨"DrawingVault", "needPower", "()V"⟩
theorem dV_needPower_0 : decode cV_needPower 0 = .ok (.aload_n 0, 1) := by decide +kernel
theorem dV_needPower_1 : decode cV_needPower 1 = .ok (.getfield 40, 3) := by decide +kernel
theorem dV_needPower_4 : decode cV_needPower 4 = .ok (.getfield 230, 3) := by decide +kernel
theorem dV_needPower_7 : decode cV_needPower 7 = .ok (.ifCond .eq 11, 3) := by decide +kernel
theorem dV_needPower_18 : decode cV_needPower 18 = .ok (.return_, 1) := by decide +kernel
abbrev cV_drawingAt : ByteArray := prog_1_method_44_code
abbrev yV_drawingAt : MethodName := ⟨"DrawingVault", "drawingAt", "(I)LDrawingVault$Drawing;"⟩
theorem dV_drawingAt_0 : decode cV_drawingAt 0 = .ok (.iload_n 1, 1) := by decide +kernel
theorem dV_drawingAt_1 : decode cV_drawingAt 1 = .ok (.ifCond .lt 20, 3) := by decide +kernel
theorem dV_drawingAt_4 : decode cV_drawingAt 4 = .ok (.iload_n 1, 1) := by decide +kernel
theorem dV_drawingAt_5 : decode cV_drawingAt 5 = .ok (.aload_n 0, 1) := by decide +kernel
theorem dV_drawingAt_6 : decode cV_drawingAt 6 = .ok (.getfield 67, 3) := by decide +kernel
theorem dV_drawingAt_9 : decode cV_drawingAt 9 = .ok (.if_icmp .ge 12, 3) := by decide +kernel
theorem dV_drawingAt_21 : decode cV_drawingAt 21 = .ok (.aconst_null, 1) := by decide +kernel
theorem dV_drawingAt_22 : decode cV_drawingAt 22 = .ok (.areturn, 1) := by decide +kernel
abbrev cV_revisionAt : ByteArray := prog_1_method_45_code
abbrev yV_revisionAt : MethodName := ⟨"DrawingVault", "revisionAt", "(II)LDrawingVault$Revision;"⟩
theorem dV_revisionAt_0 : decode cV_revisionAt 0 = .ok (.aload_n 0, 1) := by decide +kernel
theorem dV_revisionAt_1 : decode cV_revisionAt 1 = .ok (.iload_n 1, 1) := by decide +kernel
theorem dV_revisionAt_2 : decode cV_revisionAt 2 = .ok (.invokevirtual 74, 3) := by decide +kernel
theorem dV_revisionAt_5 : decode cV_revisionAt 5 = .ok (.astore_n 3, 1) := by decide +kernel
theorem dV_revisionAt_6 : decode cV_revisionAt 6 = .ok (.aload_n 3, 1) := by decide +kernel
theorem dV_revisionAt_7 : decode cV_revisionAt 7 = .ok (.ifnull 20, 3) := by decide +kernel
theorem dV_revisionAt_27 : decode cV_revisionAt 27 = .ok (.aconst_null, 1) := by decide +kernel
theorem dV_revisionAt_28 : decode cV_revisionAt 28 = .ok (.areturn, 1) := by decide +kernel
abbrev cV_baselineAt : ByteArray := prog_1_method_46_code
abbrev yV_baselineAt : MethodName := ⟨"DrawingVault", "baselineAt", "(I)LDrawingVault$Baseline;"⟩
theorem dV_baselineAt_0 : decode cV_baselineAt 0 = .ok (.iload_n 1, 1) := by decide +kernel
theorem dV_baselineAt_1 : decode cV_baselineAt 1 = .ok (.ifCond .lt 18, 3) := by decide +kernel
theorem dV_baselineAt_4 : decode cV_baselineAt 4 = .ok (.iload_n 1, 1) := by decide +kernel
theorem dV_baselineAt_5 : decode cV_baselineAt 5 = .ok (.bipush 10, 2) := by decide +kernel
theorem dV_baselineAt_7 : decode cV_baselineAt 7 = .ok (.if_icmp .ge 12, 3) := by decide +kernel
theorem dV_baselineAt_10 : decode cV_baselineAt 10 = .ok (.aload_n 0, 1) := by decide +kernel
theorem dV_baselineAt_11 : decode cV_baselineAt 11 = .ok (.getfield 21, 3) := by decide +kernel
theorem dV_baselineAt_14 : decode cV_baselineAt 14 = .ok (.iload_n 1, 1) := by decide +kernel
theorem dV_baselineAt_15 : decode cV_baselineAt 15 = .ok (.aaload, 1) := by decide +kernel
theorem dV_baselineAt_16 : decode cV_baselineAt 16 = .ok (.goto 4, 3) := by decide +kernel
theorem dV_baselineAt_19 : decode cV_baselineAt 19 = .ok (.aconst_null, 1) := by decide +kernel
theorem dV_baselineAt_20 : decode cV_baselineAt 20 = .ok (.areturn, 1) := by decide +kernel
abbrev cV_outRefusal : ByteArray := prog_1_method_31_code
abbrev yV_outRefusal : MethodName := ⟨"DrawingVault", "outRefusal", "(LDrawingVault$Drawing;I)I"⟩
theorem dV_outRefusal_0 : decode cV_outRefusal 0 = .ok (.aload_n 0, 1) := by decide +kernel
theorem dV_outRefusal_1 : decode cV_outRefusal 1 = .ok (.iload_n 2, 1) := by decide +kernel
theorem dV_outRefusal_2 : decode cV_outRefusal 2 = .ok (.bipush 7, 2) := by decide +kernel
theorem dV_outRefusal_4 : decode cV_outRefusal 4 = .ok (.invokevirtual 284, 3) := by decide +kernel
theorem dV_outRefusal_7 : decode cV_outRefusal 7 = .ok (.ifCond .ne 5, 3) := by decide +kernel
theorem dV_outRefusal_10 : decode cV_outRefusal 10 = .ok (.iconst 1, 1) := by decide +kernel
theorem dV_outRefusal_11 : decode cV_outRefusal 11 = .ok (.ireturn, 1) := by decide +kernel
abbrev cV_copyRefusal : ByteArray := prog_1_method_32_code
abbrev yV_copyRefusal : MethodName := ⟨"DrawingVault", "copyRefusal", "(LDrawingVault$Drawing;I)I"⟩
theorem dV_copyRefusal_0 : decode cV_copyRefusal 0 = .ok (.aload_n 0, 1) := by decide +kernel
theorem dV_copyRefusal_1 : decode cV_copyRefusal 1 = .ok (.iload_n 2, 1) := by decide +kernel
theorem dV_copyRefusal_2 : decode cV_copyRefusal 2 = .ok (.bipush 7, 2) := by decide +kernel
theorem dV_copyRefusal_4 : decode cV_copyRefusal 4 = .ok (.invokevirtual 284, 3) := by decide +kernel
theorem dV_copyRefusal_7 : decode cV_copyRefusal 7 = .ok (.ifCond .ne 5, 3) := by decide +kernel
theorem dV_copyRefusal_10 : decode cV_copyRefusal 10 = .ok (.iconst 1, 1) := by decide +kernel
theorem dV_copyRefusal_11 : decode cV_copyRefusal 11 = .ok (.ireturn, 1) := by decide +kernel
abbrev cV_drawingRefusal : ByteArray := prog_1_method_30_code
abbrev yV_drawingRefusal : MethodName := ⟨"DrawingVault", "drawingRefusal", "(I)I"⟩
theorem dV_drawingRefusal_0 : decode cV_drawingRefusal 0 = .ok (.aload_n 0, 1) := by decide +kernel
theorem dV_drawingRefusal_1 : decode cV_drawingRefusal 1 = .ok (.iload_n 1, 1) := by decide +kernel
theorem dV_drawingRefusal_2 : decode cV_drawingRefusal 2 = .ok (.iconst 1, 1) := by decide +kernel
theorem dV_drawingRefusal_3 : decode cV_drawingRefusal 3 = .ok (.invokevirtual 284, 3) := by decide +kernel
theorem dV_drawingRefusal_6 : decode cV_drawingRefusal 6 = .ok (.ifCond .ne 5, 3) := by decide +kernel
theorem dV_drawingRefusal_9 : decode cV_drawingRefusal 9 = .ok (.iconst 1, 1) := by decide +kernel
theorem dV_drawingRefusal_10 : decode cV_drawingRefusal 10 = .ok (.ireturn, 1) := by decide +kernel
abbrev cV_checkRefusal : ByteArray := prog_1_method_35_code
abbrev yV_checkRefusal : MethodName := ⟨"DrawingVault", "checkRefusal", "(III)I"⟩
theorem dV_checkRefusal_0 : decode cV_checkRefusal 0 = .ok (.aload_n 0, 1) := by decide +kernel
theorem dV_checkRefusal_1 : decode cV_checkRefusal 1 = .ok (.iload_n 1, 1) := by decide +kernel
theorem dV_checkRefusal_2 : decode cV_checkRefusal 2 = .ok (.invokevirtual 74, 3) := by decide +kernel
theorem dV_checkRefusal_5 : decode cV_checkRefusal 5 = .ok (.astore 4, 2) := by decide +kernel
theorem dV_checkRefusal_7 : decode cV_checkRefusal 7 = .ok (.aload_n 0, 1) := by decide +kernel
theorem dV_checkRefusal_8 : decode cV_checkRefusal 8 = .ok (.iload_n 1, 1) := by decide +kernel
theorem dV_checkRefusal_9 : decode cV_checkRefusal 9 = .ok (.iload_n 2, 1) := by decide +kernel
theorem dV_checkRefusal_10 : decode cV_checkRefusal 10 = .ok (.invokevirtual 163, 3) := by decide +kernel
theorem dV_checkRefusal_13 : decode cV_checkRefusal 13 = .ok (.astore 5, 2) := by decide +kernel
theorem dV_checkRefusal_15 : decode cV_checkRefusal 15 = .ok (.aload_n 0, 1) := by decide +kernel
theorem dV_checkRefusal_16 : decode cV_checkRefusal 16 = .ok (.iload_n 3, 1) := by decide +kernel
theorem dV_checkRefusal_17 : decode cV_checkRefusal 17 = .ok (.iconst 2, 1) := by decide +kernel
theorem dV_checkRefusal_18 : decode cV_checkRefusal 18 = .ok (.invokevirtual 284, 3) := by decide +kernel
theorem dV_checkRefusal_21 : decode cV_checkRefusal 21 = .ok (.ifCond .ne 5, 3) := by decide +kernel
theorem dV_checkRefusal_24 : decode cV_checkRefusal 24 = .ok (.iconst 1, 1) := by decide +kernel
theorem dV_checkRefusal_25 : decode cV_checkRefusal 25 = .ok (.ireturn, 1) := by decide +kernel
abbrev cV_releaseRefusal : ByteArray := prog_1_method_36_code
abbrev yV_releaseRefusal : MethodName := ⟨"DrawingVault", "releaseRefusal", "(III)I"⟩
theorem dV_releaseRefusal_0 : decode cV_releaseRefusal 0 = .ok (.aload_n 0, 1) := by decide +kernel
theorem dV_releaseRefusal_1 : decode cV_releaseRefusal 1 = .ok (.iload_n 1, 1) := by decide +kernel
theorem dV_releaseRefusal_2 : decode cV_releaseRefusal 2 = .ok (.iload_n 2, 1) := by decide +kernel
theorem dV_releaseRefusal_3 : decode cV_releaseRefusal 3 = .ok (.invokevirtual 163, 3) := by decide +kernel
theorem dV_releaseRefusal_6 : decode cV_releaseRefusal 6 = .ok (.astore 4, 2) := by decide +kernel
theorem dV_releaseRefusal_8 : decode cV_releaseRefusal 8 = .ok (.aload_n 0, 1) := by decide +kernel
theorem dV_releaseRefusal_9 : decode cV_releaseRefusal 9 = .ok (.iload_n 3, 1) := by decide +kernel
theorem dV_releaseRefusal_10 : decode cV_releaseRefusal 10 = .ok (.iconst 4, 1) := by decide +kernel
theorem dV_releaseRefusal_11 : decode cV_releaseRefusal 11 = .ok (.invokevirtual 284, 3) := by decide +kernel
theorem dV_releaseRefusal_14 : decode cV_releaseRefusal 14 = .ok (.ifCond .ne 5, 3) := by decide +kernel
theorem dV_releaseRefusal_17 : decode cV_releaseRefusal 17 = .ok (.iconst 1, 1) := by decide +kernel
theorem dV_releaseRefusal_18 : decode cV_releaseRefusal 18 = .ok (.ireturn, 1) := by decide +kernel
abbrev cV_withdrawRefusal : ByteArray := prog_1_method_37_code
abbrev yV_withdrawRefusal : MethodName := ⟨"DrawingVault", "withdrawRefusal", "(III)I"⟩
theorem dV_withdrawRefusal_0 : decode cV_withdrawRefusal 0 = .ok (.aload_n 0, 1) := by decide +kernel
theorem dV_withdrawRefusal_1 : decode cV_withdrawRefusal 1 = .ok (.iload_n 1, 1) := by decide +kernel
theorem dV_withdrawRefusal_2 : decode cV_withdrawRefusal 2 = .ok (.iload_n 2, 1) := by decide +kernel
theorem dV_withdrawRefusal_3 : decode cV_withdrawRefusal 3 = .ok (.invokevirtual 163, 3) := by decide +kernel
theorem dV_withdrawRefusal_6 : decode cV_withdrawRefusal 6 = .ok (.astore 4, 2) := by decide +kernel
theorem dV_withdrawRefusal_8 : decode cV_withdrawRefusal 8 = .ok (.aload_n 0, 1) := by decide +kernel
theorem dV_withdrawRefusal_9 : decode cV_withdrawRefusal 9 = .ok (.iload_n 3, 1) := by decide +kernel
theorem dV_withdrawRefusal_10 : decode cV_withdrawRefusal 10 = .ok (.iconst 4, 1) := by decide +kernel
theorem dV_withdrawRefusal_11 : decode cV_withdrawRefusal 11 = .ok (.invokevirtual 284, 3) := by decide +kernel
theorem dV_withdrawRefusal_14 : decode cV_withdrawRefusal 14 = .ok (.ifCond .ne 5, 3) := by decide +kernel
theorem dV_withdrawRefusal_17 : decode cV_withdrawRefusal 17 = .ok (.iconst 1, 1) := by decide +kernel
theorem dV_withdrawRefusal_18 : decode cV_withdrawRefusal 18 = .ok (.ireturn, 1) := by decide +kernel
abbrev cV_why : ByteArray := prog_1_method_15_code
abbrev yV_why : MethodName := ⟨"DrawingVault", "why", "()I"⟩
theorem dV_why_0 : decode cV_why 0 = .ok (.aload_n 0, 1) := by decide +kernel
theorem dV_why_1 : decode cV_why 1 = .ok (.getfield 160, 3) := by decide +kernel
theorem dV_why_4 : decode cV_why 4 = .ok (.ireturn, 1) := by decide +kernel
theorem wd_32 : (.code ⟨"DrawingVault", "isPerson", "(I)Z"⟩ prog_1_method_42_code 1 (Option.some .boolean) : Cond) ∈ aw := aw_in (tb_2 (List.mem_of_getElem? (i := 72) rfl)) rfl
theorem wd_33 : (.methodLink "DrawingVault" 47 ⟨"DrawingVault", "isPerson", "(I)Z"⟩ : Cond) ∈ aw := aw_in (tb_2 (List.mem_of_getElem? (i := 70) rfl)) rfl
theorem wd_34 : (.static ⟨"DrawingVault", "isPerson", "(I)Z"⟩ : Cond) ∈ aw := aw_in (tb_2 (List.mem_of_getElem? (i := 71) rfl)) rfl
theorem wd_35 : (.initialized "DrawingVault" : Cond) ∈ aw := aw_in (tb_1 (List.mem_of_getElem? (i := 1) rfl)) rfl
theorem wd_36 : (.fieldLink "DrawingVault" 9 "DrawingVault" "rightsOf" "[I" : Cond) ∈ aw := aw_in (tb_1 (List.mem_of_getElem? (i := 99) rfl)) rfl
theorem wd_37 : (.fieldLink "DrawingVault" 40 "DrawingVault" "pages" "LDrawingVault$Pages;" : Cond) ∈ aw := aw_in (tb_1 (List.mem_of_getElem? (i := 106) rfl)) rfl
theorem wd_38 : (.fieldLink "DrawingVault" 230 "DrawingVault$Pages" "failed" "Z" : Cond) ∈ aw := aw_in (tb_1 (List.mem_of_getElem? (i := 83) rfl)) rfl
theorem wd_39 : (.fieldLink "DrawingVault" 67 "DrawingVault" "drawingCount" "I" : Cond) ∈ aw := aw_in (tb_1 (List.mem_of_getElem? (i := 101) rfl)) rfl
theorem wd_40 : (.code ⟨"DrawingVault", "drawingAt", "(I)LDrawingVault$Drawing;"⟩ prog_1_method_44_code 2 (Option.some (.object "DrawingVault$Drawing")) : Cond) ∈ aw := aw_in (tb_1 (List.mem_of_getElem? (i := 138) rfl)) rfl
theorem wd_41 : (.methodLink "DrawingVault" 74 ⟨"DrawingVault", "drawingAt", "(I)LDrawingVault$Drawing;"⟩ : Cond) ∈ aw := aw_in (tb_1 (List.mem_of_getElem? (i := 135) rfl)) rfl
theorem wd_42 : (.instanceMethod ⟨"DrawingVault", "drawingAt", "(I)LDrawingVault$Drawing;"⟩ : Cond) ∈ aw := aw_in (tb_1 (List.mem_of_getElem? (i := 137) rfl)) rfl
theorem wd_43 : (.selects "DrawingVault" ⟨"DrawingVault", "drawingAt", "(I)LDrawingVault$Drawing;"⟩ ⟨"DrawingVault", "drawingAt", "(I)LDrawingVault$Drawing;"⟩ : Cond) ∈ aw := aw_in (tb_s (q := (⟨"DrawingVault", "drawingAt", "(I)LDrawingVault$Drawing;"⟩, _)) (List.mem_append_left _ (List.mem_of_getElem? (i := 0) rfl))) rfl
theorem wd_44 : (.fieldLink "DrawingVault" 21 "DrawingVault" "baselines" "[LDrawingVault$Baseline;" : Cond) ∈ aw := aw_in (tb_1 (List.mem_of_getElem? (i := 103) rfl)) rfl
theorem wd_45 : (.code ⟨"DrawingVault", "hasRight", "(II)Z"⟩ prog_1_method_43_code 3 (Option.some .boolean) : Cond) ∈ aw := aw_in (tb_2 (List.mem_of_getElem? (i := 123) rfl)) rfl
theorem wd_46 : (.methodLink "DrawingVault" 284 ⟨"DrawingVault", "hasRight", "(II)Z"⟩ : Cond) ∈ aw := aw_in (tb_2 (List.mem_of_getElem? (i := 120) rfl)) rfl
theorem wd_47 : (.instanceMethod ⟨"DrawingVault", "hasRight", "(II)Z"⟩ : Cond) ∈ aw := aw_in (tb_2 (List.mem_of_getElem? (i := 122) rfl)) rfl
theorem wd_48 : (.selects "DrawingVault" ⟨"DrawingVault", "hasRight", "(II)Z"⟩ ⟨"DrawingVault", "hasRight", "(II)Z"⟩ : Cond) ∈ aw := aw_in (tb_s (q := (⟨"DrawingVault", "hasRight", "(II)Z"⟩, _)) (List.mem_append_left _ (List.mem_of_getElem? (i := 15) rfl))) rfl
theorem wd_49 : (.code ⟨"DrawingVault", "revisionAt", "(II)LDrawingVault$Revision;"⟩ prog_1_method_45_code 4 (Option.some (.object "DrawingVault$Revision")) : Cond) ∈ aw := aw_in (tb_3 (List.mem_of_getElem? (i := 84) rfl)) rfl
theorem wd_50 : (.methodLink "DrawingVault" 163 ⟨"DrawingVault", "revisionAt", "(II)LDrawingVault$Revision;"⟩ : Cond) ∈ aw := aw_in (tb_3 (List.mem_of_getElem? (i := 81) rfl)) rfl
theorem wd_51 : (.instanceMethod ⟨"DrawingVault", "revisionAt", "(II)LDrawingVault$Revision;"⟩ : Cond) ∈ aw := aw_in (tb_3 (List.mem_of_getElem? (i := 83) rfl)) rfl
theorem wd_52 : (.selects "DrawingVault" ⟨"DrawingVault", "revisionAt", "(II)LDrawingVault$Revision;"⟩ ⟨"DrawingVault", "revisionAt", "(II)LDrawingVault$Revision;"⟩ : Cond) ∈ aw := aw_in (tb_s (q := (⟨"DrawingVault", "revisionAt", "(II)LDrawingVault$Revision;"⟩, _)) (List.mem_append_right _ (List.mem_append_left _ (List.mem_of_getElem? (i := 5) rfl)))) rfl
theorem wd_53 : (.fieldLink "DrawingVault" 160 "DrawingVault" "reason" "I" : Cond) ∈ aw := aw_in (tb_1 (List.mem_of_getElem? (i := 107) rfl)) rfl

set_option maxHeartbeats 4000000 in
set_option maxRecDepth 100000 in
theorem v_isPerson (l : Launch) (dC : Nat → ClassId) (dI : Nat → Nat → Nat) (pp : Int32) : Met l yV_isPerson (.code yV_isPerson cV_isPerson 1 (some .boolean) :: aw) ({ frames := 0, cells := 0, slots := 0, locals := 0 }) (pR (dC, dI) [] [] [.int pp]) (vp_Si (fun r => (r = 1 ∧ (¬ pp < 0 ∧ ¬ (16 : Int32) ≤ pp)) ∨ (r = 0 ∧ (pp < 0 ∨ (16 : Int32) ≤ pp)))) 0 0 (fun _ => False) := by
  refine Met.ofW (cc := cV_isPerson) (maxL := 1) (ret := (some .boolean)) (by decide) rfl ?_
  intro p e s m args below meth c s₁ B hml hv
  obtain ⟨rfl, hv⟩ := hv
  have hx := B.exec
  have hb := B.bytes
  have hr := B.returns
  have hts : ∀ w ∈ aw, w.before _ s = true := fun w h => atoms_spec (ws := (.code yV_isPerson cV_isPerson 1 (some .boolean) :: aw)) B.pre w (List.mem_cons_of_mem _ h)
  have hown : s.vm.findClass RV = some m.cls := findClass_of_methodNamed B.named
  have hlocks := B.notSynchronized
  obtain ⟨hP, hK⟩ := hv
  obtain ⟨H, hH⟩ : ∃ H, H = s.heap := ⟨_, rfl⟩
  rw [← hH] at hP ⊢
  have hl := lv_entry ([.int pp]) (n := 1) (Nat.le_of_ble_eq_true rfl)
  rw [lg_entry_eq]
  generalize (lg_sl ([.int pp]) ++ List.replicate (1 - (lg_sl ([.int pp])).length) Slot.unset).toArray = ls at hl ⊢
  have hl : lv_has ls 1 [(0, .int pp)] := hl
  refine lv_iload_n (pc := 0) hx hb dV_isPerson_0 rfl (lv_at hl 0 rfl) ?_
  refine lv_if_lt (pc := 1) (tgt := 14) hx hb dV_isPerson_1 rfl (fun h1 => ?_) (fun h1 => ?_)
  · refine lv_iconst (pc := 14) (v := 0) hx hb dV_isPerson_14 (by decide) ?_
    exact W.zret (pc := 15) hx hb hr rfl (fun t ht hW => ⟨_, rfl, (Or.inr ⟨rfl, by first | assumption | exact ⟨by assumption, by assumption⟩ | exact Or.inl (by assumption) | exact Or.inr (by assumption) | exact Or.inr (Or.inl (by assumption)) | exact Or.inr (Or.inr (by assumption)) | simp_all⟩), ht.trans hH⟩) (fun q h => nomatch h) dV_isPerson_15
  · refine lv_iload_n (pc := 4) hx hb dV_isPerson_4 rfl (lv_at hl 0 rfl) ?_
    refine lv_bipush (pc := 5) (v := 16) hx hb dV_isPerson_5 (by decide) ?_
    refine lv_icmp_ge (pc := 7) (tgt := 14) hx hb dV_isPerson_7 rfl (fun h2 => ?_) (fun h2 => ?_)
    · refine lv_iconst (pc := 14) (v := 0) hx hb dV_isPerson_14 (by decide) ?_
      exact W.zret (pc := 15) hx hb hr rfl (fun t ht hW => ⟨_, rfl, (Or.inr ⟨rfl, by first | assumption | exact ⟨by assumption, by assumption⟩ | exact Or.inl (by assumption) | exact Or.inr (by assumption) | exact Or.inr (Or.inl (by assumption)) | exact Or.inr (Or.inr (by assumption)) | simp_all⟩), ht.trans hH⟩) (fun q h => nomatch h) dV_isPerson_15
    · refine lv_iconst (pc := 10) (v := 1) hx hb dV_isPerson_10 (by decide) ?_
      refine lv_goto (pc := 11) (tgt := 15) hx hb dV_isPerson_11 rfl ?_
      exact W.zret (pc := 15) hx hb hr rfl (fun t ht hW => ⟨_, rfl, (Or.inl ⟨rfl, by first | assumption | exact ⟨by assumption, by assumption⟩ | exact Or.inl (by assumption) | exact Or.inr (by assumption) | exact Or.inr (Or.inl (by assumption)) | exact Or.inr (Or.inr (by assumption)) | simp_all⟩), ht.trans hH⟩) (fun q h => nomatch h) dV_isPerson_15
set_option maxHeartbeats 4000000 in
set_option maxRecDepth 100000 in
theorem v_hasRight (l : Launch) (dC : Nat → ClassId) (dI : Nat → Nat → Nat) (x : Nat) (rt : Nat) (dr : Nat) (bs : Nat) (df : Nat) (ch : Nat) (pg : Nat) (rs : Int32) (cR : ClassId) (pp : Int32) (kk : Int32) : Met l yV_hasRight (.code yV_hasRight cV_hasRight 3 (some .boolean) :: aw) ({ frames := 1, cells := 0, slots := 0, locals := 20 }) (pR (dC, dI) [(x, .inr (0, [.ref rt, .ref dr, .int 0, .int 0, .ref bs, .ref df, .ref ch, .ref pg, .int rs])), (rt, .inl (cR, 16, .inl (fun _ => 0)))] [(cR, .int)] [.ref x, .int pp, .int kk]) (vp_Si (fun r => r = 0)) 0 0 (fun _ => False) := by
  refine Met.ofW (cc := cV_hasRight) (maxL := 3) (ret := (some .boolean)) (by decide) rfl ?_
  intro p e s m args below meth c s₁ B hml hv
  obtain ⟨rfl, hv⟩ := hv
  have hx := B.exec
  have hb := B.bytes
  have hr := B.returns
  have hts : ∀ w ∈ aw, w.before _ s = true := fun w h => atoms_spec (ws := (.code yV_hasRight cV_hasRight 3 (some .boolean) :: aw)) B.pre w (List.mem_cons_of_mem _ h)
  have hown : s.vm.findClass RV = some m.cls := findClass_of_methodNamed B.named
  have hlocks := B.notSynchronized
  obtain ⟨hP, hK⟩ := hv
  obtain ⟨H, hH⟩ : ∃ H, H = s.heap := ⟨_, rfl⟩
  rw [← hH] at hP ⊢
  have hl := lv_entry ([.ref x, .int pp, .int kk]) (n := 3) (Nat.le_of_ble_eq_true rfl)
  rw [lg_entry_eq]
  generalize (lg_sl ([.ref x, .int pp, .int kk]) ++ List.replicate (3 - (lg_sl ([.ref x, .int pp, .int kk])).length) Slot.unset).toArray = ls at hl ⊢
  have hl : lv_has ls 3 [(0, .ref x), (1, .int pp), (2, .int kk)] := hl
  refine lv_iload_n (pc := 0) hx hb dV_hasRight_0 rfl (lv_at hl 1 rfl) ?_
  refine vp_callSi (pc := 1) (W.runS (As := [.int pp]) (rest := []) ⟨hx, hb, hml, hown, hts⟩ (v_isPerson l dC dI pp) (cwS 1 hts (gS wd_33 wd_34 wd_35 wd_32) rfl rfl rfl (by decide +kernel) ⟨Nat.le_of_ble_eq_true rfl, Nat.le_of_ble_eq_true rfl⟩) ⟨pR_blind, pR_pre (hP.sub (ws' := []) [] rfl) (hK.sub (tys' := []) [] rfl)⟩ rfl rfl hl.1 rfl (lv_room (Nat.le_of_ble_eq_true rfl)) dV_hasRight_1 ⟨Nat.le_of_ble_eq_true rfl, Nat.le_of_ble_eq_true rfl⟩) (fun r1 hr2 => ?_)
  obtain ⟨rfl, h3⟩ | ⟨rfl, h3⟩ : (r1 = 1 ∧ (¬ pp < 0 ∧ ¬ (16 : Int32) ≤ pp)) ∨ (r1 = 0 ∧ (pp < 0 ∨ (16 : Int32) ≤ pp)) := hr2
  · refine lv_if_eq (pc := 4) (tgt := 22) hx hb dV_hasRight_4 rfl (fun h4 => absurd h4 (by decide)) (fun h4 => ?_)
    refine lv_aload_n (pc := 7) hx hb dV_hasRight_7 rfl (lv_at hl 0 rfl) ?_
    refine va_get (D := (dC, dI)) (cl := kCl) (C := RV) (T := TV) (N := 9) (pc := 8) hx hb hts inV hown hK hP 0 rfl rfl 0 (by decide) (hts _ wd_36) (fun _ h9 => h9) rfl dV_hasRight_8 ?_
    refine lv_iload_n (pc := 11) hx hb dV_hasRight_11 rfl (lv_at hl 1 rfl) ?_
    refine va_iald (D := (dC, dI)) (cl := kCl) (pc := 12) hx hb hK hP 1 0 rfl rfl (vin_of (k := 16) (by decide) h3.1 h3.2) dV_hasRight_12 ?_
    refine W.eq (g2 := F0 m 13 ls [.int 0]) rfl ?_
    refine lv_iload_n (pc := 13) hx hb dV_hasRight_13 rfl (lv_at hl 2 rfl) ?_
    refine lv_iand (pc := 14) hx hb dV_hasRight_14 ?_
    refine lv_topi (fun z5 hz6 => ?_)
    obtain rfl : z5 = 0 := hz6.trans (Int32.zero_and)
    refine lv_if_eq (pc := 15) (tgt := 22) hx hb dV_hasRight_15 rfl (fun h7 => ?_) (fun h7 => absurd h7 (by decide))
    refine lv_iconst (pc := 22) (v := 0) hx hb dV_hasRight_22 (by decide) ?_
    exact W.zret (pc := 23) hx hb hr rfl (fun t ht hW => ⟨_, rfl, rfl, ht.trans hH⟩) (fun q h => nomatch h) dV_hasRight_23
  · refine lv_if_eq (pc := 4) (tgt := 22) hx hb dV_hasRight_4 rfl (fun h8 => ?_) (fun h8 => absurd h8 (by decide))
    refine lv_iconst (pc := 22) (v := 0) hx hb dV_hasRight_22 (by decide) ?_
    exact W.zret (pc := 23) hx hb hr rfl (fun t ht hW => ⟨_, rfl, rfl, ht.trans hH⟩) (fun q h => nomatch h) dV_hasRight_23
set_option maxHeartbeats 4000000 in
set_option maxRecDepth 100000 in
theorem v_needPower (l : Launch) (dC : Nat → ClassId) (dI : Nat → Nat → Nat) (x : Nat) (rt : Nat) (dr : Nat) (bs : Nat) (df : Nat) (ch : Nat) (pg : Nat) (rs : Int32) : Met l yV_needPower (.code yV_needPower cV_needPower 1 none :: aw) ({ frames := 0, cells := 0, slots := 0, locals := 0 }) (pR (dC, dI) [(x, .inr (0, [.ref rt, .ref dr, .int 0, .int 0, .ref bs, .ref df, .ref ch, .ref pg, .int rs])), (pg, .inr (3, [.int 400, .int 0, .int 0, .int 0, .int 0, .int 0]))] [] [.ref x]) (va_Sv (fun _ => True)) 0 0 (fun _ => False) := by
  refine Met.ofW (cc := cV_needPower) (maxL := 1) (ret := none) (by decide) rfl ?_
  intro p e s m args below meth c s₁ B hml hv
  obtain ⟨rfl, hv⟩ := hv
  have hx := B.exec
  have hb := B.bytes
  have hr := B.returns
  have hts : ∀ w ∈ aw, w.before _ s = true := fun w h => atoms_spec (ws := (.code yV_needPower cV_needPower 1 none :: aw)) B.pre w (List.mem_cons_of_mem _ h)
  have hown : s.vm.findClass RV = some m.cls := findClass_of_methodNamed B.named
  have hlocks := B.notSynchronized
  obtain ⟨hP, hK⟩ := hv
  obtain ⟨H, hH⟩ : ∃ H, H = s.heap := ⟨_, rfl⟩
  rw [← hH] at hP ⊢
  have hl := lv_entry ([.ref x]) (n := 1) (Nat.le_of_ble_eq_true rfl)
  rw [lg_entry_eq]
  generalize (lg_sl ([.ref x]) ++ List.replicate (1 - (lg_sl ([.ref x])).length) Slot.unset).toArray = ls at hl ⊢
  have hl : lv_has ls 1 [(0, .ref x)] := hl
  refine lv_aload_n (pc := 0) hx hb dV_needPower_0 rfl (lv_at hl 0 rfl) ?_
  refine va_get (D := (dC, dI)) (cl := kCl) (C := RV) (T := TV) (N := 9) (pc := 1) hx hb hts inV hown hK hP 0 rfl rfl 7 (by decide) (hts _ wd_37) (fun _ h9 => h9) rfl dV_needPower_1 ?_
  refine va_get (D := (dC, dI)) (cl := kCl) (C := RP) (T := TP) (N := 6) (pc := 4) hx hb hts inP hown hK hP 1 rfl rfl 3 (by decide) (hts _ wd_38) (fun _ h9 => h9) rfl dV_needPower_4 ?_
  refine lv_if_eq (pc := 7) (tgt := 18) hx hb dV_needPower_7 rfl (fun h1 => ?_) (fun h1 => absurd h1 (by decide))
  exact W.vret (pc := 18) hx hb hr (fun t ht hW => ⟨rfl, trivial, ht.trans hH⟩) (fun q h => nomatch h) dV_needPower_18
set_option maxHeartbeats 4000000 in
set_option maxRecDepth 100000 in
theorem v_drawingAt (l : Launch) (dC : Nat → ClassId) (dI : Nat → Nat → Nat) (x : Nat) (rt : Nat) (dr : Nat) (bs : Nat) (df : Nat) (ch : Nat) (pg : Nat) (rs : Int32) (dd : Int32) : Met l yV_drawingAt (.code yV_drawingAt cV_drawingAt 2 (some (.object "DrawingVault$Drawing")) :: aw) ({ frames := 0, cells := 0, slots := 0, locals := 0 }) (pR (dC, dI) [(x, .inr (0, [.ref rt, .ref dr, .int 0, .int 0, .ref bs, .ref df, .ref ch, .ref pg, .int rs]))] [] [.ref x, .int dd]) (va_Sq (fun r => r = none)) 0 0 (fun _ => False) := by
  refine Met.ofW (cc := cV_drawingAt) (maxL := 2) (ret := (some (.object "DrawingVault$Drawing"))) (by decide) rfl ?_
  intro p e s m args below meth c s₁ B hml hv
  obtain ⟨rfl, hv⟩ := hv
  have hx := B.exec
  have hb := B.bytes
  have hr := B.returns
  have hts : ∀ w ∈ aw, w.before _ s = true := fun w h => atoms_spec (ws := (.code yV_drawingAt cV_drawingAt 2 (some (.object "DrawingVault$Drawing")) :: aw)) B.pre w (List.mem_cons_of_mem _ h)
  have hown : s.vm.findClass RV = some m.cls := findClass_of_methodNamed B.named
  have hlocks := B.notSynchronized
  obtain ⟨hP, hK⟩ := hv
  obtain ⟨H, hH⟩ : ∃ H, H = s.heap := ⟨_, rfl⟩
  rw [← hH] at hP ⊢
  have hl := lv_entry ([.ref x, .int dd]) (n := 2) (Nat.le_of_ble_eq_true rfl)
  rw [lg_entry_eq]
  generalize (lg_sl ([.ref x, .int dd]) ++ List.replicate (2 - (lg_sl ([.ref x, .int dd])).length) Slot.unset).toArray = ls at hl ⊢
  have hl : lv_has ls 2 [(0, .ref x), (1, .int dd)] := hl
  refine lv_iload_n (pc := 0) hx hb dV_drawingAt_0 rfl (lv_at hl 1 rfl) ?_
  refine lv_if_lt (pc := 1) (tgt := 21) hx hb dV_drawingAt_1 rfl (fun h1 => ?_) (fun h1 => ?_)
  · refine lv_null (pc := 21) hx hb dV_drawingAt_21 ?_
    exact W.aret (pc := 22) hx hb hr (Or.inl ⟨_, rfl⟩) (Or.inl rfl) (fun t ht hW => ⟨none, rfl, rfl, ht.trans hH⟩) (fun q h => nomatch h) dV_drawingAt_22
  · refine lv_iload_n (pc := 4) hx hb dV_drawingAt_4 rfl (lv_at hl 1 rfl) ?_
    refine lv_aload_n (pc := 5) hx hb dV_drawingAt_5 rfl (lv_at hl 0 rfl) ?_
    refine va_get (D := (dC, dI)) (cl := kCl) (C := RV) (T := TV) (N := 9) (pc := 6) hx hb hts inV hown hK hP 0 rfl rfl 2 (by decide) (hts _ wd_39) (fun _ h9 => h9) rfl dV_drawingAt_6 ?_
    refine lv_icmp_ge (pc := 9) (tgt := 21) hx hb dV_drawingAt_9 rfl (fun h2 => ?_) (fun h2 => absurd (Int32.not_lt.mp h1) h2)
    refine lv_null (pc := 21) hx hb dV_drawingAt_21 ?_
    exact W.aret (pc := 22) hx hb hr (Or.inl ⟨_, rfl⟩) (Or.inl rfl) (fun t ht hW => ⟨none, rfl, rfl, ht.trans hH⟩) (fun q h => nomatch h) dV_drawingAt_22
set_option maxHeartbeats 4000000 in
set_option maxRecDepth 100000 in
theorem v_revisionAt (l : Launch) (dC : Nat → ClassId) (dI : Nat → Nat → Nat) (x : Nat) (rt : Nat) (dr : Nat) (bs : Nat) (df : Nat) (ch : Nat) (pg : Nat) (rs : Int32) (dd : Int32) (vv : Int32) : Met l yV_revisionAt (.code yV_revisionAt cV_revisionAt 4 (some (.object "DrawingVault$Revision")) :: aw) ({ frames := 1, cells := 0, slots := 0, locals := 21 }) (pR (dC, dI) [(x, .inr (0, [.ref rt, .ref dr, .int 0, .int 0, .ref bs, .ref df, .ref ch, .ref pg, .int rs]))] [] [.ref x, .int dd, .int vv]) (va_Sq (fun r => r = none)) 0 0 (fun _ => False) := by
  refine Met.ofW (cc := cV_revisionAt) (maxL := 4) (ret := (some (.object "DrawingVault$Revision"))) (by decide) rfl ?_
  intro p e s m args below meth c s₁ B hml hv
  obtain ⟨rfl, hv⟩ := hv
  have hx := B.exec
  have hb := B.bytes
  have hr := B.returns
  have hts : ∀ w ∈ aw, w.before _ s = true := fun w h => atoms_spec (ws := (.code yV_revisionAt cV_revisionAt 4 (some (.object "DrawingVault$Revision")) :: aw)) B.pre w (List.mem_cons_of_mem _ h)
  have hown : s.vm.findClass RV = some m.cls := findClass_of_methodNamed B.named
  have hlocks := B.notSynchronized
  obtain ⟨hP, hK⟩ := hv
  obtain ⟨H, hH⟩ : ∃ H, H = s.heap := ⟨_, rfl⟩
  rw [← hH] at hP ⊢
  have hl := lv_entry ([.ref x, .int dd, .int vv]) (n := 4) (Nat.le_of_ble_eq_true rfl)
  rw [lg_entry_eq]
  generalize (lg_sl ([.ref x, .int dd, .int vv]) ++ List.replicate (4 - (lg_sl ([.ref x, .int dd, .int vv])).length) Slot.unset).toArray = ls at hl ⊢
  have hl : lv_has ls 4 [(0, .ref x), (1, .int dd), (2, .int vv)] := hl
  refine lv_aload_n (pc := 0) hx hb dV_revisionAt_0 rfl (lv_at hl 0 rfl) ?_
  refine lv_iload_n (pc := 1) hx hb dV_revisionAt_1 rfl (lv_at hl 1 rfl) ?_
  refine va_csq (pc := 2) (W.runV (As := [.int dd]) (rest := []) ⟨hx, hb, hml, hown, hts⟩ (v_drawingAt l dC dI x rt dr bs df ch pg rs dd) (cwV 1 hts (gV wd_41 wd_42 wd_43 wd_35 wd_40) rfl rfl rfl (by decide +kernel) ⟨Nat.le_of_ble_eq_true rfl, Nat.le_of_ble_eq_true rfl⟩) ⟨pR_blind, va_recv (q := (RV, TV, 9)) (q0 := 0) (ci := 0) hK hP rfl rfl, pR_pre (hP.sub (ws' := [(x, .inr (0, [.ref rt, .ref dr, .int 0, .int 0, .ref bs, .ref df, .ref ch, .ref pg, .int rs]))]) [0] rfl) (hK.sub (tys' := []) [] rfl)⟩ rfl rfl hl.1 rfl (lv_room (Nat.le_of_ble_eq_true rfl)) dV_revisionAt_2 ⟨Nat.le_of_ble_eq_true rfl, Nat.le_of_ble_eq_true rfl⟩) (fun r1 hr2 => ?_)
  obtain rfl : r1 = none := hr2
  refine W.eq (g2 := F0 m 5 ls [.null]) rfl ?_
  refine lv_astore_nN (pc := 5) hx hb dV_revisionAt_5 rfl hl (by decide) rfl (fun ls hl => ?_)
  have hl : lv_has ls 4 [(3, .null), (0, .ref x), (1, .int dd), (2, .int vv)] := hl
  refine lv_aload_nN (pc := 6) hx hb dV_revisionAt_6 rfl (lv_at hl 0 rfl) ?_
  refine lv_ifnullN (pc := 7) (tgt := 27) hx hb dV_revisionAt_7 rfl ?_
  refine lv_null (pc := 27) hx hb dV_revisionAt_27 ?_
  exact W.aret (pc := 28) hx hb hr (Or.inl ⟨_, rfl⟩) (Or.inl rfl) (fun t ht hW => ⟨none, rfl, rfl, ht.trans hH⟩) (fun q h => nomatch h) dV_revisionAt_28
set_option maxHeartbeats 4000000 in
set_option maxRecDepth 100000 in
theorem v_baselineAt (l : Launch) (dC : Nat → ClassId) (dI : Nat → Nat → Nat) (x : Nat) (rt : Nat) (dr : Nat) (bs : Nat) (df : Nat) (ch : Nat) (pg : Nat) (rs : Int32) (cB : ClassId) (nn : Int32) : Met l yV_baselineAt (.code yV_baselineAt cV_baselineAt 2 (some (.object "DrawingVault$Baseline")) :: aw) ({ frames := 0, cells := 0, slots := 0, locals := 0 }) (pR (dC, dI) [(x, .inr (0, [.ref rt, .ref dr, .int 0, .int 0, .ref bs, .ref df, .ref ch, .ref pg, .int rs])), (bs, .inl (cB, 10, .inr (.inr (.inr (.inr (fun _ => none))))))] [(cB, .object "DrawingVault$Baseline")] [.ref x, .int nn]) (va_Sq (fun r => r = none)) 0 0 (fun _ => False) := by
  refine Met.ofW (cc := cV_baselineAt) (maxL := 2) (ret := (some (.object "DrawingVault$Baseline"))) (by decide) rfl ?_
  intro p e s m args below meth c s₁ B hml hv
  obtain ⟨rfl, hv⟩ := hv
  have hx := B.exec
  have hb := B.bytes
  have hr := B.returns
  have hts : ∀ w ∈ aw, w.before _ s = true := fun w h => atoms_spec (ws := (.code yV_baselineAt cV_baselineAt 2 (some (.object "DrawingVault$Baseline")) :: aw)) B.pre w (List.mem_cons_of_mem _ h)
  have hown : s.vm.findClass RV = some m.cls := findClass_of_methodNamed B.named
  have hlocks := B.notSynchronized
  obtain ⟨hP, hK⟩ := hv
  obtain ⟨H, hH⟩ : ∃ H, H = s.heap := ⟨_, rfl⟩
  rw [← hH] at hP ⊢
  have hl := lv_entry ([.ref x, .int nn]) (n := 2) (Nat.le_of_ble_eq_true rfl)
  rw [lg_entry_eq]
  generalize (lg_sl ([.ref x, .int nn]) ++ List.replicate (2 - (lg_sl ([.ref x, .int nn])).length) Slot.unset).toArray = ls at hl ⊢
  have hl : lv_has ls 2 [(0, .ref x), (1, .int nn)] := hl
  refine lv_iload_n (pc := 0) hx hb dV_baselineAt_0 rfl (lv_at hl 1 rfl) ?_
  refine lv_if_lt (pc := 1) (tgt := 19) hx hb dV_baselineAt_1 rfl (fun h1 => ?_) (fun h1 => ?_)
  · refine lv_null (pc := 19) hx hb dV_baselineAt_19 ?_
    exact W.aret (pc := 20) hx hb hr (Or.inl ⟨_, rfl⟩) (Or.inl rfl) (fun t ht hW => ⟨none, rfl, rfl, ht.trans hH⟩) (fun q h => nomatch h) dV_baselineAt_20
  · refine lv_iload_n (pc := 4) hx hb dV_baselineAt_4 rfl (lv_at hl 1 rfl) ?_
    refine lv_bipush (pc := 5) (v := 10) hx hb dV_baselineAt_5 (by decide) ?_
    refine lv_icmp_ge (pc := 7) (tgt := 19) hx hb dV_baselineAt_7 rfl (fun h2 => ?_) (fun h2 => ?_)
    · refine lv_null (pc := 19) hx hb dV_baselineAt_19 ?_
      exact W.aret (pc := 20) hx hb hr (Or.inl ⟨_, rfl⟩) (Or.inl rfl) (fun t ht hW => ⟨none, rfl, rfl, ht.trans hH⟩) (fun q h => nomatch h) dV_baselineAt_20
    · refine lv_aload_n (pc := 10) hx hb dV_baselineAt_10 rfl (lv_at hl 0 rfl) ?_
      refine va_get (D := (dC, dI)) (cl := kCl) (C := RV) (T := TV) (N := 9) (pc := 11) hx hb hts inV hown hK hP 0 rfl rfl 4 (by decide) (hts _ wd_44) (fun _ h9 => h9) rfl dV_baselineAt_11 ?_
      refine lv_iload_n (pc := 14) hx hb dV_baselineAt_14 rfl (lv_at hl 1 rfl) ?_
      refine va_aldq (D := (dC, dI)) (cl := kCl) (pc := 15) hx hb hK hP 1 0 rfl rfl (vin_of (k := 10) (by decide) h1 h2) dV_baselineAt_15 ?_
      refine W.eq (g2 := F0 m 16 ls [.null]) rfl ?_
      refine lv_goto (pc := 16) (tgt := 20) hx hb dV_baselineAt_16 rfl ?_
      exact W.aret (pc := 20) hx hb hr (Or.inl ⟨_, rfl⟩) (Or.inl rfl) (fun t ht hW => ⟨none, rfl, rfl, ht.trans hH⟩) (fun q h => nomatch h) dV_baselineAt_20
set_option maxHeartbeats 4000000 in
set_option maxRecDepth 100000 in
theorem v_outRefusal (l : Launch) (dC : Nat → ClassId) (dI : Nat → Nat → Nat) (x : Nat) (rt : Nat) (dr : Nat) (bs : Nat) (df : Nat) (ch : Nat) (pg : Nat) (rs : Int32) (cR : ClassId) (pp : Int32) : Met l yV_outRefusal (.code yV_outRefusal cV_outRefusal 3 (some .int) :: aw) ({ frames := 2, cells := 0, slots := 0, locals := 42 }) (pR (dC, dI) [(x, .inr (0, [.ref rt, .ref dr, .int 0, .int 0, .ref bs, .ref df, .ref ch, .ref pg, .int rs])), (rt, .inl (cR, 16, .inl (fun _ => 0)))] [(cR, .int)] [.ref x, .null, .int pp]) (vp_Si (fun r => r = 1)) 0 0 (fun _ => False) := by
  refine Met.ofW (cc := cV_outRefusal) (maxL := 3) (ret := (some .int)) (by decide) rfl ?_
  intro p e s m args below meth c s₁ B hml hv
  obtain ⟨rfl, hv⟩ := hv
  have hx := B.exec
  have hb := B.bytes
  have hr := B.returns
  have hts : ∀ w ∈ aw, w.before _ s = true := fun w h => atoms_spec (ws := (.code yV_outRefusal cV_outRefusal 3 (some .int) :: aw)) B.pre w (List.mem_cons_of_mem _ h)
  have hown : s.vm.findClass RV = some m.cls := findClass_of_methodNamed B.named
  have hlocks := B.notSynchronized
  obtain ⟨hP, hK⟩ := hv
  obtain ⟨H, hH⟩ : ∃ H, H = s.heap := ⟨_, rfl⟩
  rw [← hH] at hP ⊢
  have hl := lv_entry ([.ref x, .null, .int pp]) (n := 3) (Nat.le_of_ble_eq_true rfl)
  rw [lg_entry_eq]
  generalize (lg_sl ([.ref x, .null, .int pp]) ++ List.replicate (3 - (lg_sl ([.ref x, .null, .int pp])).length) Slot.unset).toArray = ls at hl ⊢
  have hl : lv_has ls 3 [(0, .ref x), (1, .null), (2, .int pp)] := hl
  refine lv_aload_n (pc := 0) hx hb dV_outRefusal_0 rfl (lv_at hl 0 rfl) ?_
  refine lv_iload_n (pc := 1) hx hb dV_outRefusal_1 rfl (lv_at hl 2 rfl) ?_
  refine lv_bipush (pc := 2) (v := 7) hx hb dV_outRefusal_2 (by decide) ?_
  refine vp_callSi (pc := 4) (W.runV (As := [.int pp, .int 7]) (rest := []) ⟨hx, hb, hml, hown, hts⟩ (v_hasRight l dC dI x rt dr bs df ch pg rs cR pp 7) (cwV 2 hts (gV wd_46 wd_47 wd_48 wd_35 wd_45) rfl rfl rfl (by decide +kernel) ⟨Nat.le_of_ble_eq_true rfl, Nat.le_of_ble_eq_true rfl⟩) ⟨pR_blind, va_recv (q := (RV, TV, 9)) (q0 := 0) (ci := 0) hK hP rfl rfl, pR_pre (hP.sub (ws' := [(x, .inr (0, [.ref rt, .ref dr, .int 0, .int 0, .ref bs, .ref df, .ref ch, .ref pg, .int rs])), (rt, .inl (cR, 16, .inl (fun _ => 0)))]) [0, 1] rfl) (hK.sub (tys' := [(cR, .int)]) [0] rfl)⟩ rfl rfl hl.1 rfl (lv_room (Nat.le_of_ble_eq_true rfl)) dV_outRefusal_4 ⟨Nat.le_of_ble_eq_true rfl, Nat.le_of_ble_eq_true rfl⟩) (fun r1 hr2 => ?_)
  obtain rfl : r1 = 0 := hr2
  refine lv_if_ne (pc := 7) (tgt := 12) hx hb dV_outRefusal_7 rfl (fun h3 => absurd h3 (by decide)) (fun h3 => ?_)
  refine lv_iconst (pc := 10) (v := 1) hx hb dV_outRefusal_10 (by decide) ?_
  exact W.iret (pc := 11) hx hb hr (fun t ht hW => ⟨_, rfl, rfl, ht.trans hH⟩) (fun q h => nomatch h) dV_outRefusal_11
set_option maxHeartbeats 4000000 in
set_option maxRecDepth 100000 in
theorem v_copyRefusal (l : Launch) (dC : Nat → ClassId) (dI : Nat → Nat → Nat) (x : Nat) (rt : Nat) (dr : Nat) (bs : Nat) (df : Nat) (ch : Nat) (pg : Nat) (rs : Int32) (cR : ClassId) (pp : Int32) : Met l yV_copyRefusal (.code yV_copyRefusal cV_copyRefusal 3 (some .int) :: aw) ({ frames := 2, cells := 0, slots := 0, locals := 42 }) (pR (dC, dI) [(x, .inr (0, [.ref rt, .ref dr, .int 0, .int 0, .ref bs, .ref df, .ref ch, .ref pg, .int rs])), (rt, .inl (cR, 16, .inl (fun _ => 0)))] [(cR, .int)] [.ref x, .null, .int pp]) (vp_Si (fun r => r = 1)) 0 0 (fun _ => False) := by
  refine Met.ofW (cc := cV_copyRefusal) (maxL := 3) (ret := (some .int)) (by decide) rfl ?_
  intro p e s m args below meth c s₁ B hml hv
  obtain ⟨rfl, hv⟩ := hv
  have hx := B.exec
  have hb := B.bytes
  have hr := B.returns
  have hts : ∀ w ∈ aw, w.before _ s = true := fun w h => atoms_spec (ws := (.code yV_copyRefusal cV_copyRefusal 3 (some .int) :: aw)) B.pre w (List.mem_cons_of_mem _ h)
  have hown : s.vm.findClass RV = some m.cls := findClass_of_methodNamed B.named
  have hlocks := B.notSynchronized
  obtain ⟨hP, hK⟩ := hv
  obtain ⟨H, hH⟩ : ∃ H, H = s.heap := ⟨_, rfl⟩
  rw [← hH] at hP ⊢
  have hl := lv_entry ([.ref x, .null, .int pp]) (n := 3) (Nat.le_of_ble_eq_true rfl)
  rw [lg_entry_eq]
  generalize (lg_sl ([.ref x, .null, .int pp]) ++ List.replicate (3 - (lg_sl ([.ref x, .null, .int pp])).length) Slot.unset).toArray = ls at hl ⊢
  have hl : lv_has ls 3 [(0, .ref x), (1, .null), (2, .int pp)] := hl
  refine lv_aload_n (pc := 0) hx hb dV_copyRefusal_0 rfl (lv_at hl 0 rfl) ?_
  refine lv_iload_n (pc := 1) hx hb dV_copyRefusal_1 rfl (lv_at hl 2 rfl) ?_
  refine lv_bipush (pc := 2) (v := 7) hx hb dV_copyRefusal_2 (by decide) ?_
  refine vp_callSi (pc := 4) (W.runV (As := [.int pp, .int 7]) (rest := []) ⟨hx, hb, hml, hown, hts⟩ (v_hasRight l dC dI x rt dr bs df ch pg rs cR pp 7) (cwV 2 hts (gV wd_46 wd_47 wd_48 wd_35 wd_45) rfl rfl rfl (by decide +kernel) ⟨Nat.le_of_ble_eq_true rfl, Nat.le_of_ble_eq_true rfl⟩) ⟨pR_blind, va_recv (q := (RV, TV, 9)) (q0 := 0) (ci := 0) hK hP rfl rfl, pR_pre (hP.sub (ws' := [(x, .inr (0, [.ref rt, .ref dr, .int 0, .int 0, .ref bs, .ref df, .ref ch, .ref pg, .int rs])), (rt, .inl (cR, 16, .inl (fun _ => 0)))]) [0, 1] rfl) (hK.sub (tys' := [(cR, .int)]) [0] rfl)⟩ rfl rfl hl.1 rfl (lv_room (Nat.le_of_ble_eq_true rfl)) dV_copyRefusal_4 ⟨Nat.le_of_ble_eq_true rfl, Nat.le_of_ble_eq_true rfl⟩) (fun r1 hr2 => ?_)
  obtain rfl : r1 = 0 := hr2
  refine lv_if_ne (pc := 7) (tgt := 12) hx hb dV_copyRefusal_7 rfl (fun h3 => absurd h3 (by decide)) (fun h3 => ?_)
  refine lv_iconst (pc := 10) (v := 1) hx hb dV_copyRefusal_10 (by decide) ?_
  exact W.iret (pc := 11) hx hb hr (fun t ht hW => ⟨_, rfl, rfl, ht.trans hH⟩) (fun q h => nomatch h) dV_copyRefusal_11
set_option maxHeartbeats 4000000 in
set_option maxRecDepth 100000 in
theorem v_drawingRefusal (l : Launch) (dC : Nat → ClassId) (dI : Nat → Nat → Nat) (x : Nat) (rt : Nat) (dr : Nat) (bs : Nat) (df : Nat) (ch : Nat) (pg : Nat) (rs : Int32) (cR : ClassId) (pp : Int32) : Met l yV_drawingRefusal (.code yV_drawingRefusal cV_drawingRefusal 3 (some .int) :: aw) ({ frames := 2, cells := 0, slots := 0, locals := 42 }) (pR (dC, dI) [(x, .inr (0, [.ref rt, .ref dr, .int 0, .int 0, .ref bs, .ref df, .ref ch, .ref pg, .int rs])), (rt, .inl (cR, 16, .inl (fun _ => 0)))] [(cR, .int)] [.ref x, .int pp]) (vp_Si (fun r => r = 1)) 0 0 (fun _ => False) := by
  refine Met.ofW (cc := cV_drawingRefusal) (maxL := 3) (ret := (some .int)) (by decide) rfl ?_
  intro p e s m args below meth c s₁ B hml hv
  obtain ⟨rfl, hv⟩ := hv
  have hx := B.exec
  have hb := B.bytes
  have hr := B.returns
  have hts : ∀ w ∈ aw, w.before _ s = true := fun w h => atoms_spec (ws := (.code yV_drawingRefusal cV_drawingRefusal 3 (some .int) :: aw)) B.pre w (List.mem_cons_of_mem _ h)
  have hown : s.vm.findClass RV = some m.cls := findClass_of_methodNamed B.named
  have hlocks := B.notSynchronized
  obtain ⟨hP, hK⟩ := hv
  obtain ⟨H, hH⟩ : ∃ H, H = s.heap := ⟨_, rfl⟩
  rw [← hH] at hP ⊢
  have hl := lv_entry ([.ref x, .int pp]) (n := 3) (Nat.le_of_ble_eq_true rfl)
  rw [lg_entry_eq]
  generalize (lg_sl ([.ref x, .int pp]) ++ List.replicate (3 - (lg_sl ([.ref x, .int pp])).length) Slot.unset).toArray = ls at hl ⊢
  have hl : lv_has ls 3 [(0, .ref x), (1, .int pp)] := hl
  refine lv_aload_n (pc := 0) hx hb dV_drawingRefusal_0 rfl (lv_at hl 0 rfl) ?_
  refine lv_iload_n (pc := 1) hx hb dV_drawingRefusal_1 rfl (lv_at hl 1 rfl) ?_
  refine lv_iconst (pc := 2) (v := 1) hx hb dV_drawingRefusal_2 (by decide) ?_
  refine vp_callSi (pc := 3) (W.runV (As := [.int pp, .int 1]) (rest := []) ⟨hx, hb, hml, hown, hts⟩ (v_hasRight l dC dI x rt dr bs df ch pg rs cR pp 1) (cwV 2 hts (gV wd_46 wd_47 wd_48 wd_35 wd_45) rfl rfl rfl (by decide +kernel) ⟨Nat.le_of_ble_eq_true rfl, Nat.le_of_ble_eq_true rfl⟩) ⟨pR_blind, va_recv (q := (RV, TV, 9)) (q0 := 0) (ci := 0) hK hP rfl rfl, pR_pre (hP.sub (ws' := [(x, .inr (0, [.ref rt, .ref dr, .int 0, .int 0, .ref bs, .ref df, .ref ch, .ref pg, .int rs])), (rt, .inl (cR, 16, .inl (fun _ => 0)))]) [0, 1] rfl) (hK.sub (tys' := [(cR, .int)]) [0] rfl)⟩ rfl rfl hl.1 rfl (lv_room (Nat.le_of_ble_eq_true rfl)) dV_drawingRefusal_3 ⟨Nat.le_of_ble_eq_true rfl, Nat.le_of_ble_eq_true rfl⟩) (fun r1 hr2 => ?_)
  obtain rfl : r1 = 0 := hr2
  refine lv_if_ne (pc := 6) (tgt := 11) hx hb dV_drawingRefusal_6 rfl (fun h3 => absurd h3 (by decide)) (fun h3 => ?_)
  refine lv_iconst (pc := 9) (v := 1) hx hb dV_drawingRefusal_9 (by decide) ?_
  exact W.iret (pc := 10) hx hb hr (fun t ht hW => ⟨_, rfl, rfl, ht.trans hH⟩) (fun q h => nomatch h) dV_drawingRefusal_10
set_option maxHeartbeats 4000000 in
set_option maxRecDepth 100000 in
theorem v_checkRefusal (l : Launch) (dC : Nat → ClassId) (dI : Nat → Nat → Nat) (x : Nat) (rt : Nat) (dr : Nat) (bs : Nat) (df : Nat) (ch : Nat) (pg : Nat) (rs : Int32) (cR : ClassId) (dd : Int32) (vv : Int32) (pp : Int32) : Met l yV_checkRefusal (.code yV_checkRefusal cV_checkRefusal 6 (some .int) :: aw) ({ frames := 2, cells := 0, slots := 0, locals := 44 }) (pR (dC, dI) [(x, .inr (0, [.ref rt, .ref dr, .int 0, .int 0, .ref bs, .ref df, .ref ch, .ref pg, .int rs])), (rt, .inl (cR, 16, .inl (fun _ => 0)))] [(cR, .int)] [.ref x, .int dd, .int vv, .int pp]) (vp_Si (fun r => r = 1)) 0 0 (fun _ => False) := by
  refine Met.ofW (cc := cV_checkRefusal) (maxL := 6) (ret := (some .int)) (by decide) rfl ?_
  intro p e s m args below meth c s₁ B hml hv
  obtain ⟨rfl, hv⟩ := hv
  have hx := B.exec
  have hb := B.bytes
  have hr := B.returns
  have hts : ∀ w ∈ aw, w.before _ s = true := fun w h => atoms_spec (ws := (.code yV_checkRefusal cV_checkRefusal 6 (some .int) :: aw)) B.pre w (List.mem_cons_of_mem _ h)
  have hown : s.vm.findClass RV = some m.cls := findClass_of_methodNamed B.named
  have hlocks := B.notSynchronized
  obtain ⟨hP, hK⟩ := hv
  obtain ⟨H, hH⟩ : ∃ H, H = s.heap := ⟨_, rfl⟩
  rw [← hH] at hP ⊢
  have hl := lv_entry ([.ref x, .int dd, .int vv, .int pp]) (n := 6) (Nat.le_of_ble_eq_true rfl)
  rw [lg_entry_eq]
  generalize (lg_sl ([.ref x, .int dd, .int vv, .int pp]) ++ List.replicate (6 - (lg_sl ([.ref x, .int dd, .int vv, .int pp])).length) Slot.unset).toArray = ls at hl ⊢
  have hl : lv_has ls 6 [(0, .ref x), (1, .int dd), (2, .int vv), (3, .int pp)] := hl
  refine lv_aload_n (pc := 0) hx hb dV_checkRefusal_0 rfl (lv_at hl 0 rfl) ?_
  refine lv_iload_n (pc := 1) hx hb dV_checkRefusal_1 rfl (lv_at hl 1 rfl) ?_
  refine va_csq (pc := 2) (W.runV (As := [.int dd]) (rest := []) ⟨hx, hb, hml, hown, hts⟩ (v_drawingAt l dC dI x rt dr bs df ch pg rs dd) (cwV 1 hts (gV wd_41 wd_42 wd_43 wd_35 wd_40) rfl rfl rfl (by decide +kernel) ⟨Nat.le_of_ble_eq_true rfl, Nat.le_of_ble_eq_true rfl⟩) ⟨pR_blind, va_recv (q := (RV, TV, 9)) (q0 := 0) (ci := 0) hK hP rfl rfl, pR_pre (hP.sub (ws' := [(x, .inr (0, [.ref rt, .ref dr, .int 0, .int 0, .ref bs, .ref df, .ref ch, .ref pg, .int rs]))]) [0] rfl) (hK.sub (tys' := []) [] rfl)⟩ rfl rfl hl.1 rfl (lv_room (Nat.le_of_ble_eq_true rfl)) dV_checkRefusal_2 ⟨Nat.le_of_ble_eq_true rfl, Nat.le_of_ble_eq_true rfl⟩) (fun r1 hr2 => ?_)
  obtain rfl : r1 = none := hr2
  refine W.eq (g2 := F0 m 5 ls [.null]) rfl ?_
  refine lv_astoreN (pc := 5) hx hb dV_checkRefusal_5 hl (by decide) rfl (fun ls hl => ?_)
  have hl : lv_has ls 6 [(4, .null), (0, .ref x), (1, .int dd), (2, .int vv), (3, .int pp)] := hl
  refine lv_aload_n (pc := 7) hx hb dV_checkRefusal_7 rfl (lv_at hl 1 rfl) ?_
  refine lv_iload_n (pc := 8) hx hb dV_checkRefusal_8 rfl (lv_at hl 2 rfl) ?_
  refine lv_iload_n (pc := 9) hx hb dV_checkRefusal_9 rfl (lv_at hl 3 rfl) ?_
  refine va_csq (pc := 10) (W.runV (As := [.int dd, .int vv]) (rest := []) ⟨hx, hb, hml, hown, hts⟩ (v_revisionAt l dC dI x rt dr bs df ch pg rs dd vv) (cwV 2 hts (gV wd_50 wd_51 wd_52 wd_35 wd_49) rfl rfl rfl (by decide +kernel) ⟨Nat.le_of_ble_eq_true rfl, Nat.le_of_ble_eq_true rfl⟩) ⟨pR_blind, va_recv (q := (RV, TV, 9)) (q0 := 0) (ci := 0) hK hP rfl rfl, pR_pre (hP.sub (ws' := [(x, .inr (0, [.ref rt, .ref dr, .int 0, .int 0, .ref bs, .ref df, .ref ch, .ref pg, .int rs]))]) [0] rfl) (hK.sub (tys' := []) [] rfl)⟩ rfl rfl hl.1 rfl (lv_room (Nat.le_of_ble_eq_true rfl)) dV_checkRefusal_10 ⟨Nat.le_of_ble_eq_true rfl, Nat.le_of_ble_eq_true rfl⟩) (fun r3 hr4 => ?_)
  obtain rfl : r3 = none := hr4
  refine W.eq (g2 := F0 m 13 ls [.null]) rfl ?_
  refine lv_astoreN (pc := 13) hx hb dV_checkRefusal_13 hl (by decide) rfl (fun ls hl => ?_)
  have hl : lv_has ls 6 [(5, .null), (4, .null), (0, .ref x), (1, .int dd), (2, .int vv), (3, .int pp)] := hl
  refine lv_aload_n (pc := 15) hx hb dV_checkRefusal_15 rfl (lv_at hl 2 rfl) ?_
  refine lv_iload_n (pc := 16) hx hb dV_checkRefusal_16 rfl (lv_at hl 5 rfl) ?_
  refine lv_iconst (pc := 17) (v := 2) hx hb dV_checkRefusal_17 (by decide) ?_
  refine vp_callSi (pc := 18) (W.runV (As := [.int pp, .int 2]) (rest := []) ⟨hx, hb, hml, hown, hts⟩ (v_hasRight l dC dI x rt dr bs df ch pg rs cR pp 2) (cwV 2 hts (gV wd_46 wd_47 wd_48 wd_35 wd_45) rfl rfl rfl (by decide +kernel) ⟨Nat.le_of_ble_eq_true rfl, Nat.le_of_ble_eq_true rfl⟩) ⟨pR_blind, va_recv (q := (RV, TV, 9)) (q0 := 0) (ci := 0) hK hP rfl rfl, pR_pre (hP.sub (ws' := [(x, .inr (0, [.ref rt, .ref dr, .int 0, .int 0, .ref bs, .ref df, .ref ch, .ref pg, .int rs])), (rt, .inl (cR, 16, .inl (fun _ => 0)))]) [0, 1] rfl) (hK.sub (tys' := [(cR, .int)]) [0] rfl)⟩ rfl rfl hl.1 rfl (lv_room (Nat.le_of_ble_eq_true rfl)) dV_checkRefusal_18 ⟨Nat.le_of_ble_eq_true rfl, Nat.le_of_ble_eq_true rfl⟩) (fun r5 hr6 => ?_)
  obtain rfl : r5 = 0 := hr6
  refine lv_if_ne (pc := 21) (tgt := 26) hx hb dV_checkRefusal_21 rfl (fun h7 => absurd h7 (by decide)) (fun h7 => ?_)
  refine lv_iconst (pc := 24) (v := 1) hx hb dV_checkRefusal_24 (by decide) ?_
  exact W.iret (pc := 25) hx hb hr (fun t ht hW => ⟨_, rfl, rfl, ht.trans hH⟩) (fun q h => nomatch h) dV_checkRefusal_25
set_option maxHeartbeats 4000000 in
set_option maxRecDepth 100000 in
theorem v_releaseRefusal (l : Launch) (dC : Nat → ClassId) (dI : Nat → Nat → Nat) (x : Nat) (rt : Nat) (dr : Nat) (bs : Nat) (df : Nat) (ch : Nat) (pg : Nat) (rs : Int32) (cR : ClassId) (dd : Int32) (vv : Int32) (pp : Int32) : Met l yV_releaseRefusal (.code yV_releaseRefusal cV_releaseRefusal 5 (some .int) :: aw) ({ frames := 2, cells := 0, slots := 0, locals := 44 }) (pR (dC, dI) [(x, .inr (0, [.ref rt, .ref dr, .int 0, .int 0, .ref bs, .ref df, .ref ch, .ref pg, .int rs])), (rt, .inl (cR, 16, .inl (fun _ => 0)))] [(cR, .int)] [.ref x, .int dd, .int vv, .int pp]) (vp_Si (fun r => r = 1)) 0 0 (fun _ => False) := by
  refine Met.ofW (cc := cV_releaseRefusal) (maxL := 5) (ret := (some .int)) (by decide) rfl ?_
  intro p e s m args below meth c s₁ B hml hv
  obtain ⟨rfl, hv⟩ := hv
  have hx := B.exec
  have hb := B.bytes
  have hr := B.returns
  have hts : ∀ w ∈ aw, w.before _ s = true := fun w h => atoms_spec (ws := (.code yV_releaseRefusal cV_releaseRefusal 5 (some .int) :: aw)) B.pre w (List.mem_cons_of_mem _ h)
  have hown : s.vm.findClass RV = some m.cls := findClass_of_methodNamed B.named
  have hlocks := B.notSynchronized
  obtain ⟨hP, hK⟩ := hv
  obtain ⟨H, hH⟩ : ∃ H, H = s.heap := ⟨_, rfl⟩
  rw [← hH] at hP ⊢
  have hl := lv_entry ([.ref x, .int dd, .int vv, .int pp]) (n := 5) (Nat.le_of_ble_eq_true rfl)
  rw [lg_entry_eq]
  generalize (lg_sl ([.ref x, .int dd, .int vv, .int pp]) ++ List.replicate (5 - (lg_sl ([.ref x, .int dd, .int vv, .int pp])).length) Slot.unset).toArray = ls at hl ⊢
  have hl : lv_has ls 5 [(0, .ref x), (1, .int dd), (2, .int vv), (3, .int pp)] := hl
  refine lv_aload_n (pc := 0) hx hb dV_releaseRefusal_0 rfl (lv_at hl 0 rfl) ?_
  refine lv_iload_n (pc := 1) hx hb dV_releaseRefusal_1 rfl (lv_at hl 1 rfl) ?_
  refine lv_iload_n (pc := 2) hx hb dV_releaseRefusal_2 rfl (lv_at hl 2 rfl) ?_
  refine va_csq (pc := 3) (W.runV (As := [.int dd, .int vv]) (rest := []) ⟨hx, hb, hml, hown, hts⟩ (v_revisionAt l dC dI x rt dr bs df ch pg rs dd vv) (cwV 2 hts (gV wd_50 wd_51 wd_52 wd_35 wd_49) rfl rfl rfl (by decide +kernel) ⟨Nat.le_of_ble_eq_true rfl, Nat.le_of_ble_eq_true rfl⟩) ⟨pR_blind, va_recv (q := (RV, TV, 9)) (q0 := 0) (ci := 0) hK hP rfl rfl, pR_pre (hP.sub (ws' := [(x, .inr (0, [.ref rt, .ref dr, .int 0, .int 0, .ref bs, .ref df, .ref ch, .ref pg, .int rs]))]) [0] rfl) (hK.sub (tys' := []) [] rfl)⟩ rfl rfl hl.1 rfl (lv_room (Nat.le_of_ble_eq_true rfl)) dV_releaseRefusal_3 ⟨Nat.le_of_ble_eq_true rfl, Nat.le_of_ble_eq_true rfl⟩) (fun r1 hr2 => ?_)
  obtain rfl : r1 = none := hr2
  refine W.eq (g2 := F0 m 6 ls [.null]) rfl ?_
  refine lv_astoreN (pc := 6) hx hb dV_releaseRefusal_6 hl (by decide) rfl (fun ls hl => ?_)
  have hl : lv_has ls 5 [(4, .null), (0, .ref x), (1, .int dd), (2, .int vv), (3, .int pp)] := hl
  refine lv_aload_n (pc := 8) hx hb dV_releaseRefusal_8 rfl (lv_at hl 1 rfl) ?_
  refine lv_iload_n (pc := 9) hx hb dV_releaseRefusal_9 rfl (lv_at hl 4 rfl) ?_
  refine lv_iconst (pc := 10) (v := 4) hx hb dV_releaseRefusal_10 (by decide) ?_
  refine vp_callSi (pc := 11) (W.runV (As := [.int pp, .int 4]) (rest := []) ⟨hx, hb, hml, hown, hts⟩ (v_hasRight l dC dI x rt dr bs df ch pg rs cR pp 4) (cwV 2 hts (gV wd_46 wd_47 wd_48 wd_35 wd_45) rfl rfl rfl (by decide +kernel) ⟨Nat.le_of_ble_eq_true rfl, Nat.le_of_ble_eq_true rfl⟩) ⟨pR_blind, va_recv (q := (RV, TV, 9)) (q0 := 0) (ci := 0) hK hP rfl rfl, pR_pre (hP.sub (ws' := [(x, .inr (0, [.ref rt, .ref dr, .int 0, .int 0, .ref bs, .ref df, .ref ch, .ref pg, .int rs])), (rt, .inl (cR, 16, .inl (fun _ => 0)))]) [0, 1] rfl) (hK.sub (tys' := [(cR, .int)]) [0] rfl)⟩ rfl rfl hl.1 rfl (lv_room (Nat.le_of_ble_eq_true rfl)) dV_releaseRefusal_11 ⟨Nat.le_of_ble_eq_true rfl, Nat.le_of_ble_eq_true rfl⟩) (fun r3 hr4 => ?_)
  obtain rfl : r3 = 0 := hr4
  refine lv_if_ne (pc := 14) (tgt := 19) hx hb dV_releaseRefusal_14 rfl (fun h5 => absurd h5 (by decide)) (fun h5 => ?_)
  refine lv_iconst (pc := 17) (v := 1) hx hb dV_releaseRefusal_17 (by decide) ?_
  exact W.iret (pc := 18) hx hb hr (fun t ht hW => ⟨_, rfl, rfl, ht.trans hH⟩) (fun q h => nomatch h) dV_releaseRefusal_18
set_option maxHeartbeats 4000000 in
set_option maxRecDepth 100000 in
theorem v_withdrawRefusal (l : Launch) (dC : Nat → ClassId) (dI : Nat → Nat → Nat) (x : Nat) (rt : Nat) (dr : Nat) (bs : Nat) (df : Nat) (ch : Nat) (pg : Nat) (rs : Int32) (cR : ClassId) (dd : Int32) (vv : Int32) (pp : Int32) : Met l yV_withdrawRefusal (.code yV_withdrawRefusal cV_withdrawRefusal 6 (some .int) :: aw) ({ frames := 2, cells := 0, slots := 0, locals := 44 }) (pR (dC, dI) [(x, .inr (0, [.ref rt, .ref dr, .int 0, .int 0, .ref bs, .ref df, .ref ch, .ref pg, .int rs])), (rt, .inl (cR, 16, .inl (fun _ => 0)))] [(cR, .int)] [.ref x, .int dd, .int vv, .int pp]) (vp_Si (fun r => r = 1)) 0 0 (fun _ => False) := by
  refine Met.ofW (cc := cV_withdrawRefusal) (maxL := 6) (ret := (some .int)) (by decide) rfl ?_
  intro p e s m args below meth c s₁ B hml hv
  obtain ⟨rfl, hv⟩ := hv
  have hx := B.exec
  have hb := B.bytes
  have hr := B.returns
  have hts : ∀ w ∈ aw, w.before _ s = true := fun w h => atoms_spec (ws := (.code yV_withdrawRefusal cV_withdrawRefusal 6 (some .int) :: aw)) B.pre w (List.mem_cons_of_mem _ h)
  have hown : s.vm.findClass RV = some m.cls := findClass_of_methodNamed B.named
  have hlocks := B.notSynchronized
  obtain ⟨hP, hK⟩ := hv
  obtain ⟨H, hH⟩ : ∃ H, H = s.heap := ⟨_, rfl⟩
  rw [← hH] at hP ⊢
  have hl := lv_entry ([.ref x, .int dd, .int vv, .int pp]) (n := 6) (Nat.le_of_ble_eq_true rfl)
  rw [lg_entry_eq]
  generalize (lg_sl ([.ref x, .int dd, .int vv, .int pp]) ++ List.replicate (6 - (lg_sl ([.ref x, .int dd, .int vv, .int pp])).length) Slot.unset).toArray = ls at hl ⊢
  have hl : lv_has ls 6 [(0, .ref x), (1, .int dd), (2, .int vv), (3, .int pp)] := hl
  refine lv_aload_n (pc := 0) hx hb dV_withdrawRefusal_0 rfl (lv_at hl 0 rfl) ?_
  refine lv_iload_n (pc := 1) hx hb dV_withdrawRefusal_1 rfl (lv_at hl 1 rfl) ?_
  refine lv_iload_n (pc := 2) hx hb dV_withdrawRefusal_2 rfl (lv_at hl 2 rfl) ?_
  refine va_csq (pc := 3) (W.runV (As := [.int dd, .int vv]) (rest := []) ⟨hx, hb, hml, hown, hts⟩ (v_revisionAt l dC dI x rt dr bs df ch pg rs dd vv) (cwV 2 hts (gV wd_50 wd_51 wd_52 wd_35 wd_49) rfl rfl rfl (by decide +kernel) ⟨Nat.le_of_ble_eq_true rfl, Nat.le_of_ble_eq_true rfl⟩) ⟨pR_blind, va_recv (q := (RV, TV, 9)) (q0 := 0) (ci := 0) hK hP rfl rfl, pR_pre (hP.sub (ws' := [(x, .inr (0, [.ref rt, .ref dr, .int 0, .int 0, .ref bs, .ref df, .ref ch, .ref pg, .int rs]))]) [0] rfl) (hK.sub (tys' := []) [] rfl)⟩ rfl rfl hl.1 rfl (lv_room (Nat.le_of_ble_eq_true rfl)) dV_withdrawRefusal_3 ⟨Nat.le_of_ble_eq_true rfl, Nat.le_of_ble_eq_true rfl⟩) (fun r1 hr2 => ?_)
  obtain rfl : r1 = none := hr2
  refine W.eq (g2 := F0 m 6 ls [.null]) rfl ?_
  refine lv_astoreN (pc := 6) hx hb dV_withdrawRefusal_6 hl (by decide) rfl (fun ls hl => ?_)
  have hl : lv_has ls 6 [(4, .null), (0, .ref x), (1, .int dd), (2, .int vv), (3, .int pp)] := hl
  refine lv_aload_n (pc := 8) hx hb dV_withdrawRefusal_8 rfl (lv_at hl 1 rfl) ?_
  refine lv_iload_n (pc := 9) hx hb dV_withdrawRefusal_9 rfl (lv_at hl 4 rfl) ?_
  refine lv_iconst (pc := 10) (v := 4) hx hb dV_withdrawRefusal_10 (by decide) ?_
  refine vp_callSi (pc := 11) (W.runV (As := [.int pp, .int 4]) (rest := []) ⟨hx, hb, hml, hown, hts⟩ (v_hasRight l dC dI x rt dr bs df ch pg rs cR pp 4) (cwV 2 hts (gV wd_46 wd_47 wd_48 wd_35 wd_45) rfl rfl rfl (by decide +kernel) ⟨Nat.le_of_ble_eq_true rfl, Nat.le_of_ble_eq_true rfl⟩) ⟨pR_blind, va_recv (q := (RV, TV, 9)) (q0 := 0) (ci := 0) hK hP rfl rfl, pR_pre (hP.sub (ws' := [(x, .inr (0, [.ref rt, .ref dr, .int 0, .int 0, .ref bs, .ref df, .ref ch, .ref pg, .int rs])), (rt, .inl (cR, 16, .inl (fun _ => 0)))]) [0, 1] rfl) (hK.sub (tys' := [(cR, .int)]) [0] rfl)⟩ rfl rfl hl.1 rfl (lv_room (Nat.le_of_ble_eq_true rfl)) dV_withdrawRefusal_11 ⟨Nat.le_of_ble_eq_true rfl, Nat.le_of_ble_eq_true rfl⟩) (fun r3 hr4 => ?_)
  obtain rfl : r3 = 0 := hr4
  refine lv_if_ne (pc := 14) (tgt := 19) hx hb dV_withdrawRefusal_14 rfl (fun h5 => absurd h5 (by decide)) (fun h5 => ?_)
  refine lv_iconst (pc := 17) (v := 1) hx hb dV_withdrawRefusal_17 (by decide) ?_
  exact W.iret (pc := 18) hx hb hr (fun t ht hW => ⟨_, rfl, rfl, ht.trans hH⟩) (fun q h => nomatch h) dV_withdrawRefusal_18
set_option maxHeartbeats 4000000 in
set_option maxRecDepth 100000 in
theorem v_why (l : Launch) (dC : Nat → ClassId) (dI : Nat → Nat → Nat) (x : Nat) (rt : Nat) (dr : Nat) (bs : Nat) (df : Nat) (ch : Nat) (pg : Nat) (rs : Int32) : Met l yV_why (.code yV_why cV_why 1 (some .int) :: aw) ({ frames := 0, cells := 0, slots := 0, locals := 0 }) (pR (dC, dI) [(x, .inr (0, [.ref rt, .ref dr, .int 0, .int 0, .ref bs, .ref df, .ref ch, .ref pg, .int rs]))] [] [.ref x]) (vp_Si (fun r => r = rs)) 0 0 (fun _ => False) := by
  refine Met.ofW (cc := cV_why) (maxL := 1) (ret := (some .int)) (by decide) rfl ?_
  intro p e s m args below meth c s₁ B hml hv
  obtain ⟨rfl, hv⟩ := hv
  have hx := B.exec
  have hb := B.bytes
  have hr := B.returns
  have hts : ∀ w ∈ aw, w.before _ s = true := fun w h => atoms_spec (ws := (.code yV_why cV_why 1 (some .int) :: aw)) B.pre w (List.mem_cons_of_mem _ h)
  have hown : s.vm.findClass RV = some m.cls := findClass_of_methodNamed B.named
  have hlocks := B.notSynchronized
  obtain ⟨hP, hK⟩ := hv
  obtain ⟨H, hH⟩ : ∃ H, H = s.heap := ⟨_, rfl⟩
  rw [← hH] at hP ⊢
  have hl := lv_entry ([.ref x]) (n := 1) (Nat.le_of_ble_eq_true rfl)
  rw [lg_entry_eq]
  generalize (lg_sl ([.ref x]) ++ List.replicate (1 - (lg_sl ([.ref x])).length) Slot.unset).toArray = ls at hl ⊢
  have hl : lv_has ls 1 [(0, .ref x)] := hl
  refine lv_aload_n (pc := 0) hx hb dV_why_0 rfl (lv_at hl 0 rfl) ?_
  refine va_get (D := (dC, dI)) (cl := kCl) (C := RV) (T := TV) (N := 9) (pc := 1) hx hb hts inV hown hK hP 0 rfl rfl 8 (by decide) (hts _ wd_53) (fun _ h9 => h9) rfl dV_why_1 ?_
  exact W.iret (pc := 4) hx hb hr (fun t ht hW => ⟨_, rfl, rfl, ht.trans hH⟩) (fun q h => nomatch h) dV_why_4
end
section
abbrev cV_allowed : ByteArray := prog_1_method_26_code
abbrev yV_allowed : MethodName := ⟨"DrawingVault", "allowed", "(I)Z"⟩
theorem dV_allowed_0 : decode cV_allowed 0 = .ok (.aload_n 0, 1) := by decide +kernel
theorem dV_allowed_1 : decode cV_allowed 1 = .ok (.iload_n 1, 1) := by decide +kernel
theorem dV_allowed_2 : decode cV_allowed 2 = .ok (.putfield 160, 3) := by decide +kernel
theorem dV_allowed_5 : decode cV_allowed 5 = .ok (.iload_n 1, 1) := by decide +kernel
theorem dV_allowed_6 : decode cV_allowed 6 = .ok (.ifCond .ne 7, 3) := by decide +kernel
theorem dV_allowed_9 : decode cV_allowed 9 = .ok (.iconst 1, 1) := by decide +kernel
theorem dV_allowed_10 : decode cV_allowed 10 = .ok (.goto 4, 3) := by decide +kernel
theorem dV_allowed_13 : decode cV_allowed 13 = .ok (.iconst 0, 1) := by decide +kernel
theorem dV_allowed_14 : decode cV_allowed 14 = .ok (.ireturn, 1) := by decide +kernel
abbrev cP_failsBy : ByteArray := prog_6_method_4_code
abbrev yP_failsBy : MethodName := ⟨"DrawingVault$Pages", "failsBy", "(I)Z"⟩
theorem dP_failsBy_0 : decode cP_failsBy 0 = .ok (.aload_n 0, 1) := by decide +kernel
theorem dP_failsBy_1 : decode cP_failsBy 1 = .ok (.getfield 15, 3) := by decide +kernel
theorem dP_failsBy_4 : decode cP_failsBy 4 = .ok (.ifCond .eq 15, 3) := by decide +kernel
theorem dP_failsBy_19 : decode cP_failsBy 19 = .ok (.iconst 0, 1) := by decide +kernel
theorem dP_failsBy_20 : decode cP_failsBy 20 = .ok (.ireturn, 1) := by decide +kernel
abbrev cV_mayWrite : ByteArray := prog_1_method_27_code
abbrev yV_mayWrite : MethodName := ⟨"DrawingVault", "mayWrite", "(II)Z"⟩
theorem dV_mayWrite_0 : decode cV_mayWrite 0 = .ok (.iload_n 1, 1) := by decide +kernel
theorem dV_mayWrite_1 : decode cV_mayWrite 1 = .ok (.ifCond .ne 21, 3) := by decide +kernel
theorem dV_mayWrite_4 : decode cV_mayWrite 4 = .ok (.iload_n 2, 1) := by decide +kernel
theorem dV_mayWrite_5 : decode cV_mayWrite 5 = .ok (.aload_n 0, 1) := by decide +kernel
theorem dV_mayWrite_6 : decode cV_mayWrite 6 = .ok (.getfield 40, 3) := by decide +kernel
theorem dV_mayWrite_9 : decode cV_mayWrite 9 = .ok (.getfield 253, 3) := by decide +kernel
theorem dV_mayWrite_12 : decode cV_mayWrite 12 = .ok (.if_icmp .le 10, 3) := by decide +kernel
theorem dV_mayWrite_22 : decode cV_mayWrite 22 = .ok (.iload_n 1, 1) := by decide +kernel
theorem dV_mayWrite_23 : decode cV_mayWrite 23 = .ok (.ifCond .ne 30, 3) := by decide +kernel
theorem dV_mayWrite_26 : decode cV_mayWrite 26 = .ok (.aload_n 0, 1) := by decide +kernel
theorem dV_mayWrite_27 : decode cV_mayWrite 27 = .ok (.getfield 40, 3) := by decide +kernel
theorem dV_mayWrite_30 : decode cV_mayWrite 30 = .ok (.iload_n 2, 1) := by decide +kernel
theorem dV_mayWrite_31 : decode cV_mayWrite 31 = .ok (.invokevirtual 268, 3) := by decide +kernel
theorem dV_mayWrite_34 : decode cV_mayWrite 34 = .ok (.ifCond .eq 19, 3) := by decide +kernel
theorem dV_mayWrite_53 : decode cV_mayWrite 53 = .ok (.aload_n 0, 1) := by decide +kernel
theorem dV_mayWrite_54 : decode cV_mayWrite 54 = .ok (.iload_n 1, 1) := by decide +kernel
theorem dV_mayWrite_55 : decode cV_mayWrite 55 = .ok (.invokevirtual 100, 3) := by decide +kernel
theorem dV_mayWrite_58 : decode cV_mayWrite 58 = .ok (.ireturn, 1) := by decide +kernel
abbrev cV_becomes : ByteArray := prog_1_method_29_code
abbrev yV_becomes : MethodName := ⟨"DrawingVault", "becomes", "(IIII)Z"⟩
theorem dV_becomes_0 : decode cV_becomes 0 = .ok (.aload_n 0, 1) := by decide +kernel
theorem dV_becomes_1 : decode cV_becomes 1 = .ok (.iload_n 1, 1) := by decide +kernel
theorem dV_becomes_2 : decode cV_becomes 2 = .ok (.iload_n 2, 1) := by decide +kernel
theorem dV_becomes_3 : decode cV_becomes 3 = .ok (.invokevirtual 163, 3) := by decide +kernel
theorem dV_becomes_6 : decode cV_becomes 6 = .ok (.astore 5, 2) := by decide +kernel
theorem dV_becomes_8 : decode cV_becomes 8 = .ok (.aload_n 0, 1) := by decide +kernel
theorem dV_becomes_9 : decode cV_becomes 9 = .ok (.iload 4, 2) := by decide +kernel
theorem dV_becomes_11 : decode cV_becomes 11 = .ok (.iconst 1, 1) := by decide +kernel
theorem dV_becomes_12 : decode cV_becomes 12 = .ok (.invokevirtual 51, 3) := by decide +kernel
theorem dV_becomes_15 : decode cV_becomes 15 = .ok (.ifCond .eq 8, 3) := by decide +kernel
theorem dV_becomes_23 : decode cV_becomes 23 = .ok (.iconst 0, 1) := by decide +kernel
theorem dV_becomes_24 : decode cV_becomes 24 = .ok (.ireturn, 1) := by decide +kernel
abbrev cV_drawing : ByteArray := prog_1_method_3_code
abbrev yV_drawing : MethodName := ⟨"DrawingVault", "drawing", "(I)I"⟩
theorem dV_drawing_0 : decode cV_drawing 0 = .ok (.aload_n 0, 1) := by decide +kernel
theorem dV_drawing_1 : decode cV_drawing 1 = .ok (.invokevirtual 44, 3) := by decide +kernel
theorem dV_drawing_4 : decode cV_drawing 4 = .ok (.aload_n 0, 1) := by decide +kernel
theorem dV_drawing_5 : decode cV_drawing 5 = .ok (.aload_n 0, 1) := by decide +kernel
theorem dV_drawing_6 : decode cV_drawing 6 = .ok (.iload_n 1, 1) := by decide +kernel
theorem dV_drawing_7 : decode cV_drawing 7 = .ok (.invokevirtual 59, 3) := by decide +kernel
theorem dV_drawing_10 : decode cV_drawing 10 = .ok (.iconst 2, 1) := by decide +kernel
theorem dV_drawing_11 : decode cV_drawing 11 = .ok (.invokevirtual 51, 3) := by decide +kernel
theorem dV_drawing_14 : decode cV_drawing 14 = .ok (.ifCond .ne 5, 3) := by decide +kernel
theorem dV_drawing_17 : decode cV_drawing 17 = .ok (.iconst (-1), 1) := by decide +kernel
theorem dV_drawing_18 : decode cV_drawing 18 = .ok (.ireturn, 1) := by decide +kernel
abbrev cV_out : ByteArray := prog_1_method_4_code
abbrev yV_out : MethodName := ⟨"DrawingVault", "out", "(II)Z"⟩
theorem dV_out_0 : decode cV_out 0 = .ok (.aload_n 0, 1) := by decide +kernel
theorem dV_out_1 : decode cV_out 1 = .ok (.invokevirtual 44, 3) := by decide +kernel
theorem dV_out_4 : decode cV_out 4 = .ok (.aload_n 0, 1) := by decide +kernel
theorem dV_out_5 : decode cV_out 5 = .ok (.iload_n 1, 1) := by decide +kernel
theorem dV_out_6 : decode cV_out 6 = .ok (.invokevirtual 74, 3) := by decide +kernel
theorem dV_out_9 : decode cV_out 9 = .ok (.astore_n 3, 1) := by decide +kernel
theorem dV_out_10 : decode cV_out 10 = .ok (.aload_n 0, 1) := by decide +kernel
theorem dV_out_11 : decode cV_out 11 = .ok (.aload_n 0, 1) := by decide +kernel
theorem dV_out_12 : decode cV_out 12 = .ok (.aload_n 3, 1) := by decide +kernel
theorem dV_out_13 : decode cV_out 13 = .ok (.iload_n 2, 1) := by decide +kernel
theorem dV_out_14 : decode cV_out 14 = .ok (.invokevirtual 78, 3) := by decide +kernel
theorem dV_out_17 : decode cV_out 17 = .ok (.iconst 1, 1) := by decide +kernel
theorem dV_out_18 : decode cV_out 18 = .ok (.invokevirtual 51, 3) := by decide +kernel
theorem dV_out_21 : decode cV_out 21 = .ok (.ifCond .ne 5, 3) := by decide +kernel
theorem dV_out_24 : decode cV_out 24 = .ok (.iconst 0, 1) := by decide +kernel
theorem dV_out_25 : decode cV_out 25 = .ok (.ireturn, 1) := by decide +kernel
abbrev cV_undo : ByteArray := prog_1_method_5_code
abbrev yV_undo : MethodName := ⟨"DrawingVault", "undo", "(II)Z"⟩
theorem dV_undo_0 : decode cV_undo 0 = .ok (.aload_n 0, 1) := by decide +kernel
theorem dV_undo_1 : decode cV_undo 1 = .ok (.invokevirtual 44, 3) := by decide +kernel
theorem dV_undo_4 : decode cV_undo 4 = .ok (.aload_n 0, 1) := by decide +kernel
theorem dV_undo_5 : decode cV_undo 5 = .ok (.iload_n 1, 1) := by decide +kernel
theorem dV_undo_6 : decode cV_undo 6 = .ok (.invokevirtual 74, 3) := by decide +kernel
theorem dV_undo_9 : decode cV_undo 9 = .ok (.astore_n 3, 1) := by decide +kernel
theorem dV_undo_10 : decode cV_undo 10 = .ok (.aload_n 0, 1) := by decide +kernel
theorem dV_undo_11 : decode cV_undo 11 = .ok (.aload_n 0, 1) := by decide +kernel
theorem dV_undo_12 : decode cV_undo 12 = .ok (.aload_n 3, 1) := by decide +kernel
theorem dV_undo_13 : decode cV_undo 13 = .ok (.iload_n 2, 1) := by decide +kernel
theorem dV_undo_14 : decode cV_undo 14 = .ok (.invokevirtual 85, 3) := by decide +kernel
theorem dV_undo_17 : decode cV_undo 17 = .ok (.iconst 1, 1) := by decide +kernel
theorem dV_undo_18 : decode cV_undo 18 = .ok (.invokevirtual 51, 3) := by decide +kernel
theorem dV_undo_21 : decode cV_undo 21 = .ok (.ifCond .ne 5, 3) := by decide +kernel
theorem dV_undo_24 : decode cV_undo 24 = .ok (.iconst 0, 1) := by decide +kernel
theorem dV_undo_25 : decode cV_undo 25 = .ok (.ireturn, 1) := by decide +kernel
abbrev cV_put : ByteArray := prog_1_method_6_code
abbrev yV_put : MethodName := ⟨"DrawingVault", "put", "(IIII)Z"⟩
theorem dV_put_0 : decode cV_put 0 = .ok (.aload_n 0, 1) := by decide +kernel
theorem dV_put_1 : decode cV_put 1 = .ok (.invokevirtual 44, 3) := by decide +kernel
theorem dV_put_4 : decode cV_put 4 = .ok (.aload_n 0, 1) := by decide +kernel
theorem dV_put_5 : decode cV_put 5 = .ok (.iload_n 1, 1) := by decide +kernel
theorem dV_put_6 : decode cV_put 6 = .ok (.invokevirtual 74, 3) := by decide +kernel
theorem dV_put_9 : decode cV_put 9 = .ok (.astore 5, 2) := by decide +kernel
theorem dV_put_11 : decode cV_put 11 = .ok (.aload_n 0, 1) := by decide +kernel
theorem dV_put_12 : decode cV_put 12 = .ok (.aload 5, 2) := by decide +kernel
theorem dV_put_14 : decode cV_put 14 = .ok (.iload_n 2, 1) := by decide +kernel
theorem dV_put_15 : decode cV_put 15 = .ok (.invokevirtual 85, 3) := by decide +kernel
theorem dV_put_18 : decode cV_put 18 = .ok (.istore 6, 2) := by decide +kernel
theorem dV_put_20 : decode cV_put 20 = .ok (.iload 6, 2) := by decide +kernel
theorem dV_put_22 : decode cV_put 22 = .ok (.ifCond .ne 32, 3) := by decide +kernel
theorem dV_put_54 : decode cV_put 54 = .ok (.aload_n 0, 1) := by decide +kernel
theorem dV_put_55 : decode cV_put 55 = .ok (.iload 6, 2) := by decide +kernel
theorem dV_put_57 : decode cV_put 57 = .ok (.invokevirtual 100, 3) := by decide +kernel
theorem dV_put_60 : decode cV_put 60 = .ok (.ifCond .ne 5, 3) := by decide +kernel
theorem dV_put_63 : decode cV_put 63 = .ok (.iconst 0, 1) := by decide +kernel
theorem dV_put_64 : decode cV_put 64 = .ok (.ireturn, 1) := by decide +kernel
abbrev cV_resize : ByteArray := prog_1_method_7_code
abbrev yV_resize : MethodName := ⟨"DrawingVault", "resize", "(III)Z"⟩
theorem dV_resize_0 : decode cV_resize 0 = .ok (.aload_n 0, 1) := by decide +kernel
theorem dV_resize_1 : decode cV_resize 1 = .ok (.invokevirtual 44, 3) := by decide +kernel
theorem dV_resize_4 : decode cV_resize 4 = .ok (.aload_n 0, 1) := by decide +kernel
theorem dV_resize_5 : decode cV_resize 5 = .ok (.iload_n 1, 1) := by decide +kernel
theorem dV_resize_6 : decode cV_resize 6 = .ok (.invokevirtual 74, 3) := by decide +kernel
theorem dV_resize_9 : decode cV_resize 9 = .ok (.astore 4, 2) := by decide +kernel
theorem dV_resize_11 : decode cV_resize 11 = .ok (.aload_n 0, 1) := by decide +kernel
theorem dV_resize_12 : decode cV_resize 12 = .ok (.aload 4, 2) := by decide +kernel
theorem dV_resize_14 : decode cV_resize 14 = .ok (.iload_n 2, 1) := by decide +kernel
theorem dV_resize_15 : decode cV_resize 15 = .ok (.invokevirtual 85, 3) := by decide +kernel
theorem dV_resize_18 : decode cV_resize 18 = .ok (.istore 5, 2) := by decide +kernel
theorem dV_resize_20 : decode cV_resize 20 = .ok (.iload 5, 2) := by decide +kernel
theorem dV_resize_22 : decode cV_resize 22 = .ok (.ifCond .ne 17, 3) := by decide +kernel
theorem dV_resize_39 : decode cV_resize 39 = .ok (.aload_n 0, 1) := by decide +kernel
theorem dV_resize_40 : decode cV_resize 40 = .ok (.iload 5, 2) := by decide +kernel
theorem dV_resize_42 : decode cV_resize 42 = .ok (.invokevirtual 100, 3) := by decide +kernel
theorem dV_resize_45 : decode cV_resize 45 = .ok (.ifCond .ne 5, 3) := by decide +kernel
theorem dV_resize_48 : decode cV_resize 48 = .ok (.iconst 0, 1) := by decide +kernel
theorem dV_resize_49 : decode cV_resize 49 = .ok (.ireturn, 1) := by decide +kernel
abbrev cV_ref : ByteArray := prog_1_method_8_code
abbrev yV_ref : MethodName := ⟨"DrawingVault", "ref", "(IIIII)Z"⟩
theorem dV_ref_0 : decode cV_ref 0 = .ok (.aload_n 0, 1) := by decide +kernel
theorem dV_ref_1 : decode cV_ref 1 = .ok (.invokevirtual 44, 3) := by decide +kernel
theorem dV_ref_4 : decode cV_ref 4 = .ok (.aload_n 0, 1) := by decide +kernel
theorem dV_ref_5 : decode cV_ref 5 = .ok (.iload_n 1, 1) := by decide +kernel
theorem dV_ref_6 : decode cV_ref 6 = .ok (.invokevirtual 74, 3) := by decide +kernel
theorem dV_ref_9 : decode cV_ref 9 = .ok (.astore 6, 2) := by decide +kernel
theorem dV_ref_11 : decode cV_ref 11 = .ok (.aload_n 0, 1) := by decide +kernel
theorem dV_ref_12 : decode cV_ref 12 = .ok (.aload 6, 2) := by decide +kernel
theorem dV_ref_14 : decode cV_ref 14 = .ok (.iload_n 2, 1) := by decide +kernel
theorem dV_ref_15 : decode cV_ref 15 = .ok (.invokevirtual 85, 3) := by decide +kernel
theorem dV_ref_18 : decode cV_ref 18 = .ok (.istore 7, 2) := by decide +kernel
theorem dV_ref_20 : decode cV_ref 20 = .ok (.iload 7, 2) := by decide +kernel
theorem dV_ref_22 : decode cV_ref 22 = .ok (.ifCond .ne 19, 3) := by decide +kernel
theorem dV_ref_41 : decode cV_ref 41 = .ok (.aload_n 0, 1) := by decide +kernel
theorem dV_ref_42 : decode cV_ref 42 = .ok (.iload 7, 2) := by decide +kernel
theorem dV_ref_44 : decode cV_ref 44 = .ok (.invokevirtual 100, 3) := by decide +kernel
theorem dV_ref_47 : decode cV_ref 47 = .ok (.ifCond .ne 5, 3) := by decide +kernel
theorem dV_ref_50 : decode cV_ref 50 = .ok (.iconst 0, 1) := by decide +kernel
theorem dV_ref_51 : decode cV_ref 51 = .ok (.ireturn, 1) := by decide +kernel
abbrev cV_drop : ByteArray := prog_1_method_9_code
abbrev yV_drop : MethodName := ⟨"DrawingVault", "drop", "(III)Z"⟩
theorem dV_drop_0 : decode cV_drop 0 = .ok (.aload_n 0, 1) := by decide +kernel
theorem dV_drop_1 : decode cV_drop 1 = .ok (.invokevirtual 44, 3) := by decide +kernel
theorem dV_drop_4 : decode cV_drop 4 = .ok (.aload_n 0, 1) := by decide +kernel
theorem dV_drop_5 : decode cV_drop 5 = .ok (.iload_n 1, 1) := by decide +kernel
theorem dV_drop_6 : decode cV_drop 6 = .ok (.invokevirtual 74, 3) := by decide +kernel
theorem dV_drop_9 : decode cV_drop 9 = .ok (.astore 4, 2) := by decide +kernel
theorem dV_drop_11 : decode cV_drop 11 = .ok (.aload_n 0, 1) := by decide +kernel
theorem dV_drop_12 : decode cV_drop 12 = .ok (.aload 4, 2) := by decide +kernel
theorem dV_drop_14 : decode cV_drop 14 = .ok (.iload_n 2, 1) := by decide +kernel
theorem dV_drop_15 : decode cV_drop 15 = .ok (.invokevirtual 85, 3) := by decide +kernel
theorem dV_drop_18 : decode cV_drop 18 = .ok (.istore 5, 2) := by decide +kernel
theorem dV_drop_20 : decode cV_drop 20 = .ok (.iload 5, 2) := by decide +kernel
theorem dV_drop_22 : decode cV_drop 22 = .ok (.ifCond .ne 19, 3) := by decide +kernel
theorem dV_drop_41 : decode cV_drop 41 = .ok (.aload_n 0, 1) := by decide +kernel
theorem dV_drop_42 : decode cV_drop 42 = .ok (.iload 5, 2) := by decide +kernel
theorem dV_drop_44 : decode cV_drop 44 = .ok (.invokevirtual 100, 3) := by decide +kernel
theorem dV_drop_47 : decode cV_drop 47 = .ok (.ifCond .ne 5, 3) := by decide +kernel
theorem dV_drop_50 : decode cV_drop 50 = .ok (.iconst 0, 1) := by decide +kernel
theorem dV_drop_51 : decode cV_drop 51 = .ok (.ireturn, 1) := by decide +kernel
abbrev cV_checkIn : ByteArray := prog_1_method_10_code
abbrev yV_checkIn : MethodName := ⟨"DrawingVault", "checkIn", "(II)I"⟩
theorem dV_checkIn_0 : decode cV_checkIn 0 = .ok (.aload_n 0, 1) := by decide +kernel
theorem dV_checkIn_1 : decode cV_checkIn 1 = .ok (.invokevirtual 44, 3) := by decide +kernel
theorem dV_checkIn_4 : decode cV_checkIn 4 = .ok (.aload_n 0, 1) := by decide +kernel
theorem dV_checkIn_5 : decode cV_checkIn 5 = .ok (.iload_n 1, 1) := by decide +kernel
theorem dV_checkIn_6 : decode cV_checkIn 6 = .ok (.invokevirtual 74, 3) := by decide +kernel
theorem dV_checkIn_9 : decode cV_checkIn 9 = .ok (.astore_n 3, 1) := by decide +kernel
theorem dV_checkIn_10 : decode cV_checkIn 10 = .ok (.aload_n 0, 1) := by decide +kernel
theorem dV_checkIn_11 : decode cV_checkIn 11 = .ok (.aload_n 3, 1) := by decide +kernel
theorem dV_checkIn_12 : decode cV_checkIn 12 = .ok (.iload_n 2, 1) := by decide +kernel
theorem dV_checkIn_13 : decode cV_checkIn 13 = .ok (.invokevirtual 85, 3) := by decide +kernel
theorem dV_checkIn_16 : decode cV_checkIn 16 = .ok (.istore 4, 2) := by decide +kernel
theorem dV_checkIn_18 : decode cV_checkIn 18 = .ok (.iconst 0, 1) := by decide +kernel
theorem dV_checkIn_19 : decode cV_checkIn 19 = .ok (.istore 5, 2) := by decide +kernel
theorem dV_checkIn_21 : decode cV_checkIn 21 = .ok (.iload 4, 2) := by decide +kernel
theorem dV_checkIn_23 : decode cV_checkIn 23 = .ok (.ifCond .ne 26, 3) := by decide +kernel
theorem dV_checkIn_49 : decode cV_checkIn 49 = .ok (.aload_n 0, 1) := by decide +kernel
theorem dV_checkIn_50 : decode cV_checkIn 50 = .ok (.iload 4, 2) := by decide +kernel
theorem dV_checkIn_52 : decode cV_checkIn 52 = .ok (.iload 5, 2) := by decide +kernel
theorem dV_checkIn_54 : decode cV_checkIn 54 = .ok (.invokevirtual 51, 3) := by decide +kernel
theorem dV_checkIn_57 : decode cV_checkIn 57 = .ok (.ifCond .ne 5, 3) := by decide +kernel
theorem dV_checkIn_60 : decode cV_checkIn 60 = .ok (.iconst (-1), 1) := by decide +kernel
theorem dV_checkIn_61 : decode cV_checkIn 61 = .ok (.ireturn, 1) := by decide +kernel
abbrev cV_check : ByteArray := prog_1_method_11_code
abbrev yV_check : MethodName := ⟨"DrawingVault", "check", "(III)Z"⟩
theorem dV_check_0 : decode cV_check 0 = .ok (.aload_n 0, 1) := by decide +kernel
theorem dV_check_1 : decode cV_check 1 = .ok (.invokevirtual 44, 3) := by decide +kernel
theorem dV_check_4 : decode cV_check 4 = .ok (.aload_n 0, 1) := by decide +kernel
theorem dV_check_5 : decode cV_check 5 = .ok (.iload_n 1, 1) := by decide +kernel
theorem dV_check_6 : decode cV_check 6 = .ok (.iload_n 2, 1) := by decide +kernel
theorem dV_check_7 : decode cV_check 7 = .ok (.iconst 1, 1) := by decide +kernel
theorem dV_check_8 : decode cV_check 8 = .ok (.aload_n 0, 1) := by decide +kernel
theorem dV_check_9 : decode cV_check 9 = .ok (.iload_n 1, 1) := by decide +kernel
theorem dV_check_10 : decode cV_check 10 = .ok (.iload_n 2, 1) := by decide +kernel
theorem dV_check_11 : decode cV_check 11 = .ok (.iload_n 3, 1) := by decide +kernel
theorem dV_check_12 : decode cV_check 12 = .ok (.invokevirtual 136, 3) := by decide +kernel
theorem dV_check_15 : decode cV_check 15 = .ok (.invokevirtual 140, 3) := by decide +kernel
theorem dV_check_18 : decode cV_check 18 = .ok (.ireturn, 1) := by decide +kernel
abbrev cV_release : ByteArray := prog_1_method_12_code
abbrev yV_release : MethodName := ⟨"DrawingVault", "release", "(III)Z"⟩
theorem dV_release_0 : decode cV_release 0 = .ok (.aload_n 0, 1) := by decide +kernel
theorem dV_release_1 : decode cV_release 1 = .ok (.invokevirtual 44, 3) := by decide +kernel
theorem dV_release_4 : decode cV_release 4 = .ok (.aload_n 0, 1) := by decide +kernel
theorem dV_release_5 : decode cV_release 5 = .ok (.iload_n 1, 1) := by decide +kernel
theorem dV_release_6 : decode cV_release 6 = .ok (.iload_n 2, 1) := by decide +kernel
theorem dV_release_7 : decode cV_release 7 = .ok (.iconst 2, 1) := by decide +kernel
theorem dV_release_8 : decode cV_release 8 = .ok (.aload_n 0, 1) := by decide +kernel
theorem dV_release_9 : decode cV_release 9 = .ok (.iload_n 1, 1) := by decide +kernel
theorem dV_release_10 : decode cV_release 10 = .ok (.iload_n 2, 1) := by decide +kernel
theorem dV_release_11 : decode cV_release 11 = .ok (.iload_n 3, 1) := by decide +kernel
theorem dV_release_12 : decode cV_release 12 = .ok (.invokevirtual 144, 3) := by decide +kernel
theorem dV_release_15 : decode cV_release 15 = .ok (.invokevirtual 140, 3) := by decide +kernel
theorem dV_release_18 : decode cV_release 18 = .ok (.ireturn, 1) := by decide +kernel
abbrev cV_withdraw : ByteArray := prog_1_method_13_code
abbrev yV_withdraw : MethodName := ⟨"DrawingVault", "withdraw", "(III)Z"⟩
theorem dV_withdraw_0 : decode cV_withdraw 0 = .ok (.aload_n 0, 1) := by decide +kernel
theorem dV_withdraw_1 : decode cV_withdraw 1 = .ok (.invokevirtual 44, 3) := by decide +kernel
theorem dV_withdraw_4 : decode cV_withdraw 4 = .ok (.aload_n 0, 1) := by decide +kernel
theorem dV_withdraw_5 : decode cV_withdraw 5 = .ok (.iload_n 1, 1) := by decide +kernel
theorem dV_withdraw_6 : decode cV_withdraw 6 = .ok (.iload_n 2, 1) := by decide +kernel
theorem dV_withdraw_7 : decode cV_withdraw 7 = .ok (.iconst 3, 1) := by decide +kernel
theorem dV_withdraw_8 : decode cV_withdraw 8 = .ok (.aload_n 0, 1) := by decide +kernel
theorem dV_withdraw_9 : decode cV_withdraw 9 = .ok (.iload_n 1, 1) := by decide +kernel
theorem dV_withdraw_10 : decode cV_withdraw 10 = .ok (.iload_n 2, 1) := by decide +kernel
theorem dV_withdraw_11 : decode cV_withdraw 11 = .ok (.iload_n 3, 1) := by decide +kernel
theorem dV_withdraw_12 : decode cV_withdraw 12 = .ok (.invokevirtual 147, 3) := by decide +kernel
theorem dV_withdraw_15 : decode cV_withdraw 15 = .ok (.invokevirtual 140, 3) := by decide +kernel
theorem dV_withdraw_18 : decode cV_withdraw 18 = .ok (.ireturn, 1) := by decide +kernel
abbrev cP_write : ByteArray := prog_6_method_5_code
abbrev yP_write : MethodName := ⟨"DrawingVault$Pages", "write", "(I)V"⟩
theorem dP_write_0 : decode cP_write 0 = .ok (.aload_n 0, 1) := by decide +kernel
theorem dP_write_1 : decode cP_write 1 = .ok (.dup, 1) := by decide +kernel
theorem dP_write_2 : decode cP_write 2 = .ok (.getfield 9, 3) := by decide +kernel
theorem dP_write_5 : decode cP_write 5 = .ok (.iload_n 1, 1) := by decide +kernel
theorem dP_write_6 : decode cP_write 6 = .ok (.isub, 1) := by decide +kernel
theorem dP_write_7 : decode cP_write 7 = .ok (.putfield 9, 3) := by decide +kernel
theorem dP_write_10 : decode cP_write 10 = .ok (.aload_n 0, 1) := by decide +kernel
theorem dP_write_11 : decode cP_write 11 = .ok (.dup, 1) := by decide +kernel
theorem dP_write_12 : decode cP_write 12 = .ok (.getfield 25, 3) := by decide +kernel
theorem dP_write_15 : decode cP_write 15 = .ok (.iconst 1, 1) := by decide +kernel
theorem dP_write_16 : decode cP_write 16 = .ok (.iadd, 1) := by decide +kernel
theorem dP_write_17 : decode cP_write 17 = .ok (.putfield 25, 3) := by decide +kernel
theorem dP_write_20 : decode cP_write 20 = .ok (.aload_n 0, 1) := by decide +kernel
theorem dP_write_21 : decode cP_write 21 = .ok (.getfield 15, 3) := by decide +kernel
theorem dP_write_24 : decode cP_write 24 = .ok (.ifCond .eq 13, 3) := by decide +kernel
theorem dP_write_37 : decode cP_write 37 = .ok (.return_, 1) := by decide +kernel
abbrev cP_areLow : ByteArray := prog_6_method_6_code
abbrev yP_areLow : MethodName := ⟨"DrawingVault$Pages", "areLow", "()Z"⟩
theorem dP_areLow_0 : decode cP_areLow 0 = .ok (.aload_n 0, 1) := by decide +kernel
theorem dP_areLow_1 : decode cP_areLow 1 = .ok (.getfield 9, 3) := by decide +kernel
theorem dP_areLow_4 : decode cP_areLow 4 = .ok (.bipush 40, 2) := by decide +kernel
theorem dP_areLow_6 : decode cP_areLow 6 = .ok (.if_icmp .ge 7, 3) := by decide +kernel
theorem dP_areLow_13 : decode cP_areLow 13 = .ok (.iconst 0, 1) := by decide +kernel
theorem dP_areLow_14 : decode cP_areLow 14 = .ok (.ireturn, 1) := by decide +kernel
abbrev cV_finish : ByteArray := prog_1_method_28_code
abbrev yV_finish : MethodName := ⟨"DrawingVault", "finish", "(I)V"⟩
theorem dV_finish_0 : decode cV_finish 0 = .ok (.aload_n 0, 1) := by decide +kernel
theorem dV_finish_1 : decode cV_finish 1 = .ok (.getfield 40, 3) := by decide +kernel
theorem dV_finish_4 : decode cV_finish 4 = .ok (.iload_n 1, 1) := by decide +kernel
theorem dV_finish_5 : decode cV_finish 5 = .ok (.invokevirtual 271, 3) := by decide +kernel
theorem dV_finish_8 : decode cV_finish 8 = .ok (.iconst 0, 1) := by decide +kernel
theorem dV_finish_9 : decode cV_finish 9 = .ok (.istore_n 2, 1) := by decide +kernel
theorem dV_finish_10 : decode cV_finish 10 = .ok (.iload_n 2, 1) := by decide +kernel
theorem dV_finish_11 : decode cV_finish 11 = .ok (.aload_n 0, 1) := by decide +kernel
theorem dV_finish_12 : decode cV_finish 12 = .ok (.getfield 67, 3) := by decide +kernel
theorem dV_finish_15 : decode cV_finish 15 = .ok (.if_icmp .ge 30, 3) := by decide +kernel
theorem dV_finish_45 : decode cV_finish 45 = .ok (.aload_n 0, 1) := by decide +kernel
theorem dV_finish_46 : decode cV_finish 46 = .ok (.getfield 40, 3) := by decide +kernel
theorem dV_finish_49 : decode cV_finish 49 = .ok (.invokevirtual 274, 3) := by decide +kernel
theorem dV_finish_52 : decode cV_finish 52 = .ok (.ifCond .eq 14, 3) := by decide +kernel
theorem dV_finish_66 : decode cV_finish 66 = .ok (.return_, 1) := by decide +kernel
abbrev cV_person : ByteArray := prog_1_method_2_code
abbrev yV_person : MethodName := ⟨"DrawingVault", "person", "(II)Z"⟩
theorem dV_person_0 : decode cV_person 0 = .ok (.aload_n 0, 1) := by decide +kernel
theorem dV_person_1 : decode cV_person 1 = .ok (.invokevirtual 44, 3) := by decide +kernel
theorem dV_person_4 : decode cV_person 4 = .ok (.iload_n 1, 1) := by decide +kernel
theorem dV_person_5 : decode cV_person 5 = .ok (.invokestatic 47, 3) := by decide +kernel
theorem dV_person_8 : decode cV_person 8 = .ok (.ifCond .eq 17, 3) := by decide +kernel
theorem dV_person_11 : decode cV_person 11 = .ok (.iload_n 2, 1) := by decide +kernel
theorem dV_person_12 : decode cV_person 12 = .ok (.ifCond .lt 13, 3) := by decide +kernel
theorem dV_person_15 : decode cV_person 15 = .ok (.iload_n 2, 1) := by decide +kernel
theorem dV_person_16 : decode cV_person 16 = .ok (.bipush 7, 2) := by decide +kernel
theorem dV_person_18 : decode cV_person 18 = .ok (.if_icmp .gt 7, 3) := by decide +kernel
theorem dV_person_21 : decode cV_person 21 = .ok (.iconst 1, 1) := by decide +kernel
theorem dV_person_22 : decode cV_person 22 = .ok (.goto 4, 3) := by decide +kernel
theorem dV_person_25 : decode cV_person 25 = .ok (.iconst 0, 1) := by decide +kernel
theorem dV_person_26 : decode cV_person 26 = .ok (.istore_n 3, 1) := by decide +kernel
theorem dV_person_27 : decode cV_person 27 = .ok (.aload_n 0, 1) := by decide +kernel
theorem dV_person_28 : decode cV_person 28 = .ok (.iload_n 3, 1) := by decide +kernel
theorem dV_person_29 : decode cV_person 29 = .ok (.ifCond .eq 7, 3) := by decide +kernel
theorem dV_person_32 : decode cV_person 32 = .ok (.iconst 0, 1) := by decide +kernel
theorem dV_person_33 : decode cV_person 33 = .ok (.goto 5, 3) := by decide +kernel
theorem dV_person_36 : decode cV_person 36 = .ok (.bipush 7, 2) := by decide +kernel
theorem dV_person_38 : decode cV_person 38 = .ok (.iconst 1, 1) := by decide +kernel
theorem dV_person_39 : decode cV_person 39 = .ok (.invokevirtual 51, 3) := by decide +kernel
theorem dV_person_42 : decode cV_person 42 = .ok (.ifCond .ne 5, 3) := by decide +kernel
theorem dV_person_45 : decode cV_person 45 = .ok (.iconst 0, 1) := by decide +kernel
theorem dV_person_46 : decode cV_person 46 = .ok (.ireturn, 1) := by decide +kernel
theorem dV_person_47 : decode cV_person 47 = .ok (.aload_n 0, 1) := by decide +kernel
theorem dV_person_48 : decode cV_person 48 = .ok (.getfield 9, 3) := by decide +kernel
theorem dV_person_51 : decode cV_person 51 = .ok (.iload_n 1, 1) := by decide +kernel
theorem dV_person_52 : decode cV_person 52 = .ok (.iload_n 2, 1) := by decide +kernel
theorem dV_person_53 : decode cV_person 53 = .ok (.iastore, 1) := by decide +kernel
theorem dV_person_54 : decode cV_person 54 = .ok (.aload_n 0, 1) := by decide +kernel
theorem dV_person_55 : decode cV_person 55 = .ok (.iconst 1, 1) := by decide +kernel
theorem dV_person_56 : decode cV_person 56 = .ok (.invokevirtual 55, 3) := by decide +kernel
theorem dV_person_59 : decode cV_person 59 = .ok (.iconst 1, 1) := by decide +kernel
theorem dV_person_60 : decode cV_person 60 = .ok (.ireturn, 1) := by decide +kernel
abbrev cP_failAhead : ByteArray := prog_6_method_2_code
abbrev yP_failAhead : MethodName := ⟨"DrawingVault$Pages", "failAhead", "(I)V"⟩
theorem dP_failAhead_0 : decode cP_failAhead 0 = .ok (.aload_n 0, 1) := by decide +kernel
theorem dP_failAhead_1 : decode cP_failAhead 1 = .ok (.iconst 1, 1) := by decide +kernel
theorem dP_failAhead_2 : decode cP_failAhead 2 = .ok (.putfield 15, 3) := by decide +kernel
theorem dP_failAhead_5 : decode cP_failAhead 5 = .ok (.aload_n 0, 1) := by decide +kernel
theorem dP_failAhead_6 : decode cP_failAhead 6 = .ok (.iload_n 1, 1) := by decide +kernel
theorem dP_failAhead_7 : decode cP_failAhead 7 = .ok (.putfield 19, 3) := by decide +kernel
theorem dP_failAhead_10 : decode cP_failAhead 10 = .ok (.return_, 1) := by decide +kernel
abbrev cV_failAfter : ByteArray := prog_1_method_22_code
abbrev yV_failAfter : MethodName := ⟨"DrawingVault", "failAfter", "(I)Z"⟩
theorem dV_failAfter_0 : decode cV_failAfter 0 = .ok (.iload_n 1, 1) := by decide +kernel
theorem dV_failAfter_1 : decode cV_failAfter 1 = .ok (.ifCond .lt 13, 3) := by decide +kernel
theorem dV_failAfter_4 : decode cV_failAfter 4 = .ok (.aload_n 0, 1) := by decide +kernel
theorem dV_failAfter_5 : decode cV_failAfter 5 = .ok (.getfield 40, 3) := by decide +kernel
theorem dV_failAfter_8 : decode cV_failAfter 8 = .ok (.getfield 230, 3) := by decide +kernel
theorem dV_failAfter_11 : decode cV_failAfter 11 = .ok (.ifCond .eq 5, 3) := by decide +kernel
theorem dV_failAfter_14 : decode cV_failAfter 14 = .ok (.iconst 0, 1) := by decide +kernel
theorem dV_failAfter_15 : decode cV_failAfter 15 = .ok (.ireturn, 1) := by decide +kernel
theorem dV_failAfter_16 : decode cV_failAfter 16 = .ok (.aload_n 0, 1) := by decide +kernel
theorem dV_failAfter_17 : decode cV_failAfter 17 = .ok (.getfield 40, 3) := by decide +kernel
theorem dV_failAfter_20 : decode cV_failAfter 20 = .ok (.iload_n 1, 1) := by decide +kernel
theorem dV_failAfter_21 : decode cV_failAfter 21 = .ok (.invokevirtual 234, 3) := by decide +kernel
theorem dV_failAfter_24 : decode cV_failAfter 24 = .ok (.iconst 1, 1) := by decide +kernel
theorem dV_failAfter_25 : decode cV_failAfter 25 = .ok (.ireturn, 1) := by decide +kernel
abbrev cP_switchOn : ByteArray := prog_6_method_3_code
abbrev yP_switchOn : MethodName := ⟨"DrawingVault$Pages", "switchOn", "()V"⟩
theorem dP_switchOn_0 : decode cP_switchOn 0 = .ok (.aload_n 0, 1) := by decide +kernel
theorem dP_switchOn_1 : decode cP_switchOn 1 = .ok (.iconst 0, 1) := by decide +kernel
theorem dP_switchOn_2 : decode cP_switchOn 2 = .ok (.putfield 22, 3) := by decide +kernel
theorem dP_switchOn_5 : decode cP_switchOn 5 = .ok (.aload_n 0, 1) := by decide +kernel
theorem dP_switchOn_6 : decode cP_switchOn 6 = .ok (.iconst 0, 1) := by decide +kernel
theorem dP_switchOn_7 : decode cP_switchOn 7 = .ok (.putfield 15, 3) := by decide +kernel
theorem dP_switchOn_10 : decode cP_switchOn 10 = .ok (.return_, 1) := by decide +kernel
abbrev cV_drawingsOut : ByteArray := prog_1_method_57_code
abbrev yV_drawingsOut : MethodName := ⟨"DrawingVault", "drawingsOut", "()I"⟩
theorem dV_drawingsOut_0 : decode cV_drawingsOut 0 = .ok (.iconst 0, 1) := by decide +kernel
theorem dV_drawingsOut_1 : decode cV_drawingsOut 1 = .ok (.istore_n 1, 1) := by decide +kernel
theorem dV_drawingsOut_2 : decode cV_drawingsOut 2 = .ok (.iconst 0, 1) := by decide +kernel
theorem dV_drawingsOut_3 : decode cV_drawingsOut 3 = .ok (.istore_n 2, 1) := by decide +kernel
theorem dV_drawingsOut_4 : decode cV_drawingsOut 4 = .ok (.iload_n 2, 1) := by decide +kernel
theorem dV_drawingsOut_5 : decode cV_drawingsOut 5 = .ok (.aload_n 0, 1) := by decide +kernel
theorem dV_drawingsOut_6 : decode cV_drawingsOut 6 = .ok (.getfield 67, 3) := by decide +kernel
theorem dV_drawingsOut_9 : decode cV_drawingsOut 9 = .ok (.if_icmp .ge 25, 3) := by decide +kernel
theorem dV_drawingsOut_34 : decode cV_drawingsOut 34 = .ok (.iload_n 1, 1) := by decide +kernel
theorem dV_drawingsOut_35 : decode cV_drawingsOut 35 = .ok (.ireturn, 1) := by decide +kernel
abbrev cV_start : ByteArray := prog_1_method_23_code
abbrev yV_start : MethodName := ⟨"DrawingVault", "start", "()I"⟩
theorem dV_start_0 : decode cV_start 0 = .ok (.iconst 0, 1) := by decide +kernel
theorem dV_start_1 : decode cV_start 1 = .ok (.istore_n 1, 1) := by decide +kernel
theorem dV_start_2 : decode cV_start 2 = .ok (.iload_n 1, 1) := by decide +kernel
theorem dV_start_3 : decode cV_start 3 = .ok (.aload_n 0, 1) := by decide +kernel
theorem dV_start_4 : decode cV_start 4 = .ok (.getfield 67, 3) := by decide +kernel
theorem dV_start_7 : decode cV_start 7 = .ok (.if_icmp .ge 30, 3) := by decide +kernel
theorem dV_start_37 : decode cV_start 37 = .ok (.aload_n 0, 1) := by decide +kernel
theorem dV_start_38 : decode cV_start 38 = .ok (.getfield 40, 3) := by decide +kernel
theorem dV_start_41 : decode cV_start 41 = .ok (.invokevirtual 244, 3) := by decide +kernel
theorem dV_start_44 : decode cV_start 44 = .ok (.aload_n 0, 1) := by decide +kernel
theorem dV_start_45 : decode cV_start 45 = .ok (.invokevirtual 247, 3) := by decide +kernel
theorem dV_start_48 : decode cV_start 48 = .ok (.ireturn, 1) := by decide +kernel
abbrev cV_user : ByteArray := prog_1_method_20_code
abbrev yV_user : MethodName := ⟨"DrawingVault", "user", "(IZI)I"⟩
theorem dV_user_0 : decode cV_user 0 = .ok (.aload_n 0, 1) := by decide +kernel
theorem dV_user_1 : decode cV_user 1 = .ok (.iload_n 1, 1) := by decide +kernel
theorem dV_user_2 : decode cV_user 2 = .ok (.invokevirtual 74, 3) := by decide +kernel
theorem dV_user_5 : decode cV_user 5 = .ok (.ifnonnull 5, 3) := by decide +kernel
theorem dV_user_8 : decode cV_user 8 = .ok (.iconst (-1), 1) := by decide +kernel
theorem dV_user_9 : decode cV_user 9 = .ok (.ireturn, 1) := by decide +kernel
abbrev cK_clear : ByteArray := prog_3_method_2_code
abbrev yK_clear : MethodName := ⟨"DrawingVault$ChunkSet", "clear", "()V"⟩
theorem dK_clear_0 : decode cK_clear 0 = .ok (.aload_n 0, 1) := by decide +kernel
theorem dK_clear_1 : decode cK_clear 1 = .ok (.iconst 0, 1) := by decide +kernel
theorem dK_clear_2 : decode cK_clear 2 = .ok (.putfield 19, 3) := by decide +kernel
theorem dK_clear_5 : decode cK_clear 5 = .ok (.return_, 1) := by decide +kernel
abbrev cV_chunksOfRevisions : ByteArray := prog_1_method_59_code
abbrev yV_chunksOfRevisions : MethodName := ⟨"DrawingVault", "chunksOfRevisions", "()I"⟩
theorem dV_chunksOfRevisions_0 : decode cV_chunksOfRevisions 0 = .ok (.aload_n 0, 1) := by decide +kernel
theorem dV_chunksOfRevisions_1 : decode cV_chunksOfRevisions 1 = .ok (.getfield 33, 3) := by decide +kernel
theorem dV_chunksOfRevisions_4 : decode cV_chunksOfRevisions 4 = .ok (.invokevirtual 345, 3) := by decide +kernel
theorem dV_chunksOfRevisions_7 : decode cV_chunksOfRevisions 7 = .ok (.iconst 0, 1) := by decide +kernel
theorem dV_chunksOfRevisions_8 : decode cV_chunksOfRevisions 8 = .ok (.istore_n 1, 1) := by decide +kernel
theorem dV_chunksOfRevisions_9 : decode cV_chunksOfRevisions 9 = .ok (.iload_n 1, 1) := by decide +kernel
theorem dV_chunksOfRevisions_10 : decode cV_chunksOfRevisions 10 = .ok (.aload_n 0, 1) := by decide +kernel
theorem dV_chunksOfRevisions_11 : decode cV_chunksOfRevisions 11 = .ok (.getfield 67, 3) := by decide +kernel
theorem dV_chunksOfRevisions_14 : decode cV_chunksOfRevisions 14 = .ok (.if_icmp .ge 51, 3) := by decide +kernel
theorem dV_chunksOfRevisions_65 : decode cV_chunksOfRevisions 65 = .ok (.aload_n 0, 1) := by decide +kernel
theorem dV_chunksOfRevisions_66 : decode cV_chunksOfRevisions 66 = .ok (.getfield 33, 3) := by decide +kernel
theorem dV_chunksOfRevisions_69 : decode cV_chunksOfRevisions 69 = .ok (.getfield 349, 3) := by decide +kernel
theorem dV_chunksOfRevisions_72 : decode cV_chunksOfRevisions 72 = .ok (.ireturn, 1) := by decide +kernel
abbrev cV_chunksKept : ByteArray := prog_1_method_60_code
abbrev yV_chunksKept : MethodName := ⟨"DrawingVault", "chunksKept", "()I"⟩
theorem dV_chunksKept_0 : decode cV_chunksKept 0 = .ok (.aload_n 0, 1) := by decide +kernel
theorem dV_chunksKept_1 : decode cV_chunksKept 1 = .ok (.invokevirtual 350, 3) := by decide +kernel
theorem dV_chunksKept_4 : decode cV_chunksKept 4 = .ok (.pop, 1) := by decide +kernel
theorem dV_chunksKept_5 : decode cV_chunksKept 5 = .ok (.iconst 0, 1) := by decide +kernel
theorem dV_chunksKept_6 : decode cV_chunksKept 6 = .ok (.istore_n 1, 1) := by decide +kernel
theorem dV_chunksKept_7 : decode cV_chunksKept 7 = .ok (.iload_n 1, 1) := by decide +kernel
theorem dV_chunksKept_8 : decode cV_chunksKept 8 = .ok (.aload_n 0, 1) := by decide +kernel
theorem dV_chunksKept_9 : decode cV_chunksKept 9 = .ok (.getfield 67, 3) := by decide +kernel
theorem dV_chunksKept_12 : decode cV_chunksKept 12 = .ok (.if_icmp .ge 25, 3) := by decide +kernel
theorem dV_chunksKept_37 : decode cV_chunksKept 37 = .ok (.aload_n 0, 1) := by decide +kernel
theorem dV_chunksKept_38 : decode cV_chunksKept 38 = .ok (.getfield 33, 3) := by decide +kernel
theorem dV_chunksKept_41 : decode cV_chunksKept 41 = .ok (.getfield 349, 3) := by decide +kernel
theorem dV_chunksKept_44 : decode cV_chunksKept 44 = .ok (.ireturn, 1) := by decide +kernel
abbrev cV_baselinesMade : ByteArray := prog_1_method_58_code
abbrev yV_baselinesMade : MethodName := ⟨"DrawingVault", "baselinesMade", "()I"⟩
theorem dV_baselinesMade_0 : decode cV_baselinesMade 0 = .ok (.iconst 0, 1) := by decide +kernel
theorem dV_baselinesMade_1 : decode cV_baselinesMade 1 = .ok (.istore_n 1, 1) := by decide +kernel
theorem dV_baselinesMade_2 : decode cV_baselinesMade 2 = .ok (.iconst 0, 1) := by decide +kernel
theorem dV_baselinesMade_3 : decode cV_baselinesMade 3 = .ok (.istore_n 2, 1) := by decide +kernel
theorem dV_baselinesMade_4 : decode cV_baselinesMade 4 = .ok (.iload_n 2, 1) := by decide +kernel
theorem dV_baselinesMade_5 : decode cV_baselinesMade 5 = .ok (.bipush 10, 2) := by decide +kernel
theorem dV_baselinesMade_7 : decode cV_baselinesMade 7 = .ok (.if_icmp .ge 21, 3) := by decide +kernel
theorem dV_baselinesMade_10 : decode cV_baselinesMade 10 = .ok (.aload_n 0, 1) := by decide +kernel
theorem dV_baselinesMade_11 : decode cV_baselinesMade 11 = .ok (.getfield 21, 3) := by decide +kernel
theorem dV_baselinesMade_14 : decode cV_baselinesMade 14 = .ok (.iload_n 2, 1) := by decide +kernel
theorem dV_baselinesMade_15 : decode cV_baselinesMade 15 = .ok (.aaload, 1) := by decide +kernel
theorem dV_baselinesMade_16 : decode cV_baselinesMade 16 = .ok (.ifnull 6, 3) := by decide +kernel
theorem dV_baselinesMade_22 : decode cV_baselinesMade 22 = .ok (.iinc 2 1, 3) := by decide +kernel
theorem dV_baselinesMade_25 : decode cV_baselinesMade 25 = .ok (.goto (-21), 3) := by decide +kernel
theorem dV_baselinesMade_28 : decode cV_baselinesMade 28 = .ok (.iload_n 1, 1) := by decide +kernel
theorem dV_baselinesMade_29 : decode cV_baselinesMade 29 = .ok (.ireturn, 1) := by decide +kernel
abbrev cV_count : ByteArray := prog_1_method_24_code
abbrev yV_count : MethodName := ⟨"DrawingVault", "count", "(I)I"⟩
theorem dV_count_0 : decode cV_count 0 = .ok (.iload_n 1, 1) := by decide +kernel
theorem dV_count_1 : decode cV_count 1 = .ok (.tableswitch 107 0 7 #[47, 52, 57, 62, 70, 78, 86, 91], 47) := by decide +kernel
theorem dV_count_48 : decode cV_count 48 = .ok (.aload_n 0, 1) := by decide +kernel
theorem dV_count_49 : decode cV_count 49 = .ok (.getfield 67, 3) := by decide +kernel
theorem dV_count_52 : decode cV_count 52 = .ok (.ireturn, 1) := by decide +kernel
theorem dV_count_53 : decode cV_count 53 = .ok (.aload_n 0, 1) := by decide +kernel
theorem dV_count_54 : decode cV_count 54 = .ok (.getfield 71, 3) := by decide +kernel
theorem dV_count_57 : decode cV_count 57 = .ok (.ireturn, 1) := by decide +kernel
theorem dV_count_58 : decode cV_count 58 = .ok (.aload_n 0, 1) := by decide +kernel
theorem dV_count_59 : decode cV_count 59 = .ok (.invokevirtual 250, 3) := by decide +kernel
theorem dV_count_62 : decode cV_count 62 = .ok (.ireturn, 1) := by decide +kernel
theorem dV_count_63 : decode cV_count 63 = .ok (.aload_n 0, 1) := by decide +kernel
theorem dV_count_64 : decode cV_count 64 = .ok (.getfield 40, 3) := by decide +kernel
theorem dV_count_67 : decode cV_count 67 = .ok (.getfield 253, 3) := by decide +kernel
theorem dV_count_70 : decode cV_count 70 = .ok (.ireturn, 1) := by decide +kernel
theorem dV_count_71 : decode cV_count 71 = .ok (.aload_n 0, 1) := by decide +kernel
theorem dV_count_72 : decode cV_count 72 = .ok (.getfield 40, 3) := by decide +kernel
theorem dV_count_75 : decode cV_count 75 = .ok (.getfield 256, 3) := by decide +kernel
theorem dV_count_78 : decode cV_count 78 = .ok (.ireturn, 1) := by decide +kernel
theorem dV_count_79 : decode cV_count 79 = .ok (.aload_n 0, 1) := by decide +kernel
theorem dV_count_80 : decode cV_count 80 = .ok (.getfield 40, 3) := by decide +kernel
theorem dV_count_83 : decode cV_count 83 = .ok (.getfield 259, 3) := by decide +kernel
theorem dV_count_86 : decode cV_count 86 = .ok (.ireturn, 1) := by decide +kernel
theorem dV_count_87 : decode cV_count 87 = .ok (.aload_n 0, 1) := by decide +kernel
theorem dV_count_88 : decode cV_count 88 = .ok (.invokevirtual 262, 3) := by decide +kernel
theorem dV_count_91 : decode cV_count 91 = .ok (.ireturn, 1) := by decide +kernel
theorem dV_count_92 : decode cV_count 92 = .ok (.aload_n 0, 1) := by decide +kernel
theorem dV_count_93 : decode cV_count 93 = .ok (.getfield 40, 3) := by decide +kernel
theorem dV_count_96 : decode cV_count 96 = .ok (.getfield 230, 3) := by decide +kernel
theorem dV_count_99 : decode cV_count 99 = .ok (.ifCond .eq 7, 3) := by decide +kernel
theorem dV_count_106 : decode cV_count 106 = .ok (.iconst 0, 1) := by decide +kernel
theorem dV_count_107 : decode cV_count 107 = .ok (.ireturn, 1) := by decide +kernel
theorem dV_count_108 : decode cV_count 108 = .ok (.iconst (-1), 1) := by decide +kernel
theorem dV_count_109 : decode cV_count 109 = .ok (.ireturn, 1) := by decide +kernel
theorem wd_54 : (.fieldLink "DrawingVault$Pages" 15 "DrawingVault$Pages" "failureAhead" "Z" : Cond) ∈ aw := aw_in (tb_1 (List.mem_of_getElem? (i := 84) rfl)) rfl
theorem wd_55 : (.fieldLink "DrawingVault" 253 "DrawingVault$Pages" "free" "I" : Cond) ∈ aw := aw_in (tb_1 (List.mem_of_getElem? (i := 77) rfl)) rfl
theorem wd_56 : (.code ⟨"DrawingVault$Pages", "failsBy", "(I)Z"⟩ prog_6_method_4_code 2 (Option.some .boolean) : Cond) ∈ aw := aw_in (tb_2 (List.mem_of_getElem? (i := 84) rfl)) rfl
theorem wd_57 : (.methodLink "DrawingVault" 268 ⟨"DrawingVault$Pages", "failsBy", "(I)Z"⟩ : Cond) ∈ aw := aw_in (tb_2 (List.mem_of_getElem? (i := 81) rfl)) rfl
theorem wd_58 : (.instanceMethod ⟨"DrawingVault$Pages", "failsBy", "(I)Z"⟩ : Cond) ∈ aw := aw_in (tb_2 (List.mem_of_getElem? (i := 82) rfl)) rfl
theorem wd_59 : (.selects "DrawingVault$Pages" ⟨"DrawingVault$Pages", "failsBy", "(I)Z"⟩ ⟨"DrawingVault$Pages", "failsBy", "(I)Z"⟩ : Cond) ∈ aw := aw_in (tb_2 (List.mem_of_getElem? (i := 83) rfl)) rfl
theorem wd_60 : (.initialized "DrawingVault$Pages" : Cond) ∈ aw := aw_in (tb_1 (List.mem_of_getElem? (i := 5) rfl)) rfl
theorem wd_61 : (.code ⟨"DrawingVault", "allowed", "(I)Z"⟩ prog_1_method_26_code 2 (Option.some .boolean) : Cond) ∈ aw := aw_in (tb_2 (List.mem_of_getElem? (i := 80) rfl)) rfl
theorem wd_62 : (.methodLink "DrawingVault" 100 ⟨"DrawingVault", "allowed", "(I)Z"⟩ : Cond) ∈ aw := aw_in (tb_2 (List.mem_of_getElem? (i := 77) rfl)) rfl
theorem wd_63 : (.instanceMethod ⟨"DrawingVault", "allowed", "(I)Z"⟩ : Cond) ∈ aw := aw_in (tb_2 (List.mem_of_getElem? (i := 79) rfl)) rfl
theorem wd_64 : (.selects "DrawingVault" ⟨"DrawingVault", "allowed", "(I)Z"⟩ ⟨"DrawingVault", "allowed", "(I)Z"⟩ : Cond) ∈ aw := aw_in (tb_s (q := (⟨"DrawingVault", "allowed", "(I)Z"⟩, _)) (List.mem_append_left _ (List.mem_of_getElem? (i := 11) rfl))) rfl
theorem wd_65 : (.code ⟨"DrawingVault", "mayWrite", "(II)Z"⟩ prog_1_method_27_code 3 (Option.some .boolean) : Cond) ∈ aw := aw_in (tb_2 (List.mem_of_getElem? (i := 76) rfl)) rfl
theorem wd_66 : (.methodLink "DrawingVault" 51 ⟨"DrawingVault", "mayWrite", "(II)Z"⟩ : Cond) ∈ aw := aw_in (tb_2 (List.mem_of_getElem? (i := 73) rfl)) rfl
theorem wd_67 : (.instanceMethod ⟨"DrawingVault", "mayWrite", "(II)Z"⟩ : Cond) ∈ aw := aw_in (tb_2 (List.mem_of_getElem? (i := 75) rfl)) rfl
theorem wd_68 : (.selects "DrawingVault" ⟨"DrawingVault", "mayWrite", "(II)Z"⟩ ⟨"DrawingVault", "mayWrite", "(II)Z"⟩ : Cond) ∈ aw := aw_in (tb_s (q := (⟨"DrawingVault", "mayWrite", "(II)Z"⟩, _)) (List.mem_append_left _ (List.mem_of_getElem? (i := 10) rfl))) rfl
theorem wd_69 : (.code ⟨"DrawingVault", "needPower", "()V"⟩ prog_1_method_25_code 1 (Option.none : Option Jvm.ClassFile.FieldType) : Cond) ∈ aw := aw_in (tb_2 (List.mem_of_getElem? (i := 7) rfl)) rfl
theorem wd_70 : (.methodLink "DrawingVault" 44 ⟨"DrawingVault", "needPower", "()V"⟩ : Cond) ∈ aw := aw_in (tb_2 (List.mem_of_getElem? (i := 4) rfl)) rfl
theorem wd_71 : (.instanceMethod ⟨"DrawingVault", "needPower", "()V"⟩ : Cond) ∈ aw := aw_in (tb_2 (List.mem_of_getElem? (i := 6) rfl)) rfl
theorem wd_72 : (.selects "DrawingVault" ⟨"DrawingVault", "needPower", "()V"⟩ ⟨"DrawingVault", "needPower", "()V"⟩ : Cond) ∈ aw := aw_in (tb_s (q := (⟨"DrawingVault", "needPower", "()V"⟩, _)) (List.mem_append_left _ (List.mem_of_getElem? (i := 8) rfl))) rfl
theorem wd_73 : (.code ⟨"DrawingVault", "drawingRefusal", "(I)I"⟩ prog_1_method_30_code 3 (Option.some .int) : Cond) ∈ aw := aw_in (tb_2 (List.mem_of_getElem? (i := 119) rfl)) rfl
theorem wd_74 : (.methodLink "DrawingVault" 59 ⟨"DrawingVault", "drawingRefusal", "(I)I"⟩ : Cond) ∈ aw := aw_in (tb_2 (List.mem_of_getElem? (i := 116) rfl)) rfl
theorem wd_75 : (.instanceMethod ⟨"DrawingVault", "drawingRefusal", "(I)I"⟩ : Cond) ∈ aw := aw_in (tb_2 (List.mem_of_getElem? (i := 118) rfl)) rfl
theorem wd_76 : (.selects "DrawingVault" ⟨"DrawingVault", "drawingRefusal", "(I)I"⟩ ⟨"DrawingVault", "drawingRefusal", "(I)I"⟩ : Cond) ∈ aw := aw_in (tb_s (q := (⟨"DrawingVault", "drawingRefusal", "(I)I"⟩, _)) (List.mem_append_left _ (List.mem_of_getElem? (i := 14) rfl))) rfl
theorem wd_77 : (.code ⟨"DrawingVault", "outRefusal", "(LDrawingVault$Drawing;I)I"⟩ prog_1_method_31_code 3 (Option.some .int) : Cond) ∈ aw := aw_in (tb_2 (List.mem_of_getElem? (i := 216) rfl)) rfl
theorem wd_78 : (.methodLink "DrawingVault" 78 ⟨"DrawingVault", "outRefusal", "(LDrawingVault$Drawing;I)I"⟩ : Cond) ∈ aw := aw_in (tb_2 (List.mem_of_getElem? (i := 213) rfl)) rfl
theorem wd_79 : (.instanceMethod ⟨"DrawingVault", "outRefusal", "(LDrawingVault$Drawing;I)I"⟩ : Cond) ∈ aw := aw_in (tb_2 (List.mem_of_getElem? (i := 215) rfl)) rfl
theorem wd_80 : (.selects "DrawingVault" ⟨"DrawingVault", "outRefusal", "(LDrawingVault$Drawing;I)I"⟩ ⟨"DrawingVault", "outRefusal", "(LDrawingVault$Drawing;I)I"⟩ : Cond) ∈ aw := aw_in (tb_s (q := (⟨"DrawingVault", "outRefusal", "(LDrawingVault$Drawing;I)I"⟩, _)) (List.mem_append_right _ (List.mem_append_left _ (List.mem_of_getElem? (i := 0) rfl)))) rfl
theorem wd_81 : (.code ⟨"DrawingVault", "copyRefusal", "(LDrawingVault$Drawing;I)I"⟩ prog_1_method_32_code 3 (Option.some .int) : Cond) ∈ aw := aw_in (tb_2 (List.mem_of_getElem? (i := 231) rfl)) rfl
theorem wd_82 : (.methodLink "DrawingVault" 85 ⟨"DrawingVault", "copyRefusal", "(LDrawingVault$Drawing;I)I"⟩ : Cond) ∈ aw := aw_in (tb_2 (List.mem_of_getElem? (i := 228) rfl)) rfl
theorem wd_83 : (.instanceMethod ⟨"DrawingVault", "copyRefusal", "(LDrawingVault$Drawing;I)I"⟩ : Cond) ∈ aw := aw_in (tb_2 (List.mem_of_getElem? (i := 230) rfl)) rfl
theorem wd_84 : (.selects "DrawingVault" ⟨"DrawingVault", "copyRefusal", "(LDrawingVault$Drawing;I)I"⟩ ⟨"DrawingVault", "copyRefusal", "(LDrawingVault$Drawing;I)I"⟩ : Cond) ∈ aw := aw_in (tb_s (q := (⟨"DrawingVault", "copyRefusal", "(LDrawingVault$Drawing;I)I"⟩, _)) (List.mem_append_right _ (List.mem_append_left _ (List.mem_of_getElem? (i := 1) rfl)))) rfl
theorem wd_85 : (.code ⟨"DrawingVault", "checkRefusal", "(III)I"⟩ prog_1_method_35_code 6 (Option.some .int) : Cond) ∈ aw := aw_in (tb_3 (List.mem_of_getElem? (i := 103) rfl)) rfl
theorem wd_86 : (.methodLink "DrawingVault" 136 ⟨"DrawingVault", "checkRefusal", "(III)I"⟩ : Cond) ∈ aw := aw_in (tb_3 (List.mem_of_getElem? (i := 100) rfl)) rfl
theorem wd_87 : (.instanceMethod ⟨"DrawingVault", "checkRefusal", "(III)I"⟩ : Cond) ∈ aw := aw_in (tb_3 (List.mem_of_getElem? (i := 102) rfl)) rfl
theorem wd_88 : (.selects "DrawingVault" ⟨"DrawingVault", "checkRefusal", "(III)I"⟩ ⟨"DrawingVault", "checkRefusal", "(III)I"⟩ : Cond) ∈ aw := aw_in (tb_s (q := (⟨"DrawingVault", "checkRefusal", "(III)I"⟩, _)) (List.mem_append_right _ (List.mem_append_left _ (List.mem_of_getElem? (i := 6) rfl)))) rfl
theorem wd_89 : (.code ⟨"DrawingVault", "becomes", "(IIII)Z"⟩ prog_1_method_29_code 6 (Option.some .boolean) : Cond) ∈ aw := aw_in (tb_3 (List.mem_of_getElem? (i := 107) rfl)) rfl
theorem wd_90 : (.methodLink "DrawingVault" 140 ⟨"DrawingVault", "becomes", "(IIII)Z"⟩ : Cond) ∈ aw := aw_in (tb_3 (List.mem_of_getElem? (i := 104) rfl)) rfl
theorem wd_91 : (.instanceMethod ⟨"DrawingVault", "becomes", "(IIII)Z"⟩ : Cond) ∈ aw := aw_in (tb_3 (List.mem_of_getElem? (i := 106) rfl)) rfl
theorem wd_92 : (.selects "DrawingVault" ⟨"DrawingVault", "becomes", "(IIII)Z"⟩ ⟨"DrawingVault", "becomes", "(IIII)Z"⟩ : Cond) ∈ aw := aw_in (tb_s (q := (⟨"DrawingVault", "becomes", "(IIII)Z"⟩, _)) (List.mem_append_right _ (List.mem_append_left _ (List.mem_of_getElem? (i := 7) rfl)))) rfl
theorem wd_93 : (.code ⟨"DrawingVault", "releaseRefusal", "(III)I"⟩ prog_1_method_36_code 5 (Option.some .int) : Cond) ∈ aw := aw_in (tb_3 (List.mem_of_getElem? (i := 118) rfl)) rfl
theorem wd_94 : (.methodLink "DrawingVault" 144 ⟨"DrawingVault", "releaseRefusal", "(III)I"⟩ : Cond) ∈ aw := aw_in (tb_3 (List.mem_of_getElem? (i := 115) rfl)) rfl
theorem wd_95 : (.instanceMethod ⟨"DrawingVault", "releaseRefusal", "(III)I"⟩ : Cond) ∈ aw := aw_in (tb_3 (List.mem_of_getElem? (i := 117) rfl)) rfl
theorem wd_96 : (.selects "DrawingVault" ⟨"DrawingVault", "releaseRefusal", "(III)I"⟩ ⟨"DrawingVault", "releaseRefusal", "(III)I"⟩ : Cond) ∈ aw := aw_in (tb_s (q := (⟨"DrawingVault", "releaseRefusal", "(III)I"⟩, _)) (List.mem_append_right _ (List.mem_append_left _ (List.mem_of_getElem? (i := 8) rfl)))) rfl
theorem wd_97 : (.code ⟨"DrawingVault", "withdrawRefusal", "(III)I"⟩ prog_1_method_37_code 6 (Option.some .int) : Cond) ∈ aw := aw_in (tb_3 (List.mem_of_getElem? (i := 145) rfl)) rfl
theorem wd_98 : (.methodLink "DrawingVault" 147 ⟨"DrawingVault", "withdrawRefusal", "(III)I"⟩ : Cond) ∈ aw := aw_in (tb_3 (List.mem_of_getElem? (i := 142) rfl)) rfl
theorem wd_99 : (.instanceMethod ⟨"DrawingVault", "withdrawRefusal", "(III)I"⟩ : Cond) ∈ aw := aw_in (tb_3 (List.mem_of_getElem? (i := 144) rfl)) rfl
theorem wd_100 : (.selects "DrawingVault" ⟨"DrawingVault", "withdrawRefusal", "(III)I"⟩ ⟨"DrawingVault", "withdrawRefusal", "(III)I"⟩ : Cond) ∈ aw := aw_in (tb_s (q := (⟨"DrawingVault", "withdrawRefusal", "(III)I"⟩, _)) (List.mem_append_right _ (List.mem_append_left _ (List.mem_of_getElem? (i := 12) rfl)))) rfl
theorem wd_101 : (.fieldLink "DrawingVault$Pages" 9 "DrawingVault$Pages" "free" "I" : Cond) ∈ aw := aw_in (tb_1 (List.mem_of_getElem? (i := 76) rfl)) rfl
theorem wd_102 : (.fieldLink "DrawingVault$Pages" 25 "DrawingVault$Pages" "commands" "I" : Cond) ∈ aw := aw_in (tb_1 (List.mem_of_getElem? (i := 78) rfl)) rfl
theorem wd_103 : (.code ⟨"DrawingVault$Pages", "write", "(I)V"⟩ prog_6_method_5_code 2 (Option.none : Option Jvm.ClassFile.FieldType) : Cond) ∈ aw := aw_in (tb_2 (List.mem_of_getElem? (i := 92) rfl)) rfl
theorem wd_104 : (.methodLink "DrawingVault" 271 ⟨"DrawingVault$Pages", "write", "(I)V"⟩ : Cond) ∈ aw := aw_in (tb_2 (List.mem_of_getElem? (i := 89) rfl)) rfl
theorem wd_105 : (.instanceMethod ⟨"DrawingVault$Pages", "write", "(I)V"⟩ : Cond) ∈ aw := aw_in (tb_2 (List.mem_of_getElem? (i := 90) rfl)) rfl
theorem wd_106 : (.selects "DrawingVault$Pages" ⟨"DrawingVault$Pages", "write", "(I)V"⟩ ⟨"DrawingVault$Pages", "write", "(I)V"⟩ : Cond) ∈ aw := aw_in (tb_2 (List.mem_of_getElem? (i := 91) rfl)) rfl
theorem wd_107 : (.code ⟨"DrawingVault$Pages", "areLow", "()Z"⟩ prog_6_method_6_code 1 (Option.some .boolean) : Cond) ∈ aw := aw_in (tb_2 (List.mem_of_getElem? (i := 96) rfl)) rfl
theorem wd_108 : (.methodLink "DrawingVault" 274 ⟨"DrawingVault$Pages", "areLow", "()Z"⟩ : Cond) ∈ aw := aw_in (tb_2 (List.mem_of_getElem? (i := 93) rfl)) rfl
theorem wd_109 : (.instanceMethod ⟨"DrawingVault$Pages", "areLow", "()Z"⟩ : Cond) ∈ aw := aw_in (tb_2 (List.mem_of_getElem? (i := 94) rfl)) rfl
theorem wd_110 : (.selects "DrawingVault$Pages" ⟨"DrawingVault$Pages", "areLow", "()Z"⟩ ⟨"DrawingVault$Pages", "areLow", "()Z"⟩ : Cond) ∈ aw := aw_in (tb_2 (List.mem_of_getElem? (i := 95) rfl)) rfl
theorem wd_111 : (.code ⟨"DrawingVault", "finish", "(I)V"⟩ prog_1_method_28_code 3 (Option.none : Option Jvm.ClassFile.FieldType) : Cond) ∈ aw := aw_in (tb_2 (List.mem_of_getElem? (i := 88) rfl)) rfl
theorem wd_112 : (.methodLink "DrawingVault" 55 ⟨"DrawingVault", "finish", "(I)V"⟩ : Cond) ∈ aw := aw_in (tb_2 (List.mem_of_getElem? (i := 85) rfl)) rfl
theorem wd_113 : (.instanceMethod ⟨"DrawingVault", "finish", "(I)V"⟩ : Cond) ∈ aw := aw_in (tb_2 (List.mem_of_getElem? (i := 87) rfl)) rfl
theorem wd_114 : (.selects "DrawingVault" ⟨"DrawingVault", "finish", "(I)V"⟩ ⟨"DrawingVault", "finish", "(I)V"⟩ : Cond) ∈ aw := aw_in (tb_s (q := (⟨"DrawingVault", "finish", "(I)V"⟩, _)) (List.mem_append_left _ (List.mem_of_getElem? (i := 12) rfl))) rfl
theorem wd_115 : (.fieldLink "DrawingVault$Pages" 19 "DrawingVault$Pages" "beforeFailure" "I" : Cond) ∈ aw := aw_in (tb_1 (List.mem_of_getElem? (i := 85) rfl)) rfl
theorem wd_116 : (.code ⟨"DrawingVault$Pages", "failAhead", "(I)V"⟩ prog_6_method_2_code 2 (Option.none : Option Jvm.ClassFile.FieldType) : Cond) ∈ aw := aw_in (tb_1 (List.mem_of_getElem? (i := 174) rfl)) rfl
theorem wd_117 : (.methodLink "DrawingVault" 234 ⟨"DrawingVault$Pages", "failAhead", "(I)V"⟩ : Cond) ∈ aw := aw_in (tb_1 (List.mem_of_getElem? (i := 171) rfl)) rfl
theorem wd_118 : (.instanceMethod ⟨"DrawingVault$Pages", "failAhead", "(I)V"⟩ : Cond) ∈ aw := aw_in (tb_1 (List.mem_of_getElem? (i := 172) rfl)) rfl
theorem wd_119 : (.selects "DrawingVault$Pages" ⟨"DrawingVault$Pages", "failAhead", "(I)V"⟩ ⟨"DrawingVault$Pages", "failAhead", "(I)V"⟩ : Cond) ∈ aw := aw_in (tb_1 (List.mem_of_getElem? (i := 173) rfl)) rfl
theorem wd_120 : (.fieldLink "DrawingVault$Pages" 22 "DrawingVault$Pages" "failed" "Z" : Cond) ∈ aw := aw_in (tb_1 (List.mem_of_getElem? (i := 82) rfl)) rfl
theorem wd_121 : (.code ⟨"DrawingVault$Pages", "switchOn", "()V"⟩ prog_6_method_3_code 1 (Option.none : Option Jvm.ClassFile.FieldType) : Cond) ∈ aw := aw_in (tb_1 (List.mem_of_getElem? (i := 189) rfl)) rfl
theorem wd_122 : (.methodLink "DrawingVault" 244 ⟨"DrawingVault$Pages", "switchOn", "()V"⟩ : Cond) ∈ aw := aw_in (tb_1 (List.mem_of_getElem? (i := 186) rfl)) rfl
theorem wd_123 : (.instanceMethod ⟨"DrawingVault$Pages", "switchOn", "()V"⟩ : Cond) ∈ aw := aw_in (tb_1 (List.mem_of_getElem? (i := 187) rfl)) rfl
theorem wd_124 : (.selects "DrawingVault$Pages" ⟨"DrawingVault$Pages", "switchOn", "()V"⟩ ⟨"DrawingVault$Pages", "switchOn", "()V"⟩ : Cond) ∈ aw := aw_in (tb_1 (List.mem_of_getElem? (i := 188) rfl)) rfl
theorem wd_125 : (.code ⟨"DrawingVault", "drawingsOut", "()I"⟩ prog_1_method_57_code 3 (Option.some .int) : Cond) ∈ aw := aw_in (tb_1 (List.mem_of_getElem? (i := 193) rfl)) rfl
theorem wd_126 : (.methodLink "DrawingVault" 247 ⟨"DrawingVault", "drawingsOut", "()I"⟩ : Cond) ∈ aw := aw_in (tb_1 (List.mem_of_getElem? (i := 190) rfl)) rfl
theorem wd_127 : (.instanceMethod ⟨"DrawingVault", "drawingsOut", "()I"⟩ : Cond) ∈ aw := aw_in (tb_1 (List.mem_of_getElem? (i := 192) rfl)) rfl
theorem wd_128 : (.selects "DrawingVault" ⟨"DrawingVault", "drawingsOut", "()I"⟩ ⟨"DrawingVault", "drawingsOut", "()I"⟩ : Cond) ∈ aw := aw_in (tb_s (q := (⟨"DrawingVault", "drawingsOut", "()I"⟩, _)) (List.mem_append_left _ (List.mem_of_getElem? (i := 3) rfl))) rfl
theorem wd_129 : (.fieldLink "DrawingVault$ChunkSet" 19 "DrawingVault$ChunkSet" "size" "I" : Cond) ∈ aw := aw_in (tb_1 (List.mem_of_getElem? (i := 59) rfl)) rfl
theorem wd_130 : (.fieldLink "DrawingVault" 33 "DrawingVault" "chunks" "LDrawingVault$ChunkSet;" : Cond) ∈ aw := aw_in (tb_1 (List.mem_of_getElem? (i := 105) rfl)) rfl
theorem wd_131 : (.code ⟨"DrawingVault$ChunkSet", "clear", "()V"⟩ prog_3_method_2_code 1 (Option.none : Option Jvm.ClassFile.FieldType) : Cond) ∈ aw := aw_in (tb_1 (List.mem_of_getElem? (i := 209) rfl)) rfl
theorem wd_132 : (.methodLink "DrawingVault" 345 ⟨"DrawingVault$ChunkSet", "clear", "()V"⟩ : Cond) ∈ aw := aw_in (tb_1 (List.mem_of_getElem? (i := 206) rfl)) rfl
theorem wd_133 : (.instanceMethod ⟨"DrawingVault$ChunkSet", "clear", "()V"⟩ : Cond) ∈ aw := aw_in (tb_1 (List.mem_of_getElem? (i := 207) rfl)) rfl
theorem wd_134 : (.selects "DrawingVault$ChunkSet" ⟨"DrawingVault$ChunkSet", "clear", "()V"⟩ ⟨"DrawingVault$ChunkSet", "clear", "()V"⟩ : Cond) ∈ aw := aw_in (tb_1 (List.mem_of_getElem? (i := 208) rfl)) rfl
theorem wd_135 : (.initialized "DrawingVault$ChunkSet" : Cond) ∈ aw := aw_in (tb_1 (List.mem_of_getElem? (i := 4) rfl)) rfl
theorem wd_136 : (.fieldLink "DrawingVault" 349 "DrawingVault$ChunkSet" "size" "I" : Cond) ∈ aw := aw_in (tb_1 (List.mem_of_getElem? (i := 60) rfl)) rfl
theorem wd_137 : (.code ⟨"DrawingVault", "chunksOfRevisions", "()I"⟩ prog_1_method_59_code 3 (Option.some .int) : Cond) ∈ aw := aw_in (tb_1 (List.mem_of_getElem? (i := 205) rfl)) rfl
theorem wd_138 : (.methodLink "DrawingVault" 350 ⟨"DrawingVault", "chunksOfRevisions", "()I"⟩ : Cond) ∈ aw := aw_in (tb_1 (List.mem_of_getElem? (i := 202) rfl)) rfl
theorem wd_139 : (.instanceMethod ⟨"DrawingVault", "chunksOfRevisions", "()I"⟩ : Cond) ∈ aw := aw_in (tb_1 (List.mem_of_getElem? (i := 204) rfl)) rfl
theorem wd_140 : (.selects "DrawingVault" ⟨"DrawingVault", "chunksOfRevisions", "()I"⟩ ⟨"DrawingVault", "chunksOfRevisions", "()I"⟩ : Cond) ∈ aw := aw_in (tb_s (q := (⟨"DrawingVault", "chunksOfRevisions", "()I"⟩, _)) (List.mem_append_left _ (List.mem_of_getElem? (i := 5) rfl))) rfl
theorem wd_141 : (.fieldLink "DrawingVault" 71 "DrawingVault" "revisionCount" "I" : Cond) ∈ aw := aw_in (tb_1 (List.mem_of_getElem? (i := 102) rfl)) rfl
theorem wd_142 : (.code ⟨"DrawingVault", "chunksKept", "()I"⟩ prog_1_method_60_code 2 (Option.some .int) : Cond) ∈ aw := aw_in (tb_1 (List.mem_of_getElem? (i := 201) rfl)) rfl
theorem wd_143 : (.methodLink "DrawingVault" 250 ⟨"DrawingVault", "chunksKept", "()I"⟩ : Cond) ∈ aw := aw_in (tb_1 (List.mem_of_getElem? (i := 198) rfl)) rfl
theorem wd_144 : (.instanceMethod ⟨"DrawingVault", "chunksKept", "()I"⟩ : Cond) ∈ aw := aw_in (tb_1 (List.mem_of_getElem? (i := 200) rfl)) rfl
theorem wd_145 : (.selects "DrawingVault" ⟨"DrawingVault", "chunksKept", "()I"⟩ ⟨"DrawingVault", "chunksKept", "()I"⟩ : Cond) ∈ aw := aw_in (tb_s (q := (⟨"DrawingVault", "chunksKept", "()I"⟩, _)) (List.mem_append_left _ (List.mem_of_getElem? (i := 4) rfl))) rfl
theorem wd_146 : (.fieldLink "DrawingVault" 256 "DrawingVault$Pages" "commands" "I" : Cond) ∈ aw := aw_in (tb_1 (List.mem_of_getElem? (i := 79) rfl)) rfl
theorem wd_147 : (.fieldLink "DrawingVault" 259 "DrawingVault$Pages" "copiedForward" "I" : Cond) ∈ aw := aw_in (tb_1 (List.mem_of_getElem? (i := 81) rfl)) rfl
theorem wd_148 : (.code ⟨"DrawingVault", "baselinesMade", "()I"⟩ prog_1_method_58_code 3 (Option.some .int) : Cond) ∈ aw := aw_in (tb_1 (List.mem_of_getElem? (i := 235) rfl)) rfl
theorem wd_149 : (.methodLink "DrawingVault" 262 ⟨"DrawingVault", "baselinesMade", "()I"⟩ : Cond) ∈ aw := aw_in (tb_1 (List.mem_of_getElem? (i := 232) rfl)) rfl
theorem wd_150 : (.instanceMethod ⟨"DrawingVault", "baselinesMade", "()I"⟩ : Cond) ∈ aw := aw_in (tb_1 (List.mem_of_getElem? (i := 234) rfl)) rfl
theorem wd_151 : (.selects "DrawingVault" ⟨"DrawingVault", "baselinesMade", "()I"⟩ ⟨"DrawingVault", "baselinesMade", "()I"⟩ : Cond) ∈ aw := aw_in (tb_s (q := (⟨"DrawingVault", "baselinesMade", "()I"⟩, _)) (List.mem_append_left _ (List.mem_of_getElem? (i := 7) rfl))) rfl

set_option maxHeartbeats 4000000 in
set_option maxRecDepth 100000 in
theorem v_allowed0 (l : Launch) (dC : Nat → ClassId) (dI : Nat → Nat → Nat) (sz : Nat) (x : Nat) (rt : Nat) (dr : Nat) (bs : Nat) (df : Nat) (ch : Nat) (pg : Nat) (rs : Int32) : Met l yV_allowed (.code yV_allowed cV_allowed 2 (some .boolean) :: aw) ({ frames := 0, cells := 0, slots := 0, locals := 0 }) (pW (dC, dI) sz [(x, .inr (0, [.ref rt, .ref dr, .int 0, .int 0, .ref bs, .ref df, .ref ch, .ref pg, .int rs]))] [] [.ref x, .int 0]) (va_Qi (fun r (_ : Unit) => r = 1) (fun _ t => wW (dC, dI) (va_A [(x, .inr (0, [.ref rt, .ref dr, .int 0, .int 0, .ref bs, .ref df, .ref ch, .ref pg, .int rs]))] sz) [(x, .inr (0, [.ref rt, .ref dr, .int 0, .int 0, .ref bs, .ref df, .ref ch, .ref pg, .int 0]))] [] t) (va_A [(x, .inr (0, [.ref rt, .ref dr, .int 0, .int 0, .ref bs, .ref df, .ref ch, .ref pg, .int rs]))] sz)) 0 0 (va_A [(x, .inr (0, [.ref rt, .ref dr, .int 0, .int 0, .ref bs, .ref df, .ref ch, .ref pg, .int rs]))] sz) := by
  refine Met.ofW (cc := cV_allowed) (maxL := 2) (ret := (some .boolean)) (by decide) rfl ?_
  intro p e s m args below meth c s₁ B hml hv
  obtain ⟨rfl, hv⟩ := hv
  have hx := B.exec
  have hb := B.bytes
  have hr := B.returns
  have hts : ∀ w ∈ aw, w.before _ s = true := fun w h => atoms_spec (ws := (.code yV_allowed cV_allowed 2 (some .boolean) :: aw)) B.pre w (List.mem_cons_of_mem _ h)
  have hown : s.vm.findClass RV = some m.cls := findClass_of_methodNamed B.named
  have hlocks := B.notSynchronized
  obtain ⟨hsz, hP, hK, hD0⟩ := hv
  subst hsz
  have hD := hD0.self (sz := s.heap.size)
  generalize hAe : va_A [(x, .inr (0, [.ref rt, .ref dr, .int 0, .int 0, .ref bs, .ref df, .ref ch, .ref pg, .int rs]))] s.heap.size = A at hD ⊢
  have hA : ∀ q : Nat, s.heap.size ≤ q → A q := fun q h => by rw [← hAe]; exact Or.inr h
  obtain ⟨H, hH⟩ : ∃ H, H = s.heap := ⟨_, rfl⟩
  have hS : va_S A s.heap H [] := by rw [hH]; exact va_S.rf
  rw [← hH] at hP ⊢
  have hP : va_P (dC, dI) kCl [(x, .inr (0, [.ref rt, .ref dr, .int 0, .int 0, .ref bs, .ref df, .ref ch, .ref pg, .int rs]))] H := hP
  have hl := lv_entry ([.ref x, .int 0]) (n := 2) (Nat.le_of_ble_eq_true rfl)
  rw [lg_entry_eq]
  generalize (lg_sl ([.ref x, .int 0]) ++ List.replicate (2 - (lg_sl ([.ref x, .int 0])).length) Slot.unset).toArray = ls at hl ⊢
  have hl : lv_has ls 2 [(0, .ref x), (1, .int 0)] := hl
  refine lv_aload_n (pc := 0) hx hb dV_allowed_0 rfl (lv_at hl 0 rfl) ?_
  refine lv_iload_n (pc := 1) hx hb dV_allowed_1 rfl (lv_at hl 1 rfl) ?_
  refine va_put (D := (dC, dI)) (cl := kCl) (ci := 0) (v := .int 0) (ty := .int) (C := RV) (T := TV) (N := 9) (pc := 2) hx hb hts inV tyV tyV_ok nmV hown hK hP hD hS 0 rfl rfl 8 (by decide) (hts _ wd_53) (fun _ h9 => h9) rfl (by decide +kernel) rfl rfl (Nat.le_of_ble_eq_true rfl) dV_allowed_2 (fun H locs hP hD hS => ?_)
  have hP : va_P (dC, dI) kCl [(x, .inr (0, [.ref rt, .ref dr, .int 0, .int 0, .ref bs, .ref df, .ref ch, .ref pg, .int 0]))] H := hP
  have hD : va_D A [(x, .inr (0, [.ref rt, .ref dr, .int 0, .int 0, .ref bs, .ref df, .ref ch, .ref pg, .int 0]))] := hD
  refine lv_iload_n (pc := 5) hx hb dV_allowed_5 rfl (lv_at hl 1 rfl) ?_
  refine lv_if_ne (pc := 6) (tgt := 13) hx hb dV_allowed_6 rfl (fun h1 => absurd h1 (by decide)) (fun h1 => ?_)
  refine lv_iconst (pc := 9) (v := 1) hx hb dV_allowed_9 (by decide) ?_
  refine lv_goto (pc := 10) (tgt := 14) hx hb dV_allowed_10 rfl ?_
  have hP9 := hP.sub (ws' := [(x, .inr (0, [.ref rt, .ref dr, .int 0, .int 0, .ref bs, .ref df, .ref ch, .ref pg, .int 0]))]) [0] rfl
  have hD9 := hD.sub (ws' := [(x, .inr (0, [.ref rt, .ref dr, .int 0, .int 0, .ref bs, .ref df, .ref ch, .ref pg, .int 0]))]) [0] (by decide) rfl
  have hK9 := hK.sub (tys' := []) [] rfl
  exact W.zret (pc := 14) hx hb hr rfl (fun t ht hW => ⟨⟨_, (), rfl, rfl, by rw [ht]; exact hP9, va_K.moved hW.alike hK9, hD9⟩, hS.F ht⟩) hS.2.2 dV_allowed_14
set_option maxHeartbeats 4000000 in
set_option maxRecDepth 100000 in
theorem v_allowed (l : Launch) (dC : Nat → ClassId) (dI : Nat → Nat → Nat) (sz : Nat) (x : Nat) (rt : Nat) (dr : Nat) (bs : Nat) (df : Nat) (ch : Nat) (pg : Nat) (rs : Int32) (rf : Int32) (hf : ¬ rf = 0) : Met l yV_allowed (.code yV_allowed cV_allowed 2 (some .boolean) :: aw) ({ frames := 0, cells := 0, slots := 0, locals := 0 }) (pW (dC, dI) sz [(x, .inr (0, [.ref rt, .ref dr, .int 0, .int 0, .ref bs, .ref df, .ref ch, .ref pg, .int rs]))] [] [.ref x, .int rf]) (va_Qi (fun r (_ : Unit) => r = 0) (fun _ t => wW (dC, dI) (va_A [(x, .inr (0, [.ref rt, .ref dr, .int 0, .int 0, .ref bs, .ref df, .ref ch, .ref pg, .int rs]))] sz) [(x, .inr (0, [.ref rt, .ref dr, .int 0, .int 0, .ref bs, .ref df, .ref ch, .ref pg, .int rf]))] [] t) (va_A [(x, .inr (0, [.ref rt, .ref dr, .int 0, .int 0, .ref bs, .ref df, .ref ch, .ref pg, .int rs]))] sz)) 0 0 (va_A [(x, .inr (0, [.ref rt, .ref dr, .int 0, .int 0, .ref bs, .ref df, .ref ch, .ref pg, .int rs]))] sz) := by
  refine Met.ofW (cc := cV_allowed) (maxL := 2) (ret := (some .boolean)) (by decide) rfl ?_
  intro p e s m args below meth c s₁ B hml hv
  obtain ⟨rfl, hv⟩ := hv
  have hx := B.exec
  have hb := B.bytes
  have hr := B.returns
  have hts : ∀ w ∈ aw, w.before _ s = true := fun w h => atoms_spec (ws := (.code yV_allowed cV_allowed 2 (some .boolean) :: aw)) B.pre w (List.mem_cons_of_mem _ h)
  have hown : s.vm.findClass RV = some m.cls := findClass_of_methodNamed B.named
  have hlocks := B.notSynchronized
  obtain ⟨hsz, hP, hK, hD0⟩ := hv
  subst hsz
  have hD := hD0.self (sz := s.heap.size)
  generalize hAe : va_A [(x, .inr (0, [.ref rt, .ref dr, .int 0, .int 0, .ref bs, .ref df, .ref ch, .ref pg, .int rs]))] s.heap.size = A at hD ⊢
  have hA : ∀ q : Nat, s.heap.size ≤ q → A q := fun q h => by rw [← hAe]; exact Or.inr h
  obtain ⟨H, hH⟩ : ∃ H, H = s.heap := ⟨_, rfl⟩
  have hS : va_S A s.heap H [] := by rw [hH]; exact va_S.rf
  rw [← hH] at hP ⊢
  have hP : va_P (dC, dI) kCl [(x, .inr (0, [.ref rt, .ref dr, .int 0, .int 0, .ref bs, .ref df, .ref ch, .ref pg, .int rs]))] H := hP
  have hl := lv_entry ([.ref x, .int rf]) (n := 2) (Nat.le_of_ble_eq_true rfl)
  rw [lg_entry_eq]
  generalize (lg_sl ([.ref x, .int rf]) ++ List.replicate (2 - (lg_sl ([.ref x, .int rf])).length) Slot.unset).toArray = ls at hl ⊢
  have hl : lv_has ls 2 [(0, .ref x), (1, .int rf)] := hl
  refine lv_aload_n (pc := 0) hx hb dV_allowed_0 rfl (lv_at hl 0 rfl) ?_
  refine lv_iload_n (pc := 1) hx hb dV_allowed_1 rfl (lv_at hl 1 rfl) ?_
  refine va_put (D := (dC, dI)) (cl := kCl) (ci := 0) (v := .int rf) (ty := .int) (C := RV) (T := TV) (N := 9) (pc := 2) hx hb hts inV tyV tyV_ok nmV hown hK hP hD hS 0 rfl rfl 8 (by decide) (hts _ wd_53) (fun _ h9 => h9) rfl (by decide +kernel) rfl rfl (Nat.le_of_ble_eq_true rfl) dV_allowed_2 (fun H locs hP hD hS => ?_)
  have hP : va_P (dC, dI) kCl [(x, .inr (0, [.ref rt, .ref dr, .int 0, .int 0, .ref bs, .ref df, .ref ch, .ref pg, .int rf]))] H := hP
  have hD : va_D A [(x, .inr (0, [.ref rt, .ref dr, .int 0, .int 0, .ref bs, .ref df, .ref ch, .ref pg, .int rf]))] := hD
  refine lv_iload_n (pc := 5) hx hb dV_allowed_5 rfl (lv_at hl 1 rfl) ?_
  refine lv_if_ne (pc := 6) (tgt := 13) hx hb dV_allowed_6 rfl (fun h1 => ?_) (fun h1 => absurd h1 hf)
  refine lv_iconst (pc := 13) (v := 0) hx hb dV_allowed_13 (by decide) ?_
  have hP9 := hP.sub (ws' := [(x, .inr (0, [.ref rt, .ref dr, .int 0, .int 0, .ref bs, .ref df, .ref ch, .ref pg, .int rf]))]) [0] rfl
  have hD9 := hD.sub (ws' := [(x, .inr (0, [.ref rt, .ref dr, .int 0, .int 0, .ref bs, .ref df, .ref ch, .ref pg, .int rf]))]) [0] (by decide) rfl
  have hK9 := hK.sub (tys' := []) [] rfl
  exact W.zret (pc := 14) hx hb hr rfl (fun t ht hW => ⟨⟨_, (), rfl, rfl, by rw [ht]; exact hP9, va_K.moved hW.alike hK9, hD9⟩, hS.F ht⟩) hS.2.2 dV_allowed_14
set_option maxHeartbeats 4000000 in
set_option maxRecDepth 100000 in
theorem p_failsBy (l : Launch) (dC : Nat → ClassId) (dI : Nat → Nat → Nat) (pg : Nat) (kk : Int32) (fr : Int32) (cm : Int32) : Met l yP_failsBy (.code yP_failsBy cP_failsBy 2 (some .boolean) :: aw) ({ frames := 0, cells := 0, slots := 0, locals := 0 }) (pR (dC, dI) [(pg, .inr (3, [.int fr, .int cm, .int 0, .int 0, .int 0, .int 0]))] [] [.ref pg, .int kk]) (vp_Si (fun r => r = 0)) 0 0 (fun _ => False) := by
  refine Met.ofW (cc := cP_failsBy) (maxL := 2) (ret := (some .boolean)) (by decide) rfl ?_
  intro p e s m args below meth c s₁ B hml hv
  obtain ⟨rfl, hv⟩ := hv
  have hx := B.exec
  have hb := B.bytes
  have hr := B.returns
  have hts : ∀ w ∈ aw, w.before _ s = true := fun w h => atoms_spec (ws := (.code yP_failsBy cP_failsBy 2 (some .boolean) :: aw)) B.pre w (List.mem_cons_of_mem _ h)
  have hown : s.vm.findClass RP = some m.cls := findClass_of_methodNamed B.named
  have hlocks := B.notSynchronized
  obtain ⟨hP, hK⟩ := hv
  obtain ⟨H, hH⟩ : ∃ H, H = s.heap := ⟨_, rfl⟩
  rw [← hH] at hP ⊢
  have hl := lv_entry ([.ref pg, .int kk]) (n := 2) (Nat.le_of_ble_eq_true rfl)
  rw [lg_entry_eq]
  generalize (lg_sl ([.ref pg, .int kk]) ++ List.replicate (2 - (lg_sl ([.ref pg, .int kk])).length) Slot.unset).toArray = ls at hl ⊢
  have hl : lv_has ls 2 [(0, .ref pg), (1, .int kk)] := hl
  refine lv_aload_n (pc := 0) hx hb dP_failsBy_0 rfl (lv_at hl 0 rfl) ?_
  refine va_get (D := (dC, dI)) (cl := kCl) (C := RP) (T := TP) (N := 6) (pc := 1) hx hb hts inP hown hK hP 0 rfl rfl 4 (by decide) (hts _ wd_54) (fun _ h9 => h9) rfl dP_failsBy_1 ?_
  refine lv_if_eq (pc := 4) (tgt := 19) hx hb dP_failsBy_4 rfl (fun h1 => ?_) (fun h1 => absurd h1 (by decide))
  refine lv_iconst (pc := 19) (v := 0) hx hb dP_failsBy_19 (by decide) ?_
  exact W.zret (pc := 20) hx hb hr rfl (fun t ht hW => ⟨_, rfl, rfl, ht.trans hH⟩) (fun q h => nomatch h) dP_failsBy_20
set_option maxHeartbeats 4000000 in
set_option maxRecDepth 100000 in
theorem v_mayWrite1 (l : Launch) (dC : Nat → ClassId) (dI : Nat → Nat → Nat) (sz : Nat) (x : Nat) (rt : Nat) (dr : Nat) (bs : Nat) (df : Nat) (ch : Nat) (pg : Nat) (rs : Int32) : Met l yV_mayWrite (.code yV_mayWrite cV_mayWrite 3 (some .boolean) :: aw) ({ frames := 1, cells := 0, slots := 0, locals := 21 }) (pW (dC, dI) sz [(x, .inr (0, [.ref rt, .ref dr, .int 0, .int 0, .ref bs, .ref df, .ref ch, .ref pg, .int rs])), (pg, .inr (3, [.int 400, .int 0, .int 0, .int 0, .int 0, .int 0]))] [] [.ref x, .int 0, .int 1]) (va_Qi (fun r (_ : Unit) => r = 1) (fun _ t => wW (dC, dI) (va_A [(x, .inr (0, [.ref rt, .ref dr, .int 0, .int 0, .ref bs, .ref df, .ref ch, .ref pg, .int rs])), (pg, .inr (3, [.int 400, .int 0, .int 0, .int 0, .int 0, .int 0]))] sz) [(x, .inr (0, [.ref rt, .ref dr, .int 0, .int 0, .ref bs, .ref df, .ref ch, .ref pg, .int 0])), (pg, .inr (3, [.int 400, .int 0, .int 0, .int 0, .int 0, .int 0]))] [] t) (va_A [(x, .inr (0, [.ref rt, .ref dr, .int 0, .int 0, .ref bs, .ref df, .ref ch, .ref pg, .int rs])), (pg, .inr (3, [.int 400, .int 0, .int 0, .int 0, .int 0, .int 0]))] sz)) 0 0 (va_A [(x, .inr (0, [.ref rt, .ref dr, .int 0, .int 0, .ref bs, .ref df, .ref ch, .ref pg, .int rs])), (pg, .inr (3, [.int 400, .int 0, .int 0, .int 0, .int 0, .int 0]))] sz) := by
  refine Met.ofW (cc := cV_mayWrite) (maxL := 3) (ret := (some .boolean)) (by decide) rfl ?_
  intro p e s m args below meth c s₁ B hml hv
  obtain ⟨rfl, hv⟩ := hv
  have hx := B.exec
  have hb := B.bytes
  have hr := B.returns
  have hts : ∀ w ∈ aw, w.before _ s = true := fun w h => atoms_spec (ws := (.code yV_mayWrite cV_mayWrite 3 (some .boolean) :: aw)) B.pre w (List.mem_cons_of_mem _ h)
  have hown : s.vm.findClass RV = some m.cls := findClass_of_methodNamed B.named
  have hlocks := B.notSynchronized
  obtain ⟨hsz, hP, hK, hD0⟩ := hv
  subst hsz
  have hD := hD0.self (sz := s.heap.size)
  generalize hAe : va_A [(x, .inr (0, [.ref rt, .ref dr, .int 0, .int 0, .ref bs, .ref df, .ref ch, .ref pg, .int rs])), (pg, .inr (3, [.int 400, .int 0, .int 0, .int 0, .int 0, .int 0]))] s.heap.size = A at hD ⊢
  have hA : ∀ q : Nat, s.heap.size ≤ q → A q := fun q h => by rw [← hAe]; exact Or.inr h
  obtain ⟨H, hH⟩ : ∃ H, H = s.heap := ⟨_, rfl⟩
  have hS : va_S A s.heap H [] := by rw [hH]; exact va_S.rf
  rw [← hH] at hP ⊢
  have hP : va_P (dC, dI) kCl [(x, .inr (0, [.ref rt, .ref dr, .int 0, .int 0, .ref bs, .ref df, .ref ch, .ref pg, .int rs])), (pg, .inr (3, [.int 400, .int 0, .int 0, .int 0, .int 0, .int 0]))] H := hP
  have hl := lv_entry ([.ref x, .int 0, .int 1]) (n := 3) (Nat.le_of_ble_eq_true rfl)
  rw [lg_entry_eq]
  generalize (lg_sl ([.ref x, .int 0, .int 1]) ++ List.replicate (3 - (lg_sl ([.ref x, .int 0, .int 1])).length) Slot.unset).toArray = ls at hl ⊢
  have hl : lv_has ls 3 [(0, .ref x), (1, .int 0), (2, .int 1)] := hl
  refine lv_iload_n (pc := 0) hx hb dV_mayWrite_0 rfl (lv_at hl 1 rfl) ?_
  refine lv_if_ne (pc := 1) (tgt := 22) hx hb dV_mayWrite_1 rfl (fun h1 => absurd h1 (by decide)) (fun h1 => ?_)
  refine lv_iload_n (pc := 4) hx hb dV_mayWrite_4 rfl (lv_at hl 2 rfl) ?_
  refine lv_aload_n (pc := 5) hx hb dV_mayWrite_5 rfl (lv_at hl 0 rfl) ?_
  refine va_get (D := (dC, dI)) (cl := kCl) (C := RV) (T := TV) (N := 9) (pc := 6) hx hb hts inV hown hK hP 0 rfl rfl 7 (by decide) (hts _ wd_37) (fun _ h9 => h9) rfl dV_mayWrite_6 ?_
  refine va_get (D := (dC, dI)) (cl := kCl) (C := RP) (T := TP) (N := 6) (pc := 9) hx hb hts inP hown hK hP 1 rfl rfl 0 (by decide) (hts _ wd_55) (fun _ h9 => h9) rfl dV_mayWrite_9 ?_
  refine lv_icmp_le (pc := 12) (tgt := 22) hx hb dV_mayWrite_12 rfl (fun h2 => ?_) (fun h2 => absurd h2 (by decide))
  refine lv_iload_n (pc := 22) hx hb dV_mayWrite_22 rfl (lv_at hl 1 rfl) ?_
  refine lv_if_ne (pc := 23) (tgt := 53) hx hb dV_mayWrite_23 rfl (fun h3 => absurd h3 (by decide)) (fun h3 => ?_)
  refine lv_aload_n (pc := 26) hx hb dV_mayWrite_26 rfl (lv_at hl 0 rfl) ?_
  refine va_get (D := (dC, dI)) (cl := kCl) (C := RV) (T := TV) (N := 9) (pc := 27) hx hb hts inV hown hK hP 0 rfl rfl 7 (by decide) (hts _ wd_37) (fun _ h9 => h9) rfl dV_mayWrite_27 ?_
  refine lv_iload_n (pc := 30) hx hb dV_mayWrite_30 rfl (lv_at hl 2 rfl) ?_
  refine vp_callSi (pc := 31) (W.runV (As := [.int 1]) (rest := []) ⟨hx, hb, hml, hown, hts⟩ (p_failsBy l dC dI pg 1 400 0) (cwV 1 hts (gV wd_57 wd_58 wd_59 wd_60 wd_56) rfl rfl rfl (by decide +kernel) ⟨Nat.le_of_ble_eq_true rfl, Nat.le_of_ble_eq_true rfl⟩) ⟨pR_blind, va_recv (q := (RP, TP, 6)) (q0 := 1) (ci := 3) hK hP rfl rfl, pR_pre (hP.sub (ws' := [(pg, .inr (3, [.int 400, .int 0, .int 0, .int 0, .int 0, .int 0]))]) [1] rfl) (hK.sub (tys' := []) [] rfl)⟩ rfl rfl hl.1 rfl (lv_room (Nat.le_of_ble_eq_true rfl)) dV_mayWrite_31 ⟨Nat.le_of_ble_eq_true rfl, Nat.le_of_ble_eq_true rfl⟩) (fun r4 hr5 => ?_)
  obtain rfl : r4 = 0 := hr5
  refine lv_if_eq (pc := 34) (tgt := 53) hx hb dV_mayWrite_34 rfl (fun h6 => ?_) (fun h6 => absurd h6 (by decide))
  refine lv_aload_n (pc := 53) hx hb dV_mayWrite_53 rfl (lv_at hl 0 rfl) ?_
  refine lv_iload_n (pc := 54) hx hb dV_mayWrite_54 rfl (lv_at hl 1 rfl) ?_
  have hPc := hP.sub (ws' := [(x, .inr (0, [.ref rt, .ref dr, .int 0, .int 0, .ref bs, .ref df, .ref ch, .ref pg, .int rs]))]) [0] rfl
  have hDc := hD.sub (ws' := [(x, .inr (0, [.ref rt, .ref dr, .int 0, .int 0, .ref bs, .ref df, .ref ch, .ref pg, .int rs]))]) [0] (by decide) rfl
  have hKc := hK.sub (tys' := []) [] rfl
  have hFc := va_free (wc := [(x, .inr (0, [.ref rt, .ref dr, .int 0, .int 0, .ref bs, .ref df, .ref ch, .ref pg, .int rs]))]) hD hS hA [0] rfl
  refine va_calli (pc := 55) (va_runV (As := [.int 0]) (rest := []) ⟨hx, hb, hml, hown, hts⟩ (v_allowed0 l dC dI H.size x rt dr bs df ch pg rs) (cwV 1 hts (gV wd_62 wd_63 wd_64 wd_35 wd_61) rfl rfl rfl (by decide +kernel) ⟨Nat.le_of_ble_eq_true rfl, Nat.le_of_ble_eq_true rfl⟩) ⟨pW_blind, va_recv (q := (RV, TV, 9)) (q0 := 0) (ci := 0) hK hP rfl rfl, pW_pre hPc hKc hDc⟩ rfl rfl hl.1 rfl (lv_room (Nat.le_of_ble_eq_true rfl)) dV_mayWrite_55 ⟨Nat.le_of_ble_eq_true rfl, Nat.le_of_ble_eq_true rfl⟩) hS (fun q _ h => hFc q h) hFc (fun r7 u t H1 locs ht hvm hr8 hB hz1 hk1 hS => ?_)
  obtain ⟨hP1, hK1, hD1⟩ := hB
  rw [ht] at hP1
  have hK1 := va_K.moved hvm.symm hK1
  obtain ⟨hP, hD⟩ := va_join (wr := [(pg, .inr (3, [.int 400, .int 0, .int 0, .int 0, .int 0, .int 0]))]) (w1 := [(x, .inr (0, [.ref rt, .ref dr, .int 0, .int 0, .ref bs, .ref df, .ref ch, .ref pg, .int 0]))]) hP hD [0] [1] rfl rfl (by decide) (by decide) hk1 hFc hP1 hD1
  generalize H1 = H at hP hS ⊢
  have hP : va_P (dC, dI) kCl [(pg, .inr (3, [.int 400, .int 0, .int 0, .int 0, .int 0, .int 0])), (x, .inr (0, [.ref rt, .ref dr, .int 0, .int 0, .ref bs, .ref df, .ref ch, .ref pg, .int 0]))] H := hP
  have hD : va_D A [(pg, .inr (3, [.int 400, .int 0, .int 0, .int 0, .int 0, .int 0])), (x, .inr (0, [.ref rt, .ref dr, .int 0, .int 0, .ref bs, .ref df, .ref ch, .ref pg, .int 0]))] := hD
  refine W.widen (k := 0) (n := 0) (Nat.le_of_ble_eq_true rfl) (Nat.le_of_ble_eq_true rfl) ?_
  obtain rfl : r7 = 1 := hr8
  have hP9 := hP.sub (ws' := [(x, .inr (0, [.ref rt, .ref dr, .int 0, .int 0, .ref bs, .ref df, .ref ch, .ref pg, .int 0])), (pg, .inr (3, [.int 400, .int 0, .int 0, .int 0, .int 0, .int 0]))]) [1, 0] rfl
  have hD9 := hD.sub (ws' := [(x, .inr (0, [.ref rt, .ref dr, .int 0, .int 0, .ref bs, .ref df, .ref ch, .ref pg, .int 0])), (pg, .inr (3, [.int 400, .int 0, .int 0, .int 0, .int 0, .int 0]))]) [1, 0] (by decide) rfl
  have hK9 := hK.sub (tys' := []) [] rfl
  exact W.zret (pc := 58) hx hb hr rfl (fun t ht hW => ⟨⟨_, (), rfl, rfl, by rw [ht]; exact hP9, va_K.moved hW.alike hK9, hD9⟩, hS.F ht⟩) hS.2.2 dV_mayWrite_58
set_option maxHeartbeats 4000000 in
set_option maxRecDepth 100000 in
theorem v_mayWrite (l : Launch) (dC : Nat → ClassId) (dI : Nat → Nat → Nat) (sz : Nat) (x : Nat) (rt : Nat) (dr : Nat) (bs : Nat) (df : Nat) (ch : Nat) (pg : Nat) (rs : Int32) (rf : Int32) (kk : Int32) (hf : ¬ rf = 0) : Met l yV_mayWrite (.code yV_mayWrite cV_mayWrite 3 (some .boolean) :: aw) ({ frames := 1, cells := 0, slots := 0, locals := 21 }) (pW (dC, dI) sz [(x, .inr (0, [.ref rt, .ref dr, .int 0, .int 0, .ref bs, .ref df, .ref ch, .ref pg, .int rs]))] [] [.ref x, .int rf, .int kk]) (va_Qi (fun r (_ : Unit) => r = 0) (fun _ t => wW (dC, dI) (va_A [(x, .inr (0, [.ref rt, .ref dr, .int 0, .int 0, .ref bs, .ref df, .ref ch, .ref pg, .int rs]))] sz) [(x, .inr (0, [.ref rt, .ref dr, .int 0, .int 0, .ref bs, .ref df, .ref ch, .ref pg, .int rf]))] [] t) (va_A [(x, .inr (0, [.ref rt, .ref dr, .int 0, .int 0, .ref bs, .ref df, .ref ch, .ref pg, .int rs]))] sz)) 0 0 (va_A [(x, .inr (0, [.ref rt, .ref dr, .int 0, .int 0, .ref bs, .ref df, .ref ch, .ref pg, .int rs]))] sz) := by
  refine Met.ofW (cc := cV_mayWrite) (maxL := 3) (ret := (some .boolean)) (by decide) rfl ?_
  intro p e s m args below meth c s₁ B hml hv
  obtain ⟨rfl, hv⟩ := hv
  have hx := B.exec
  have hb := B.bytes
  have hr := B.returns
  have hts : ∀ w ∈ aw, w.before _ s = true := fun w h => atoms_spec (ws := (.code yV_mayWrite cV_mayWrite 3 (some .boolean) :: aw)) B.pre w (List.mem_cons_of_mem _ h)
  have hown : s.vm.findClass RV = some m.cls := findClass_of_methodNamed B.named
  have hlocks := B.notSynchronized
  obtain ⟨hsz, hP, hK, hD0⟩ := hv
  subst hsz
  have hD := hD0.self (sz := s.heap.size)
  generalize hAe : va_A [(x, .inr (0, [.ref rt, .ref dr, .int 0, .int 0, .ref bs, .ref df, .ref ch, .ref pg, .int rs]))] s.heap.size = A at hD ⊢
  have hA : ∀ q : Nat, s.heap.size ≤ q → A q := fun q h => by rw [← hAe]; exact Or.inr h
  obtain ⟨H, hH⟩ : ∃ H, H = s.heap := ⟨_, rfl⟩
  have hS : va_S A s.heap H [] := by rw [hH]; exact va_S.rf
  rw [← hH] at hP ⊢
  have hP : va_P (dC, dI) kCl [(x, .inr (0, [.ref rt, .ref dr, .int 0, .int 0, .ref bs, .ref df, .ref ch, .ref pg, .int rs]))] H := hP
  have hl := lv_entry ([.ref x, .int rf, .int kk]) (n := 3) (Nat.le_of_ble_eq_true rfl)
  rw [lg_entry_eq]
  generalize (lg_sl ([.ref x, .int rf, .int kk]) ++ List.replicate (3 - (lg_sl ([.ref x, .int rf, .int kk])).length) Slot.unset).toArray = ls at hl ⊢
  have hl : lv_has ls 3 [(0, .ref x), (1, .int rf), (2, .int kk)] := hl
  refine lv_iload_n (pc := 0) hx hb dV_mayWrite_0 rfl (lv_at hl 1 rfl) ?_
  refine lv_if_ne (pc := 1) (tgt := 22) hx hb dV_mayWrite_1 rfl (fun h1 => ?_) (fun h1 => absurd h1 hf)
  refine lv_iload_n (pc := 22) hx hb dV_mayWrite_22 rfl (lv_at hl 1 rfl) ?_
  refine lv_if_ne (pc := 23) (tgt := 53) hx hb dV_mayWrite_23 rfl (fun h2 => ?_) (fun h2 => absurd h2 hf)
  refine lv_aload_n (pc := 53) hx hb dV_mayWrite_53 rfl (lv_at hl 0 rfl) ?_
  refine lv_iload_n (pc := 54) hx hb dV_mayWrite_54 rfl (lv_at hl 1 rfl) ?_
  have hPc := hP.sub (ws' := [(x, .inr (0, [.ref rt, .ref dr, .int 0, .int 0, .ref bs, .ref df, .ref ch, .ref pg, .int rs]))]) [0] rfl
  have hDc := hD.sub (ws' := [(x, .inr (0, [.ref rt, .ref dr, .int 0, .int 0, .ref bs, .ref df, .ref ch, .ref pg, .int rs]))]) [0] (by decide) rfl
  have hKc := hK.sub (tys' := []) [] rfl
  have hFc := va_free (wc := [(x, .inr (0, [.ref rt, .ref dr, .int 0, .int 0, .ref bs, .ref df, .ref ch, .ref pg, .int rs]))]) hD hS hA [0] rfl
  refine va_calli (pc := 55) (va_runV (As := [.int rf]) (rest := []) ⟨hx, hb, hml, hown, hts⟩ (v_allowed l dC dI H.size x rt dr bs df ch pg rs rf (hf)) (cwV 1 hts (gV wd_62 wd_63 wd_64 wd_35 wd_61) rfl rfl rfl (by decide +kernel) ⟨Nat.le_of_ble_eq_true rfl, Nat.le_of_ble_eq_true rfl⟩) ⟨pW_blind, va_recv (q := (RV, TV, 9)) (q0 := 0) (ci := 0) hK hP rfl rfl, pW_pre hPc hKc hDc⟩ rfl rfl hl.1 rfl (lv_room (Nat.le_of_ble_eq_true rfl)) dV_mayWrite_55 ⟨Nat.le_of_ble_eq_true rfl, Nat.le_of_ble_eq_true rfl⟩) hS (fun q _ h => hFc q h) hFc (fun r3 u t H1 locs ht hvm hr4 hB hz1 hk1 hS => ?_)
  obtain ⟨hP1, hK1, hD1⟩ := hB
  rw [ht] at hP1
  have hK1 := va_K.moved hvm.symm hK1
  obtain ⟨hP, hD⟩ := va_join (wr := []) (w1 := [(x, .inr (0, [.ref rt, .ref dr, .int 0, .int 0, .ref bs, .ref df, .ref ch, .ref pg, .int rf]))]) hP hD [0] [] rfl rfl (by decide) (by decide) hk1 hFc hP1 hD1
  generalize H1 = H at hP hS ⊢
  have hP : va_P (dC, dI) kCl [(x, .inr (0, [.ref rt, .ref dr, .int 0, .int 0, .ref bs, .ref df, .ref ch, .ref pg, .int rf]))] H := hP
  have hD : va_D A [(x, .inr (0, [.ref rt, .ref dr, .int 0, .int 0, .ref bs, .ref df, .ref ch, .ref pg, .int rf]))] := hD
  refine W.widen (k := 0) (n := 0) (Nat.le_of_ble_eq_true rfl) (Nat.le_of_ble_eq_true rfl) ?_
  obtain rfl : r3 = 0 := hr4
  have hP9 := hP.sub (ws' := [(x, .inr (0, [.ref rt, .ref dr, .int 0, .int 0, .ref bs, .ref df, .ref ch, .ref pg, .int rf]))]) [0] rfl
  have hD9 := hD.sub (ws' := [(x, .inr (0, [.ref rt, .ref dr, .int 0, .int 0, .ref bs, .ref df, .ref ch, .ref pg, .int rf]))]) [0] (by decide) rfl
  have hK9 := hK.sub (tys' := []) [] rfl
  exact W.zret (pc := 58) hx hb hr rfl (fun t ht hW => ⟨⟨_, (), rfl, rfl, by rw [ht]; exact hP9, va_K.moved hW.alike hK9, hD9⟩, hS.F ht⟩) hS.2.2 dV_mayWrite_58
set_option maxHeartbeats 4000000 in
set_option maxRecDepth 100000 in
theorem v_becomes (l : Launch) (dC : Nat → ClassId) (dI : Nat → Nat → Nat) (sz : Nat) (x : Nat) (rt : Nat) (dr : Nat) (bs : Nat) (df : Nat) (ch : Nat) (pg : Nat) (rs : Int32) (dd : Int32) (vv : Int32) (sv : Int32) (rf : Int32) (hf : ¬ rf = 0) : Met l yV_becomes (.code yV_becomes cV_becomes 6 (some .boolean) :: aw) ({ frames := 2, cells := 0, slots := 0, locals := 44 }) (pW (dC, dI) sz [(x, .inr (0, [.ref rt, .ref dr, .int 0, .int 0, .ref bs, .ref df, .ref ch, .ref pg, .int rs]))] [] [.ref x, .int dd, .int vv, .int sv, .int rf]) (va_Qi (fun r (_ : Unit) => r = 0) (fun _ t => wW (dC, dI) (va_A [(x, .inr (0, [.ref rt, .ref dr, .int 0, .int 0, .ref bs, .ref df, .ref ch, .ref pg, .int rs]))] sz) [] [] t) (va_A [(x, .inr (0, [.ref rt, .ref dr, .int 0, .int 0, .ref bs, .ref df, .ref ch, .ref pg, .int rs]))] sz)) 0 0 (va_A [(x, .inr (0, [.ref rt, .ref dr, .int 0, .int 0, .ref bs, .ref df, .ref ch, .ref pg, .int rs]))] sz) := by
  refine Met.ofW (cc := cV_becomes) (maxL := 6) (ret := (some .boolean)) (by decide) rfl ?_
  intro p e s m args below meth c s₁ B hml hv
  obtain ⟨rfl, hv⟩ := hv
  have hx := B.exec
  have hb := B.bytes
  have hr := B.returns
  have hts : ∀ w ∈ aw, w.before _ s = true := fun w h => atoms_spec (ws := (.code yV_becomes cV_becomes 6 (some .boolean) :: aw)) B.pre w (List.mem_cons_of_mem _ h)
  have hown : s.vm.findClass RV = some m.cls := findClass_of_methodNamed B.named
  have hlocks := B.notSynchronized
  obtain ⟨hsz, hP, hK, hD0⟩ := hv
  subst hsz
  have hD := hD0.self (sz := s.heap.size)
  generalize hAe : va_A [(x, .inr (0, [.ref rt, .ref dr, .int 0, .int 0, .ref bs, .ref df, .ref ch, .ref pg, .int rs]))] s.heap.size = A at hD ⊢
  have hA : ∀ q : Nat, s.heap.size ≤ q → A q := fun q h => by rw [← hAe]; exact Or.inr h
  obtain ⟨H, hH⟩ : ∃ H, H = s.heap := ⟨_, rfl⟩
  have hS : va_S A s.heap H [] := by rw [hH]; exact va_S.rf
  rw [← hH] at hP ⊢
  have hP : va_P (dC, dI) kCl [(x, .inr (0, [.ref rt, .ref dr, .int 0, .int 0, .ref bs, .ref df, .ref ch, .ref pg, .int rs]))] H := hP
  have hl := lv_entry ([.ref x, .int dd, .int vv, .int sv, .int rf]) (n := 6) (Nat.le_of_ble_eq_true rfl)
  rw [lg_entry_eq]
  generalize (lg_sl ([.ref x, .int dd, .int vv, .int sv, .int rf]) ++ List.replicate (6 - (lg_sl ([.ref x, .int dd, .int vv, .int sv, .int rf])).length) Slot.unset).toArray = ls at hl ⊢
  have hl : lv_has ls 6 [(0, .ref x), (1, .int dd), (2, .int vv), (3, .int sv), (4, .int rf)] := hl
  refine lv_aload_n (pc := 0) hx hb dV_becomes_0 rfl (lv_at hl 0 rfl) ?_
  refine lv_iload_n (pc := 1) hx hb dV_becomes_1 rfl (lv_at hl 1 rfl) ?_
  refine lv_iload_n (pc := 2) hx hb dV_becomes_2 rfl (lv_at hl 2 rfl) ?_
  refine va_csq (pc := 3) (W.runV (As := [.int dd, .int vv]) (rest := []) ⟨hx, hb, hml, hown, hts⟩ (v_revisionAt l dC dI x rt dr bs df ch pg rs dd vv) (cwV 2 hts (gV wd_50 wd_51 wd_52 wd_35 wd_49) rfl rfl rfl (by decide +kernel) ⟨Nat.le_of_ble_eq_true rfl, Nat.le_of_ble_eq_true rfl⟩) ⟨pR_blind, va_recv (q := (RV, TV, 9)) (q0 := 0) (ci := 0) hK hP rfl rfl, pR_pre (hP.sub (ws' := [(x, .inr (0, [.ref rt, .ref dr, .int 0, .int 0, .ref bs, .ref df, .ref ch, .ref pg, .int rs]))]) [0] rfl) (hK.sub (tys' := []) [] rfl)⟩ rfl rfl hl.1 rfl (lv_room (Nat.le_of_ble_eq_true rfl)) dV_becomes_3 ⟨Nat.le_of_ble_eq_true rfl, Nat.le_of_ble_eq_true rfl⟩) (fun r1 hr2 => ?_)
  obtain rfl : r1 = none := hr2
  refine W.eq (g2 := F0 m 6 ls [.null]) rfl ?_
  refine lv_astoreN (pc := 6) hx hb dV_becomes_6 hl (by decide) rfl (fun ls hl => ?_)
  have hl : lv_has ls 6 [(5, .null), (0, .ref x), (1, .int dd), (2, .int vv), (3, .int sv), (4, .int rf)] := hl
  refine lv_aload_n (pc := 8) hx hb dV_becomes_8 rfl (lv_at hl 1 rfl) ?_
  refine lv_iload (pc := 9) hx hb dV_becomes_9 (lv_at hl 5 rfl) ?_
  refine lv_iconst (pc := 11) (v := 1) hx hb dV_becomes_11 (by decide) ?_
  have hPc := hP.sub (ws' := [(x, .inr (0, [.ref rt, .ref dr, .int 0, .int 0, .ref bs, .ref df, .ref ch, .ref pg, .int rs]))]) [0] rfl
  have hDc := hD.sub (ws' := [(x, .inr (0, [.ref rt, .ref dr, .int 0, .int 0, .ref bs, .ref df, .ref ch, .ref pg, .int rs]))]) [0] (by decide) rfl
  have hKc := hK.sub (tys' := []) [] rfl
  have hFc := va_free (wc := [(x, .inr (0, [.ref rt, .ref dr, .int 0, .int 0, .ref bs, .ref df, .ref ch, .ref pg, .int rs]))]) hD hS hA [0] rfl
  refine va_calli (pc := 12) (va_runV (As := [.int rf, .int 1]) (rest := []) ⟨hx, hb, hml, hown, hts⟩ (v_mayWrite l dC dI H.size x rt dr bs df ch pg rs rf 1 (hf)) (cwV 2 hts (gV wd_66 wd_67 wd_68 wd_35 wd_65) rfl rfl rfl (by decide +kernel) ⟨Nat.le_of_ble_eq_true rfl, Nat.le_of_ble_eq_true rfl⟩) ⟨pW_blind, va_recv (q := (RV, TV, 9)) (q0 := 0) (ci := 0) hK hP rfl rfl, pW_pre hPc hKc hDc⟩ rfl rfl hl.1 rfl (lv_room (Nat.le_of_ble_eq_true rfl)) dV_becomes_12 ⟨Nat.le_of_ble_eq_true rfl, Nat.le_of_ble_eq_true rfl⟩) hS (fun q _ h => hFc q h) hFc (fun r3 u t H1 locs ht hvm hr4 hB hz1 hk1 hS => ?_)
  obtain ⟨hP1, hK1, hD1⟩ := hB
  rw [ht] at hP1
  have hK1 := va_K.moved hvm.symm hK1
  obtain ⟨hP, hD⟩ := va_join (wr := []) (w1 := [(x, .inr (0, [.ref rt, .ref dr, .int 0, .int 0, .ref bs, .ref df, .ref ch, .ref pg, .int rf]))]) hP hD [0] [] rfl rfl (by decide) (by decide) hk1 hFc hP1 hD1
  generalize H1 = H at hP hS ⊢
  have hP : va_P (dC, dI) kCl [(x, .inr (0, [.ref rt, .ref dr, .int 0, .int 0, .ref bs, .ref df, .ref ch, .ref pg, .int rf]))] H := hP
  have hD : va_D A [(x, .inr (0, [.ref rt, .ref dr, .int 0, .int 0, .ref bs, .ref df, .ref ch, .ref pg, .int rf]))] := hD
  refine W.widen (k := 0) (n := 0) (Nat.le_of_ble_eq_true rfl) (Nat.le_of_ble_eq_true rfl) ?_
  obtain rfl : r3 = 0 := hr4
  refine lv_if_eq (pc := 15) (tgt := 23) hx hb dV_becomes_15 rfl (fun h6 => ?_) (fun h6 => absurd h6 (by decide))
  refine lv_iconst (pc := 23) (v := 0) hx hb dV_becomes_23 (by decide) ?_
  have hP9 := hP.sub (ws' := []) [] rfl
  have hD9 := hD.sub (ws' := []) [] (by decide) rfl
  have hK9 := hK.sub (tys' := []) [] rfl
  exact W.zret (pc := 24) hx hb hr rfl (fun t ht hW => ⟨⟨_, (), rfl, rfl, by rw [ht]; exact hP9, va_K.moved hW.alike hK9, hD9⟩, hS.F ht⟩) hS.2.2 dV_becomes_24
set_option maxHeartbeats 4000000 in
set_option maxRecDepth 100000 in
theorem v_drawing (l : Launch) (dC : Nat → ClassId) (dI : Nat → Nat → Nat) (sz : Nat) (x : Nat) (rt : Nat) (dr : Nat) (bs : Nat) (df : Nat) (ch : Nat) (pg : Nat) (rs : Int32) (cR : ClassId) (pp : Int32) : Met l yV_drawing (.code yV_drawing cV_drawing 4 (some .int) :: aw) ({ frames := 3, cells := 0, slots := 0, locals := 64 }) (pW (dC, dI) sz [(x, .inr (0, [.ref rt, .ref dr, .int 0, .int 0, .ref bs, .ref df, .ref ch, .ref pg, .int rs])), (rt, .inl (cR, 16, .inl (fun _ => 0))), (pg, .inr (3, [.int 400, .int 0, .int 0, .int 0, .int 0, .int 0]))] [(cR, .int)] [.ref x, .int pp]) (va_Qi (fun r (_ : Unit) => r = (-1)) (fun _ t => wW (dC, dI) (va_A [(x, .inr (0, [.ref rt, .ref dr, .int 0, .int 0, .ref bs, .ref df, .ref ch, .ref pg, .int rs])), (rt, .inl (cR, 16, .inl (fun _ => 0))), (pg, .inr (3, [.int 400, .int 0, .int 0, .int 0, .int 0, .int 0]))] sz) [] [] t) (va_A [(x, .inr (0, [.ref rt, .ref dr, .int 0, .int 0, .ref bs, .ref df, .ref ch, .ref pg, .int rs])), (rt, .inl (cR, 16, .inl (fun _ => 0))), (pg, .inr (3, [.int 400, .int 0, .int 0, .int 0, .int 0, .int 0]))] sz)) 0 0 (va_A [(x, .inr (0, [.ref rt, .ref dr, .int 0, .int 0, .ref bs, .ref df, .ref ch, .ref pg, .int rs])), (rt, .inl (cR, 16, .inl (fun _ => 0))), (pg, .inr (3, [.int 400, .int 0, .int 0, .int 0, .int 0, .int 0]))] sz) := by
  refine Met.ofW (cc := cV_drawing) (maxL := 4) (ret := (some .int)) (by decide) rfl ?_
  intro p e s m args below meth c s₁ B hml hv
  obtain ⟨rfl, hv⟩ := hv
  have hx := B.exec
  have hb := B.bytes
  have hr := B.returns
  have hts : ∀ w ∈ aw, w.before _ s = true := fun w h => atoms_spec (ws := (.code yV_drawing cV_drawing 4 (some .int) :: aw)) B.pre w (List.mem_cons_of_mem _ h)
  have hown : s.vm.findClass RV = some m.cls := findClass_of_methodNamed B.named
  have hlocks := B.notSynchronized
  obtain ⟨hsz, hP, hK, hD0⟩ := hv
  subst hsz
  have hD := hD0.self (sz := s.heap.size)
  generalize hAe : va_A [(x, .inr (0, [.ref rt, .ref dr, .int 0, .int 0, .ref bs, .ref df, .ref ch, .ref pg, .int rs])), (rt, .inl (cR, 16, .inl (fun _ => 0))), (pg, .inr (3, [.int 400, .int 0, .int 0, .int 0, .int 0, .int 0]))] s.heap.size = A at hD ⊢
  have hA : ∀ q : Nat, s.heap.size ≤ q → A q := fun q h => by rw [← hAe]; exact Or.inr h
  obtain ⟨H, hH⟩ : ∃ H, H = s.heap := ⟨_, rfl⟩
  have hS : va_S A s.heap H [] := by rw [hH]; exact va_S.rf
  rw [← hH] at hP ⊢
  have hP : va_P (dC, dI) kCl [(x, .inr (0, [.ref rt, .ref dr, .int 0, .int 0, .ref bs, .ref df, .ref ch, .ref pg, .int rs])), (rt, .inl (cR, 16, .inl (fun _ => 0))), (pg, .inr (3, [.int 400, .int 0, .int 0, .int 0, .int 0, .int 0]))] H := hP
  have hl := lv_entry ([.ref x, .int pp]) (n := 4) (Nat.le_of_ble_eq_true rfl)
  rw [lg_entry_eq]
  generalize (lg_sl ([.ref x, .int pp]) ++ List.replicate (4 - (lg_sl ([.ref x, .int pp])).length) Slot.unset).toArray = ls at hl ⊢
  have hl : lv_has ls 4 [(0, .ref x), (1, .int pp)] := hl
  refine lv_aload_n (pc := 0) hx hb dV_drawing_0 rfl (lv_at hl 0 rfl) ?_
  refine va_csv (pc := 1) (W.runV (As := []) (rest := []) ⟨hx, hb, hml, hown, hts⟩ (v_needPower l dC dI x rt dr bs df ch pg rs) (cwV 0 hts (gV wd_70 wd_71 wd_72 wd_35 wd_69) rfl rfl rfl (by decide +kernel) ⟨Nat.le_of_ble_eq_true rfl, Nat.le_of_ble_eq_true rfl⟩) ⟨pR_blind, va_recv (q := (RV, TV, 9)) (q0 := 0) (ci := 0) hK hP rfl rfl, pR_pre (hP.sub (ws' := [(x, .inr (0, [.ref rt, .ref dr, .int 0, .int 0, .ref bs, .ref df, .ref ch, .ref pg, .int rs])), (pg, .inr (3, [.int 400, .int 0, .int 0, .int 0, .int 0, .int 0]))]) [0, 2] rfl) (hK.sub (tys' := []) [] rfl)⟩ rfl rfl hl.1 rfl (lv_room (Nat.le_of_ble_eq_true rfl)) dV_drawing_1 ⟨Nat.le_of_ble_eq_true rfl, Nat.le_of_ble_eq_true rfl⟩) (fun hr2 => ?_)
  refine lv_aload_n (pc := 4) hx hb dV_drawing_4 rfl (lv_at hl 0 rfl) ?_
  refine lv_aload_n (pc := 5) hx hb dV_drawing_5 rfl (lv_at hl 0 rfl) ?_
  refine lv_iload_n (pc := 6) hx hb dV_drawing_6 rfl (lv_at hl 1 rfl) ?_
  refine vp_callSi (pc := 7) (W.runV (As := [.int pp]) (rest := [.ref x]) ⟨hx, hb, hml, hown, hts⟩ (v_drawingRefusal l dC dI x rt dr bs df ch pg rs cR pp) (cwV 1 hts (gV wd_74 wd_75 wd_76 wd_35 wd_73) rfl rfl rfl (by decide +kernel) ⟨Nat.le_of_ble_eq_true rfl, Nat.le_of_ble_eq_true rfl⟩) ⟨pR_blind, va_recv (q := (RV, TV, 9)) (q0 := 0) (ci := 0) hK hP rfl rfl, pR_pre (hP.sub (ws' := [(x, .inr (0, [.ref rt, .ref dr, .int 0, .int 0, .ref bs, .ref df, .ref ch, .ref pg, .int rs])), (rt, .inl (cR, 16, .inl (fun _ => 0)))]) [0, 1] rfl) (hK.sub (tys' := [(cR, .int)]) [0] rfl)⟩ rfl rfl hl.1 rfl (lv_room (Nat.le_of_ble_eq_true rfl)) dV_drawing_7 ⟨Nat.le_of_ble_eq_true rfl, Nat.le_of_ble_eq_true rfl⟩) (fun r3 hr4 => ?_)
  obtain rfl : r3 = 1 := hr4
  refine lv_iconst (pc := 10) (v := 2) hx hb dV_drawing_10 (by decide) ?_
  have hPc := hP.sub (ws' := [(x, .inr (0, [.ref rt, .ref dr, .int 0, .int 0, .ref bs, .ref df, .ref ch, .ref pg, .int rs]))]) [0] rfl
  have hDc := hD.sub (ws' := [(x, .inr (0, [.ref rt, .ref dr, .int 0, .int 0, .ref bs, .ref df, .ref ch, .ref pg, .int rs]))]) [0] (by decide) rfl
  have hKc := hK.sub (tys' := []) [] rfl
  have hFc := va_free (wc := [(x, .inr (0, [.ref rt, .ref dr, .int 0, .int 0, .ref bs, .ref df, .ref ch, .ref pg, .int rs]))]) hD hS hA [0] rfl
  refine va_calli (pc := 11) (va_runV (As := [.int 1, .int 2]) (rest := []) ⟨hx, hb, hml, hown, hts⟩ (v_mayWrite l dC dI H.size x rt dr bs df ch pg rs 1 2 (by decide)) (cwV 2 hts (gV wd_66 wd_67 wd_68 wd_35 wd_65) rfl rfl rfl (by decide +kernel) ⟨Nat.le_of_ble_eq_true rfl, Nat.le_of_ble_eq_true rfl⟩) ⟨pW_blind, va_recv (q := (RV, TV, 9)) (q0 := 0) (ci := 0) hK hP rfl rfl, pW_pre hPc hKc hDc⟩ rfl rfl hl.1 rfl (lv_room (Nat.le_of_ble_eq_true rfl)) dV_drawing_11 ⟨Nat.le_of_ble_eq_true rfl, Nat.le_of_ble_eq_true rfl⟩) hS (fun q _ h => hFc q h) hFc (fun r5 u t H1 locs ht hvm hr6 hB hz1 hk1 hS => ?_)
  obtain ⟨hP1, hK1, hD1⟩ := hB
  rw [ht] at hP1
  have hK1 := va_K.moved hvm.symm hK1
  obtain ⟨hP, hD⟩ := va_join (wr := [(rt, .inl (cR, 16, .inl (fun _ => 0))), (pg, .inr (3, [.int 400, .int 0, .int 0, .int 0, .int 0, .int 0]))]) (w1 := [(x, .inr (0, [.ref rt, .ref dr, .int 0, .int 0, .ref bs, .ref df, .ref ch, .ref pg, .int 1]))]) hP hD [0] [1, 2] rfl rfl (by decide) (by decide) hk1 hFc hP1 hD1
  generalize H1 = H at hP hS ⊢
  have hP : va_P (dC, dI) kCl [(rt, .inl (cR, 16, .inl (fun _ => 0))), (pg, .inr (3, [.int 400, .int 0, .int 0, .int 0, .int 0, .int 0])), (x, .inr (0, [.ref rt, .ref dr, .int 0, .int 0, .ref bs, .ref df, .ref ch, .ref pg, .int 1]))] H := hP
  have hD : va_D A [(rt, .inl (cR, 16, .inl (fun _ => 0))), (pg, .inr (3, [.int 400, .int 0, .int 0, .int 0, .int 0, .int 0])), (x, .inr (0, [.ref rt, .ref dr, .int 0, .int 0, .ref bs, .ref df, .ref ch, .ref pg, .int 1]))] := hD
  refine W.widen (k := 0) (n := 0) (Nat.le_of_ble_eq_true rfl) (Nat.le_of_ble_eq_true rfl) ?_
  obtain rfl : r5 = 0 := hr6
  refine lv_if_ne (pc := 14) (tgt := 19) hx hb dV_drawing_14 rfl (fun h8 => absurd h8 (by decide)) (fun h8 => ?_)
  refine lv_iconst (pc := 17) (v := (-1)) hx hb dV_drawing_17 (by decide) ?_
  have hP9 := hP.sub (ws' := []) [] rfl
  have hD9 := hD.sub (ws' := []) [] (by decide) rfl
  have hK9 := hK.sub (tys' := []) [] rfl
  exact W.iret (pc := 18) hx hb hr (fun t ht hW => ⟨⟨_, (), rfl, rfl, by rw [ht]; exact hP9, va_K.moved hW.alike hK9, hD9⟩, hS.F ht⟩) hS.2.2 dV_drawing_18
set_option maxHeartbeats 4000000 in
set_option maxRecDepth 100000 in
theorem v_out (l : Launch) (dC : Nat → ClassId) (dI : Nat → Nat → Nat) (sz : Nat) (x : Nat) (rt : Nat) (dr : Nat) (bs : Nat) (df : Nat) (ch : Nat) (pg : Nat) (rs : Int32) (cR : ClassId) (dd : Int32) (pp : Int32) : Met l yV_out (.code yV_out cV_out 4 (some .boolean) :: aw) ({ frames := 3, cells := 0, slots := 0, locals := 64 }) (pW (dC, dI) sz [(x, .inr (0, [.ref rt, .ref dr, .int 0, .int 0, .ref bs, .ref df, .ref ch, .ref pg, .int rs])), (rt, .inl (cR, 16, .inl (fun _ => 0))), (pg, .inr (3, [.int 400, .int 0, .int 0, .int 0, .int 0, .int 0]))] [(cR, .int)] [.ref x, .int dd, .int pp]) (va_Qi (fun r (_ : Unit) => r = 0) (fun _ t => wW (dC, dI) (va_A [(x, .inr (0, [.ref rt, .ref dr, .int 0, .int 0, .ref bs, .ref df, .ref ch, .ref pg, .int rs])), (rt, .inl (cR, 16, .inl (fun _ => 0))), (pg, .inr (3, [.int 400, .int 0, .int 0, .int 0, .int 0, .int 0]))] sz) [] [] t) (va_A [(x, .inr (0, [.ref rt, .ref dr, .int 0, .int 0, .ref bs, .ref df, .ref ch, .ref pg, .int rs])), (rt, .inl (cR, 16, .inl (fun _ => 0))), (pg, .inr (3, [.int 400, .int 0, .int 0, .int 0, .int 0, .int 0]))] sz)) 0 0 (va_A [(x, .inr (0, [.ref rt, .ref dr, .int 0, .int 0, .ref bs, .ref df, .ref ch, .ref pg, .int rs])), (rt, .inl (cR, 16, .inl (fun _ => 0))), (pg, .inr (3, [.int 400, .int 0, .int 0, .int 0, .int 0, .int 0]))] sz) := by
  refine Met.ofW (cc := cV_out) (maxL := 4) (ret := (some .boolean)) (by decide) rfl ?_
  intro p e s m args below meth c s₁ B hml hv
  obtain ⟨rfl, hv⟩ := hv
  have hx := B.exec
  have hb := B.bytes
  have hr := B.returns
  have hts : ∀ w ∈ aw, w.before _ s = true := fun w h => atoms_spec (ws := (.code yV_out cV_out 4 (some .boolean) :: aw)) B.pre w (List.mem_cons_of_mem _ h)
  have hown : s.vm.findClass RV = some m.cls := findClass_of_methodNamed B.named
  have hlocks := B.notSynchronized
  obtain ⟨hsz, hP, hK, hD0⟩ := hv
  subst hsz
  have hD := hD0.self (sz := s.heap.size)
  generalize hAe : va_A [(x, .inr (0, [.ref rt, .ref dr, .int 0, .int 0, .ref bs, .ref df, .ref ch, .ref pg, .int rs])), (rt, .inl (cR, 16, .inl (fun _ => 0))), (pg, .inr (3, [.int 400, .int 0, .int 0, .int 0, .int 0, .int 0]))] s.heap.size = A at hD ⊢
  have hA : ∀ q : Nat, s.heap.size ≤ q → A q := fun q h => by rw [← hAe]; exact Or.inr h
  obtain ⟨H, hH⟩ : ∃ H, H = s.heap := ⟨_, rfl⟩
  have hS : va_S A s.heap H [] := by rw [hH]; exact va_S.rf
  rw [← hH] at hP ⊢
  have hP : va_P (dC, dI) kCl [(x, .inr (0, [.ref rt, .ref dr, .int 0, .int 0, .ref bs, .ref df, .ref ch, .ref pg, .int rs])), (rt, .inl (cR, 16, .inl (fun _ => 0))), (pg, .inr (3, [.int 400, .int 0, .int 0, .int 0, .int 0, .int 0]))] H := hP
  have hl := lv_entry ([.ref x, .int dd, .int pp]) (n := 4) (Nat.le_of_ble_eq_true rfl)
  rw [lg_entry_eq]
  generalize (lg_sl ([.ref x, .int dd, .int pp]) ++ List.replicate (4 - (lg_sl ([.ref x, .int dd, .int pp])).length) Slot.unset).toArray = ls at hl ⊢
  have hl : lv_has ls 4 [(0, .ref x), (1, .int dd), (2, .int pp)] := hl
  refine lv_aload_n (pc := 0) hx hb dV_out_0 rfl (lv_at hl 0 rfl) ?_
  refine va_csv (pc := 1) (W.runV (As := []) (rest := []) ⟨hx, hb, hml, hown, hts⟩ (v_needPower l dC dI x rt dr bs df ch pg rs) (cwV 0 hts (gV wd_70 wd_71 wd_72 wd_35 wd_69) rfl rfl rfl (by decide +kernel) ⟨Nat.le_of_ble_eq_true rfl, Nat.le_of_ble_eq_true rfl⟩) ⟨pR_blind, va_recv (q := (RV, TV, 9)) (q0 := 0) (ci := 0) hK hP rfl rfl, pR_pre (hP.sub (ws' := [(x, .inr (0, [.ref rt, .ref dr, .int 0, .int 0, .ref bs, .ref df, .ref ch, .ref pg, .int rs])), (pg, .inr (3, [.int 400, .int 0, .int 0, .int 0, .int 0, .int 0]))]) [0, 2] rfl) (hK.sub (tys' := []) [] rfl)⟩ rfl rfl hl.1 rfl (lv_room (Nat.le_of_ble_eq_true rfl)) dV_out_1 ⟨Nat.le_of_ble_eq_true rfl, Nat.le_of_ble_eq_true rfl⟩) (fun hr2 => ?_)
  refine lv_aload_n (pc := 4) hx hb dV_out_4 rfl (lv_at hl 0 rfl) ?_
  refine lv_iload_n (pc := 5) hx hb dV_out_5 rfl (lv_at hl 1 rfl) ?_
  refine va_csq (pc := 6) (W.runV (As := [.int dd]) (rest := []) ⟨hx, hb, hml, hown, hts⟩ (v_drawingAt l dC dI x rt dr bs df ch pg rs dd) (cwV 1 hts (gV wd_41 wd_42 wd_43 wd_35 wd_40) rfl rfl rfl (by decide +kernel) ⟨Nat.le_of_ble_eq_true rfl, Nat.le_of_ble_eq_true rfl⟩) ⟨pR_blind, va_recv (q := (RV, TV, 9)) (q0 := 0) (ci := 0) hK hP rfl rfl, pR_pre (hP.sub (ws' := [(x, .inr (0, [.ref rt, .ref dr, .int 0, .int 0, .ref bs, .ref df, .ref ch, .ref pg, .int rs]))]) [0] rfl) (hK.sub (tys' := []) [] rfl)⟩ rfl rfl hl.1 rfl (lv_room (Nat.le_of_ble_eq_true rfl)) dV_out_6 ⟨Nat.le_of_ble_eq_true rfl, Nat.le_of_ble_eq_true rfl⟩) (fun r3 hr4 => ?_)
  obtain rfl : r3 = none := hr4
  refine W.eq (g2 := F0 m 9 ls [.null]) rfl ?_
  refine lv_astore_nN (pc := 9) hx hb dV_out_9 rfl hl (by decide) rfl (fun ls hl => ?_)
  have hl : lv_has ls 4 [(3, .null), (0, .ref x), (1, .int dd), (2, .int pp)] := hl
  refine lv_aload_n (pc := 10) hx hb dV_out_10 rfl (lv_at hl 1 rfl) ?_
  refine lv_aload_n (pc := 11) hx hb dV_out_11 rfl (lv_at hl 1 rfl) ?_
  refine lv_aload_nN (pc := 12) hx hb dV_out_12 rfl (lv_at hl 0 rfl) ?_
  refine lv_iload_n (pc := 13) hx hb dV_out_13 rfl (lv_at hl 3 rfl) ?_
  refine vp_callSi (pc := 14) (W.runV (As := [.null, .int pp]) (rest := [.ref x]) ⟨hx, hb, hml, hown, hts⟩ (v_outRefusal l dC dI x rt dr bs df ch pg rs cR pp) (cwV 2 hts (gV wd_78 wd_79 wd_80 wd_35 wd_77) rfl rfl rfl (by decide +kernel) ⟨Nat.le_of_ble_eq_true rfl, Nat.le_of_ble_eq_true rfl⟩) ⟨pR_blind, va_recv (q := (RV, TV, 9)) (q0 := 0) (ci := 0) hK hP rfl rfl, pR_pre (hP.sub (ws' := [(x, .inr (0, [.ref rt, .ref dr, .int 0, .int 0, .ref bs, .ref df, .ref ch, .ref pg, .int rs])), (rt, .inl (cR, 16, .inl (fun _ => 0)))]) [0, 1] rfl) (hK.sub (tys' := [(cR, .int)]) [0] rfl)⟩ rfl rfl hl.1 rfl (lv_room (Nat.le_of_ble_eq_true rfl)) dV_out_14 ⟨Nat.le_of_ble_eq_true rfl, Nat.le_of_ble_eq_true rfl⟩) (fun r5 hr6 => ?_)
  obtain rfl : r5 = 1 := hr6
  refine lv_iconst (pc := 17) (v := 1) hx hb dV_out_17 (by decide) ?_
  have hPc := hP.sub (ws' := [(x, .inr (0, [.ref rt, .ref dr, .int 0, .int 0, .ref bs, .ref df, .ref ch, .ref pg, .int rs]))]) [0] rfl
  have hDc := hD.sub (ws' := [(x, .inr (0, [.ref rt, .ref dr, .int 0, .int 0, .ref bs, .ref df, .ref ch, .ref pg, .int rs]))]) [0] (by decide) rfl
  have hKc := hK.sub (tys' := []) [] rfl
  have hFc := va_free (wc := [(x, .inr (0, [.ref rt, .ref dr, .int 0, .int 0, .ref bs, .ref df, .ref ch, .ref pg, .int rs]))]) hD hS hA [0] rfl
  refine va_calli (pc := 18) (va_runV (As := [.int 1, .int 1]) (rest := []) ⟨hx, hb, hml, hown, hts⟩ (v_mayWrite l dC dI H.size x rt dr bs df ch pg rs 1 1 (by decide)) (cwV 2 hts (gV wd_66 wd_67 wd_68 wd_35 wd_65) rfl rfl rfl (by decide +kernel) ⟨Nat.le_of_ble_eq_true rfl, Nat.le_of_ble_eq_true rfl⟩) ⟨pW_blind, va_recv (q := (RV, TV, 9)) (q0 := 0) (ci := 0) hK hP rfl rfl, pW_pre hPc hKc hDc⟩ rfl rfl hl.1 rfl (lv_room (Nat.le_of_ble_eq_true rfl)) dV_out_18 ⟨Nat.le_of_ble_eq_true rfl, Nat.le_of_ble_eq_true rfl⟩) hS (fun q _ h => hFc q h) hFc (fun r7 u t H1 locs ht hvm hr8 hB hz1 hk1 hS => ?_)
  obtain ⟨hP1, hK1, hD1⟩ := hB
  rw [ht] at hP1
  have hK1 := va_K.moved hvm.symm hK1
  obtain ⟨hP, hD⟩ := va_join (wr := [(rt, .inl (cR, 16, .inl (fun _ => 0))), (pg, .inr (3, [.int 400, .int 0, .int 0, .int 0, .int 0, .int 0]))]) (w1 := [(x, .inr (0, [.ref rt, .ref dr, .int 0, .int 0, .ref bs, .ref df, .ref ch, .ref pg, .int 1]))]) hP hD [0] [1, 2] rfl rfl (by decide) (by decide) hk1 hFc hP1 hD1
  generalize H1 = H at hP hS ⊢
  have hP : va_P (dC, dI) kCl [(rt, .inl (cR, 16, .inl (fun _ => 0))), (pg, .inr (3, [.int 400, .int 0, .int 0, .int 0, .int 0, .int 0])), (x, .inr (0, [.ref rt, .ref dr, .int 0, .int 0, .ref bs, .ref df, .ref ch, .ref pg, .int 1]))] H := hP
  have hD : va_D A [(rt, .inl (cR, 16, .inl (fun _ => 0))), (pg, .inr (3, [.int 400, .int 0, .int 0, .int 0, .int 0, .int 0])), (x, .inr (0, [.ref rt, .ref dr, .int 0, .int 0, .ref bs, .ref df, .ref ch, .ref pg, .int 1]))] := hD
  refine W.widen (k := 0) (n := 0) (Nat.le_of_ble_eq_true rfl) (Nat.le_of_ble_eq_true rfl) ?_
  obtain rfl : r7 = 0 := hr8
  refine lv_if_ne (pc := 21) (tgt := 26) hx hb dV_out_21 rfl (fun h10 => absurd h10 (by decide)) (fun h10 => ?_)
  refine lv_iconst (pc := 24) (v := 0) hx hb dV_out_24 (by decide) ?_
  have hP9 := hP.sub (ws' := []) [] rfl
  have hD9 := hD.sub (ws' := []) [] (by decide) rfl
  have hK9 := hK.sub (tys' := []) [] rfl
  exact W.zret (pc := 25) hx hb hr rfl (fun t ht hW => ⟨⟨_, (), rfl, rfl, by rw [ht]; exact hP9, va_K.moved hW.alike hK9, hD9⟩, hS.F ht⟩) hS.2.2 dV_out_25
set_option maxHeartbeats 4000000 in
set_option maxRecDepth 100000 in
theorem v_undo (l : Launch) (dC : Nat → ClassId) (dI : Nat → Nat → Nat) (sz : Nat) (x : Nat) (rt : Nat) (dr : Nat) (bs : Nat) (df : Nat) (ch : Nat) (pg : Nat) (rs : Int32) (cR : ClassId) (dd : Int32) (pp : Int32) : Met l yV_undo (.code yV_undo cV_undo 4 (some .boolean) :: aw) ({ frames := 3, cells := 0, slots := 0, locals := 64 }) (pW (dC, dI) sz [(x, .inr (0, [.ref rt, .ref dr, .int 0, .int 0, .ref bs, .ref df, .ref ch, .ref pg, .int rs])), (rt, .inl (cR, 16, .inl (fun _ => 0))), (pg, .inr (3, [.int 400, .int 0, .int 0, .int 0, .int 0, .int 0]))] [(cR, .int)] [.ref x, .int dd, .int pp]) (va_Qi (fun r (_ : Unit) => r = 0) (fun _ t => wW (dC, dI) (va_A [(x, .inr (0, [.ref rt, .ref dr, .int 0, .int 0, .ref bs, .ref df, .ref ch, .ref pg, .int rs])), (rt, .inl (cR, 16, .inl (fun _ => 0))), (pg, .inr (3, [.int 400, .int 0, .int 0, .int 0, .int 0, .int 0]))] sz) [] [] t) (va_A [(x, .inr (0, [.ref rt, .ref dr, .int 0, .int 0, .ref bs, .ref df, .ref ch, .ref pg, .int rs])), (rt, .inl (cR, 16, .inl (fun _ => 0))), (pg, .inr (3, [.int 400, .int 0, .int 0, .int 0, .int 0, .int 0]))] sz)) 0 0 (va_A [(x, .inr (0, [.ref rt, .ref dr, .int 0, .int 0, .ref bs, .ref df, .ref ch, .ref pg, .int rs])), (rt, .inl (cR, 16, .inl (fun _ => 0))), (pg, .inr (3, [.int 400, .int 0, .int 0, .int 0, .int 0, .int 0]))] sz) := by
  refine Met.ofW (cc := cV_undo) (maxL := 4) (ret := (some .boolean)) (by decide) rfl ?_
  intro p e s m args below meth c s₁ B hml hv
  obtain ⟨rfl, hv⟩ := hv
  have hx := B.exec
  have hb := B.bytes
  have hr := B.returns
  have hts : ∀ w ∈ aw, w.before _ s = true := fun w h => atoms_spec (ws := (.code yV_undo cV_undo 4 (some .boolean) :: aw)) B.pre w (List.mem_cons_of_mem _ h)
  have hown : s.vm.findClass RV = some m.cls := findClass_of_methodNamed B.named
  have hlocks := B.notSynchronized
  obtain ⟨hsz, hP, hK, hD0⟩ := hv
  subst hsz
  have hD := hD0.self (sz := s.heap.size)
  generalize hAe : va_A [(x, .inr (0, [.ref rt, .ref dr, .int 0, .int 0, .ref bs, .ref df, .ref ch, .ref pg, .int rs])), (rt, .inl (cR, 16, .inl (fun _ => 0))), (pg, .inr (3, [.int 400, .int 0, .int 0, .int 0, .int 0, .int 0]))] s.heap.size = A at hD ⊢
  have hA : ∀ q : Nat, s.heap.size ≤ q → A q := fun q h => by rw [← hAe]; exact Or.inr h
  obtain ⟨H, hH⟩ : ∃ H, H = s.heap := ⟨_, rfl⟩
  have hS : va_S A s.heap H [] := by rw [hH]; exact va_S.rf
  rw [← hH] at hP ⊢
  have hP : va_P (dC, dI) kCl [(x, .inr (0, [.ref rt, .ref dr, .int 0, .int 0, .ref bs, .ref df, .ref ch, .ref pg, .int rs])), (rt, .inl (cR, 16, .inl (fun _ => 0))), (pg, .inr (3, [.int 400, .int 0, .int 0, .int 0, .int 0, .int 0]))] H := hP
  have hl := lv_entry ([.ref x, .int dd, .int pp]) (n := 4) (Nat.le_of_ble_eq_true rfl)
  rw [lg_entry_eq]
  generalize (lg_sl ([.ref x, .int dd, .int pp]) ++ List.replicate (4 - (lg_sl ([.ref x, .int dd, .int pp])).length) Slot.unset).toArray = ls at hl ⊢
  have hl : lv_has ls 4 [(0, .ref x), (1, .int dd), (2, .int pp)] := hl
  refine lv_aload_n (pc := 0) hx hb dV_undo_0 rfl (lv_at hl 0 rfl) ?_
  refine va_csv (pc := 1) (W.runV (As := []) (rest := []) ⟨hx, hb, hml, hown, hts⟩ (v_needPower l dC dI x rt dr bs df ch pg rs) (cwV 0 hts (gV wd_70 wd_71 wd_72 wd_35 wd_69) rfl rfl rfl (by decide +kernel) ⟨Nat.le_of_ble_eq_true rfl, Nat.le_of_ble_eq_true rfl⟩) ⟨pR_blind, va_recv (q := (RV, TV, 9)) (q0 := 0) (ci := 0) hK hP rfl rfl, pR_pre (hP.sub (ws' := [(x, .inr (0, [.ref rt, .ref dr, .int 0, .int 0, .ref bs, .ref df, .ref ch, .ref pg, .int rs])), (pg, .inr (3, [.int 400, .int 0, .int 0, .int 0, .int 0, .int 0]))]) [0, 2] rfl) (hK.sub (tys' := []) [] rfl)⟩ rfl rfl hl.1 rfl (lv_room (Nat.le_of_ble_eq_true rfl)) dV_undo_1 ⟨Nat.le_of_ble_eq_true rfl, Nat.le_of_ble_eq_true rfl⟩) (fun hr2 => ?_)
  refine lv_aload_n (pc := 4) hx hb dV_undo_4 rfl (lv_at hl 0 rfl) ?_
  refine lv_iload_n (pc := 5) hx hb dV_undo_5 rfl (lv_at hl 1 rfl) ?_
  refine va_csq (pc := 6) (W.runV (As := [.int dd]) (rest := []) ⟨hx, hb, hml, hown, hts⟩ (v_drawingAt l dC dI x rt dr bs df ch pg rs dd) (cwV 1 hts (gV wd_41 wd_42 wd_43 wd_35 wd_40) rfl rfl rfl (by decide +kernel) ⟨Nat.le_of_ble_eq_true rfl, Nat.le_of_ble_eq_true rfl⟩) ⟨pR_blind, va_recv (q := (RV, TV, 9)) (q0 := 0) (ci := 0) hK hP rfl rfl, pR_pre (hP.sub (ws' := [(x, .inr (0, [.ref rt, .ref dr, .int 0, .int 0, .ref bs, .ref df, .ref ch, .ref pg, .int rs]))]) [0] rfl) (hK.sub (tys' := []) [] rfl)⟩ rfl rfl hl.1 rfl (lv_room (Nat.le_of_ble_eq_true rfl)) dV_undo_6 ⟨Nat.le_of_ble_eq_true rfl, Nat.le_of_ble_eq_true rfl⟩) (fun r3 hr4 => ?_)
  obtain rfl : r3 = none := hr4
  refine W.eq (g2 := F0 m 9 ls [.null]) rfl ?_
  refine lv_astore_nN (pc := 9) hx hb dV_undo_9 rfl hl (by decide) rfl (fun ls hl => ?_)
  have hl : lv_has ls 4 [(3, .null), (0, .ref x), (1, .int dd), (2, .int pp)] := hl
  refine lv_aload_n (pc := 10) hx hb dV_undo_10 rfl (lv_at hl 1 rfl) ?_
  refine lv_aload_n (pc := 11) hx hb dV_undo_11 rfl (lv_at hl 1 rfl) ?_
  refine lv_aload_nN (pc := 12) hx hb dV_undo_12 rfl (lv_at hl 0 rfl) ?_
  refine lv_iload_n (pc := 13) hx hb dV_undo_13 rfl (lv_at hl 3 rfl) ?_
  refine vp_callSi (pc := 14) (W.runV (As := [.null, .int pp]) (rest := [.ref x]) ⟨hx, hb, hml, hown, hts⟩ (v_copyRefusal l dC dI x rt dr bs df ch pg rs cR pp) (cwV 2 hts (gV wd_82 wd_83 wd_84 wd_35 wd_81) rfl rfl rfl (by decide +kernel) ⟨Nat.le_of_ble_eq_true rfl, Nat.le_of_ble_eq_true rfl⟩) ⟨pR_blind, va_recv (q := (RV, TV, 9)) (q0 := 0) (ci := 0) hK hP rfl rfl, pR_pre (hP.sub (ws' := [(x, .inr (0, [.ref rt, .ref dr, .int 0, .int 0, .ref bs, .ref df, .ref ch, .ref pg, .int rs])), (rt, .inl (cR, 16, .inl (fun _ => 0)))]) [0, 1] rfl) (hK.sub (tys' := [(cR, .int)]) [0] rfl)⟩ rfl rfl hl.1 rfl (lv_room (Nat.le_of_ble_eq_true rfl)) dV_undo_14 ⟨Nat.le_of_ble_eq_true rfl, Nat.le_of_ble_eq_true rfl⟩) (fun r5 hr6 => ?_)
  obtain rfl : r5 = 1 := hr6
  refine lv_iconst (pc := 17) (v := 1) hx hb dV_undo_17 (by decide) ?_
  have hPc := hP.sub (ws' := [(x, .inr (0, [.ref rt, .ref dr, .int 0, .int 0, .ref bs, .ref df, .ref ch, .ref pg, .int rs]))]) [0] rfl
  have hDc := hD.sub (ws' := [(x, .inr (0, [.ref rt, .ref dr, .int 0, .int 0, .ref bs, .ref df, .ref ch, .ref pg, .int rs]))]) [0] (by decide) rfl
  have hKc := hK.sub (tys' := []) [] rfl
  have hFc := va_free (wc := [(x, .inr (0, [.ref rt, .ref dr, .int 0, .int 0, .ref bs, .ref df, .ref ch, .ref pg, .int rs]))]) hD hS hA [0] rfl
  refine va_calli (pc := 18) (va_runV (As := [.int 1, .int 1]) (rest := []) ⟨hx, hb, hml, hown, hts⟩ (v_mayWrite l dC dI H.size x rt dr bs df ch pg rs 1 1 (by decide)) (cwV 2 hts (gV wd_66 wd_67 wd_68 wd_35 wd_65) rfl rfl rfl (by decide +kernel) ⟨Nat.le_of_ble_eq_true rfl, Nat.le_of_ble_eq_true rfl⟩) ⟨pW_blind, va_recv (q := (RV, TV, 9)) (q0 := 0) (ci := 0) hK hP rfl rfl, pW_pre hPc hKc hDc⟩ rfl rfl hl.1 rfl (lv_room (Nat.le_of_ble_eq_true rfl)) dV_undo_18 ⟨Nat.le_of_ble_eq_true rfl, Nat.le_of_ble_eq_true rfl⟩) hS (fun q _ h => hFc q h) hFc (fun r7 u t H1 locs ht hvm hr8 hB hz1 hk1 hS => ?_)
  obtain ⟨hP1, hK1, hD1⟩ := hB
  rw [ht] at hP1
  have hK1 := va_K.moved hvm.symm hK1
  obtain ⟨hP, hD⟩ := va_join (wr := [(rt, .inl (cR, 16, .inl (fun _ => 0))), (pg, .inr (3, [.int 400, .int 0, .int 0, .int 0, .int 0, .int 0]))]) (w1 := [(x, .inr (0, [.ref rt, .ref dr, .int 0, .int 0, .ref bs, .ref df, .ref ch, .ref pg, .int 1]))]) hP hD [0] [1, 2] rfl rfl (by decide) (by decide) hk1 hFc hP1 hD1
  generalize H1 = H at hP hS ⊢
  have hP : va_P (dC, dI) kCl [(rt, .inl (cR, 16, .inl (fun _ => 0))), (pg, .inr (3, [.int 400, .int 0, .int 0, .int 0, .int 0, .int 0])), (x, .inr (0, [.ref rt, .ref dr, .int 0, .int 0, .ref bs, .ref df, .ref ch, .ref pg, .int 1]))] H := hP
  have hD : va_D A [(rt, .inl (cR, 16, .inl (fun _ => 0))), (pg, .inr (3, [.int 400, .int 0, .int 0, .int 0, .int 0, .int 0])), (x, .inr (0, [.ref rt, .ref dr, .int 0, .int 0, .ref bs, .ref df, .ref ch, .ref pg, .int 1]))] := hD
  refine W.widen (k := 0) (n := 0) (Nat.le_of_ble_eq_true rfl) (Nat.le_of_ble_eq_true rfl) ?_
  obtain rfl : r7 = 0 := hr8
  refine lv_if_ne (pc := 21) (tgt := 26) hx hb dV_undo_21 rfl (fun h10 => absurd h10 (by decide)) (fun h10 => ?_)
  refine lv_iconst (pc := 24) (v := 0) hx hb dV_undo_24 (by decide) ?_
  have hP9 := hP.sub (ws' := []) [] rfl
  have hD9 := hD.sub (ws' := []) [] (by decide) rfl
  have hK9 := hK.sub (tys' := []) [] rfl
  exact W.zret (pc := 25) hx hb hr rfl (fun t ht hW => ⟨⟨_, (), rfl, rfl, by rw [ht]; exact hP9, va_K.moved hW.alike hK9, hD9⟩, hS.F ht⟩) hS.2.2 dV_undo_25
set_option maxHeartbeats 4000000 in
set_option maxRecDepth 100000 in
theorem v_put (l : Launch) (dC : Nat → ClassId) (dI : Nat → Nat → Nat) (sz : Nat) (x : Nat) (rt : Nat) (dr : Nat) (bs : Nat) (df : Nat) (ch : Nat) (pg : Nat) (rs : Int32) (cR : ClassId) (dd : Int32) (pp : Int32) (ta : Int32) (va : Int32) : Met l yV_put (.code yV_put cV_put 7 (some .boolean) :: aw) ({ frames := 3, cells := 0, slots := 0, locals := 64 }) (pW (dC, dI) sz [(x, .inr (0, [.ref rt, .ref dr, .int 0, .int 0, .ref bs, .ref df, .ref ch, .ref pg, .int rs])), (rt, .inl (cR, 16, .inl (fun _ => 0))), (pg, .inr (3, [.int 400, .int 0, .int 0, .int 0, .int 0, .int 0]))] [(cR, .int)] [.ref x, .int dd, .int pp, .int ta, .int va]) (va_Qi (fun r (_ : Unit) => r = 0) (fun _ t => wW (dC, dI) (va_A [(x, .inr (0, [.ref rt, .ref dr, .int 0, .int 0, .ref bs, .ref df, .ref ch, .ref pg, .int rs])), (rt, .inl (cR, 16, .inl (fun _ => 0))), (pg, .inr (3, [.int 400, .int 0, .int 0, .int 0, .int 0, .int 0]))] sz) [] [] t) (va_A [(x, .inr (0, [.ref rt, .ref dr, .int 0, .int 0, .ref bs, .ref df, .ref ch, .ref pg, .int rs])), (rt, .inl (cR, 16, .inl (fun _ => 0))), (pg, .inr (3, [.int 400, .int 0, .int 0, .int 0, .int 0, .int 0]))] sz)) 0 0 (va_A [(x, .inr (0, [.ref rt, .ref dr, .int 0, .int 0, .ref bs, .ref df, .ref ch, .ref pg, .int rs])), (rt, .inl (cR, 16, .inl (fun _ => 0))), (pg, .inr (3, [.int 400, .int 0, .int 0, .int 0, .int 0, .int 0]))] sz) := by
  refine Met.ofW (cc := cV_put) (maxL := 7) (ret := (some .boolean)) (by decide) rfl ?_
  intro p e s m args below meth c s₁ B hml hv
  obtain ⟨rfl, hv⟩ := hv
  have hx := B.exec
  have hb := B.bytes
  have hr := B.returns
  have hts : ∀ w ∈ aw, w.before _ s = true := fun w h => atoms_spec (ws := (.code yV_put cV_put 7 (some .boolean) :: aw)) B.pre w (List.mem_cons_of_mem _ h)
  have hown : s.vm.findClass RV = some m.cls := findClass_of_methodNamed B.named
  have hlocks := B.notSynchronized
  obtain ⟨hsz, hP, hK, hD0⟩ := hv
  subst hsz
  have hD := hD0.self (sz := s.heap.size)
  generalize hAe : va_A [(x, .inr (0, [.ref rt, .ref dr, .int 0, .int 0, .ref bs, .ref df, .ref ch, .ref pg, .int rs])), (rt, .inl (cR, 16, .inl (fun _ => 0))), (pg, .inr (3, [.int 400, .int 0, .int 0, .int 0, .int 0, .int 0]))] s.heap.size = A at hD ⊢
  have hA : ∀ q : Nat, s.heap.size ≤ q → A q := fun q h => by rw [← hAe]; exact Or.inr h
  obtain ⟨H, hH⟩ : ∃ H, H = s.heap := ⟨_, rfl⟩
  have hS : va_S A s.heap H [] := by rw [hH]; exact va_S.rf
  rw [← hH] at hP ⊢
  have hP : va_P (dC, dI) kCl [(x, .inr (0, [.ref rt, .ref dr, .int 0, .int 0, .ref bs, .ref df, .ref ch, .ref pg, .int rs])), (rt, .inl (cR, 16, .inl (fun _ => 0))), (pg, .inr (3, [.int 400, .int 0, .int 0, .int 0, .int 0, .int 0]))] H := hP
  have hl := lv_entry ([.ref x, .int dd, .int pp, .int ta, .int va]) (n := 7) (Nat.le_of_ble_eq_true rfl)
  rw [lg_entry_eq]
  generalize (lg_sl ([.ref x, .int dd, .int pp, .int ta, .int va]) ++ List.replicate (7 - (lg_sl ([.ref x, .int dd, .int pp, .int ta, .int va])).length) Slot.unset).toArray = ls at hl ⊢
  have hl : lv_has ls 7 [(0, .ref x), (1, .int dd), (2, .int pp), (3, .int ta), (4, .int va)] := hl
  refine lv_aload_n (pc := 0) hx hb dV_put_0 rfl (lv_at hl 0 rfl) ?_
  refine va_csv (pc := 1) (W.runV (As := []) (rest := []) ⟨hx, hb, hml, hown, hts⟩ (v_needPower l dC dI x rt dr bs df ch pg rs) (cwV 0 hts (gV wd_70 wd_71 wd_72 wd_35 wd_69) rfl rfl rfl (by decide +kernel) ⟨Nat.le_of_ble_eq_true rfl, Nat.le_of_ble_eq_true rfl⟩) ⟨pR_blind, va_recv (q := (RV, TV, 9)) (q0 := 0) (ci := 0) hK hP rfl rfl, pR_pre (hP.sub (ws' := [(x, .inr (0, [.ref rt, .ref dr, .int 0, .int 0, .ref bs, .ref df, .ref ch, .ref pg, .int rs])), (pg, .inr (3, [.int 400, .int 0, .int 0, .int 0, .int 0, .int 0]))]) [0, 2] rfl) (hK.sub (tys' := []) [] rfl)⟩ rfl rfl hl.1 rfl (lv_room (Nat.le_of_ble_eq_true rfl)) dV_put_1 ⟨Nat.le_of_ble_eq_true rfl, Nat.le_of_ble_eq_true rfl⟩) (fun hr2 => ?_)
  refine lv_aload_n (pc := 4) hx hb dV_put_4 rfl (lv_at hl 0 rfl) ?_
  refine lv_iload_n (pc := 5) hx hb dV_put_5 rfl (lv_at hl 1 rfl) ?_
  refine va_csq (pc := 6) (W.runV (As := [.int dd]) (rest := []) ⟨hx, hb, hml, hown, hts⟩ (v_drawingAt l dC dI x rt dr bs df ch pg rs dd) (cwV 1 hts (gV wd_41 wd_42 wd_43 wd_35 wd_40) rfl rfl rfl (by decide +kernel) ⟨Nat.le_of_ble_eq_true rfl, Nat.le_of_ble_eq_true rfl⟩) ⟨pR_blind, va_recv (q := (RV, TV, 9)) (q0 := 0) (ci := 0) hK hP rfl rfl, pR_pre (hP.sub (ws' := [(x, .inr (0, [.ref rt, .ref dr, .int 0, .int 0, .ref bs, .ref df, .ref ch, .ref pg, .int rs]))]) [0] rfl) (hK.sub (tys' := []) [] rfl)⟩ rfl rfl hl.1 rfl (lv_room (Nat.le_of_ble_eq_true rfl)) dV_put_6 ⟨Nat.le_of_ble_eq_true rfl, Nat.le_of_ble_eq_true rfl⟩) (fun r3 hr4 => ?_)
  obtain rfl : r3 = none := hr4
  refine W.eq (g2 := F0 m 9 ls [.null]) rfl ?_
  refine lv_astoreN (pc := 9) hx hb dV_put_9 hl (by decide) rfl (fun ls hl => ?_)
  have hl : lv_has ls 7 [(5, .null), (0, .ref x), (1, .int dd), (2, .int pp), (3, .int ta), (4, .int va)] := hl
  refine lv_aload_n (pc := 11) hx hb dV_put_11 rfl (lv_at hl 1 rfl) ?_
  refine lv_aloadN (pc := 12) hx hb dV_put_12 (lv_at hl 0 rfl) ?_
  refine lv_iload_n (pc := 14) hx hb dV_put_14 rfl (lv_at hl 3 rfl) ?_
  refine vp_callSi (pc := 15) (W.runV (As := [.null, .int pp]) (rest := []) ⟨hx, hb, hml, hown, hts⟩ (v_copyRefusal l dC dI x rt dr bs df ch pg rs cR pp) (cwV 2 hts (gV wd_82 wd_83 wd_84 wd_35 wd_81) rfl rfl rfl (by decide +kernel) ⟨Nat.le_of_ble_eq_true rfl, Nat.le_of_ble_eq_true rfl⟩) ⟨pR_blind, va_recv (q := (RV, TV, 9)) (q0 := 0) (ci := 0) hK hP rfl rfl, pR_pre (hP.sub (ws' := [(x, .inr (0, [.ref rt, .ref dr, .int 0, .int 0, .ref bs, .ref df, .ref ch, .ref pg, .int rs])), (rt, .inl (cR, 16, .inl (fun _ => 0)))]) [0, 1] rfl) (hK.sub (tys' := [(cR, .int)]) [0] rfl)⟩ rfl rfl hl.1 rfl (lv_room (Nat.le_of_ble_eq_true rfl)) dV_put_15 ⟨Nat.le_of_ble_eq_true rfl, Nat.le_of_ble_eq_true rfl⟩) (fun r5 hr6 => ?_)
  obtain rfl : r5 = 1 := hr6
  refine lv_istore (pc := 18) hx hb dV_put_18 hl (by decide) rfl (fun ls hl => ?_)
  have hl : lv_has ls 7 [(6, .int 1), (5, .null), (0, .ref x), (1, .int dd), (2, .int pp), (3, .int ta), (4, .int va)] := hl
  refine lv_iload (pc := 20) hx hb dV_put_20 (lv_at hl 0 rfl) ?_
  refine lv_if_ne (pc := 22) (tgt := 54) hx hb dV_put_22 rfl (fun h7 => ?_) (fun h7 => absurd h7 (by decide))
  refine lv_aload_n (pc := 54) hx hb dV_put_54 rfl (lv_at hl 2 rfl) ?_
  refine lv_iload (pc := 55) hx hb dV_put_55 (lv_at hl 0 rfl) ?_
  have hPc := hP.sub (ws' := [(x, .inr (0, [.ref rt, .ref dr, .int 0, .int 0, .ref bs, .ref df, .ref ch, .ref pg, .int rs]))]) [0] rfl
  have hDc := hD.sub (ws' := [(x, .inr (0, [.ref rt, .ref dr, .int 0, .int 0, .ref bs, .ref df, .ref ch, .ref pg, .int rs]))]) [0] (by decide) rfl
  have hKc := hK.sub (tys' := []) [] rfl
  have hFc := va_free (wc := [(x, .inr (0, [.ref rt, .ref dr, .int 0, .int 0, .ref bs, .ref df, .ref ch, .ref pg, .int rs]))]) hD hS hA [0] rfl
  refine va_calli (pc := 57) (va_runV (As := [.int 1]) (rest := []) ⟨hx, hb, hml, hown, hts⟩ (v_allowed l dC dI H.size x rt dr bs df ch pg rs 1 (by decide)) (cwV 1 hts (gV wd_62 wd_63 wd_64 wd_35 wd_61) rfl rfl rfl (by decide +kernel) ⟨Nat.le_of_ble_eq_true rfl, Nat.le_of_ble_eq_true rfl⟩) ⟨pW_blind, va_recv (q := (RV, TV, 9)) (q0 := 0) (ci := 0) hK hP rfl rfl, pW_pre hPc hKc hDc⟩ rfl rfl hl.1 rfl (lv_room (Nat.le_of_ble_eq_true rfl)) dV_put_57 ⟨Nat.le_of_ble_eq_true rfl, Nat.le_of_ble_eq_true rfl⟩) hS (fun q _ h => hFc q h) hFc (fun r8 u t H1 locs ht hvm hr9 hB hz1 hk1 hS => ?_)
  obtain ⟨hP1, hK1, hD1⟩ := hB
  rw [ht] at hP1
  have hK1 := va_K.moved hvm.symm hK1
  obtain ⟨hP, hD⟩ := va_join (wr := [(rt, .inl (cR, 16, .inl (fun _ => 0))), (pg, .inr (3, [.int 400, .int 0, .int 0, .int 0, .int 0, .int 0]))]) (w1 := [(x, .inr (0, [.ref rt, .ref dr, .int 0, .int 0, .ref bs, .ref df, .ref ch, .ref pg, .int 1]))]) hP hD [0] [1, 2] rfl rfl (by decide) (by decide) hk1 hFc hP1 hD1
  generalize H1 = H at hP hS ⊢
  have hP : va_P (dC, dI) kCl [(rt, .inl (cR, 16, .inl (fun _ => 0))), (pg, .inr (3, [.int 400, .int 0, .int 0, .int 0, .int 0, .int 0])), (x, .inr (0, [.ref rt, .ref dr, .int 0, .int 0, .ref bs, .ref df, .ref ch, .ref pg, .int 1]))] H := hP
  have hD : va_D A [(rt, .inl (cR, 16, .inl (fun _ => 0))), (pg, .inr (3, [.int 400, .int 0, .int 0, .int 0, .int 0, .int 0])), (x, .inr (0, [.ref rt, .ref dr, .int 0, .int 0, .ref bs, .ref df, .ref ch, .ref pg, .int 1]))] := hD
  refine W.widen (k := 0) (n := 0) (Nat.le_of_ble_eq_true rfl) (Nat.le_of_ble_eq_true rfl) ?_
  obtain rfl : r8 = 0 := hr9
  refine lv_if_ne (pc := 60) (tgt := 65) hx hb dV_put_60 rfl (fun h11 => absurd h11 (by decide)) (fun h11 => ?_)
  refine lv_iconst (pc := 63) (v := 0) hx hb dV_put_63 (by decide) ?_
  have hP9 := hP.sub (ws' := []) [] rfl
  have hD9 := hD.sub (ws' := []) [] (by decide) rfl
  have hK9 := hK.sub (tys' := []) [] rfl
  exact W.zret (pc := 64) hx hb hr rfl (fun t ht hW => ⟨⟨_, (), rfl, rfl, by rw [ht]; exact hP9, va_K.moved hW.alike hK9, hD9⟩, hS.F ht⟩) hS.2.2 dV_put_64
set_option maxHeartbeats 4000000 in
set_option maxRecDepth 100000 in
theorem v_resize (l : Launch) (dC : Nat → ClassId) (dI : Nat → Nat → Nat) (sz : Nat) (x : Nat) (rt : Nat) (dr : Nat) (bs : Nat) (df : Nat) (ch : Nat) (pg : Nat) (rs : Int32) (cR : ClassId) (dd : Int32) (pp : Int32) (bn : Int32) : Met l yV_resize (.code yV_resize cV_resize 6 (some .boolean) :: aw) ({ frames := 3, cells := 0, slots := 0, locals := 64 }) (pW (dC, dI) sz [(x, .inr (0, [.ref rt, .ref dr, .int 0, .int 0, .ref bs, .ref df, .ref ch, .ref pg, .int rs])), (rt, .inl (cR, 16, .inl (fun _ => 0))), (pg, .inr (3, [.int 400, .int 0, .int 0, .int 0, .int 0, .int 0]))] [(cR, .int)] [.ref x, .int dd, .int pp, .int bn]) (va_Qi (fun r (_ : Unit) => r = 0) (fun _ t => wW (dC, dI) (va_A [(x, .inr (0, [.ref rt, .ref dr, .int 0, .int 0, .ref bs, .ref df, .ref ch, .ref pg, .int rs])), (rt, .inl (cR, 16, .inl (fun _ => 0))), (pg, .inr (3, [.int 400, .int 0, .int 0, .int 0, .int 0, .int 0]))] sz) [] [] t) (va_A [(x, .inr (0, [.ref rt, .ref dr, .int 0, .int 0, .ref bs, .ref df, .ref ch, .ref pg, .int rs])), (rt, .inl (cR, 16, .inl (fun _ => 0))), (pg, .inr (3, [.int 400, .int 0, .int 0, .int 0, .int 0, .int 0]))] sz)) 0 0 (va_A [(x, .inr (0, [.ref rt, .ref dr, .int 0, .int 0, .ref bs, .ref df, .ref ch, .ref pg, .int rs])), (rt, .inl (cR, 16, .inl (fun _ => 0))), (pg, .inr (3, [.int 400, .int 0, .int 0, .int 0, .int 0, .int 0]))] sz) := by
  refine Met.ofW (cc := cV_resize) (maxL := 6) (ret := (some .boolean)) (by decide) rfl ?_
  intro p e s m args below meth c s₁ B hml hv
  obtain ⟨rfl, hv⟩ := hv
  have hx := B.exec
  have hb := B.bytes
  have hr := B.returns
  have hts : ∀ w ∈ aw, w.before _ s = true := fun w h => atoms_spec (ws := (.code yV_resize cV_resize 6 (some .boolean) :: aw)) B.pre w (List.mem_cons_of_mem _ h)
  have hown : s.vm.findClass RV = some m.cls := findClass_of_methodNamed B.named
  have hlocks := B.notSynchronized
  obtain ⟨hsz, hP, hK, hD0⟩ := hv
  subst hsz
  have hD := hD0.self (sz := s.heap.size)
  generalize hAe : va_A [(x, .inr (0, [.ref rt, .ref dr, .int 0, .int 0, .ref bs, .ref df, .ref ch, .ref pg, .int rs])), (rt, .inl (cR, 16, .inl (fun _ => 0))), (pg, .inr (3, [.int 400, .int 0, .int 0, .int 0, .int 0, .int 0]))] s.heap.size = A at hD ⊢
  have hA : ∀ q : Nat, s.heap.size ≤ q → A q := fun q h => by rw [← hAe]; exact Or.inr h
  obtain ⟨H, hH⟩ : ∃ H, H = s.heap := ⟨_, rfl⟩
  have hS : va_S A s.heap H [] := by rw [hH]; exact va_S.rf
  rw [← hH] at hP ⊢
  have hP : va_P (dC, dI) kCl [(x, .inr (0, [.ref rt, .ref dr, .int 0, .int 0, .ref bs, .ref df, .ref ch, .ref pg, .int rs])), (rt, .inl (cR, 16, .inl (fun _ => 0))), (pg, .inr (3, [.int 400, .int 0, .int 0, .int 0, .int 0, .int 0]))] H := hP
  have hl := lv_entry ([.ref x, .int dd, .int pp, .int bn]) (n := 6) (Nat.le_of_ble_eq_true rfl)
  rw [lg_entry_eq]
  generalize (lg_sl ([.ref x, .int dd, .int pp, .int bn]) ++ List.replicate (6 - (lg_sl ([.ref x, .int dd, .int pp, .int bn])).length) Slot.unset).toArray = ls at hl ⊢
  have hl : lv_has ls 6 [(0, .ref x), (1, .int dd), (2, .int pp), (3, .int bn)] := hl
  refine lv_aload_n (pc := 0) hx hb dV_resize_0 rfl (lv_at hl 0 rfl) ?_
  refine va_csv (pc := 1) (W.runV (As := []) (rest := []) ⟨hx, hb, hml, hown, hts⟩ (v_needPower l dC dI x rt dr bs df ch pg rs) (cwV 0 hts (gV wd_70 wd_71 wd_72 wd_35 wd_69) rfl rfl rfl (by decide +kernel) ⟨Nat.le_of_ble_eq_true rfl, Nat.le_of_ble_eq_true rfl⟩) ⟨pR_blind, va_recv (q := (RV, TV, 9)) (q0 := 0) (ci := 0) hK hP rfl rfl, pR_pre (hP.sub (ws' := [(x, .inr (0, [.ref rt, .ref dr, .int 0, .int 0, .ref bs, .ref df, .ref ch, .ref pg, .int rs])), (pg, .inr (3, [.int 400, .int 0, .int 0, .int 0, .int 0, .int 0]))]) [0, 2] rfl) (hK.sub (tys' := []) [] rfl)⟩ rfl rfl hl.1 rfl (lv_room (Nat.le_of_ble_eq_true rfl)) dV_resize_1 ⟨Nat.le_of_ble_eq_true rfl, Nat.le_of_ble_eq_true rfl⟩) (fun hr2 => ?_)
  refine lv_aload_n (pc := 4) hx hb dV_resize_4 rfl (lv_at hl 0 rfl) ?_
  refine lv_iload_n (pc := 5) hx hb dV_resize_5 rfl (lv_at hl 1 rfl) ?_
  refine va_csq (pc := 6) (W.runV (As := [.int dd]) (rest := []) ⟨hx, hb, hml, hown, hts⟩ (v_drawingAt l dC dI x rt dr bs df ch pg rs dd) (cwV 1 hts (gV wd_41 wd_42 wd_43 wd_35 wd_40) rfl rfl rfl (by decide +kernel) ⟨Nat.le_of_ble_eq_true rfl, Nat.le_of_ble_eq_true rfl⟩) ⟨pR_blind, va_recv (q := (RV, TV, 9)) (q0 := 0) (ci := 0) hK hP rfl rfl, pR_pre (hP.sub (ws' := [(x, .inr (0, [.ref rt, .ref dr, .int 0, .int 0, .ref bs, .ref df, .ref ch, .ref pg, .int rs]))]) [0] rfl) (hK.sub (tys' := []) [] rfl)⟩ rfl rfl hl.1 rfl (lv_room (Nat.le_of_ble_eq_true rfl)) dV_resize_6 ⟨Nat.le_of_ble_eq_true rfl, Nat.le_of_ble_eq_true rfl⟩) (fun r3 hr4 => ?_)
  obtain rfl : r3 = none := hr4
  refine W.eq (g2 := F0 m 9 ls [.null]) rfl ?_
  refine lv_astoreN (pc := 9) hx hb dV_resize_9 hl (by decide) rfl (fun ls hl => ?_)
  have hl : lv_has ls 6 [(4, .null), (0, .ref x), (1, .int dd), (2, .int pp), (3, .int bn)] := hl
  refine lv_aload_n (pc := 11) hx hb dV_resize_11 rfl (lv_at hl 1 rfl) ?_
  refine lv_aloadN (pc := 12) hx hb dV_resize_12 (lv_at hl 0 rfl) ?_
  refine lv_iload_n (pc := 14) hx hb dV_resize_14 rfl (lv_at hl 3 rfl) ?_
  refine vp_callSi (pc := 15) (W.runV (As := [.null, .int pp]) (rest := []) ⟨hx, hb, hml, hown, hts⟩ (v_copyRefusal l dC dI x rt dr bs df ch pg rs cR pp) (cwV 2 hts (gV wd_82 wd_83 wd_84 wd_35 wd_81) rfl rfl rfl (by decide +kernel) ⟨Nat.le_of_ble_eq_true rfl, Nat.le_of_ble_eq_true rfl⟩) ⟨pR_blind, va_recv (q := (RV, TV, 9)) (q0 := 0) (ci := 0) hK hP rfl rfl, pR_pre (hP.sub (ws' := [(x, .inr (0, [.ref rt, .ref dr, .int 0, .int 0, .ref bs, .ref df, .ref ch, .ref pg, .int rs])), (rt, .inl (cR, 16, .inl (fun _ => 0)))]) [0, 1] rfl) (hK.sub (tys' := [(cR, .int)]) [0] rfl)⟩ rfl rfl hl.1 rfl (lv_room (Nat.le_of_ble_eq_true rfl)) dV_resize_15 ⟨Nat.le_of_ble_eq_true rfl, Nat.le_of_ble_eq_true rfl⟩) (fun r5 hr6 => ?_)
  obtain rfl : r5 = 1 := hr6
  refine lv_istore (pc := 18) hx hb dV_resize_18 hl (by decide) rfl (fun ls hl => ?_)
  have hl : lv_has ls 6 [(5, .int 1), (4, .null), (0, .ref x), (1, .int dd), (2, .int pp), (3, .int bn)] := hl
  refine lv_iload (pc := 20) hx hb dV_resize_20 (lv_at hl 0 rfl) ?_
  refine lv_if_ne (pc := 22) (tgt := 39) hx hb dV_resize_22 rfl (fun h7 => ?_) (fun h7 => absurd h7 (by decide))
  refine lv_aload_n (pc := 39) hx hb dV_resize_39 rfl (lv_at hl 2 rfl) ?_
  refine lv_iload (pc := 40) hx hb dV_resize_40 (lv_at hl 0 rfl) ?_
  have hPc := hP.sub (ws' := [(x, .inr (0, [.ref rt, .ref dr, .int 0, .int 0, .ref bs, .ref df, .ref ch, .ref pg, .int rs]))]) [0] rfl
  have hDc := hD.sub (ws' := [(x, .inr (0, [.ref rt, .ref dr, .int 0, .int 0, .ref bs, .ref df, .ref ch, .ref pg, .int rs]))]) [0] (by decide) rfl
  have hKc := hK.sub (tys' := []) [] rfl
  have hFc := va_free (wc := [(x, .inr (0, [.ref rt, .ref dr, .int 0, .int 0, .ref bs, .ref df, .ref ch, .ref pg, .int rs]))]) hD hS hA [0] rfl
  refine va_calli (pc := 42) (va_runV (As := [.int 1]) (rest := []) ⟨hx, hb, hml, hown, hts⟩ (v_allowed l dC dI H.size x rt dr bs df ch pg rs 1 (by decide)) (cwV 1 hts (gV wd_62 wd_63 wd_64 wd_35 wd_61) rfl rfl rfl (by decide +kernel) ⟨Nat.le_of_ble_eq_true rfl, Nat.le_of_ble_eq_true rfl⟩) ⟨pW_blind, va_recv (q := (RV, TV, 9)) (q0 := 0) (ci := 0) hK hP rfl rfl, pW_pre hPc hKc hDc⟩ rfl rfl hl.1 rfl (lv_room (Nat.le_of_ble_eq_true rfl)) dV_resize_42 ⟨Nat.le_of_ble_eq_true rfl, Nat.le_of_ble_eq_true rfl⟩) hS (fun q _ h => hFc q h) hFc (fun r8 u t H1 locs ht hvm hr9 hB hz1 hk1 hS => ?_)
  obtain ⟨hP1, hK1, hD1⟩ := hB
  rw [ht] at hP1
  have hK1 := va_K.moved hvm.symm hK1
  obtain ⟨hP, hD⟩ := va_join (wr := [(rt, .inl (cR, 16, .inl (fun _ => 0))), (pg, .inr (3, [.int 400, .int 0, .int 0, .int 0, .int 0, .int 0]))]) (w1 := [(x, .inr (0, [.ref rt, .ref dr, .int 0, .int 0, .ref bs, .ref df, .ref ch, .ref pg, .int 1]))]) hP hD [0] [1, 2] rfl rfl (by decide) (by decide) hk1 hFc hP1 hD1
  generalize H1 = H at hP hS ⊢
  have hP : va_P (dC, dI) kCl [(rt, .inl (cR, 16, .inl (fun _ => 0))), (pg, .inr (3, [.int 400, .int 0, .int 0, .int 0, .int 0, .int 0])), (x, .inr (0, [.ref rt, .ref dr, .int 0, .int 0, .ref bs, .ref df, .ref ch, .ref pg, .int 1]))] H := hP
  have hD : va_D A [(rt, .inl (cR, 16, .inl (fun _ => 0))), (pg, .inr (3, [.int 400, .int 0, .int 0, .int 0, .int 0, .int 0])), (x, .inr (0, [.ref rt, .ref dr, .int 0, .int 0, .ref bs, .ref df, .ref ch, .ref pg, .int 1]))] := hD
  refine W.widen (k := 0) (n := 0) (Nat.le_of_ble_eq_true rfl) (Nat.le_of_ble_eq_true rfl) ?_
  obtain rfl : r8 = 0 := hr9
  refine lv_if_ne (pc := 45) (tgt := 50) hx hb dV_resize_45 rfl (fun h11 => absurd h11 (by decide)) (fun h11 => ?_)
  refine lv_iconst (pc := 48) (v := 0) hx hb dV_resize_48 (by decide) ?_
  have hP9 := hP.sub (ws' := []) [] rfl
  have hD9 := hD.sub (ws' := []) [] (by decide) rfl
  have hK9 := hK.sub (tys' := []) [] rfl
  exact W.zret (pc := 49) hx hb hr rfl (fun t ht hW => ⟨⟨_, (), rfl, rfl, by rw [ht]; exact hP9, va_K.moved hW.alike hK9, hD9⟩, hS.F ht⟩) hS.2.2 dV_resize_49
set_option maxHeartbeats 4000000 in
set_option maxRecDepth 100000 in
theorem v_ref (l : Launch) (dC : Nat → ClassId) (dI : Nat → Nat → Nat) (sz : Nat) (x : Nat) (rt : Nat) (dr : Nat) (bs : Nat) (df : Nat) (ch : Nat) (pg : Nat) (rs : Int32) (cR : ClassId) (dd : Int32) (pp : Int32) (kk : Int32) (tg : Int32) (vv : Int32) : Met l yV_ref (.code yV_ref cV_ref 8 (some .boolean) :: aw) ({ frames := 3, cells := 0, slots := 0, locals := 64 }) (pW (dC, dI) sz [(x, .inr (0, [.ref rt, .ref dr, .int 0, .int 0, .ref bs, .ref df, .ref ch, .ref pg, .int rs])), (rt, .inl (cR, 16, .inl (fun _ => 0))), (pg, .inr (3, [.int 400, .int 0, .int 0, .int 0, .int 0, .int 0]))] [(cR, .int)] [.ref x, .int dd, .int pp, .int kk, .int tg, .int vv]) (va_Qi (fun r (_ : Unit) => r = 0) (fun _ t => wW (dC, dI) (va_A [(x, .inr (0, [.ref rt, .ref dr, .int 0, .int 0, .ref bs, .ref df, .ref ch, .ref pg, .int rs])), (rt, .inl (cR, 16, .inl (fun _ => 0))), (pg, .inr (3, [.int 400, .int 0, .int 0, .int 0, .int 0, .int 0]))] sz) [] [] t) (va_A [(x, .inr (0, [.ref rt, .ref dr, .int 0, .int 0, .ref bs, .ref df, .ref ch, .ref pg, .int rs])), (rt, .inl (cR, 16, .inl (fun _ => 0))), (pg, .inr (3, [.int 400, .int 0, .int 0, .int 0, .int 0, .int 0]))] sz)) 0 0 (va_A [(x, .inr (0, [.ref rt, .ref dr, .int 0, .int 0, .ref bs, .ref df, .ref ch, .ref pg, .int rs])), (rt, .inl (cR, 16, .inl (fun _ => 0))), (pg, .inr (3, [.int 400, .int 0, .int 0, .int 0, .int 0, .int 0]))] sz) := by
  refine Met.ofW (cc := cV_ref) (maxL := 8) (ret := (some .boolean)) (by decide) rfl ?_
  intro p e s m args below meth c s₁ B hml hv
  obtain ⟨rfl, hv⟩ := hv
  have hx := B.exec
  have hb := B.bytes
  have hr := B.returns
  have hts : ∀ w ∈ aw, w.before _ s = true := fun w h => atoms_spec (ws := (.code yV_ref cV_ref 8 (some .boolean) :: aw)) B.pre w (List.mem_cons_of_mem _ h)
  have hown : s.vm.findClass RV = some m.cls := findClass_of_methodNamed B.named
  have hlocks := B.notSynchronized
  obtain ⟨hsz, hP, hK, hD0⟩ := hv
  subst hsz
  have hD := hD0.self (sz := s.heap.size)
  generalize hAe : va_A [(x, .inr (0, [.ref rt, .ref dr, .int 0, .int 0, .ref bs, .ref df, .ref ch, .ref pg, .int rs])), (rt, .inl (cR, 16, .inl (fun _ => 0))), (pg, .inr (3, [.int 400, .int 0, .int 0, .int 0, .int 0, .int 0]))] s.heap.size = A at hD ⊢
  have hA : ∀ q : Nat, s.heap.size ≤ q → A q := fun q h => by rw [← hAe]; exact Or.inr h
  obtain ⟨H, hH⟩ : ∃ H, H = s.heap := ⟨_, rfl⟩
  have hS : va_S A s.heap H [] := by rw [hH]; exact va_S.rf
  rw [← hH] at hP ⊢
  have hP : va_P (dC, dI) kCl [(x, .inr (0, [.ref rt, .ref dr, .int 0, .int 0, .ref bs, .ref df, .ref ch, .ref pg, .int rs])), (rt, .inl (cR, 16, .inl (fun _ => 0))), (pg, .inr (3, [.int 400, .int 0, .int 0, .int 0, .int 0, .int 0]))] H := hP
  have hl := lv_entry ([.ref x, .int dd, .int pp, .int kk, .int tg, .int vv]) (n := 8) (Nat.le_of_ble_eq_true rfl)
  rw [lg_entry_eq]
  generalize (lg_sl ([.ref x, .int dd, .int pp, .int kk, .int tg, .int vv]) ++ List.replicate (8 - (lg_sl ([.ref x, .int dd, .int pp, .int kk, .int tg, .int vv])).length) Slot.unset).toArray = ls at hl ⊢
  have hl : lv_has ls 8 [(0, .ref x), (1, .int dd), (2, .int pp), (3, .int kk), (4, .int tg), (5, .int vv)] := hl
  refine lv_aload_n (pc := 0) hx hb dV_ref_0 rfl (lv_at hl 0 rfl) ?_
  refine va_csv (pc := 1) (W.runV (As := []) (rest := []) ⟨hx, hb, hml, hown, hts⟩ (v_needPower l dC dI x rt dr bs df ch pg rs) (cwV 0 hts (gV wd_70 wd_71 wd_72 wd_35 wd_69) rfl rfl rfl (by decide +kernel) ⟨Nat.le_of_ble_eq_true rfl, Nat.le_of_ble_eq_true rfl⟩) ⟨pR_blind, va_recv (q := (RV, TV, 9)) (q0 := 0) (ci := 0) hK hP rfl rfl, pR_pre (hP.sub (ws' := [(x, .inr (0, [.ref rt, .ref dr, .int 0, .int 0, .ref bs, .ref df, .ref ch, .ref pg, .int rs])), (pg, .inr (3, [.int 400, .int 0, .int 0, .int 0, .int 0, .int 0]))]) [0, 2] rfl) (hK.sub (tys' := []) [] rfl)⟩ rfl rfl hl.1 rfl (lv_room (Nat.le_of_ble_eq_true rfl)) dV_ref_1 ⟨Nat.le_of_ble_eq_true rfl, Nat.le_of_ble_eq_true rfl⟩) (fun hr2 => ?_)
  refine lv_aload_n (pc := 4) hx hb dV_ref_4 rfl (lv_at hl 0 rfl) ?_
  refine lv_iload_n (pc := 5) hx hb dV_ref_5 rfl (lv_at hl 1 rfl) ?_
  refine va_csq (pc := 6) (W.runV (As := [.int dd]) (rest := []) ⟨hx, hb, hml, hown, hts⟩ (v_drawingAt l dC dI x rt dr bs df ch pg rs dd) (cwV 1 hts (gV wd_41 wd_42 wd_43 wd_35 wd_40) rfl rfl rfl (by decide +kernel) ⟨Nat.le_of_ble_eq_true rfl, Nat.le_of_ble_eq_true rfl⟩) ⟨pR_blind, va_recv (q := (RV, TV, 9)) (q0 := 0) (ci := 0) hK hP rfl rfl, pR_pre (hP.sub (ws' := [(x, .inr (0, [.ref rt, .ref dr, .int 0, .int 0, .ref bs, .ref df, .ref ch, .ref pg, .int rs]))]) [0] rfl) (hK.sub (tys' := []) [] rfl)⟩ rfl rfl hl.1 rfl (lv_room (Nat.le_of_ble_eq_true rfl)) dV_ref_6 ⟨Nat.le_of_ble_eq_true rfl, Nat.le_of_ble_eq_true rfl⟩) (fun r3 hr4 => ?_)
  obtain rfl : r3 = none := hr4
  refine W.eq (g2 := F0 m 9 ls [.null]) rfl ?_
  refine lv_astoreN (pc := 9) hx hb dV_ref_9 hl (by decide) rfl (fun ls hl => ?_)
  have hl : lv_has ls 8 [(6, .null), (0, .ref x), (1, .int dd), (2, .int pp), (3, .int kk), (4, .int tg), (5, .int vv)] := hl
  refine lv_aload_n (pc := 11) hx hb dV_ref_11 rfl (lv_at hl 1 rfl) ?_
  refine lv_aloadN (pc := 12) hx hb dV_ref_12 (lv_at hl 0 rfl) ?_
  refine lv_iload_n (pc := 14) hx hb dV_ref_14 rfl (lv_at hl 3 rfl) ?_
  refine vp_callSi (pc := 15) (W.runV (As := [.null, .int pp]) (rest := []) ⟨hx, hb, hml, hown, hts⟩ (v_copyRefusal l dC dI x rt dr bs df ch pg rs cR pp) (cwV 2 hts (gV wd_82 wd_83 wd_84 wd_35 wd_81) rfl rfl rfl (by decide +kernel) ⟨Nat.le_of_ble_eq_true rfl, Nat.le_of_ble_eq_true rfl⟩) ⟨pR_blind, va_recv (q := (RV, TV, 9)) (q0 := 0) (ci := 0) hK hP rfl rfl, pR_pre (hP.sub (ws' := [(x, .inr (0, [.ref rt, .ref dr, .int 0, .int 0, .ref bs, .ref df, .ref ch, .ref pg, .int rs])), (rt, .inl (cR, 16, .inl (fun _ => 0)))]) [0, 1] rfl) (hK.sub (tys' := [(cR, .int)]) [0] rfl)⟩ rfl rfl hl.1 rfl (lv_room (Nat.le_of_ble_eq_true rfl)) dV_ref_15 ⟨Nat.le_of_ble_eq_true rfl, Nat.le_of_ble_eq_true rfl⟩) (fun r5 hr6 => ?_)
  obtain rfl : r5 = 1 := hr6
  refine lv_istore (pc := 18) hx hb dV_ref_18 hl (by decide) rfl (fun ls hl => ?_)
  have hl : lv_has ls 8 [(7, .int 1), (6, .null), (0, .ref x), (1, .int dd), (2, .int pp), (3, .int kk), (4, .int tg), (5, .int vv)] := hl
  refine lv_iload (pc := 20) hx hb dV_ref_20 (lv_at hl 0 rfl) ?_
  refine lv_if_ne (pc := 22) (tgt := 41) hx hb dV_ref_22 rfl (fun h7 => ?_) (fun h7 => absurd h7 (by decide))
  refine lv_aload_n (pc := 41) hx hb dV_ref_41 rfl (lv_at hl 2 rfl) ?_
  refine lv_iload (pc := 42) hx hb dV_ref_42 (lv_at hl 0 rfl) ?_
  have hPc := hP.sub (ws' := [(x, .inr (0, [.ref rt, .ref dr, .int 0, .int 0, .ref bs, .ref df, .ref ch, .ref pg, .int rs]))]) [0] rfl
  have hDc := hD.sub (ws' := [(x, .inr (0, [.ref rt, .ref dr, .int 0, .int 0, .ref bs, .ref df, .ref ch, .ref pg, .int rs]))]) [0] (by decide) rfl
  have hKc := hK.sub (tys' := []) [] rfl
  have hFc := va_free (wc := [(x, .inr (0, [.ref rt, .ref dr, .int 0, .int 0, .ref bs, .ref df, .ref ch, .ref pg, .int rs]))]) hD hS hA [0] rfl
  refine va_calli (pc := 44) (va_runV (As := [.int 1]) (rest := []) ⟨hx, hb, hml, hown, hts⟩ (v_allowed l dC dI H.size x rt dr bs df ch pg rs 1 (by decide)) (cwV 1 hts (gV wd_62 wd_63 wd_64 wd_35 wd_61) rfl rfl rfl (by decide +kernel) ⟨Nat.le_of_ble_eq_true rfl, Nat.le_of_ble_eq_true rfl⟩) ⟨pW_blind, va_recv (q := (RV, TV, 9)) (q0 := 0) (ci := 0) hK hP rfl rfl, pW_pre hPc hKc hDc⟩ rfl rfl hl.1 rfl (lv_room (Nat.le_of_ble_eq_true rfl)) dV_ref_44 ⟨Nat.le_of_ble_eq_true rfl, Nat.le_of_ble_eq_true rfl⟩) hS (fun q _ h => hFc q h) hFc (fun r8 u t H1 locs ht hvm hr9 hB hz1 hk1 hS => ?_)
  obtain ⟨hP1, hK1, hD1⟩ := hB
  rw [ht] at hP1
  have hK1 := va_K.moved hvm.symm hK1
  obtain ⟨hP, hD⟩ := va_join (wr := [(rt, .inl (cR, 16, .inl (fun _ => 0))), (pg, .inr (3, [.int 400, .int 0, .int 0, .int 0, .int 0, .int 0]))]) (w1 := [(x, .inr (0, [.ref rt, .ref dr, .int 0, .int 0, .ref bs, .ref df, .ref ch, .ref pg, .int 1]))]) hP hD [0] [1, 2] rfl rfl (by decide) (by decide) hk1 hFc hP1 hD1
  generalize H1 = H at hP hS ⊢
  have hP : va_P (dC, dI) kCl [(rt, .inl (cR, 16, .inl (fun _ => 0))), (pg, .inr (3, [.int 400, .int 0, .int 0, .int 0, .int 0, .int 0])), (x, .inr (0, [.ref rt, .ref dr, .int 0, .int 0, .ref bs, .ref df, .ref ch, .ref pg, .int 1]))] H := hP
  have hD : va_D A [(rt, .inl (cR, 16, .inl (fun _ => 0))), (pg, .inr (3, [.int 400, .int 0, .int 0, .int 0, .int 0, .int 0])), (x, .inr (0, [.ref rt, .ref dr, .int 0, .int 0, .ref bs, .ref df, .ref ch, .ref pg, .int 1]))] := hD
  refine W.widen (k := 0) (n := 0) (Nat.le_of_ble_eq_true rfl) (Nat.le_of_ble_eq_true rfl) ?_
  obtain rfl : r8 = 0 := hr9
  refine lv_if_ne (pc := 47) (tgt := 52) hx hb dV_ref_47 rfl (fun h11 => absurd h11 (by decide)) (fun h11 => ?_)
  refine lv_iconst (pc := 50) (v := 0) hx hb dV_ref_50 (by decide) ?_
  have hP9 := hP.sub (ws' := []) [] rfl
  have hD9 := hD.sub (ws' := []) [] (by decide) rfl
  have hK9 := hK.sub (tys' := []) [] rfl
  exact W.zret (pc := 51) hx hb hr rfl (fun t ht hW => ⟨⟨_, (), rfl, rfl, by rw [ht]; exact hP9, va_K.moved hW.alike hK9, hD9⟩, hS.F ht⟩) hS.2.2 dV_ref_51
set_option maxHeartbeats 4000000 in
set_option maxRecDepth 100000 in
theorem v_drop (l : Launch) (dC : Nat → ClassId) (dI : Nat → Nat → Nat) (sz : Nat) (x : Nat) (rt : Nat) (dr : Nat) (bs : Nat) (df : Nat) (ch : Nat) (pg : Nat) (rs : Int32) (cR : ClassId) (dd : Int32) (pp : Int32) (kk : Int32) : Met l yV_drop (.code yV_drop cV_drop 6 (some .boolean) :: aw) ({ frames := 3, cells := 0, slots := 0, locals := 64 }) (pW (dC, dI) sz [(x, .inr (0, [.ref rt, .ref dr, .int 0, .int 0, .ref bs, .ref df, .ref ch, .ref pg, .int rs])), (rt, .inl (cR, 16, .inl (fun _ => 0))), (pg, .inr (3, [.int 400, .int 0, .int 0, .int 0, .int 0, .int 0]))] [(cR, .int)] [.ref x, .int dd, .int pp, .int kk]) (va_Qi (fun r (_ : Unit) => r = 0) (fun _ t => wW (dC, dI) (va_A [(x, .inr (0, [.ref rt, .ref dr, .int 0, .int 0, .ref bs, .ref df, .ref ch, .ref pg, .int rs])), (rt, .inl (cR, 16, .inl (fun _ => 0))), (pg, .inr (3, [.int 400, .int 0, .int 0, .int 0, .int 0, .int 0]))] sz) [] [] t) (va_A [(x, .inr (0, [.ref rt, .ref dr, .int 0, .int 0, .ref bs, .ref df, .ref ch, .ref pg, .int rs])), (rt, .inl (cR, 16, .inl (fun _ => 0))), (pg, .inr (3, [.int 400, .int 0, .int 0, .int 0, .int 0, .int 0]))] sz)) 0 0 (va_A [(x, .inr (0, [.ref rt, .ref dr, .int 0, .int 0, .ref bs, .ref df, .ref ch, .ref pg, .int rs])), (rt, .inl (cR, 16, .inl (fun _ => 0))), (pg, .inr (3, [.int 400, .int 0, .int 0, .int 0, .int 0, .int 0]))] sz) := by
  refine Met.ofW (cc := cV_drop) (maxL := 6) (ret := (some .boolean)) (by decide) rfl ?_
  intro p e s m args below meth c s₁ B hml hv
  obtain ⟨rfl, hv⟩ := hv
  have hx := B.exec
  have hb := B.bytes
  have hr := B.returns
  have hts : ∀ w ∈ aw, w.before _ s = true := fun w h => atoms_spec (ws := (.code yV_drop cV_drop 6 (some .boolean) :: aw)) B.pre w (List.mem_cons_of_mem _ h)
  have hown : s.vm.findClass RV = some m.cls := findClass_of_methodNamed B.named
  have hlocks := B.notSynchronized
  obtain ⟨hsz, hP, hK, hD0⟩ := hv
  subst hsz
  have hD := hD0.self (sz := s.heap.size)
  generalize hAe : va_A [(x, .inr (0, [.ref rt, .ref dr, .int 0, .int 0, .ref bs, .ref df, .ref ch, .ref pg, .int rs])), (rt, .inl (cR, 16, .inl (fun _ => 0))), (pg, .inr (3, [.int 400, .int 0, .int 0, .int 0, .int 0, .int 0]))] s.heap.size = A at hD ⊢
  have hA : ∀ q : Nat, s.heap.size ≤ q → A q := fun q h => by rw [← hAe]; exact Or.inr h
  obtain ⟨H, hH⟩ : ∃ H, H = s.heap := ⟨_, rfl⟩
  have hS : va_S A s.heap H [] := by rw [hH]; exact va_S.rf
  rw [← hH] at hP ⊢
  have hP : va_P (dC, dI) kCl [(x, .inr (0, [.ref rt, .ref dr, .int 0, .int 0, .ref bs, .ref df, .ref ch, .ref pg, .int rs])), (rt, .inl (cR, 16, .inl (fun _ => 0))), (pg, .inr (3, [.int 400, .int 0, .int 0, .int 0, .int 0, .int 0]))] H := hP
  have hl := lv_entry ([.ref x, .int dd, .int pp, .int kk]) (n := 6) (Nat.le_of_ble_eq_true rfl)
  rw [lg_entry_eq]
  generalize (lg_sl ([.ref x, .int dd, .int pp, .int kk]) ++ List.replicate (6 - (lg_sl ([.ref x, .int dd, .int pp, .int kk])).length) Slot.unset).toArray = ls at hl ⊢
  have hl : lv_has ls 6 [(0, .ref x), (1, .int dd), (2, .int pp), (3, .int kk)] := hl
  refine lv_aload_n (pc := 0) hx hb dV_drop_0 rfl (lv_at hl 0 rfl) ?_
  refine va_csv (pc := 1) (W.runV (As := []) (rest := []) ⟨hx, hb, hml, hown, hts⟩ (v_needPower l dC dI x rt dr bs df ch pg rs) (cwV 0 hts (gV wd_70 wd_71 wd_72 wd_35 wd_69) rfl rfl rfl (by decide +kernel) ⟨Nat.le_of_ble_eq_true rfl, Nat.le_of_ble_eq_true rfl⟩) ⟨pR_blind, va_recv (q := (RV, TV, 9)) (q0 := 0) (ci := 0) hK hP rfl rfl, pR_pre (hP.sub (ws' := [(x, .inr (0, [.ref rt, .ref dr, .int 0, .int 0, .ref bs, .ref df, .ref ch, .ref pg, .int rs])), (pg, .inr (3, [.int 400, .int 0, .int 0, .int 0, .int 0, .int 0]))]) [0, 2] rfl) (hK.sub (tys' := []) [] rfl)⟩ rfl rfl hl.1 rfl (lv_room (Nat.le_of_ble_eq_true rfl)) dV_drop_1 ⟨Nat.le_of_ble_eq_true rfl, Nat.le_of_ble_eq_true rfl⟩) (fun hr2 => ?_)
  refine lv_aload_n (pc := 4) hx hb dV_drop_4 rfl (lv_at hl 0 rfl) ?_
  refine lv_iload_n (pc := 5) hx hb dV_drop_5 rfl (lv_at hl 1 rfl) ?_
  refine va_csq (pc := 6) (W.runV (As := [.int dd]) (rest := []) ⟨hx, hb, hml, hown, hts⟩ (v_drawingAt l dC dI x rt dr bs df ch pg rs dd) (cwV 1 hts (gV wd_41 wd_42 wd_43 wd_35 wd_40) rfl rfl rfl (by decide +kernel) ⟨Nat.le_of_ble_eq_true rfl, Nat.le_of_ble_eq_true rfl⟩) ⟨pR_blind, va_recv (q := (RV, TV, 9)) (q0 := 0) (ci := 0) hK hP rfl rfl, pR_pre (hP.sub (ws' := [(x, .inr (0, [.ref rt, .ref dr, .int 0, .int 0, .ref bs, .ref df, .ref ch, .ref pg, .int rs]))]) [0] rfl) (hK.sub (tys' := []) [] rfl)⟩ rfl rfl hl.1 rfl (lv_room (Nat.le_of_ble_eq_true rfl)) dV_drop_6 ⟨Nat.le_of_ble_eq_true rfl, Nat.le_of_ble_eq_true rfl⟩) (fun r3 hr4 => ?_)
  obtain rfl : r3 = none := hr4
  refine W.eq (g2 := F0 m 9 ls [.null]) rfl ?_
  refine lv_astoreN (pc := 9) hx hb dV_drop_9 hl (by decide) rfl (fun ls hl => ?_)
  have hl : lv_has ls 6 [(4, .null), (0, .ref x), (1, .int dd), (2, .int pp), (3, .int kk)] := hl
  refine lv_aload_n (pc := 11) hx hb dV_drop_11 rfl (lv_at hl 1 rfl) ?_
  refine lv_aloadN (pc := 12) hx hb dV_drop_12 (lv_at hl 0 rfl) ?_
  refine lv_iload_n (pc := 14) hx hb dV_drop_14 rfl (lv_at hl 3 rfl) ?_
  refine vp_callSi (pc := 15) (W.runV (As := [.null, .int pp]) (rest := []) ⟨hx, hb, hml, hown, hts⟩ (v_copyRefusal l dC dI x rt dr bs df ch pg rs cR pp) (cwV 2 hts (gV wd_82 wd_83 wd_84 wd_35 wd_81) rfl rfl rfl (by decide +kernel) ⟨Nat.le_of_ble_eq_true rfl, Nat.le_of_ble_eq_true rfl⟩) ⟨pR_blind, va_recv (q := (RV, TV, 9)) (q0 := 0) (ci := 0) hK hP rfl rfl, pR_pre (hP.sub (ws' := [(x, .inr (0, [.ref rt, .ref dr, .int 0, .int 0, .ref bs, .ref df, .ref ch, .ref pg, .int rs])), (rt, .inl (cR, 16, .inl (fun _ => 0)))]) [0, 1] rfl) (hK.sub (tys' := [(cR, .int)]) [0] rfl)⟩ rfl rfl hl.1 rfl (lv_room (Nat.le_of_ble_eq_true rfl)) dV_drop_15 ⟨Nat.le_of_ble_eq_true rfl, Nat.le_of_ble_eq_true rfl⟩) (fun r5 hr6 => ?_)
  obtain rfl : r5 = 1 := hr6
  refine lv_istore (pc := 18) hx hb dV_drop_18 hl (by decide) rfl (fun ls hl => ?_)
  have hl : lv_has ls 6 [(5, .int 1), (4, .null), (0, .ref x), (1, .int dd), (2, .int pp), (3, .int kk)] := hl
  refine lv_iload (pc := 20) hx hb dV_drop_20 (lv_at hl 0 rfl) ?_
  refine lv_if_ne (pc := 22) (tgt := 41) hx hb dV_drop_22 rfl (fun h7 => ?_) (fun h7 => absurd h7 (by decide))
  refine lv_aload_n (pc := 41) hx hb dV_drop_41 rfl (lv_at hl 2 rfl) ?_
  refine lv_iload (pc := 42) hx hb dV_drop_42 (lv_at hl 0 rfl) ?_
  have hPc := hP.sub (ws' := [(x, .inr (0, [.ref rt, .ref dr, .int 0, .int 0, .ref bs, .ref df, .ref ch, .ref pg, .int rs]))]) [0] rfl
  have hDc := hD.sub (ws' := [(x, .inr (0, [.ref rt, .ref dr, .int 0, .int 0, .ref bs, .ref df, .ref ch, .ref pg, .int rs]))]) [0] (by decide) rfl
  have hKc := hK.sub (tys' := []) [] rfl
  have hFc := va_free (wc := [(x, .inr (0, [.ref rt, .ref dr, .int 0, .int 0, .ref bs, .ref df, .ref ch, .ref pg, .int rs]))]) hD hS hA [0] rfl
  refine va_calli (pc := 44) (va_runV (As := [.int 1]) (rest := []) ⟨hx, hb, hml, hown, hts⟩ (v_allowed l dC dI H.size x rt dr bs df ch pg rs 1 (by decide)) (cwV 1 hts (gV wd_62 wd_63 wd_64 wd_35 wd_61) rfl rfl rfl (by decide +kernel) ⟨Nat.le_of_ble_eq_true rfl, Nat.le_of_ble_eq_true rfl⟩) ⟨pW_blind, va_recv (q := (RV, TV, 9)) (q0 := 0) (ci := 0) hK hP rfl rfl, pW_pre hPc hKc hDc⟩ rfl rfl hl.1 rfl (lv_room (Nat.le_of_ble_eq_true rfl)) dV_drop_44 ⟨Nat.le_of_ble_eq_true rfl, Nat.le_of_ble_eq_true rfl⟩) hS (fun q _ h => hFc q h) hFc (fun r8 u t H1 locs ht hvm hr9 hB hz1 hk1 hS => ?_)
  obtain ⟨hP1, hK1, hD1⟩ := hB
  rw [ht] at hP1
  have hK1 := va_K.moved hvm.symm hK1
  obtain ⟨hP, hD⟩ := va_join (wr := [(rt, .inl (cR, 16, .inl (fun _ => 0))), (pg, .inr (3, [.int 400, .int 0, .int 0, .int 0, .int 0, .int 0]))]) (w1 := [(x, .inr (0, [.ref rt, .ref dr, .int 0, .int 0, .ref bs, .ref df, .ref ch, .ref pg, .int 1]))]) hP hD [0] [1, 2] rfl rfl (by decide) (by decide) hk1 hFc hP1 hD1
  generalize H1 = H at hP hS ⊢
  have hP : va_P (dC, dI) kCl [(rt, .inl (cR, 16, .inl (fun _ => 0))), (pg, .inr (3, [.int 400, .int 0, .int 0, .int 0, .int 0, .int 0])), (x, .inr (0, [.ref rt, .ref dr, .int 0, .int 0, .ref bs, .ref df, .ref ch, .ref pg, .int 1]))] H := hP
  have hD : va_D A [(rt, .inl (cR, 16, .inl (fun _ => 0))), (pg, .inr (3, [.int 400, .int 0, .int 0, .int 0, .int 0, .int 0])), (x, .inr (0, [.ref rt, .ref dr, .int 0, .int 0, .ref bs, .ref df, .ref ch, .ref pg, .int 1]))] := hD
  refine W.widen (k := 0) (n := 0) (Nat.le_of_ble_eq_true rfl) (Nat.le_of_ble_eq_true rfl) ?_
  obtain rfl : r8 = 0 := hr9
  refine lv_if_ne (pc := 47) (tgt := 52) hx hb dV_drop_47 rfl (fun h11 => absurd h11 (by decide)) (fun h11 => ?_)
  refine lv_iconst (pc := 50) (v := 0) hx hb dV_drop_50 (by decide) ?_
  have hP9 := hP.sub (ws' := []) [] rfl
  have hD9 := hD.sub (ws' := []) [] (by decide) rfl
  have hK9 := hK.sub (tys' := []) [] rfl
  exact W.zret (pc := 51) hx hb hr rfl (fun t ht hW => ⟨⟨_, (), rfl, rfl, by rw [ht]; exact hP9, va_K.moved hW.alike hK9, hD9⟩, hS.F ht⟩) hS.2.2 dV_drop_51
set_option maxHeartbeats 4000000 in
set_option maxRecDepth 100000 in
theorem v_checkIn (l : Launch) (dC : Nat → ClassId) (dI : Nat → Nat → Nat) (sz : Nat) (x : Nat) (rt : Nat) (dr : Nat) (bs : Nat) (df : Nat) (ch : Nat) (pg : Nat) (rs : Int32) (cR : ClassId) (dd : Int32) (pp : Int32) : Met l yV_checkIn (.code yV_checkIn cV_checkIn 6 (some .int) :: aw) ({ frames := 3, cells := 0, slots := 0, locals := 64 }) (pW (dC, dI) sz [(x, .inr (0, [.ref rt, .ref dr, .int 0, .int 0, .ref bs, .ref df, .ref ch, .ref pg, .int rs])), (rt, .inl (cR, 16, .inl (fun _ => 0))), (pg, .inr (3, [.int 400, .int 0, .int 0, .int 0, .int 0, .int 0]))] [(cR, .int)] [.ref x, .int dd, .int pp]) (va_Qi (fun r (_ : Unit) => r = (-1)) (fun _ t => wW (dC, dI) (va_A [(x, .inr (0, [.ref rt, .ref dr, .int 0, .int 0, .ref bs, .ref df, .ref ch, .ref pg, .int rs])), (rt, .inl (cR, 16, .inl (fun _ => 0))), (pg, .inr (3, [.int 400, .int 0, .int 0, .int 0, .int 0, .int 0]))] sz) [] [] t) (va_A [(x, .inr (0, [.ref rt, .ref dr, .int 0, .int 0, .ref bs, .ref df, .ref ch, .ref pg, .int rs])), (rt, .inl (cR, 16, .inl (fun _ => 0))), (pg, .inr (3, [.int 400, .int 0, .int 0, .int 0, .int 0, .int 0]))] sz)) 0 0 (va_A [(x, .inr (0, [.ref rt, .ref dr, .int 0, .int 0, .ref bs, .ref df, .ref ch, .ref pg, .int rs])), (rt, .inl (cR, 16, .inl (fun _ => 0))), (pg, .inr (3, [.int 400, .int 0, .int 0, .int 0, .int 0, .int 0]))] sz) := by
  refine Met.ofW (cc := cV_checkIn) (maxL := 6) (ret := (some .int)) (by decide) rfl ?_
  intro p e s m args below meth c s₁ B hml hv
  obtain ⟨rfl, hv⟩ := hv
  have hx := B.exec
  have hb := B.bytes
  have hr := B.returns
  have hts : ∀ w ∈ aw, w.before _ s = true := fun w h => atoms_spec (ws := (.code yV_checkIn cV_checkIn 6 (some .int) :: aw)) B.pre w (List.mem_cons_of_mem _ h)
  have hown : s.vm.findClass RV = some m.cls := findClass_of_methodNamed B.named
  have hlocks := B.notSynchronized
  obtain ⟨hsz, hP, hK, hD0⟩ := hv
  subst hsz
  have hD := hD0.self (sz := s.heap.size)
  generalize hAe : va_A [(x, .inr (0, [.ref rt, .ref dr, .int 0, .int 0, .ref bs, .ref df, .ref ch, .ref pg, .int rs])), (rt, .inl (cR, 16, .inl (fun _ => 0))), (pg, .inr (3, [.int 400, .int 0, .int 0, .int 0, .int 0, .int 0]))] s.heap.size = A at hD ⊢
  have hA : ∀ q : Nat, s.heap.size ≤ q → A q := fun q h => by rw [← hAe]; exact Or.inr h
  obtain ⟨H, hH⟩ : ∃ H, H = s.heap := ⟨_, rfl⟩
  have hS : va_S A s.heap H [] := by rw [hH]; exact va_S.rf
  rw [← hH] at hP ⊢
  have hP : va_P (dC, dI) kCl [(x, .inr (0, [.ref rt, .ref dr, .int 0, .int 0, .ref bs, .ref df, .ref ch, .ref pg, .int rs])), (rt, .inl (cR, 16, .inl (fun _ => 0))), (pg, .inr (3, [.int 400, .int 0, .int 0, .int 0, .int 0, .int 0]))] H := hP
  have hl := lv_entry ([.ref x, .int dd, .int pp]) (n := 6) (Nat.le_of_ble_eq_true rfl)
  rw [lg_entry_eq]
  generalize (lg_sl ([.ref x, .int dd, .int pp]) ++ List.replicate (6 - (lg_sl ([.ref x, .int dd, .int pp])).length) Slot.unset).toArray = ls at hl ⊢
  have hl : lv_has ls 6 [(0, .ref x), (1, .int dd), (2, .int pp)] := hl
  refine lv_aload_n (pc := 0) hx hb dV_checkIn_0 rfl (lv_at hl 0 rfl) ?_
  refine va_csv (pc := 1) (W.runV (As := []) (rest := []) ⟨hx, hb, hml, hown, hts⟩ (v_needPower l dC dI x rt dr bs df ch pg rs) (cwV 0 hts (gV wd_70 wd_71 wd_72 wd_35 wd_69) rfl rfl rfl (by decide +kernel) ⟨Nat.le_of_ble_eq_true rfl, Nat.le_of_ble_eq_true rfl⟩) ⟨pR_blind, va_recv (q := (RV, TV, 9)) (q0 := 0) (ci := 0) hK hP rfl rfl, pR_pre (hP.sub (ws' := [(x, .inr (0, [.ref rt, .ref dr, .int 0, .int 0, .ref bs, .ref df, .ref ch, .ref pg, .int rs])), (pg, .inr (3, [.int 400, .int 0, .int 0, .int 0, .int 0, .int 0]))]) [0, 2] rfl) (hK.sub (tys' := []) [] rfl)⟩ rfl rfl hl.1 rfl (lv_room (Nat.le_of_ble_eq_true rfl)) dV_checkIn_1 ⟨Nat.le_of_ble_eq_true rfl, Nat.le_of_ble_eq_true rfl⟩) (fun hr2 => ?_)
  refine lv_aload_n (pc := 4) hx hb dV_checkIn_4 rfl (lv_at hl 0 rfl) ?_
  refine lv_iload_n (pc := 5) hx hb dV_checkIn_5 rfl (lv_at hl 1 rfl) ?_
  refine va_csq (pc := 6) (W.runV (As := [.int dd]) (rest := []) ⟨hx, hb, hml, hown, hts⟩ (v_drawingAt l dC dI x rt dr bs df ch pg rs dd) (cwV 1 hts (gV wd_41 wd_42 wd_43 wd_35 wd_40) rfl rfl rfl (by decide +kernel) ⟨Nat.le_of_ble_eq_true rfl, Nat.le_of_ble_eq_true rfl⟩) ⟨pR_blind, va_recv (q := (RV, TV, 9)) (q0 := 0) (ci := 0) hK hP rfl rfl, pR_pre (hP.sub (ws' := [(x, .inr (0, [.ref rt, .ref dr, .int 0, .int 0, .ref bs, .ref df, .ref ch, .ref pg, .int rs]))]) [0] rfl) (hK.sub (tys' := []) [] rfl)⟩ rfl rfl hl.1 rfl (lv_room (Nat.le_of_ble_eq_true rfl)) dV_checkIn_6 ⟨Nat.le_of_ble_eq_true rfl, Nat.le_of_ble_eq_true rfl⟩) (fun r3 hr4 => ?_)
  obtain rfl : r3 = none := hr4
  refine W.eq (g2 := F0 m 9 ls [.null]) rfl ?_
  refine lv_astore_nN (pc := 9) hx hb dV_checkIn_9 rfl hl (by decide) rfl (fun ls hl => ?_)
  have hl : lv_has ls 6 [(3, .null), (0, .ref x), (1, .int dd), (2, .int pp)] := hl
  refine lv_aload_n (pc := 10) hx hb dV_checkIn_10 rfl (lv_at hl 1 rfl) ?_
  refine lv_aload_nN (pc := 11) hx hb dV_checkIn_11 rfl (lv_at hl 0 rfl) ?_
  refine lv_iload_n (pc := 12) hx hb dV_checkIn_12 rfl (lv_at hl 3 rfl) ?_
  refine vp_callSi (pc := 13) (W.runV (As := [.null, .int pp]) (rest := []) ⟨hx, hb, hml, hown, hts⟩ (v_copyRefusal l dC dI x rt dr bs df ch pg rs cR pp) (cwV 2 hts (gV wd_82 wd_83 wd_84 wd_35 wd_81) rfl rfl rfl (by decide +kernel) ⟨Nat.le_of_ble_eq_true rfl, Nat.le_of_ble_eq_true rfl⟩) ⟨pR_blind, va_recv (q := (RV, TV, 9)) (q0 := 0) (ci := 0) hK hP rfl rfl, pR_pre (hP.sub (ws' := [(x, .inr (0, [.ref rt, .ref dr, .int 0, .int 0, .ref bs, .ref df, .ref ch, .ref pg, .int rs])), (rt, .inl (cR, 16, .inl (fun _ => 0)))]) [0, 1] rfl) (hK.sub (tys' := [(cR, .int)]) [0] rfl)⟩ rfl rfl hl.1 rfl (lv_room (Nat.le_of_ble_eq_true rfl)) dV_checkIn_13 ⟨Nat.le_of_ble_eq_true rfl, Nat.le_of_ble_eq_true rfl⟩) (fun r5 hr6 => ?_)
  obtain rfl : r5 = 1 := hr6
  refine lv_istore (pc := 16) hx hb dV_checkIn_16 hl (by decide) rfl (fun ls hl => ?_)
  have hl : lv_has ls 6 [(4, .int 1), (3, .null), (0, .ref x), (1, .int dd), (2, .int pp)] := hl
  refine lv_iconst (pc := 18) (v := 0) hx hb dV_checkIn_18 (by decide) ?_
  refine lv_istore (pc := 19) hx hb dV_checkIn_19 hl (by decide) rfl (fun ls hl => ?_)
  have hl : lv_has ls 6 [(5, .int 0), (4, .int 1), (3, .null), (0, .ref x), (1, .int dd), (2, .int pp)] := hl
  refine lv_iload (pc := 21) hx hb dV_checkIn_21 (lv_at hl 1 rfl) ?_
  refine lv_if_ne (pc := 23) (tgt := 49) hx hb dV_checkIn_23 rfl (fun h7 => ?_) (fun h7 => absurd h7 (by decide))
  refine lv_aload_n (pc := 49) hx hb dV_checkIn_49 rfl (lv_at hl 3 rfl) ?_
  refine lv_iload (pc := 50) hx hb dV_checkIn_50 (lv_at hl 1 rfl) ?_
  refine lv_iload (pc := 52) hx hb dV_checkIn_52 (lv_at hl 0 rfl) ?_
  have hPc := hP.sub (ws' := [(x, .inr (0, [.ref rt, .ref dr, .int 0, .int 0, .ref bs, .ref df, .ref ch, .ref pg, .int rs]))]) [0] rfl
  have hDc := hD.sub (ws' := [(x, .inr (0, [.ref rt, .ref dr, .int 0, .int 0, .ref bs, .ref df, .ref ch, .ref pg, .int rs]))]) [0] (by decide) rfl
  have hKc := hK.sub (tys' := []) [] rfl
  have hFc := va_free (wc := [(x, .inr (0, [.ref rt, .ref dr, .int 0, .int 0, .ref bs, .ref df, .ref ch, .ref pg, .int rs]))]) hD hS hA [0] rfl
  refine va_calli (pc := 54) (va_runV (As := [.int 1, .int 0]) (rest := []) ⟨hx, hb, hml, hown, hts⟩ (v_mayWrite l dC dI H.size x rt dr bs df ch pg rs 1 0 (by decide)) (cwV 2 hts (gV wd_66 wd_67 wd_68 wd_35 wd_65) rfl rfl rfl (by decide +kernel) ⟨Nat.le_of_ble_eq_true rfl, Nat.le_of_ble_eq_true rfl⟩) ⟨pW_blind, va_recv (q := (RV, TV, 9)) (q0 := 0) (ci := 0) hK hP rfl rfl, pW_pre hPc hKc hDc⟩ rfl rfl hl.1 rfl (lv_room (Nat.le_of_ble_eq_true rfl)) dV_checkIn_54 ⟨Nat.le_of_ble_eq_true rfl, Nat.le_of_ble_eq_true rfl⟩) hS (fun q _ h => hFc q h) hFc (fun r8 u t H1 locs ht hvm hr9 hB hz1 hk1 hS => ?_)
  obtain ⟨hP1, hK1, hD1⟩ := hB
  rw [ht] at hP1
  have hK1 := va_K.moved hvm.symm hK1
  obtain ⟨hP, hD⟩ := va_join (wr := [(rt, .inl (cR, 16, .inl (fun _ => 0))), (pg, .inr (3, [.int 400, .int 0, .int 0, .int 0, .int 0, .int 0]))]) (w1 := [(x, .inr (0, [.ref rt, .ref dr, .int 0, .int 0, .ref bs, .ref df, .ref ch, .ref pg, .int 1]))]) hP hD [0] [1, 2] rfl rfl (by decide) (by decide) hk1 hFc hP1 hD1
  generalize H1 = H at hP hS ⊢
  have hP : va_P (dC, dI) kCl [(rt, .inl (cR, 16, .inl (fun _ => 0))), (pg, .inr (3, [.int 400, .int 0, .int 0, .int 0, .int 0, .int 0])), (x, .inr (0, [.ref rt, .ref dr, .int 0, .int 0, .ref bs, .ref df, .ref ch, .ref pg, .int 1]))] H := hP
  have hD : va_D A [(rt, .inl (cR, 16, .inl (fun _ => 0))), (pg, .inr (3, [.int 400, .int 0, .int 0, .int 0, .int 0, .int 0])), (x, .inr (0, [.ref rt, .ref dr, .int 0, .int 0, .ref bs, .ref df, .ref ch, .ref pg, .int 1]))] := hD
  refine W.widen (k := 0) (n := 0) (Nat.le_of_ble_eq_true rfl) (Nat.le_of_ble_eq_true rfl) ?_
  obtain rfl : r8 = 0 := hr9
  refine lv_if_ne (pc := 57) (tgt := 62) hx hb dV_checkIn_57 rfl (fun h11 => absurd h11 (by decide)) (fun h11 => ?_)
  refine lv_iconst (pc := 60) (v := (-1)) hx hb dV_checkIn_60 (by decide) ?_
  have hP9 := hP.sub (ws' := []) [] rfl
  have hD9 := hD.sub (ws' := []) [] (by decide) rfl
  have hK9 := hK.sub (tys' := []) [] rfl
  exact W.iret (pc := 61) hx hb hr (fun t ht hW => ⟨⟨_, (), rfl, rfl, by rw [ht]; exact hP9, va_K.moved hW.alike hK9, hD9⟩, hS.F ht⟩) hS.2.2 dV_checkIn_61
set_option maxHeartbeats 4000000 in
set_option maxRecDepth 100000 in
theorem v_check (l : Launch) (dC : Nat → ClassId) (dI : Nat → Nat → Nat) (sz : Nat) (x : Nat) (rt : Nat) (dr : Nat) (bs : Nat) (df : Nat) (ch : Nat) (pg : Nat) (rs : Int32) (cR : ClassId) (dd : Int32) (vv : Int32) (pp : Int32) : Met l yV_check (.code yV_check cV_check 4 (some .boolean) :: aw) ({ frames := 3, cells := 0, slots := 0, locals := 69 }) (pW (dC, dI) sz [(x, .inr (0, [.ref rt, .ref dr, .int 0, .int 0, .ref bs, .ref df, .ref ch, .ref pg, .int rs])), (rt, .inl (cR, 16, .inl (fun _ => 0))), (pg, .inr (3, [.int 400, .int 0, .int 0, .int 0, .int 0, .int 0]))] [(cR, .int)] [.ref x, .int dd, .int vv, .int pp]) (va_Qi (fun r (_ : Unit) => r = 0) (fun _ t => wW (dC, dI) (va_A [(x, .inr (0, [.ref rt, .ref dr, .int 0, .int 0, .ref bs, .ref df, .ref ch, .ref pg, .int rs])), (rt, .inl (cR, 16, .inl (fun _ => 0))), (pg, .inr (3, [.int 400, .int 0, .int 0, .int 0, .int 0, .int 0]))] sz) [] [] t) (va_A [(x, .inr (0, [.ref rt, .ref dr, .int 0, .int 0, .ref bs, .ref df, .ref ch, .ref pg, .int rs])), (rt, .inl (cR, 16, .inl (fun _ => 0))), (pg, .inr (3, [.int 400, .int 0, .int 0, .int 0, .int 0, .int 0]))] sz)) 0 0 (va_A [(x, .inr (0, [.ref rt, .ref dr, .int 0, .int 0, .ref bs, .ref df, .ref ch, .ref pg, .int rs])), (rt, .inl (cR, 16, .inl (fun _ => 0))), (pg, .inr (3, [.int 400, .int 0, .int 0, .int 0, .int 0, .int 0]))] sz) := by
  refine Met.ofW (cc := cV_check) (maxL := 4) (ret := (some .boolean)) (by decide) rfl ?_
  intro p e s m args below meth c s₁ B hml hv
  obtain ⟨rfl, hv⟩ := hv
  have hx := B.exec
  have hb := B.bytes
  have hr := B.returns
  have hts : ∀ w ∈ aw, w.before _ s = true := fun w h => atoms_spec (ws := (.code yV_check cV_check 4 (some .boolean) :: aw)) B.pre w (List.mem_cons_of_mem _ h)
  have hown : s.vm.findClass RV = some m.cls := findClass_of_methodNamed B.named
  have hlocks := B.notSynchronized
  obtain ⟨hsz, hP, hK, hD0⟩ := hv
  subst hsz
  have hD := hD0.self (sz := s.heap.size)
  generalize hAe : va_A [(x, .inr (0, [.ref rt, .ref dr, .int 0, .int 0, .ref bs, .ref df, .ref ch, .ref pg, .int rs])), (rt, .inl (cR, 16, .inl (fun _ => 0))), (pg, .inr (3, [.int 400, .int 0, .int 0, .int 0, .int 0, .int 0]))] s.heap.size = A at hD ⊢
  have hA : ∀ q : Nat, s.heap.size ≤ q → A q := fun q h => by rw [← hAe]; exact Or.inr h
  obtain ⟨H, hH⟩ : ∃ H, H = s.heap := ⟨_, rfl⟩
  have hS : va_S A s.heap H [] := by rw [hH]; exact va_S.rf
  rw [← hH] at hP ⊢
  have hP : va_P (dC, dI) kCl [(x, .inr (0, [.ref rt, .ref dr, .int 0, .int 0, .ref bs, .ref df, .ref ch, .ref pg, .int rs])), (rt, .inl (cR, 16, .inl (fun _ => 0))), (pg, .inr (3, [.int 400, .int 0, .int 0, .int 0, .int 0, .int 0]))] H := hP
  have hl := lv_entry ([.ref x, .int dd, .int vv, .int pp]) (n := 4) (Nat.le_of_ble_eq_true rfl)
  rw [lg_entry_eq]
  generalize (lg_sl ([.ref x, .int dd, .int vv, .int pp]) ++ List.replicate (4 - (lg_sl ([.ref x, .int dd, .int vv, .int pp])).length) Slot.unset).toArray = ls at hl ⊢
  have hl : lv_has ls 4 [(0, .ref x), (1, .int dd), (2, .int vv), (3, .int pp)] := hl
  refine lv_aload_n (pc := 0) hx hb dV_check_0 rfl (lv_at hl 0 rfl) ?_
  refine va_csv (pc := 1) (W.runV (As := []) (rest := []) ⟨hx, hb, hml, hown, hts⟩ (v_needPower l dC dI x rt dr bs df ch pg rs) (cwV 0 hts (gV wd_70 wd_71 wd_72 wd_35 wd_69) rfl rfl rfl (by decide +kernel) ⟨Nat.le_of_ble_eq_true rfl, Nat.le_of_ble_eq_true rfl⟩) ⟨pR_blind, va_recv (q := (RV, TV, 9)) (q0 := 0) (ci := 0) hK hP rfl rfl, pR_pre (hP.sub (ws' := [(x, .inr (0, [.ref rt, .ref dr, .int 0, .int 0, .ref bs, .ref df, .ref ch, .ref pg, .int rs])), (pg, .inr (3, [.int 400, .int 0, .int 0, .int 0, .int 0, .int 0]))]) [0, 2] rfl) (hK.sub (tys' := []) [] rfl)⟩ rfl rfl hl.1 rfl (lv_room (Nat.le_of_ble_eq_true rfl)) dV_check_1 ⟨Nat.le_of_ble_eq_true rfl, Nat.le_of_ble_eq_true rfl⟩) (fun hr2 => ?_)
  refine lv_aload_n (pc := 4) hx hb dV_check_4 rfl (lv_at hl 0 rfl) ?_
  refine lv_iload_n (pc := 5) hx hb dV_check_5 rfl (lv_at hl 1 rfl) ?_
  refine lv_iload_n (pc := 6) hx hb dV_check_6 rfl (lv_at hl 2 rfl) ?_
  refine lv_iconst (pc := 7) (v := 1) hx hb dV_check_7 (by decide) ?_
  refine lv_aload_n (pc := 8) hx hb dV_check_8 rfl (lv_at hl 0 rfl) ?_
  refine lv_iload_n (pc := 9) hx hb dV_check_9 rfl (lv_at hl 1 rfl) ?_
  refine lv_iload_n (pc := 10) hx hb dV_check_10 rfl (lv_at hl 2 rfl) ?_
  refine lv_iload_n (pc := 11) hx hb dV_check_11 rfl (lv_at hl 3 rfl) ?_
  refine vp_callSi (pc := 12) (W.runV (As := [.int dd, .int vv, .int pp]) (rest := [.int 1, .int vv, .int dd, .ref x]) ⟨hx, hb, hml, hown, hts⟩ (v_checkRefusal l dC dI x rt dr bs df ch pg rs cR dd vv pp) (cwV 3 hts (gV wd_86 wd_87 wd_88 wd_35 wd_85) rfl rfl rfl (by decide +kernel) ⟨Nat.le_of_ble_eq_true rfl, Nat.le_of_ble_eq_true rfl⟩) ⟨pR_blind, va_recv (q := (RV, TV, 9)) (q0 := 0) (ci := 0) hK hP rfl rfl, pR_pre (hP.sub (ws' := [(x, .inr (0, [.ref rt, .ref dr, .int 0, .int 0, .ref bs, .ref df, .ref ch, .ref pg, .int rs])), (rt, .inl (cR, 16, .inl (fun _ => 0)))]) [0, 1] rfl) (hK.sub (tys' := [(cR, .int)]) [0] rfl)⟩ rfl rfl hl.1 rfl (lv_room (Nat.le_of_ble_eq_true rfl)) dV_check_12 ⟨Nat.le_of_ble_eq_true rfl, Nat.le_of_ble_eq_true rfl⟩) (fun r3 hr4 => ?_)
  obtain rfl : r3 = 1 := hr4
  have hPc := hP.sub (ws' := [(x, .inr (0, [.ref rt, .ref dr, .int 0, .int 0, .ref bs, .ref df, .ref ch, .ref pg, .int rs]))]) [0] rfl
  have hDc := hD.sub (ws' := [(x, .inr (0, [.ref rt, .ref dr, .int 0, .int 0, .ref bs, .ref df, .ref ch, .ref pg, .int rs]))]) [0] (by decide) rfl
  have hKc := hK.sub (tys' := []) [] rfl
  have hFc := va_free (wc := [(x, .inr (0, [.ref rt, .ref dr, .int 0, .int 0, .ref bs, .ref df, .ref ch, .ref pg, .int rs]))]) hD hS hA [0] rfl
  refine va_calli (pc := 15) (va_runV (As := [.int dd, .int vv, .int 1, .int 1]) (rest := []) ⟨hx, hb, hml, hown, hts⟩ (v_becomes l dC dI H.size x rt dr bs df ch pg rs dd vv 1 1 (by decide)) (cwV 4 hts (gV wd_90 wd_91 wd_92 wd_35 wd_89) rfl rfl rfl (by decide +kernel) ⟨Nat.le_of_ble_eq_true rfl, Nat.le_of_ble_eq_true rfl⟩) ⟨pW_blind, va_recv (q := (RV, TV, 9)) (q0 := 0) (ci := 0) hK hP rfl rfl, pW_pre hPc hKc hDc⟩ rfl rfl hl.1 rfl (lv_room (Nat.le_of_ble_eq_true rfl)) dV_check_15 ⟨Nat.le_of_ble_eq_true rfl, Nat.le_of_ble_eq_true rfl⟩) hS (fun q _ h => hFc q h) hFc (fun r5 u t H1 locs ht hvm hr6 hB hz1 hk1 hS => ?_)
  obtain ⟨hP1, hK1, hD1⟩ := hB
  rw [ht] at hP1
  have hK1 := va_K.moved hvm.symm hK1
  obtain ⟨hP, hD⟩ := va_join (wr := [(rt, .inl (cR, 16, .inl (fun _ => 0))), (pg, .inr (3, [.int 400, .int 0, .int 0, .int 0, .int 0, .int 0]))]) (w1 := []) hP hD [0] [1, 2] rfl rfl (by decide) (by decide) hk1 hFc hP1 hD1
  generalize H1 = H at hP hS ⊢
  have hP : va_P (dC, dI) kCl [(rt, .inl (cR, 16, .inl (fun _ => 0))), (pg, .inr (3, [.int 400, .int 0, .int 0, .int 0, .int 0, .int 0]))] H := hP
  have hD : va_D A [(rt, .inl (cR, 16, .inl (fun _ => 0))), (pg, .inr (3, [.int 400, .int 0, .int 0, .int 0, .int 0, .int 0]))] := hD
  refine W.widen (k := 0) (n := 0) (Nat.le_of_ble_eq_true rfl) (Nat.le_of_ble_eq_true rfl) ?_
  obtain rfl : r5 = 0 := hr6
  have hP9 := hP.sub (ws' := []) [] rfl
  have hD9 := hD.sub (ws' := []) [] (by decide) rfl
  have hK9 := hK.sub (tys' := []) [] rfl
  exact W.zret (pc := 18) hx hb hr rfl (fun t ht hW => ⟨⟨_, (), rfl, rfl, by rw [ht]; exact hP9, va_K.moved hW.alike hK9, hD9⟩, hS.F ht⟩) hS.2.2 dV_check_18
set_option maxHeartbeats 4000000 in
set_option maxRecDepth 100000 in
theorem v_release (l : Launch) (dC : Nat → ClassId) (dI : Nat → Nat → Nat) (sz : Nat) (x : Nat) (rt : Nat) (dr : Nat) (bs : Nat) (df : Nat) (ch : Nat) (pg : Nat) (rs : Int32) (cR : ClassId) (dd : Int32) (vv : Int32) (pp : Int32) : Met l yV_release (.code yV_release cV_release 4 (some .boolean) :: aw) ({ frames := 3, cells := 0, slots := 0, locals := 69 }) (pW (dC, dI) sz [(x, .inr (0, [.ref rt, .ref dr, .int 0, .int 0, .ref bs, .ref df, .ref ch, .ref pg, .int rs])), (rt, .inl (cR, 16, .inl (fun _ => 0))), (pg, .inr (3, [.int 400, .int 0, .int 0, .int 0, .int 0, .int 0]))] [(cR, .int)] [.ref x, .int dd, .int vv, .int pp]) (va_Qi (fun r (_ : Unit) => r = 0) (fun _ t => wW (dC, dI) (va_A [(x, .inr (0, [.ref rt, .ref dr, .int 0, .int 0, .ref bs, .ref df, .ref ch, .ref pg, .int rs])), (rt, .inl (cR, 16, .inl (fun _ => 0))), (pg, .inr (3, [.int 400, .int 0, .int 0, .int 0, .int 0, .int 0]))] sz) [] [] t) (va_A [(x, .inr (0, [.ref rt, .ref dr, .int 0, .int 0, .ref bs, .ref df, .ref ch, .ref pg, .int rs])), (rt, .inl (cR, 16, .inl (fun _ => 0))), (pg, .inr (3, [.int 400, .int 0, .int 0, .int 0, .int 0, .int 0]))] sz)) 0 0 (va_A [(x, .inr (0, [.ref rt, .ref dr, .int 0, .int 0, .ref bs, .ref df, .ref ch, .ref pg, .int rs])), (rt, .inl (cR, 16, .inl (fun _ => 0))), (pg, .inr (3, [.int 400, .int 0, .int 0, .int 0, .int 0, .int 0]))] sz) := by
  refine Met.ofW (cc := cV_release) (maxL := 4) (ret := (some .boolean)) (by decide) rfl ?_
  intro p e s m args below meth c s₁ B hml hv
  obtain ⟨rfl, hv⟩ := hv
  have hx := B.exec
  have hb := B.bytes
  have hr := B.returns
  have hts : ∀ w ∈ aw, w.before _ s = true := fun w h => atoms_spec (ws := (.code yV_release cV_release 4 (some .boolean) :: aw)) B.pre w (List.mem_cons_of_mem _ h)
  have hown : s.vm.findClass RV = some m.cls := findClass_of_methodNamed B.named
  have hlocks := B.notSynchronized
  obtain ⟨hsz, hP, hK, hD0⟩ := hv
  subst hsz
  have hD := hD0.self (sz := s.heap.size)
  generalize hAe : va_A [(x, .inr (0, [.ref rt, .ref dr, .int 0, .int 0, .ref bs, .ref df, .ref ch, .ref pg, .int rs])), (rt, .inl (cR, 16, .inl (fun _ => 0))), (pg, .inr (3, [.int 400, .int 0, .int 0, .int 0, .int 0, .int 0]))] s.heap.size = A at hD ⊢
  have hA : ∀ q : Nat, s.heap.size ≤ q → A q := fun q h => by rw [← hAe]; exact Or.inr h
  obtain ⟨H, hH⟩ : ∃ H, H = s.heap := ⟨_, rfl⟩
  have hS : va_S A s.heap H [] := by rw [hH]; exact va_S.rf
  rw [← hH] at hP ⊢
  have hP : va_P (dC, dI) kCl [(x, .inr (0, [.ref rt, .ref dr, .int 0, .int 0, .ref bs, .ref df, .ref ch, .ref pg, .int rs])), (rt, .inl (cR, 16, .inl (fun _ => 0))), (pg, .inr (3, [.int 400, .int 0, .int 0, .int 0, .int 0, .int 0]))] H := hP
  have hl := lv_entry ([.ref x, .int dd, .int vv, .int pp]) (n := 4) (Nat.le_of_ble_eq_true rfl)
  rw [lg_entry_eq]
  generalize (lg_sl ([.ref x, .int dd, .int vv, .int pp]) ++ List.replicate (4 - (lg_sl ([.ref x, .int dd, .int vv, .int pp])).length) Slot.unset).toArray = ls at hl ⊢
  have hl : lv_has ls 4 [(0, .ref x), (1, .int dd), (2, .int vv), (3, .int pp)] := hl
  refine lv_aload_n (pc := 0) hx hb dV_release_0 rfl (lv_at hl 0 rfl) ?_
  refine va_csv (pc := 1) (W.runV (As := []) (rest := []) ⟨hx, hb, hml, hown, hts⟩ (v_needPower l dC dI x rt dr bs df ch pg rs) (cwV 0 hts (gV wd_70 wd_71 wd_72 wd_35 wd_69) rfl rfl rfl (by decide +kernel) ⟨Nat.le_of_ble_eq_true rfl, Nat.le_of_ble_eq_true rfl⟩) ⟨pR_blind, va_recv (q := (RV, TV, 9)) (q0 := 0) (ci := 0) hK hP rfl rfl, pR_pre (hP.sub (ws' := [(x, .inr (0, [.ref rt, .ref dr, .int 0, .int 0, .ref bs, .ref df, .ref ch, .ref pg, .int rs])), (pg, .inr (3, [.int 400, .int 0, .int 0, .int 0, .int 0, .int 0]))]) [0, 2] rfl) (hK.sub (tys' := []) [] rfl)⟩ rfl rfl hl.1 rfl (lv_room (Nat.le_of_ble_eq_true rfl)) dV_release_1 ⟨Nat.le_of_ble_eq_true rfl, Nat.le_of_ble_eq_true rfl⟩) (fun hr2 => ?_)
  refine lv_aload_n (pc := 4) hx hb dV_release_4 rfl (lv_at hl 0 rfl) ?_
  refine lv_iload_n (pc := 5) hx hb dV_release_5 rfl (lv_at hl 1 rfl) ?_
  refine lv_iload_n (pc := 6) hx hb dV_release_6 rfl (lv_at hl 2 rfl) ?_
  refine lv_iconst (pc := 7) (v := 2) hx hb dV_release_7 (by decide) ?_
  refine lv_aload_n (pc := 8) hx hb dV_release_8 rfl (lv_at hl 0 rfl) ?_
  refine lv_iload_n (pc := 9) hx hb dV_release_9 rfl (lv_at hl 1 rfl) ?_
  refine lv_iload_n (pc := 10) hx hb dV_release_10 rfl (lv_at hl 2 rfl) ?_
  refine lv_iload_n (pc := 11) hx hb dV_release_11 rfl (lv_at hl 3 rfl) ?_
  refine vp_callSi (pc := 12) (W.runV (As := [.int dd, .int vv, .int pp]) (rest := [.int 2, .int vv, .int dd, .ref x]) ⟨hx, hb, hml, hown, hts⟩ (v_releaseRefusal l dC dI x rt dr bs df ch pg rs cR dd vv pp) (cwV 3 hts (gV wd_94 wd_95 wd_96 wd_35 wd_93) rfl rfl rfl (by decide +kernel) ⟨Nat.le_of_ble_eq_true rfl, Nat.le_of_ble_eq_true rfl⟩) ⟨pR_blind, va_recv (q := (RV, TV, 9)) (q0 := 0) (ci := 0) hK hP rfl rfl, pR_pre (hP.sub (ws' := [(x, .inr (0, [.ref rt, .ref dr, .int 0, .int 0, .ref bs, .ref df, .ref ch, .ref pg, .int rs])), (rt, .inl (cR, 16, .inl (fun _ => 0)))]) [0, 1] rfl) (hK.sub (tys' := [(cR, .int)]) [0] rfl)⟩ rfl rfl hl.1 rfl (lv_room (Nat.le_of_ble_eq_true rfl)) dV_release_12 ⟨Nat.le_of_ble_eq_true rfl, Nat.le_of_ble_eq_true rfl⟩) (fun r3 hr4 => ?_)
  obtain rfl : r3 = 1 := hr4
  have hPc := hP.sub (ws' := [(x, .inr (0, [.ref rt, .ref dr, .int 0, .int 0, .ref bs, .ref df, .ref ch, .ref pg, .int rs]))]) [0] rfl
  have hDc := hD.sub (ws' := [(x, .inr (0, [.ref rt, .ref dr, .int 0, .int 0, .ref bs, .ref df, .ref ch, .ref pg, .int rs]))]) [0] (by decide) rfl
  have hKc := hK.sub (tys' := []) [] rfl
  have hFc := va_free (wc := [(x, .inr (0, [.ref rt, .ref dr, .int 0, .int 0, .ref bs, .ref df, .ref ch, .ref pg, .int rs]))]) hD hS hA [0] rfl
  refine va_calli (pc := 15) (va_runV (As := [.int dd, .int vv, .int 2, .int 1]) (rest := []) ⟨hx, hb, hml, hown, hts⟩ (v_becomes l dC dI H.size x rt dr bs df ch pg rs dd vv 2 1 (by decide)) (cwV 4 hts (gV wd_90 wd_91 wd_92 wd_35 wd_89) rfl rfl rfl (by decide +kernel) ⟨Nat.le_of_ble_eq_true rfl, Nat.le_of_ble_eq_true rfl⟩) ⟨pW_blind, va_recv (q := (RV, TV, 9)) (q0 := 0) (ci := 0) hK hP rfl rfl, pW_pre hPc hKc hDc⟩ rfl rfl hl.1 rfl (lv_room (Nat.le_of_ble_eq_true rfl)) dV_release_15 ⟨Nat.le_of_ble_eq_true rfl, Nat.le_of_ble_eq_true rfl⟩) hS (fun q _ h => hFc q h) hFc (fun r5 u t H1 locs ht hvm hr6 hB hz1 hk1 hS => ?_)
  obtain ⟨hP1, hK1, hD1⟩ := hB
  rw [ht] at hP1
  have hK1 := va_K.moved hvm.symm hK1
  obtain ⟨hP, hD⟩ := va_join (wr := [(rt, .inl (cR, 16, .inl (fun _ => 0))), (pg, .inr (3, [.int 400, .int 0, .int 0, .int 0, .int 0, .int 0]))]) (w1 := []) hP hD [0] [1, 2] rfl rfl (by decide) (by decide) hk1 hFc hP1 hD1
  generalize H1 = H at hP hS ⊢
  have hP : va_P (dC, dI) kCl [(rt, .inl (cR, 16, .inl (fun _ => 0))), (pg, .inr (3, [.int 400, .int 0, .int 0, .int 0, .int 0, .int 0]))] H := hP
  have hD : va_D A [(rt, .inl (cR, 16, .inl (fun _ => 0))), (pg, .inr (3, [.int 400, .int 0, .int 0, .int 0, .int 0, .int 0]))] := hD
  refine W.widen (k := 0) (n := 0) (Nat.le_of_ble_eq_true rfl) (Nat.le_of_ble_eq_true rfl) ?_
  obtain rfl : r5 = 0 := hr6
  have hP9 := hP.sub (ws' := []) [] rfl
  have hD9 := hD.sub (ws' := []) [] (by decide) rfl
  have hK9 := hK.sub (tys' := []) [] rfl
  exact W.zret (pc := 18) hx hb hr rfl (fun t ht hW => ⟨⟨_, (), rfl, rfl, by rw [ht]; exact hP9, va_K.moved hW.alike hK9, hD9⟩, hS.F ht⟩) hS.2.2 dV_release_18
set_option maxHeartbeats 4000000 in
set_option maxRecDepth 100000 in
theorem v_withdraw (l : Launch) (dC : Nat → ClassId) (dI : Nat → Nat → Nat) (sz : Nat) (x : Nat) (rt : Nat) (dr : Nat) (bs : Nat) (df : Nat) (ch : Nat) (pg : Nat) (rs : Int32) (cR : ClassId) (dd : Int32) (vv : Int32) (pp : Int32) : Met l yV_withdraw (.code yV_withdraw cV_withdraw 4 (some .boolean) :: aw) ({ frames := 3, cells := 0, slots := 0, locals := 69 }) (pW (dC, dI) sz [(x, .inr (0, [.ref rt, .ref dr, .int 0, .int 0, .ref bs, .ref df, .ref ch, .ref pg, .int rs])), (rt, .inl (cR, 16, .inl (fun _ => 0))), (pg, .inr (3, [.int 400, .int 0, .int 0, .int 0, .int 0, .int 0]))] [(cR, .int)] [.ref x, .int dd, .int vv, .int pp]) (va_Qi (fun r (_ : Unit) => r = 0) (fun _ t => wW (dC, dI) (va_A [(x, .inr (0, [.ref rt, .ref dr, .int 0, .int 0, .ref bs, .ref df, .ref ch, .ref pg, .int rs])), (rt, .inl (cR, 16, .inl (fun _ => 0))), (pg, .inr (3, [.int 400, .int 0, .int 0, .int 0, .int 0, .int 0]))] sz) [] [] t) (va_A [(x, .inr (0, [.ref rt, .ref dr, .int 0, .int 0, .ref bs, .ref df, .ref ch, .ref pg, .int rs])), (rt, .inl (cR, 16, .inl (fun _ => 0))), (pg, .inr (3, [.int 400, .int 0, .int 0, .int 0, .int 0, .int 0]))] sz)) 0 0 (va_A [(x, .inr (0, [.ref rt, .ref dr, .int 0, .int 0, .ref bs, .ref df, .ref ch, .ref pg, .int rs])), (rt, .inl (cR, 16, .inl (fun _ => 0))), (pg, .inr (3, [.int 400, .int 0, .int 0, .int 0, .int 0, .int 0]))] sz) := by
  refine Met.ofW (cc := cV_withdraw) (maxL := 4) (ret := (some .boolean)) (by decide) rfl ?_
  intro p e s m args below meth c s₁ B hml hv
  obtain ⟨rfl, hv⟩ := hv
  have hx := B.exec
  have hb := B.bytes
  have hr := B.returns
  have hts : ∀ w ∈ aw, w.before _ s = true := fun w h => atoms_spec (ws := (.code yV_withdraw cV_withdraw 4 (some .boolean) :: aw)) B.pre w (List.mem_cons_of_mem _ h)
  have hown : s.vm.findClass RV = some m.cls := findClass_of_methodNamed B.named
  have hlocks := B.notSynchronized
  obtain ⟨hsz, hP, hK, hD0⟩ := hv
  subst hsz
  have hD := hD0.self (sz := s.heap.size)
  generalize hAe : va_A [(x, .inr (0, [.ref rt, .ref dr, .int 0, .int 0, .ref bs, .ref df, .ref ch, .ref pg, .int rs])), (rt, .inl (cR, 16, .inl (fun _ => 0))), (pg, .inr (3, [.int 400, .int 0, .int 0, .int 0, .int 0, .int 0]))] s.heap.size = A at hD ⊢
  have hA : ∀ q : Nat, s.heap.size ≤ q → A q := fun q h => by rw [← hAe]; exact Or.inr h
  obtain ⟨H, hH⟩ : ∃ H, H = s.heap := ⟨_, rfl⟩
  have hS : va_S A s.heap H [] := by rw [hH]; exact va_S.rf
  rw [← hH] at hP ⊢
  have hP : va_P (dC, dI) kCl [(x, .inr (0, [.ref rt, .ref dr, .int 0, .int 0, .ref bs, .ref df, .ref ch, .ref pg, .int rs])), (rt, .inl (cR, 16, .inl (fun _ => 0))), (pg, .inr (3, [.int 400, .int 0, .int 0, .int 0, .int 0, .int 0]))] H := hP
  have hl := lv_entry ([.ref x, .int dd, .int vv, .int pp]) (n := 4) (Nat.le_of_ble_eq_true rfl)
  rw [lg_entry_eq]
  generalize (lg_sl ([.ref x, .int dd, .int vv, .int pp]) ++ List.replicate (4 - (lg_sl ([.ref x, .int dd, .int vv, .int pp])).length) Slot.unset).toArray = ls at hl ⊢
  have hl : lv_has ls 4 [(0, .ref x), (1, .int dd), (2, .int vv), (3, .int pp)] := hl
  refine lv_aload_n (pc := 0) hx hb dV_withdraw_0 rfl (lv_at hl 0 rfl) ?_
  refine va_csv (pc := 1) (W.runV (As := []) (rest := []) ⟨hx, hb, hml, hown, hts⟩ (v_needPower l dC dI x rt dr bs df ch pg rs) (cwV 0 hts (gV wd_70 wd_71 wd_72 wd_35 wd_69) rfl rfl rfl (by decide +kernel) ⟨Nat.le_of_ble_eq_true rfl, Nat.le_of_ble_eq_true rfl⟩) ⟨pR_blind, va_recv (q := (RV, TV, 9)) (q0 := 0) (ci := 0) hK hP rfl rfl, pR_pre (hP.sub (ws' := [(x, .inr (0, [.ref rt, .ref dr, .int 0, .int 0, .ref bs, .ref df, .ref ch, .ref pg, .int rs])), (pg, .inr (3, [.int 400, .int 0, .int 0, .int 0, .int 0, .int 0]))]) [0, 2] rfl) (hK.sub (tys' := []) [] rfl)⟩ rfl rfl hl.1 rfl (lv_room (Nat.le_of_ble_eq_true rfl)) dV_withdraw_1 ⟨Nat.le_of_ble_eq_true rfl, Nat.le_of_ble_eq_true rfl⟩) (fun hr2 => ?_)
  refine lv_aload_n (pc := 4) hx hb dV_withdraw_4 rfl (lv_at hl 0 rfl) ?_
  refine lv_iload_n (pc := 5) hx hb dV_withdraw_5 rfl (lv_at hl 1 rfl) ?_
  refine lv_iload_n (pc := 6) hx hb dV_withdraw_6 rfl (lv_at hl 2 rfl) ?_
  refine lv_iconst (pc := 7) (v := 3) hx hb dV_withdraw_7 (by decide) ?_
  refine lv_aload_n (pc := 8) hx hb dV_withdraw_8 rfl (lv_at hl 0 rfl) ?_
  refine lv_iload_n (pc := 9) hx hb dV_withdraw_9 rfl (lv_at hl 1 rfl) ?_
  refine lv_iload_n (pc := 10) hx hb dV_withdraw_10 rfl (lv_at hl 2 rfl) ?_
  refine lv_iload_n (pc := 11) hx hb dV_withdraw_11 rfl (lv_at hl 3 rfl) ?_
  refine vp_callSi (pc := 12) (W.runV (As := [.int dd, .int vv, .int pp]) (rest := [.int 3, .int vv, .int dd, .ref x]) ⟨hx, hb, hml, hown, hts⟩ (v_withdrawRefusal l dC dI x rt dr bs df ch pg rs cR dd vv pp) (cwV 3 hts (gV wd_98 wd_99 wd_100 wd_35 wd_97) rfl rfl rfl (by decide +kernel) ⟨Nat.le_of_ble_eq_true rfl, Nat.le_of_ble_eq_true rfl⟩) ⟨pR_blind, va_recv (q := (RV, TV, 9)) (q0 := 0) (ci := 0) hK hP rfl rfl, pR_pre (hP.sub (ws' := [(x, .inr (0, [.ref rt, .ref dr, .int 0, .int 0, .ref bs, .ref df, .ref ch, .ref pg, .int rs])), (rt, .inl (cR, 16, .inl (fun _ => 0)))]) [0, 1] rfl) (hK.sub (tys' := [(cR, .int)]) [0] rfl)⟩ rfl rfl hl.1 rfl (lv_room (Nat.le_of_ble_eq_true rfl)) dV_withdraw_12 ⟨Nat.le_of_ble_eq_true rfl, Nat.le_of_ble_eq_true rfl⟩) (fun r3 hr4 => ?_)
  obtain rfl : r3 = 1 := hr4
  have hPc := hP.sub (ws' := [(x, .inr (0, [.ref rt, .ref dr, .int 0, .int 0, .ref bs, .ref df, .ref ch, .ref pg, .int rs]))]) [0] rfl
  have hDc := hD.sub (ws' := [(x, .inr (0, [.ref rt, .ref dr, .int 0, .int 0, .ref bs, .ref df, .ref ch, .ref pg, .int rs]))]) [0] (by decide) rfl
  have hKc := hK.sub (tys' := []) [] rfl
  have hFc := va_free (wc := [(x, .inr (0, [.ref rt, .ref dr, .int 0, .int 0, .ref bs, .ref df, .ref ch, .ref pg, .int rs]))]) hD hS hA [0] rfl
  refine va_calli (pc := 15) (va_runV (As := [.int dd, .int vv, .int 3, .int 1]) (rest := []) ⟨hx, hb, hml, hown, hts⟩ (v_becomes l dC dI H.size x rt dr bs df ch pg rs dd vv 3 1 (by decide)) (cwV 4 hts (gV wd_90 wd_91 wd_92 wd_35 wd_89) rfl rfl rfl (by decide +kernel) ⟨Nat.le_of_ble_eq_true rfl, Nat.le_of_ble_eq_true rfl⟩) ⟨pW_blind, va_recv (q := (RV, TV, 9)) (q0 := 0) (ci := 0) hK hP rfl rfl, pW_pre hPc hKc hDc⟩ rfl rfl hl.1 rfl (lv_room (Nat.le_of_ble_eq_true rfl)) dV_withdraw_15 ⟨Nat.le_of_ble_eq_true rfl, Nat.le_of_ble_eq_true rfl⟩) hS (fun q _ h => hFc q h) hFc (fun r5 u t H1 locs ht hvm hr6 hB hz1 hk1 hS => ?_)
  obtain ⟨hP1, hK1, hD1⟩ := hB
  rw [ht] at hP1
  have hK1 := va_K.moved hvm.symm hK1
  obtain ⟨hP, hD⟩ := va_join (wr := [(rt, .inl (cR, 16, .inl (fun _ => 0))), (pg, .inr (3, [.int 400, .int 0, .int 0, .int 0, .int 0, .int 0]))]) (w1 := []) hP hD [0] [1, 2] rfl rfl (by decide) (by decide) hk1 hFc hP1 hD1
  generalize H1 = H at hP hS ⊢
  have hP : va_P (dC, dI) kCl [(rt, .inl (cR, 16, .inl (fun _ => 0))), (pg, .inr (3, [.int 400, .int 0, .int 0, .int 0, .int 0, .int 0]))] H := hP
  have hD : va_D A [(rt, .inl (cR, 16, .inl (fun _ => 0))), (pg, .inr (3, [.int 400, .int 0, .int 0, .int 0, .int 0, .int 0]))] := hD
  refine W.widen (k := 0) (n := 0) (Nat.le_of_ble_eq_true rfl) (Nat.le_of_ble_eq_true rfl) ?_
  obtain rfl : r5 = 0 := hr6
  have hP9 := hP.sub (ws' := []) [] rfl
  have hD9 := hD.sub (ws' := []) [] (by decide) rfl
  have hK9 := hK.sub (tys' := []) [] rfl
  exact W.zret (pc := 18) hx hb hr rfl (fun t ht hW => ⟨⟨_, (), rfl, rfl, by rw [ht]; exact hP9, va_K.moved hW.alike hK9, hD9⟩, hS.F ht⟩) hS.2.2 dV_withdraw_18
set_option maxHeartbeats 4000000 in
set_option maxRecDepth 100000 in
theorem p_write (l : Launch) (dC : Nat → ClassId) (dI : Nat → Nat → Nat) (sz : Nat) (pg : Nat) : Met l yP_write (.code yP_write cP_write 2 none :: aw) ({ frames := 0, cells := 0, slots := 0, locals := 0 }) (pW (dC, dI) sz [(pg, .inr (3, [.int 400, .int 0, .int 0, .int 0, .int 0, .int 0]))] [] [.ref pg, .int 1]) (va_Qv (fun (_ : Unit) => True) (fun _ t => wW (dC, dI) (va_A [(pg, .inr (3, [.int 400, .int 0, .int 0, .int 0, .int 0, .int 0]))] sz) [(pg, .inr (3, [.int 399, .int 1, .int 0, .int 0, .int 0, .int 0]))] [] t) (va_A [(pg, .inr (3, [.int 400, .int 0, .int 0, .int 0, .int 0, .int 0]))] sz)) 0 0 (va_A [(pg, .inr (3, [.int 400, .int 0, .int 0, .int 0, .int 0, .int 0]))] sz) := by
  refine Met.ofW (cc := cP_write) (maxL := 2) (ret := none) (by decide) rfl ?_
  intro p e s m args below meth c s₁ B hml hv
  obtain ⟨rfl, hv⟩ := hv
  have hx := B.exec
  have hb := B.bytes
  have hr := B.returns
  have hts : ∀ w ∈ aw, w.before _ s = true := fun w h => atoms_spec (ws := (.code yP_write cP_write 2 none :: aw)) B.pre w (List.mem_cons_of_mem _ h)
  have hown : s.vm.findClass RP = some m.cls := findClass_of_methodNamed B.named
  have hlocks := B.notSynchronized
  obtain ⟨hsz, hP, hK, hD0⟩ := hv
  subst hsz
  have hD := hD0.self (sz := s.heap.size)
  generalize hAe : va_A [(pg, .inr (3, [.int 400, .int 0, .int 0, .int 0, .int 0, .int 0]))] s.heap.size = A at hD ⊢
  have hA : ∀ q : Nat, s.heap.size ≤ q → A q := fun q h => by rw [← hAe]; exact Or.inr h
  obtain ⟨H, hH⟩ : ∃ H, H = s.heap := ⟨_, rfl⟩
  have hS : va_S A s.heap H [] := by rw [hH]; exact va_S.rf
  rw [← hH] at hP ⊢
  have hP : va_P (dC, dI) kCl [(pg, .inr (3, [.int 400, .int 0, .int 0, .int 0, .int 0, .int 0]))] H := hP
  have hl := lv_entry ([.ref pg, .int 1]) (n := 2) (Nat.le_of_ble_eq_true rfl)
  rw [lg_entry_eq]
  generalize (lg_sl ([.ref pg, .int 1]) ++ List.replicate (2 - (lg_sl ([.ref pg, .int 1])).length) Slot.unset).toArray = ls at hl ⊢
  have hl : lv_has ls 2 [(0, .ref pg), (1, .int 1)] := hl
  refine lv_aload_n (pc := 0) hx hb dP_write_0 rfl (lv_at hl 0 rfl) ?_
  refine lv_dup (pc := 1) hx hb dP_write_1 rfl ?_
  refine va_get (D := (dC, dI)) (cl := kCl) (C := RP) (T := TP) (N := 6) (pc := 2) hx hb hts inP hown hK hP 0 rfl rfl 0 (by decide) (hts _ wd_101) (fun _ h9 => h9) rfl dP_write_2 ?_
  refine lv_iload_n (pc := 5) hx hb dP_write_5 rfl (lv_at hl 1 rfl) ?_
  refine lv_isub (pc := 6) hx hb dP_write_6 ?_
  refine lv_topi (fun z1 hz2 => ?_)
  obtain rfl : z1 = 399 := hz2.trans (by decide)
  refine va_put (D := (dC, dI)) (cl := kCl) (ci := 3) (v := .int 399) (ty := .int) (C := RP) (T := TP) (N := 6) (pc := 7) hx hb hts inP tyP tyP_ok nmP hown hK hP hD hS 0 rfl rfl 0 (by decide) (hts _ wd_101) (fun _ h9 => h9) rfl (by decide +kernel) rfl rfl (Nat.le_of_ble_eq_true rfl) dP_write_7 (fun H locs hP hD hS => ?_)
  have hP : va_P (dC, dI) kCl [(pg, .inr (3, [.int 399, .int 0, .int 0, .int 0, .int 0, .int 0]))] H := hP
  have hD : va_D A [(pg, .inr (3, [.int 399, .int 0, .int 0, .int 0, .int 0, .int 0]))] := hD
  refine lv_aload_n (pc := 10) hx hb dP_write_10 rfl (lv_at hl 0 rfl) ?_
  refine lv_dup (pc := 11) hx hb dP_write_11 rfl ?_
  refine va_get (D := (dC, dI)) (cl := kCl) (C := RP) (T := TP) (N := 6) (pc := 12) hx hb hts inP hown hK hP 0 rfl rfl 1 (by decide) (hts _ wd_102) (fun _ h9 => h9) rfl dP_write_12 ?_
  refine lv_iconst (pc := 15) (v := 1) hx hb dP_write_15 (by decide) ?_
  refine lv_iadd (pc := 16) hx hb dP_write_16 ?_
  refine lv_topi (fun z3 hz4 => ?_)
  obtain rfl : z3 = 1 := hz4.trans (by decide)
  refine va_put (D := (dC, dI)) (cl := kCl) (ci := 3) (v := .int 1) (ty := .int) (C := RP) (T := TP) (N := 6) (pc := 17) hx hb hts inP tyP tyP_ok nmP hown hK hP hD hS 0 rfl rfl 1 (by decide) (hts _ wd_102) (fun _ h9 => h9) rfl (by decide +kernel) rfl rfl (Nat.le_of_ble_eq_true rfl) dP_write_17 (fun H locs hP hD hS => ?_)
  have hP : va_P (dC, dI) kCl [(pg, .inr (3, [.int 399, .int 1, .int 0, .int 0, .int 0, .int 0]))] H := hP
  have hD : va_D A [(pg, .inr (3, [.int 399, .int 1, .int 0, .int 0, .int 0, .int 0]))] := hD
  refine lv_aload_n (pc := 20) hx hb dP_write_20 rfl (lv_at hl 0 rfl) ?_
  refine va_get (D := (dC, dI)) (cl := kCl) (C := RP) (T := TP) (N := 6) (pc := 21) hx hb hts inP hown hK hP 0 rfl rfl 4 (by decide) (hts _ wd_54) (fun _ h9 => h9) rfl dP_write_21 ?_
  refine lv_if_eq (pc := 24) (tgt := 37) hx hb dP_write_24 rfl (fun h5 => ?_) (fun h5 => absurd h5 (by decide))
  have hP9 := hP.sub (ws' := [(pg, .inr (3, [.int 399, .int 1, .int 0, .int 0, .int 0, .int 0]))]) [0] rfl
  have hD9 := hD.sub (ws' := [(pg, .inr (3, [.int 399, .int 1, .int 0, .int 0, .int 0, .int 0]))]) [0] (by decide) rfl
  have hK9 := hK.sub (tys' := []) [] rfl
  exact W.vret (pc := 37) hx hb hr (fun t ht hW => ⟨⟨(), rfl, trivial, by rw [ht]; exact hP9, va_K.moved hW.alike hK9, hD9⟩, hS.F ht⟩) hS.2.2 dP_write_37
set_option maxHeartbeats 4000000 in
set_option maxRecDepth 100000 in
theorem p_areLow (l : Launch) (dC : Nat → ClassId) (dI : Nat → Nat → Nat) (pg : Nat) : Met l yP_areLow (.code yP_areLow cP_areLow 1 (some .boolean) :: aw) ({ frames := 0, cells := 0, slots := 0, locals := 0 }) (pR (dC, dI) [(pg, .inr (3, [.int 399, .int 1, .int 0, .int 0, .int 0, .int 0]))] [] [.ref pg]) (vp_Si (fun r => r = 0)) 0 0 (fun _ => False) := by
  refine Met.ofW (cc := cP_areLow) (maxL := 1) (ret := (some .boolean)) (by decide) rfl ?_
  intro p e s m args below meth c s₁ B hml hv
  obtain ⟨rfl, hv⟩ := hv
  have hx := B.exec
  have hb := B.bytes
  have hr := B.returns
  have hts : ∀ w ∈ aw, w.before _ s = true := fun w h => atoms_spec (ws := (.code yP_areLow cP_areLow 1 (some .boolean) :: aw)) B.pre w (List.mem_cons_of_mem _ h)
  have hown : s.vm.findClass RP = some m.cls := findClass_of_methodNamed B.named
  have hlocks := B.notSynchronized
  obtain ⟨hP, hK⟩ := hv
  obtain ⟨H, hH⟩ : ∃ H, H = s.heap := ⟨_, rfl⟩
  rw [← hH] at hP ⊢
  have hl := lv_entry ([.ref pg]) (n := 1) (Nat.le_of_ble_eq_true rfl)
  rw [lg_entry_eq]
  generalize (lg_sl ([.ref pg]) ++ List.replicate (1 - (lg_sl ([.ref pg])).length) Slot.unset).toArray = ls at hl ⊢
  have hl : lv_has ls 1 [(0, .ref pg)] := hl
  refine lv_aload_n (pc := 0) hx hb dP_areLow_0 rfl (lv_at hl 0 rfl) ?_
  refine va_get (D := (dC, dI)) (cl := kCl) (C := RP) (T := TP) (N := 6) (pc := 1) hx hb hts inP hown hK hP 0 rfl rfl 0 (by decide) (hts _ wd_101) (fun _ h9 => h9) rfl dP_areLow_1 ?_
  refine lv_bipush (pc := 4) (v := 40) hx hb dP_areLow_4 (by decide) ?_
  refine lv_icmp_ge (pc := 6) (tgt := 13) hx hb dP_areLow_6 rfl (fun h1 => ?_) (fun h1 => absurd h1 (by decide))
  refine lv_iconst (pc := 13) (v := 0) hx hb dP_areLow_13 (by decide) ?_
  exact W.zret (pc := 14) hx hb hr rfl (fun t ht hW => ⟨_, rfl, rfl, ht.trans hH⟩) (fun q h => nomatch h) dP_areLow_14
set_option maxHeartbeats 4000000 in
set_option maxRecDepth 100000 in
theorem v_finish (l : Launch) (dC : Nat → ClassId) (dI : Nat → Nat → Nat) (sz : Nat) (x : Nat) (rt : Nat) (dr : Nat) (bs : Nat) (df : Nat) (ch : Nat) (pg : Nat) (rs : Int32) : Met l yV_finish (.code yV_finish cV_finish 3 none :: aw) ({ frames := 1, cells := 0, slots := 0, locals := 21 }) (pW (dC, dI) sz [(x, .inr (0, [.ref rt, .ref dr, .int 0, .int 0, .ref bs, .ref df, .ref ch, .ref pg, .int rs])), (pg, .inr (3, [.int 400, .int 0, .int 0, .int 0, .int 0, .int 0]))] [] [.ref x, .int 1]) (va_Qv (fun (_ : Unit) => True) (fun _ t => wW (dC, dI) (va_A [(x, .inr (0, [.ref rt, .ref dr, .int 0, .int 0, .ref bs, .ref df, .ref ch, .ref pg, .int rs])), (pg, .inr (3, [.int 400, .int 0, .int 0, .int 0, .int 0, .int 0]))] sz) [] [] t) (va_A [(x, .inr (0, [.ref rt, .ref dr, .int 0, .int 0, .ref bs, .ref df, .ref ch, .ref pg, .int rs])), (pg, .inr (3, [.int 400, .int 0, .int 0, .int 0, .int 0, .int 0]))] sz)) 0 0 (va_A [(x, .inr (0, [.ref rt, .ref dr, .int 0, .int 0, .ref bs, .ref df, .ref ch, .ref pg, .int rs])), (pg, .inr (3, [.int 400, .int 0, .int 0, .int 0, .int 0, .int 0]))] sz) := by
  refine Met.ofW (cc := cV_finish) (maxL := 3) (ret := none) (by decide) rfl ?_
  intro p e s m args below meth c s₁ B hml hv
  obtain ⟨rfl, hv⟩ := hv
  have hx := B.exec
  have hb := B.bytes
  have hr := B.returns
  have hts : ∀ w ∈ aw, w.before _ s = true := fun w h => atoms_spec (ws := (.code yV_finish cV_finish 3 none :: aw)) B.pre w (List.mem_cons_of_mem _ h)
  have hown : s.vm.findClass RV = some m.cls := findClass_of_methodNamed B.named
  have hlocks := B.notSynchronized
  obtain ⟨hsz, hP, hK, hD0⟩ := hv
  subst hsz
  have hD := hD0.self (sz := s.heap.size)
  generalize hAe : va_A [(x, .inr (0, [.ref rt, .ref dr, .int 0, .int 0, .ref bs, .ref df, .ref ch, .ref pg, .int rs])), (pg, .inr (3, [.int 400, .int 0, .int 0, .int 0, .int 0, .int 0]))] s.heap.size = A at hD ⊢
  have hA : ∀ q : Nat, s.heap.size ≤ q → A q := fun q h => by rw [← hAe]; exact Or.inr h
  obtain ⟨H, hH⟩ : ∃ H, H = s.heap := ⟨_, rfl⟩
  have hS : va_S A s.heap H [] := by rw [hH]; exact va_S.rf
  rw [← hH] at hP ⊢
  have hP : va_P (dC, dI) kCl [(x, .inr (0, [.ref rt, .ref dr, .int 0, .int 0, .ref bs, .ref df, .ref ch, .ref pg, .int rs])), (pg, .inr (3, [.int 400, .int 0, .int 0, .int 0, .int 0, .int 0]))] H := hP
  have hl := lv_entry ([.ref x, .int 1]) (n := 3) (Nat.le_of_ble_eq_true rfl)
  rw [lg_entry_eq]
  generalize (lg_sl ([.ref x, .int 1]) ++ List.replicate (3 - (lg_sl ([.ref x, .int 1])).length) Slot.unset).toArray = ls at hl ⊢
  have hl : lv_has ls 3 [(0, .ref x), (1, .int 1)] := hl
  refine lv_aload_n (pc := 0) hx hb dV_finish_0 rfl (lv_at hl 0 rfl) ?_
  refine va_get (D := (dC, dI)) (cl := kCl) (C := RV) (T := TV) (N := 9) (pc := 1) hx hb hts inV hown hK hP 0 rfl rfl 7 (by decide) (hts _ wd_37) (fun _ h9 => h9) rfl dV_finish_1 ?_
  refine lv_iload_n (pc := 4) hx hb dV_finish_4 rfl (lv_at hl 1 rfl) ?_
  have hPc := hP.sub (ws' := [(pg, .inr (3, [.int 400, .int 0, .int 0, .int 0, .int 0, .int 0]))]) [1] rfl
  have hDc := hD.sub (ws' := [(pg, .inr (3, [.int 400, .int 0, .int 0, .int 0, .int 0, .int 0]))]) [1] (by decide) rfl
  have hKc := hK.sub (tys' := []) [] rfl
  have hFc := va_free (wc := [(pg, .inr (3, [.int 400, .int 0, .int 0, .int 0, .int 0, .int 0]))]) hD hS hA [1] rfl
  refine va_callv (pc := 5) (va_runV (As := [.int 1]) (rest := []) ⟨hx, hb, hml, hown, hts⟩ (p_write l dC dI H.size pg) (cwV 1 hts (gV wd_104 wd_105 wd_106 wd_60 wd_103) rfl rfl rfl (by decide +kernel) ⟨Nat.le_of_ble_eq_true rfl, Nat.le_of_ble_eq_true rfl⟩) ⟨pW_blind, va_recv (q := (RP, TP, 6)) (q0 := 1) (ci := 3) hK hP rfl rfl, pW_pre hPc hKc hDc⟩ rfl rfl hl.1 rfl (lv_room (Nat.le_of_ble_eq_true rfl)) dV_finish_5 ⟨Nat.le_of_ble_eq_true rfl, Nat.le_of_ble_eq_true rfl⟩) hS (fun q _ h => hFc q h) hFc (fun u t H1 locs ht hvm hr2 hB hz1 hk1 hS => ?_)
  obtain ⟨hP1, hK1, hD1⟩ := hB
  rw [ht] at hP1
  have hK1 := va_K.moved hvm.symm hK1
  obtain ⟨hP, hD⟩ := va_join (wr := [(x, .inr (0, [.ref rt, .ref dr, .int 0, .int 0, .ref bs, .ref df, .ref ch, .ref pg, .int rs]))]) (w1 := [(pg, .inr (3, [.int 399, .int 1, .int 0, .int 0, .int 0, .int 0]))]) hP hD [1] [0] rfl rfl (by decide) (by decide) hk1 hFc hP1 hD1
  generalize H1 = H at hP hS ⊢
  have hP : va_P (dC, dI) kCl [(x, .inr (0, [.ref rt, .ref dr, .int 0, .int 0, .ref bs, .ref df, .ref ch, .ref pg, .int rs])), (pg, .inr (3, [.int 399, .int 1, .int 0, .int 0, .int 0, .int 0]))] H := hP
  have hD : va_D A [(x, .inr (0, [.ref rt, .ref dr, .int 0, .int 0, .ref bs, .ref df, .ref ch, .ref pg, .int rs])), (pg, .inr (3, [.int 399, .int 1, .int 0, .int 0, .int 0, .int 0]))] := hD
  refine W.widen (k := 0) (n := 0) (Nat.le_of_ble_eq_true rfl) (Nat.le_of_ble_eq_true rfl) ?_
  refine lv_iconst (pc := 8) (v := 0) hx hb dV_finish_8 (by decide) ?_
  refine lv_istore_n (pc := 9) hx hb dV_finish_9 rfl hl (by decide) rfl (fun ls hl => ?_)
  have hl : lv_has ls 3 [(2, .int 0), (0, .ref x), (1, .int 1)] := hl
  refine lv_iload_n (pc := 10) hx hb dV_finish_10 rfl (lv_at hl 0 rfl) ?_
  refine lv_aload_n (pc := 11) hx hb dV_finish_11 rfl (lv_at hl 1 rfl) ?_
  refine va_get (D := (dC, dI)) (cl := kCl) (C := RV) (T := TV) (N := 9) (pc := 12) hx hb hts inV hown hK hP 0 rfl rfl 2 (by decide) (hts _ wd_39) (fun _ h9 => h9) rfl dV_finish_12 ?_
  refine lv_icmp_ge (pc := 15) (tgt := 45) hx hb dV_finish_15 rfl (fun h4 => ?_) (fun h4 => absurd h4 (by decide))
  refine lv_aload_n (pc := 45) hx hb dV_finish_45 rfl (lv_at hl 1 rfl) ?_
  refine va_get (D := (dC, dI)) (cl := kCl) (C := RV) (T := TV) (N := 9) (pc := 46) hx hb hts inV hown hK hP 0 rfl rfl 7 (by decide) (hts _ wd_37) (fun _ h9 => h9) rfl dV_finish_46 ?_
  refine vp_callSi (pc := 49) (W.runV (As := []) (rest := []) ⟨hx, hb, hml, hown, hts⟩ (p_areLow l dC dI pg) (cwV 0 hts (gV wd_108 wd_109 wd_110 wd_60 wd_107) rfl rfl rfl (by decide +kernel) ⟨Nat.le_of_ble_eq_true rfl, Nat.le_of_ble_eq_true rfl⟩) ⟨pR_blind, va_recv (q := (RP, TP, 6)) (q0 := 1) (ci := 3) hK hP rfl rfl, pR_pre (hP.sub (ws' := [(pg, .inr (3, [.int 399, .int 1, .int 0, .int 0, .int 0, .int 0]))]) [1] rfl) (hK.sub (tys' := []) [] rfl)⟩ rfl rfl hl.1 rfl (lv_room (Nat.le_of_ble_eq_true rfl)) dV_finish_49 ⟨Nat.le_of_ble_eq_true rfl, Nat.le_of_ble_eq_true rfl⟩) (fun r5 hr6 => ?_)
  obtain rfl : r5 = 0 := hr6
  refine lv_if_eq (pc := 52) (tgt := 66) hx hb dV_finish_52 rfl (fun h7 => ?_) (fun h7 => absurd h7 (by decide))
  have hP9 := hP.sub (ws' := []) [] rfl
  have hD9 := hD.sub (ws' := []) [] (by decide) rfl
  have hK9 := hK.sub (tys' := []) [] rfl
  exact W.vret (pc := 66) hx hb hr (fun t ht hW => ⟨⟨(), rfl, trivial, by rw [ht]; exact hP9, va_K.moved hW.alike hK9, hD9⟩, hS.F ht⟩) hS.2.2 dV_finish_66
set_option maxHeartbeats 4000000 in
set_option maxRecDepth 100000 in
theorem v_person (l : Launch) (dC : Nat → ClassId) (dI : Nat → Nat → Nat) (sz : Nat) (x : Nat) (rt : Nat) (dr : Nat) (bs : Nat) (df : Nat) (ch : Nat) (pg : Nat) (rs : Int32) (cR : ClassId) (pp : Int32) (ri : Int32) : Met l yV_person (.code yV_person cV_person 4 (some .boolean) :: aw) ({ frames := 2, cells := 0, slots := 0, locals := 43 }) (pW (dC, dI) sz [(x, .inr (0, [.ref rt, .ref dr, .int 0, .int 0, .ref bs, .ref df, .ref ch, .ref pg, .int rs])), (rt, .inl (cR, 16, .inl (fun _ => 0))), (pg, .inr (3, [.int 400, .int 0, .int 0, .int 0, .int 0, .int 0]))] [(cR, .int)] [.ref x, .int pp, .int ri]) (va_Qi (fun r (_ : Unit) => (r = 1 ∧ (¬ pp < 0 ∧ ¬ (16 : Int32) ≤ pp ∧ ¬ ri < 0 ∧ ¬ (7 : Int32) < ri)) ∨ (r = 0 ∧ (pp < 0 ∨ (16 : Int32) ≤ pp ∨ ri < 0 ∨ (7 : Int32) < ri))) (fun _ t => wW (dC, dI) (va_A [(x, .inr (0, [.ref rt, .ref dr, .int 0, .int 0, .ref bs, .ref df, .ref ch, .ref pg, .int rs])), (rt, .inl (cR, 16, .inl (fun _ => 0))), (pg, .inr (3, [.int 400, .int 0, .int 0, .int 0, .int 0, .int 0]))] sz) [] [] t) (va_A [(x, .inr (0, [.ref rt, .ref dr, .int 0, .int 0, .ref bs, .ref df, .ref ch, .ref pg, .int rs])), (rt, .inl (cR, 16, .inl (fun _ => 0))), (pg, .inr (3, [.int 400, .int 0, .int 0, .int 0, .int 0, .int 0]))] sz)) 0 0 (va_A [(x, .inr (0, [.ref rt, .ref dr, .int 0, .int 0, .ref bs, .ref df, .ref ch, .ref pg, .int rs])), (rt, .inl (cR, 16, .inl (fun _ => 0))), (pg, .inr (3, [.int 400, .int 0, .int 0, .int 0, .int 0, .int 0]))] sz) := by
  refine Met.ofW (cc := cV_person) (maxL := 4) (ret := (some .boolean)) (by decide) rfl ?_
  intro p e s m args below meth c s₁ B hml hv
  obtain ⟨rfl, hv⟩ := hv
  have hx := B.exec
  have hb := B.bytes
  have hr := B.returns
  have hts : ∀ w ∈ aw, w.before _ s = true := fun w h => atoms_spec (ws := (.code yV_person cV_person 4 (some .boolean) :: aw)) B.pre w (List.mem_cons_of_mem _ h)
  have hown : s.vm.findClass RV = some m.cls := findClass_of_methodNamed B.named
  have hlocks := B.notSynchronized
  obtain ⟨hsz, hP, hK, hD0⟩ := hv
  subst hsz
  have hD := hD0.self (sz := s.heap.size)
  generalize hAe : va_A [(x, .inr (0, [.ref rt, .ref dr, .int 0, .int 0, .ref bs, .ref df, .ref ch, .ref pg, .int rs])), (rt, .inl (cR, 16, .inl (fun _ => 0))), (pg, .inr (3, [.int 400, .int 0, .int 0, .int 0, .int 0, .int 0]))] s.heap.size = A at hD ⊢
  have hA : ∀ q : Nat, s.heap.size ≤ q → A q := fun q h => by rw [← hAe]; exact Or.inr h
  obtain ⟨H, hH⟩ : ∃ H, H = s.heap := ⟨_, rfl⟩
  have hS : va_S A s.heap H [] := by rw [hH]; exact va_S.rf
  rw [← hH] at hP ⊢
  have hP : va_P (dC, dI) kCl [(x, .inr (0, [.ref rt, .ref dr, .int 0, .int 0, .ref bs, .ref df, .ref ch, .ref pg, .int rs])), (rt, .inl (cR, 16, .inl (fun _ => 0))), (pg, .inr (3, [.int 400, .int 0, .int 0, .int 0, .int 0, .int 0]))] H := hP
  have hl := lv_entry ([.ref x, .int pp, .int ri]) (n := 4) (Nat.le_of_ble_eq_true rfl)
  rw [lg_entry_eq]
  generalize (lg_sl ([.ref x, .int pp, .int ri]) ++ List.replicate (4 - (lg_sl ([.ref x, .int pp, .int ri])).length) Slot.unset).toArray = ls at hl ⊢
  have hl : lv_has ls 4 [(0, .ref x), (1, .int pp), (2, .int ri)] := hl
  refine lv_aload_n (pc := 0) hx hb dV_person_0 rfl (lv_at hl 0 rfl) ?_
  refine va_csv (pc := 1) (W.runV (As := []) (rest := []) ⟨hx, hb, hml, hown, hts⟩ (v_needPower l dC dI x rt dr bs df ch pg rs) (cwV 0 hts (gV wd_70 wd_71 wd_72 wd_35 wd_69) rfl rfl rfl (by decide +kernel) ⟨Nat.le_of_ble_eq_true rfl, Nat.le_of_ble_eq_true rfl⟩) ⟨pR_blind, va_recv (q := (RV, TV, 9)) (q0 := 0) (ci := 0) hK hP rfl rfl, pR_pre (hP.sub (ws' := [(x, .inr (0, [.ref rt, .ref dr, .int 0, .int 0, .ref bs, .ref df, .ref ch, .ref pg, .int rs])), (pg, .inr (3, [.int 400, .int 0, .int 0, .int 0, .int 0, .int 0]))]) [0, 2] rfl) (hK.sub (tys' := []) [] rfl)⟩ rfl rfl hl.1 rfl (lv_room (Nat.le_of_ble_eq_true rfl)) dV_person_1 ⟨Nat.le_of_ble_eq_true rfl, Nat.le_of_ble_eq_true rfl⟩) (fun hr2 => ?_)
  refine lv_iload_n (pc := 4) hx hb dV_person_4 rfl (lv_at hl 1 rfl) ?_
  refine vp_callSi (pc := 5) (W.runS (As := [.int pp]) (rest := []) ⟨hx, hb, hml, hown, hts⟩ (v_isPerson l dC dI pp) (cwS 1 hts (gS wd_33 wd_34 wd_35 wd_32) rfl rfl rfl (by decide +kernel) ⟨Nat.le_of_ble_eq_true rfl, Nat.le_of_ble_eq_true rfl⟩) ⟨pR_blind, pR_pre (hP.sub (ws' := []) [] rfl) (hK.sub (tys' := []) [] rfl)⟩ rfl rfl hl.1 rfl (lv_room (Nat.le_of_ble_eq_true rfl)) dV_person_5 ⟨Nat.le_of_ble_eq_true rfl, Nat.le_of_ble_eq_true rfl⟩) (fun r3 hr4 => ?_)
  obtain ⟨rfl, h5⟩ | ⟨rfl, h5⟩ : (r3 = 1 ∧ (¬ pp < 0 ∧ ¬ (16 : Int32) ≤ pp)) ∨ (r3 = 0 ∧ (pp < 0 ∨ (16 : Int32) ≤ pp)) := hr4
  · refine lv_if_eq (pc := 8) (tgt := 25) hx hb dV_person_8 rfl (fun h6 => absurd h6 (by decide)) (fun h6 => ?_)
    refine lv_iload_n (pc := 11) hx hb dV_person_11 rfl (lv_at hl 2 rfl) ?_
    refine lv_if_lt (pc := 12) (tgt := 25) hx hb dV_person_12 rfl (fun h7 => ?_) (fun h7 => ?_)
    · refine lv_iconst (pc := 25) (v := 0) hx hb dV_person_25 (by decide) ?_
      refine lv_istore_n (pc := 26) hx hb dV_person_26 rfl hl (by decide) rfl (fun ls hl => ?_)
      have hl : lv_has ls 4 [(3, .int 0), (0, .ref x), (1, .int pp), (2, .int ri)] := hl
      refine lv_aload_n (pc := 27) hx hb dV_person_27 rfl (lv_at hl 1 rfl) ?_
      refine lv_iload_n (pc := 28) hx hb dV_person_28 rfl (lv_at hl 0 rfl) ?_
      refine lv_if_eq (pc := 29) (tgt := 36) hx hb dV_person_29 rfl (fun h8 => ?_) (fun h8 => absurd h8 (by decide))
      refine lv_bipush (pc := 36) (v := 7) hx hb dV_person_36 (by decide) ?_
      refine lv_iconst (pc := 38) (v := 1) hx hb dV_person_38 (by decide) ?_
      have hPc := hP.sub (ws' := [(x, .inr (0, [.ref rt, .ref dr, .int 0, .int 0, .ref bs, .ref df, .ref ch, .ref pg, .int rs]))]) [0] rfl
      have hDc := hD.sub (ws' := [(x, .inr (0, [.ref rt, .ref dr, .int 0, .int 0, .ref bs, .ref df, .ref ch, .ref pg, .int rs]))]) [0] (by decide) rfl
      have hKc := hK.sub (tys' := []) [] rfl
      have hFc := va_free (wc := [(x, .inr (0, [.ref rt, .ref dr, .int 0, .int 0, .ref bs, .ref df, .ref ch, .ref pg, .int rs]))]) hD hS hA [0] rfl
      refine va_calli (pc := 39) (va_runV (As := [.int 7, .int 1]) (rest := []) ⟨hx, hb, hml, hown, hts⟩ (v_mayWrite l dC dI H.size x rt dr bs df ch pg rs 7 1 (by decide)) (cwV 2 hts (gV wd_66 wd_67 wd_68 wd_35 wd_65) rfl rfl rfl (by decide +kernel) ⟨Nat.le_of_ble_eq_true rfl, Nat.le_of_ble_eq_true rfl⟩) ⟨pW_blind, va_recv (q := (RV, TV, 9)) (q0 := 0) (ci := 0) hK hP rfl rfl, pW_pre hPc hKc hDc⟩ rfl rfl hl.1 rfl (lv_room (Nat.le_of_ble_eq_true rfl)) dV_person_39 ⟨Nat.le_of_ble_eq_true rfl, Nat.le_of_ble_eq_true rfl⟩) hS (fun q _ h => hFc q h) hFc (fun r9 u t H1 locs ht hvm hr10 hB hz1 hk1 hS => ?_)
      obtain ⟨hP1, hK1, hD1⟩ := hB
      rw [ht] at hP1
      have hK1 := va_K.moved hvm.symm hK1
      obtain ⟨hP, hD⟩ := va_join (wr := [(rt, .inl (cR, 16, .inl (fun _ => 0))), (pg, .inr (3, [.int 400, .int 0, .int 0, .int 0, .int 0, .int 0]))]) (w1 := [(x, .inr (0, [.ref rt, .ref dr, .int 0, .int 0, .ref bs, .ref df, .ref ch, .ref pg, .int 7]))]) hP hD [0] [1, 2] rfl rfl (by decide) (by decide) hk1 hFc hP1 hD1
      generalize H1 = H at hP hS ⊢
      have hP : va_P (dC, dI) kCl [(rt, .inl (cR, 16, .inl (fun _ => 0))), (pg, .inr (3, [.int 400, .int 0, .int 0, .int 0, .int 0, .int 0])), (x, .inr (0, [.ref rt, .ref dr, .int 0, .int 0, .ref bs, .ref df, .ref ch, .ref pg, .int 7]))] H := hP
      have hD : va_D A [(rt, .inl (cR, 16, .inl (fun _ => 0))), (pg, .inr (3, [.int 400, .int 0, .int 0, .int 0, .int 0, .int 0])), (x, .inr (0, [.ref rt, .ref dr, .int 0, .int 0, .ref bs, .ref df, .ref ch, .ref pg, .int 7]))] := hD
      refine W.widen (k := 0) (n := 0) (Nat.le_of_ble_eq_true rfl) (Nat.le_of_ble_eq_true rfl) ?_
      obtain rfl : r9 = 0 := hr10
      refine lv_if_ne (pc := 42) (tgt := 47) hx hb dV_person_42 rfl (fun h12 => absurd h12 (by decide)) (fun h12 => ?_)
      refine lv_iconst (pc := 45) (v := 0) hx hb dV_person_45 (by decide) ?_
      have hP9 := hP.sub (ws' := []) [] rfl
      have hD9 := hD.sub (ws' := []) [] (by decide) rfl
      have hK9 := hK.sub (tys' := []) [] rfl
      exact W.zret (pc := 46) hx hb hr rfl (fun t ht hW => ⟨⟨_, (), rfl, (Or.inr ⟨rfl, Or.inr (Or.inr (Or.inl h7))⟩), by rw [ht]; exact hP9, va_K.moved hW.alike hK9, hD9⟩, hS.F ht⟩) hS.2.2 dV_person_46
    · refine lv_iload_n (pc := 15) hx hb dV_person_15 rfl (lv_at hl 2 rfl) ?_
      refine lv_bipush (pc := 16) (v := 7) hx hb dV_person_16 (by decide) ?_
      refine lv_icmp_gt (pc := 18) (tgt := 25) hx hb dV_person_18 rfl (fun h13 => ?_) (fun h13 => ?_)
      · refine lv_iconst (pc := 25) (v := 0) hx hb dV_person_25 (by decide) ?_
        refine lv_istore_n (pc := 26) hx hb dV_person_26 rfl hl (by decide) rfl (fun ls hl => ?_)
        have hl : lv_has ls 4 [(3, .int 0), (0, .ref x), (1, .int pp), (2, .int ri)] := hl
        refine lv_aload_n (pc := 27) hx hb dV_person_27 rfl (lv_at hl 1 rfl) ?_
        refine lv_iload_n (pc := 28) hx hb dV_person_28 rfl (lv_at hl 0 rfl) ?_
        refine lv_if_eq (pc := 29) (tgt := 36) hx hb dV_person_29 rfl (fun h14 => ?_) (fun h14 => absurd h14 (by decide))
        refine lv_bipush (pc := 36) (v := 7) hx hb dV_person_36 (by decide) ?_
        refine lv_iconst (pc := 38) (v := 1) hx hb dV_person_38 (by decide) ?_
        have hPc := hP.sub (ws' := [(x, .inr (0, [.ref rt, .ref dr, .int 0, .int 0, .ref bs, .ref df, .ref ch, .ref pg, .int rs]))]) [0] rfl
        have hDc := hD.sub (ws' := [(x, .inr (0, [.ref rt, .ref dr, .int 0, .int 0, .ref bs, .ref df, .ref ch, .ref pg, .int rs]))]) [0] (by decide) rfl
        have hKc := hK.sub (tys' := []) [] rfl
        have hFc := va_free (wc := [(x, .inr (0, [.ref rt, .ref dr, .int 0, .int 0, .ref bs, .ref df, .ref ch, .ref pg, .int rs]))]) hD hS hA [0] rfl
        refine va_calli (pc := 39) (va_runV (As := [.int 7, .int 1]) (rest := []) ⟨hx, hb, hml, hown, hts⟩ (v_mayWrite l dC dI H.size x rt dr bs df ch pg rs 7 1 (by decide)) (cwV 2 hts (gV wd_66 wd_67 wd_68 wd_35 wd_65) rfl rfl rfl (by decide +kernel) ⟨Nat.le_of_ble_eq_true rfl, Nat.le_of_ble_eq_true rfl⟩) ⟨pW_blind, va_recv (q := (RV, TV, 9)) (q0 := 0) (ci := 0) hK hP rfl rfl, pW_pre hPc hKc hDc⟩ rfl rfl hl.1 rfl (lv_room (Nat.le_of_ble_eq_true rfl)) dV_person_39 ⟨Nat.le_of_ble_eq_true rfl, Nat.le_of_ble_eq_true rfl⟩) hS (fun q _ h => hFc q h) hFc (fun r15 u t H1 locs ht hvm hr16 hB hz1 hk1 hS => ?_)
        obtain ⟨hP1, hK1, hD1⟩ := hB
        rw [ht] at hP1
        have hK1 := va_K.moved hvm.symm hK1
        obtain ⟨hP, hD⟩ := va_join (wr := [(rt, .inl (cR, 16, .inl (fun _ => 0))), (pg, .inr (3, [.int 400, .int 0, .int 0, .int 0, .int 0, .int 0]))]) (w1 := [(x, .inr (0, [.ref rt, .ref dr, .int 0, .int 0, .ref bs, .ref df, .ref ch, .ref pg, .int 7]))]) hP hD [0] [1, 2] rfl rfl (by decide) (by decide) hk1 hFc hP1 hD1
        generalize H1 = H at hP hS ⊢
        have hP : va_P (dC, dI) kCl [(rt, .inl (cR, 16, .inl (fun _ => 0))), (pg, .inr (3, [.int 400, .int 0, .int 0, .int 0, .int 0, .int 0])), (x, .inr (0, [.ref rt, .ref dr, .int 0, .int 0, .ref bs, .ref df, .ref ch, .ref pg, .int 7]))] H := hP
        have hD : va_D A [(rt, .inl (cR, 16, .inl (fun _ => 0))), (pg, .inr (3, [.int 400, .int 0, .int 0, .int 0, .int 0, .int 0])), (x, .inr (0, [.ref rt, .ref dr, .int 0, .int 0, .ref bs, .ref df, .ref ch, .ref pg, .int 7]))] := hD
        refine W.widen (k := 0) (n := 0) (Nat.le_of_ble_eq_true rfl) (Nat.le_of_ble_eq_true rfl) ?_
        obtain rfl : r15 = 0 := hr16
        refine lv_if_ne (pc := 42) (tgt := 47) hx hb dV_person_42 rfl (fun h18 => absurd h18 (by decide)) (fun h18 => ?_)
        refine lv_iconst (pc := 45) (v := 0) hx hb dV_person_45 (by decide) ?_
        have hP9 := hP.sub (ws' := []) [] rfl
        have hD9 := hD.sub (ws' := []) [] (by decide) rfl
        have hK9 := hK.sub (tys' := []) [] rfl
        exact W.zret (pc := 46) hx hb hr rfl (fun t ht hW => ⟨⟨_, (), rfl, (Or.inr ⟨rfl, Or.inr (Or.inr (Or.inr h13))⟩), by rw [ht]; exact hP9, va_K.moved hW.alike hK9, hD9⟩, hS.F ht⟩) hS.2.2 dV_person_46
      · refine lv_iconst (pc := 21) (v := 1) hx hb dV_person_21 (by decide) ?_
        refine lv_goto (pc := 22) (tgt := 26) hx hb dV_person_22 rfl ?_
        refine lv_istore_n (pc := 26) hx hb dV_person_26 rfl hl (by decide) rfl (fun ls hl => ?_)
        have hl : lv_has ls 4 [(3, .int 1), (0, .ref x), (1, .int pp), (2, .int ri)] := hl
        refine lv_aload_n (pc := 27) hx hb dV_person_27 rfl (lv_at hl 1 rfl) ?_
        refine lv_iload_n (pc := 28) hx hb dV_person_28 rfl (lv_at hl 0 rfl) ?_
        refine lv_if_eq (pc := 29) (tgt := 36) hx hb dV_person_29 rfl (fun h19 => absurd h19 (by decide)) (fun h19 => ?_)
        refine lv_iconst (pc := 32) (v := 0) hx hb dV_person_32 (by decide) ?_
        refine lv_goto (pc := 33) (tgt := 38) hx hb dV_person_33 rfl ?_
        refine lv_iconst (pc := 38) (v := 1) hx hb dV_person_38 (by decide) ?_
        have hPc := hP.sub (ws' := [(x, .inr (0, [.ref rt, .ref dr, .int 0, .int 0, .ref bs, .ref df, .ref ch, .ref pg, .int rs])), (pg, .inr (3, [.int 400, .int 0, .int 0, .int 0, .int 0, .int 0]))]) [0, 2] rfl
        have hDc := hD.sub (ws' := [(x, .inr (0, [.ref rt, .ref dr, .int 0, .int 0, .ref bs, .ref df, .ref ch, .ref pg, .int rs])), (pg, .inr (3, [.int 400, .int 0, .int 0, .int 0, .int 0, .int 0]))]) [0, 2] (by decide) rfl
        have hKc := hK.sub (tys' := []) [] rfl
        have hFc := va_free (wc := [(x, .inr (0, [.ref rt, .ref dr, .int 0, .int 0, .ref bs, .ref df, .ref ch, .ref pg, .int rs])), (pg, .inr (3, [.int 400, .int 0, .int 0, .int 0, .int 0, .int 0]))]) hD hS hA [0, 2] rfl
        refine va_calli (pc := 39) (va_runV (As := [.int 0, .int 1]) (rest := []) ⟨hx, hb, hml, hown, hts⟩ (v_mayWrite1 l dC dI H.size x rt dr bs df ch pg rs) (cwV 2 hts (gV wd_66 wd_67 wd_68 wd_35 wd_65) rfl rfl rfl (by decide +kernel) ⟨Nat.le_of_ble_eq_true rfl, Nat.le_of_ble_eq_true rfl⟩) ⟨pW_blind, va_recv (q := (RV, TV, 9)) (q0 := 0) (ci := 0) hK hP rfl rfl, pW_pre hPc hKc hDc⟩ rfl rfl hl.1 rfl (lv_room (Nat.le_of_ble_eq_true rfl)) dV_person_39 ⟨Nat.le_of_ble_eq_true rfl, Nat.le_of_ble_eq_true rfl⟩) hS (fun q _ h => hFc q h) hFc (fun r20 u t H1 locs ht hvm hr21 hB hz1 hk1 hS => ?_)
        obtain ⟨hP1, hK1, hD1⟩ := hB
        rw [ht] at hP1
        have hK1 := va_K.moved hvm.symm hK1
        obtain ⟨hP, hD⟩ := va_join (wr := [(rt, .inl (cR, 16, .inl (fun _ => 0)))]) (w1 := [(x, .inr (0, [.ref rt, .ref dr, .int 0, .int 0, .ref bs, .ref df, .ref ch, .ref pg, .int 0])), (pg, .inr (3, [.int 400, .int 0, .int 0, .int 0, .int 0, .int 0]))]) hP hD [0, 2] [1] rfl rfl (by decide) (by decide) hk1 hFc hP1 hD1
        generalize H1 = H at hP hS ⊢
        have hP : va_P (dC, dI) kCl [(rt, .inl (cR, 16, .inl (fun _ => 0))), (x, .inr (0, [.ref rt, .ref dr, .int 0, .int 0, .ref bs, .ref df, .ref ch, .ref pg, .int 0])), (pg, .inr (3, [.int 400, .int 0, .int 0, .int 0, .int 0, .int 0]))] H := hP
        have hD : va_D A [(rt, .inl (cR, 16, .inl (fun _ => 0))), (x, .inr (0, [.ref rt, .ref dr, .int 0, .int 0, .ref bs, .ref df, .ref ch, .ref pg, .int 0])), (pg, .inr (3, [.int 400, .int 0, .int 0, .int 0, .int 0, .int 0]))] := hD
        refine W.widen (k := 0) (n := 0) (Nat.le_of_ble_eq_true rfl) (Nat.le_of_ble_eq_true rfl) ?_
        obtain rfl : r20 = 1 := hr21
        refine lv_if_ne (pc := 42) (tgt := 47) hx hb dV_person_42 rfl (fun h23 => ?_) (fun h23 => absurd h23 (by decide))
        refine lv_aload_n (pc := 47) hx hb dV_person_47 rfl (lv_at hl 1 rfl) ?_
        refine va_get (D := (dC, dI)) (cl := kCl) (C := RV) (T := TV) (N := 9) (pc := 48) hx hb hts inV hown hK hP 1 rfl rfl 0 (by decide) (hts _ wd_36) (fun _ h9 => h9) rfl dV_person_48 ?_
        refine lv_iload_n (pc := 51) hx hb dV_person_51 rfl (lv_at hl 2 rfl) ?_
        refine lv_iload_n (pc := 52) hx hb dV_person_52 rfl (lv_at hl 3 rfl) ?_
        refine va_iast (D := (dC, dI)) (cl := kCl) (pc := 53) hx hb hK hP hD hS 0 0 rfl rfl (vin_of (k := 16) (by decide) h5.1 h5.2) dV_person_53 (fun H locs hP hD hS => ?_)
        have hP : va_P (dC, dI) kCl [(rt, .inl (cR, 16, .inl (upd (fun _ => 0) (pp : Int32).toNatClampNeg ri))), (x, .inr (0, [.ref rt, .ref dr, .int 0, .int 0, .ref bs, .ref df, .ref ch, .ref pg, .int 0])), (pg, .inr (3, [.int 400, .int 0, .int 0, .int 0, .int 0, .int 0]))] H := hP
        have hD : va_D A [(rt, .inl (cR, 16, .inl (upd (fun _ => 0) (pp : Int32).toNatClampNeg ri))), (x, .inr (0, [.ref rt, .ref dr, .int 0, .int 0, .ref bs, .ref df, .ref ch, .ref pg, .int 0])), (pg, .inr (3, [.int 400, .int 0, .int 0, .int 0, .int 0, .int 0]))] := hD
        refine lv_aload_n (pc := 54) hx hb dV_person_54 rfl (lv_at hl 1 rfl) ?_
        refine lv_iconst (pc := 55) (v := 1) hx hb dV_person_55 (by decide) ?_
        have hPc := hP.sub (ws' := [(x, .inr (0, [.ref rt, .ref dr, .int 0, .int 0, .ref bs, .ref df, .ref ch, .ref pg, .int 0])), (pg, .inr (3, [.int 400, .int 0, .int 0, .int 0, .int 0, .int 0]))]) [1, 2] rfl
        have hDc := hD.sub (ws' := [(x, .inr (0, [.ref rt, .ref dr, .int 0, .int 0, .ref bs, .ref df, .ref ch, .ref pg, .int 0])), (pg, .inr (3, [.int 400, .int 0, .int 0, .int 0, .int 0, .int 0]))]) [1, 2] (by decide) rfl
        have hKc := hK.sub (tys' := []) [] rfl
        have hFc := va_free (wc := [(x, .inr (0, [.ref rt, .ref dr, .int 0, .int 0, .ref bs, .ref df, .ref ch, .ref pg, .int 0])), (pg, .inr (3, [.int 400, .int 0, .int 0, .int 0, .int 0, .int 0]))]) hD hS hA [1, 2] rfl
        refine va_callv (pc := 56) (va_runV (As := [.int 1]) (rest := []) ⟨hx, hb, hml, hown, hts⟩ (v_finish l dC dI H.size x rt dr bs df ch pg 0) (cwV 1 hts (gV wd_112 wd_113 wd_114 wd_35 wd_111) rfl rfl rfl (by decide +kernel) ⟨Nat.le_of_ble_eq_true rfl, Nat.le_of_ble_eq_true rfl⟩) ⟨pW_blind, va_recv (q := (RV, TV, 9)) (q0 := 1) (ci := 0) hK hP rfl rfl, pW_pre hPc hKc hDc⟩ rfl rfl hl.1 rfl (lv_room (Nat.le_of_ble_eq_true rfl)) dV_person_56 ⟨Nat.le_of_ble_eq_true rfl, Nat.le_of_ble_eq_true rfl⟩) hS (fun q _ h => hFc q h) hFc (fun u t H1 locs ht hvm hr25 hB hz1 hk1 hS => ?_)
        obtain ⟨hP1, hK1, hD1⟩ := hB
        rw [ht] at hP1
        have hK1 := va_K.moved hvm.symm hK1
        obtain ⟨hP, hD⟩ := va_join (wr := [(rt, .inl (cR, 16, .inl (upd (fun _ => 0) (pp : Int32).toNatClampNeg ri)))]) (w1 := []) hP hD [1, 2] [0] rfl rfl (by decide) (by decide) hk1 hFc hP1 hD1
        generalize H1 = H at hP hS ⊢
        have hP : va_P (dC, dI) kCl [(rt, .inl (cR, 16, .inl (upd (fun _ => 0) (pp : Int32).toNatClampNeg ri)))] H := hP
        have hD : va_D A [(rt, .inl (cR, 16, .inl (upd (fun _ => 0) (pp : Int32).toNatClampNeg ri)))] := hD
        refine W.widen (k := 0) (n := 0) (Nat.le_of_ble_eq_true rfl) (Nat.le_of_ble_eq_true rfl) ?_
        refine lv_iconst (pc := 59) (v := 1) hx hb dV_person_59 (by decide) ?_
        have hP9 := hP.sub (ws' := []) [] rfl
        have hD9 := hD.sub (ws' := []) [] (by decide) rfl
        have hK9 := hK.sub (tys' := []) [] rfl
        exact W.zret (pc := 60) hx hb hr rfl (fun t ht hW => ⟨⟨_, (), rfl, (Or.inl ⟨rfl, h5.1, h5.2, h7, h13⟩), by rw [ht]; exact hP9, va_K.moved hW.alike hK9, hD9⟩, hS.F ht⟩) hS.2.2 dV_person_60
  · refine lv_if_eq (pc := 8) (tgt := 25) hx hb dV_person_8 rfl (fun h27 => ?_) (fun h27 => absurd h27 (by decide))
    refine lv_iconst (pc := 25) (v := 0) hx hb dV_person_25 (by decide) ?_
    refine lv_istore_n (pc := 26) hx hb dV_person_26 rfl hl (by decide) rfl (fun ls hl => ?_)
    have hl : lv_has ls 4 [(3, .int 0), (0, .ref x), (1, .int pp), (2, .int ri)] := hl
    refine lv_aload_n (pc := 27) hx hb dV_person_27 rfl (lv_at hl 1 rfl) ?_
    refine lv_iload_n (pc := 28) hx hb dV_person_28 rfl (lv_at hl 0 rfl) ?_
    refine lv_if_eq (pc := 29) (tgt := 36) hx hb dV_person_29 rfl (fun h28 => ?_) (fun h28 => absurd h28 (by decide))
    refine lv_bipush (pc := 36) (v := 7) hx hb dV_person_36 (by decide) ?_
    refine lv_iconst (pc := 38) (v := 1) hx hb dV_person_38 (by decide) ?_
    have hPc := hP.sub (ws' := [(x, .inr (0, [.ref rt, .ref dr, .int 0, .int 0, .ref bs, .ref df, .ref ch, .ref pg, .int rs]))]) [0] rfl
    have hDc := hD.sub (ws' := [(x, .inr (0, [.ref rt, .ref dr, .int 0, .int 0, .ref bs, .ref df, .ref ch, .ref pg, .int rs]))]) [0] (by decide) rfl
    have hKc := hK.sub (tys' := []) [] rfl
    have hFc := va_free (wc := [(x, .inr (0, [.ref rt, .ref dr, .int 0, .int 0, .ref bs, .ref df, .ref ch, .ref pg, .int rs]))]) hD hS hA [0] rfl
    refine va_calli (pc := 39) (va_runV (As := [.int 7, .int 1]) (rest := []) ⟨hx, hb, hml, hown, hts⟩ (v_mayWrite l dC dI H.size x rt dr bs df ch pg rs 7 1 (by decide)) (cwV 2 hts (gV wd_66 wd_67 wd_68 wd_35 wd_65) rfl rfl rfl (by decide +kernel) ⟨Nat.le_of_ble_eq_true rfl, Nat.le_of_ble_eq_true rfl⟩) ⟨pW_blind, va_recv (q := (RV, TV, 9)) (q0 := 0) (ci := 0) hK hP rfl rfl, pW_pre hPc hKc hDc⟩ rfl rfl hl.1 rfl (lv_room (Nat.le_of_ble_eq_true rfl)) dV_person_39 ⟨Nat.le_of_ble_eq_true rfl, Nat.le_of_ble_eq_true rfl⟩) hS (fun q _ h => hFc q h) hFc (fun r29 u t H1 locs ht hvm hr30 hB hz1 hk1 hS => ?_)
    obtain ⟨hP1, hK1, hD1⟩ := hB
    rw [ht] at hP1
    have hK1 := va_K.moved hvm.symm hK1
    obtain ⟨hP, hD⟩ := va_join (wr := [(rt, .inl (cR, 16, .inl (fun _ => 0))), (pg, .inr (3, [.int 400, .int 0, .int 0, .int 0, .int 0, .int 0]))]) (w1 := [(x, .inr (0, [.ref rt, .ref dr, .int 0, .int 0, .ref bs, .ref df, .ref ch, .ref pg, .int 7]))]) hP hD [0] [1, 2] rfl rfl (by decide) (by decide) hk1 hFc hP1 hD1
    generalize H1 = H at hP hS ⊢
    have hP : va_P (dC, dI) kCl [(rt, .inl (cR, 16, .inl (fun _ => 0))), (pg, .inr (3, [.int 400, .int 0, .int 0, .int 0, .int 0, .int 0])), (x, .inr (0, [.ref rt, .ref dr, .int 0, .int 0, .ref bs, .ref df, .ref ch, .ref pg, .int 7]))] H := hP
    have hD : va_D A [(rt, .inl (cR, 16, .inl (fun _ => 0))), (pg, .inr (3, [.int 400, .int 0, .int 0, .int 0, .int 0, .int 0])), (x, .inr (0, [.ref rt, .ref dr, .int 0, .int 0, .ref bs, .ref df, .ref ch, .ref pg, .int 7]))] := hD
    refine W.widen (k := 0) (n := 0) (Nat.le_of_ble_eq_true rfl) (Nat.le_of_ble_eq_true rfl) ?_
    obtain rfl : r29 = 0 := hr30
    refine lv_if_ne (pc := 42) (tgt := 47) hx hb dV_person_42 rfl (fun h32 => absurd h32 (by decide)) (fun h32 => ?_)
    refine lv_iconst (pc := 45) (v := 0) hx hb dV_person_45 (by decide) ?_
    have hP9 := hP.sub (ws' := []) [] rfl
    have hD9 := hD.sub (ws' := []) [] (by decide) rfl
    have hK9 := hK.sub (tys' := []) [] rfl
    exact W.zret (pc := 46) hx hb hr rfl (fun t ht hW => ⟨⟨_, (), rfl, (Or.inr ⟨rfl, h5.elim Or.inl (fun q => Or.inr (Or.inl q))⟩), by rw [ht]; exact hP9, va_K.moved hW.alike hK9, hD9⟩, hS.F ht⟩) hS.2.2 dV_person_46
set_option maxHeartbeats 4000000 in
set_option maxRecDepth 100000 in
theorem p_failAhead (l : Launch) (dC : Nat → ClassId) (dI : Nat → Nat → Nat) (sz : Nat) (pg : Nat) (nn : Int32) : Met l yP_failAhead (.code yP_failAhead cP_failAhead 2 none :: aw) ({ frames := 0, cells := 0, slots := 0, locals := 0 }) (pW (dC, dI) sz [(pg, .inr (3, [.int 400, .int 0, .int 0, .int 0, .int 0, .int 0]))] [] [.ref pg, .int nn]) (va_Qv (fun (_ : Unit) => True) (fun _ t => wW (dC, dI) (va_A [(pg, .inr (3, [.int 400, .int 0, .int 0, .int 0, .int 0, .int 0]))] sz) [(pg, .inr (3, [.int 400, .int 0, .int 0, .int 0, .int 1, .int nn]))] [] t) (va_A [(pg, .inr (3, [.int 400, .int 0, .int 0, .int 0, .int 0, .int 0]))] sz)) 0 0 (va_A [(pg, .inr (3, [.int 400, .int 0, .int 0, .int 0, .int 0, .int 0]))] sz) := by
  refine Met.ofW (cc := cP_failAhead) (maxL := 2) (ret := none) (by decide) rfl ?_
  intro p e s m args below meth c s₁ B hml hv
  obtain ⟨rfl, hv⟩ := hv
  have hx := B.exec
  have hb := B.bytes
  have hr := B.returns
  have hts : ∀ w ∈ aw, w.before _ s = true := fun w h => atoms_spec (ws := (.code yP_failAhead cP_failAhead 2 none :: aw)) B.pre w (List.mem_cons_of_mem _ h)
  have hown : s.vm.findClass RP = some m.cls := findClass_of_methodNamed B.named
  have hlocks := B.notSynchronized
  obtain ⟨hsz, hP, hK, hD0⟩ := hv
  subst hsz
  have hD := hD0.self (sz := s.heap.size)
  generalize hAe : va_A [(pg, .inr (3, [.int 400, .int 0, .int 0, .int 0, .int 0, .int 0]))] s.heap.size = A at hD ⊢
  have hA : ∀ q : Nat, s.heap.size ≤ q → A q := fun q h => by rw [← hAe]; exact Or.inr h
  obtain ⟨H, hH⟩ : ∃ H, H = s.heap := ⟨_, rfl⟩
  have hS : va_S A s.heap H [] := by rw [hH]; exact va_S.rf
  rw [← hH] at hP ⊢
  have hP : va_P (dC, dI) kCl [(pg, .inr (3, [.int 400, .int 0, .int 0, .int 0, .int 0, .int 0]))] H := hP
  have hl := lv_entry ([.ref pg, .int nn]) (n := 2) (Nat.le_of_ble_eq_true rfl)
  rw [lg_entry_eq]
  generalize (lg_sl ([.ref pg, .int nn]) ++ List.replicate (2 - (lg_sl ([.ref pg, .int nn])).length) Slot.unset).toArray = ls at hl ⊢
  have hl : lv_has ls 2 [(0, .ref pg), (1, .int nn)] := hl
  refine lv_aload_n (pc := 0) hx hb dP_failAhead_0 rfl (lv_at hl 0 rfl) ?_
  refine lv_iconst (pc := 1) (v := 1) hx hb dP_failAhead_1 (by decide) ?_
  refine va_put (D := (dC, dI)) (cl := kCl) (ci := 3) (v := .int 1) (ty := .boolean) (C := RP) (T := TP) (N := 6) (pc := 2) hx hb hts inP tyP tyP_ok nmP hown hK hP hD hS 0 rfl rfl 4 (by decide) (hts _ wd_54) (fun _ h9 => h9) rfl (by decide +kernel) rfl rfl (Nat.le_of_ble_eq_true rfl) dP_failAhead_2 (fun H locs hP hD hS => ?_)
  have hP : va_P (dC, dI) kCl [(pg, .inr (3, [.int 400, .int 0, .int 0, .int 0, .int 1, .int 0]))] H := hP
  have hD : va_D A [(pg, .inr (3, [.int 400, .int 0, .int 0, .int 0, .int 1, .int 0]))] := hD
  refine lv_aload_n (pc := 5) hx hb dP_failAhead_5 rfl (lv_at hl 0 rfl) ?_
  refine lv_iload_n (pc := 6) hx hb dP_failAhead_6 rfl (lv_at hl 1 rfl) ?_
  refine va_put (D := (dC, dI)) (cl := kCl) (ci := 3) (v := .int nn) (ty := .int) (C := RP) (T := TP) (N := 6) (pc := 7) hx hb hts inP tyP tyP_ok nmP hown hK hP hD hS 0 rfl rfl 5 (by decide) (hts _ wd_115) (fun _ h9 => h9) rfl (by decide +kernel) rfl rfl (Nat.le_of_ble_eq_true rfl) dP_failAhead_7 (fun H locs hP hD hS => ?_)
  have hP : va_P (dC, dI) kCl [(pg, .inr (3, [.int 400, .int 0, .int 0, .int 0, .int 1, .int nn]))] H := hP
  have hD : va_D A [(pg, .inr (3, [.int 400, .int 0, .int 0, .int 0, .int 1, .int nn]))] := hD
  have hP9 := hP.sub (ws' := [(pg, .inr (3, [.int 400, .int 0, .int 0, .int 0, .int 1, .int nn]))]) [0] rfl
  have hD9 := hD.sub (ws' := [(pg, .inr (3, [.int 400, .int 0, .int 0, .int 0, .int 1, .int nn]))]) [0] (by decide) rfl
  have hK9 := hK.sub (tys' := []) [] rfl
  exact W.vret (pc := 10) hx hb hr (fun t ht hW => ⟨⟨(), rfl, trivial, by rw [ht]; exact hP9, va_K.moved hW.alike hK9, hD9⟩, hS.F ht⟩) hS.2.2 dP_failAhead_10
set_option maxHeartbeats 4000000 in
set_option maxRecDepth 100000 in
theorem v_failAfter (l : Launch) (dC : Nat → ClassId) (dI : Nat → Nat → Nat) (sz : Nat) (x : Nat) (rt : Nat) (dr : Nat) (bs : Nat) (df : Nat) (ch : Nat) (pg : Nat) (rs : Int32) (nn : Int32) : Met l yV_failAfter (.code yV_failAfter cV_failAfter 2 (some .boolean) :: aw) ({ frames := 1, cells := 0, slots := 0, locals := 21 }) (pW (dC, dI) sz [(x, .inr (0, [.ref rt, .ref dr, .int 0, .int 0, .ref bs, .ref df, .ref ch, .ref pg, .int rs])), (pg, .inr (3, [.int 400, .int 0, .int 0, .int 0, .int 0, .int 0]))] [] [.ref x, .int nn]) (va_Qi (fun r (_ : Unit) => (r = 1 ∧ (¬ nn < 0)) ∨ (r = 0 ∧ (nn < 0))) (fun _ t => wW (dC, dI) (va_A [(x, .inr (0, [.ref rt, .ref dr, .int 0, .int 0, .ref bs, .ref df, .ref ch, .ref pg, .int rs])), (pg, .inr (3, [.int 400, .int 0, .int 0, .int 0, .int 0, .int 0]))] sz) [] [] t) (va_A [(x, .inr (0, [.ref rt, .ref dr, .int 0, .int 0, .ref bs, .ref df, .ref ch, .ref pg, .int rs])), (pg, .inr (3, [.int 400, .int 0, .int 0, .int 0, .int 0, .int 0]))] sz)) 0 0 (va_A [(x, .inr (0, [.ref rt, .ref dr, .int 0, .int 0, .ref bs, .ref df, .ref ch, .ref pg, .int rs])), (pg, .inr (3, [.int 400, .int 0, .int 0, .int 0, .int 0, .int 0]))] sz) := by
  refine Met.ofW (cc := cV_failAfter) (maxL := 2) (ret := (some .boolean)) (by decide) rfl ?_
  intro p e s m args below meth c s₁ B hml hv
  obtain ⟨rfl, hv⟩ := hv
  have hx := B.exec
  have hb := B.bytes
  have hr := B.returns
  have hts : ∀ w ∈ aw, w.before _ s = true := fun w h => atoms_spec (ws := (.code yV_failAfter cV_failAfter 2 (some .boolean) :: aw)) B.pre w (List.mem_cons_of_mem _ h)
  have hown : s.vm.findClass RV = some m.cls := findClass_of_methodNamed B.named
  have hlocks := B.notSynchronized
  obtain ⟨hsz, hP, hK, hD0⟩ := hv
  subst hsz
  have hD := hD0.self (sz := s.heap.size)
  generalize hAe : va_A [(x, .inr (0, [.ref rt, .ref dr, .int 0, .int 0, .ref bs, .ref df, .ref ch, .ref pg, .int rs])), (pg, .inr (3, [.int 400, .int 0, .int 0, .int 0, .int 0, .int 0]))] s.heap.size = A at hD ⊢
  have hA : ∀ q : Nat, s.heap.size ≤ q → A q := fun q h => by rw [← hAe]; exact Or.inr h
  obtain ⟨H, hH⟩ : ∃ H, H = s.heap := ⟨_, rfl⟩
  have hS : va_S A s.heap H [] := by rw [hH]; exact va_S.rf
  rw [← hH] at hP ⊢
  have hP : va_P (dC, dI) kCl [(x, .inr (0, [.ref rt, .ref dr, .int 0, .int 0, .ref bs, .ref df, .ref ch, .ref pg, .int rs])), (pg, .inr (3, [.int 400, .int 0, .int 0, .int 0, .int 0, .int 0]))] H := hP
  have hl := lv_entry ([.ref x, .int nn]) (n := 2) (Nat.le_of_ble_eq_true rfl)
  rw [lg_entry_eq]
  generalize (lg_sl ([.ref x, .int nn]) ++ List.replicate (2 - (lg_sl ([.ref x, .int nn])).length) Slot.unset).toArray = ls at hl ⊢
  have hl : lv_has ls 2 [(0, .ref x), (1, .int nn)] := hl
  refine lv_iload_n (pc := 0) hx hb dV_failAfter_0 rfl (lv_at hl 1 rfl) ?_
  refine lv_if_lt (pc := 1) (tgt := 14) hx hb dV_failAfter_1 rfl (fun h1 => ?_) (fun h1 => ?_)
  · refine lv_iconst (pc := 14) (v := 0) hx hb dV_failAfter_14 (by decide) ?_
    have hP9 := hP.sub (ws' := []) [] rfl
    have hD9 := hD.sub (ws' := []) [] (by decide) rfl
    have hK9 := hK.sub (tys' := []) [] rfl
    exact W.zret (pc := 15) hx hb hr rfl (fun t ht hW => ⟨⟨_, (), rfl, (Or.inr ⟨rfl, by first | assumption | exact ⟨by assumption, by assumption⟩ | exact Or.inl (by assumption) | exact Or.inr (by assumption) | exact Or.inr (Or.inl (by assumption)) | exact Or.inr (Or.inr (by assumption)) | simp_all⟩), by rw [ht]; exact hP9, va_K.moved hW.alike hK9, hD9⟩, hS.F ht⟩) hS.2.2 dV_failAfter_15
  · refine lv_aload_n (pc := 4) hx hb dV_failAfter_4 rfl (lv_at hl 0 rfl) ?_
    refine va_get (D := (dC, dI)) (cl := kCl) (C := RV) (T := TV) (N := 9) (pc := 5) hx hb hts inV hown hK hP 0 rfl rfl 7 (by decide) (hts _ wd_37) (fun _ h9 => h9) rfl dV_failAfter_5 ?_
    refine va_get (D := (dC, dI)) (cl := kCl) (C := RP) (T := TP) (N := 6) (pc := 8) hx hb hts inP hown hK hP 1 rfl rfl 3 (by decide) (hts _ wd_38) (fun _ h9 => h9) rfl dV_failAfter_8 ?_
    refine lv_if_eq (pc := 11) (tgt := 16) hx hb dV_failAfter_11 rfl (fun h2 => ?_) (fun h2 => absurd h2 (by decide))
    refine lv_aload_n (pc := 16) hx hb dV_failAfter_16 rfl (lv_at hl 0 rfl) ?_
    refine va_get (D := (dC, dI)) (cl := kCl) (C := RV) (T := TV) (N := 9) (pc := 17) hx hb hts inV hown hK hP 0 rfl rfl 7 (by decide) (hts _ wd_37) (fun _ h9 => h9) rfl dV_failAfter_17 ?_
    refine lv_iload_n (pc := 20) hx hb dV_failAfter_20 rfl (lv_at hl 1 rfl) ?_
    have hPc := hP.sub (ws' := [(pg, .inr (3, [.int 400, .int 0, .int 0, .int 0, .int 0, .int 0]))]) [1] rfl
    have hDc := hD.sub (ws' := [(pg, .inr (3, [.int 400, .int 0, .int 0, .int 0, .int 0, .int 0]))]) [1] (by decide) rfl
    have hKc := hK.sub (tys' := []) [] rfl
    have hFc := va_free (wc := [(pg, .inr (3, [.int 400, .int 0, .int 0, .int 0, .int 0, .int 0]))]) hD hS hA [1] rfl
    refine va_callv (pc := 21) (va_runV (As := [.int nn]) (rest := []) ⟨hx, hb, hml, hown, hts⟩ (p_failAhead l dC dI H.size pg nn) (cwV 1 hts (gV wd_117 wd_118 wd_119 wd_60 wd_116) rfl rfl rfl (by decide +kernel) ⟨Nat.le_of_ble_eq_true rfl, Nat.le_of_ble_eq_true rfl⟩) ⟨pW_blind, va_recv (q := (RP, TP, 6)) (q0 := 1) (ci := 3) hK hP rfl rfl, pW_pre hPc hKc hDc⟩ rfl rfl hl.1 rfl (lv_room (Nat.le_of_ble_eq_true rfl)) dV_failAfter_21 ⟨Nat.le_of_ble_eq_true rfl, Nat.le_of_ble_eq_true rfl⟩) hS (fun q _ h => hFc q h) hFc (fun u t H1 locs ht hvm hr4 hB hz1 hk1 hS => ?_)
    obtain ⟨hP1, hK1, hD1⟩ := hB
    rw [ht] at hP1
    have hK1 := va_K.moved hvm.symm hK1
    obtain ⟨hP, hD⟩ := va_join (wr := [(x, .inr (0, [.ref rt, .ref dr, .int 0, .int 0, .ref bs, .ref df, .ref ch, .ref pg, .int rs]))]) (w1 := [(pg, .inr (3, [.int 400, .int 0, .int 0, .int 0, .int 1, .int nn]))]) hP hD [1] [0] rfl rfl (by decide) (by decide) hk1 hFc hP1 hD1
    generalize H1 = H at hP hS ⊢
    have hP : va_P (dC, dI) kCl [(x, .inr (0, [.ref rt, .ref dr, .int 0, .int 0, .ref bs, .ref df, .ref ch, .ref pg, .int rs])), (pg, .inr (3, [.int 400, .int 0, .int 0, .int 0, .int 1, .int nn]))] H := hP
    have hD : va_D A [(x, .inr (0, [.ref rt, .ref dr, .int 0, .int 0, .ref bs, .ref df, .ref ch, .ref pg, .int rs])), (pg, .inr (3, [.int 400, .int 0, .int 0, .int 0, .int 1, .int nn]))] := hD
    refine W.widen (k := 0) (n := 0) (Nat.le_of_ble_eq_true rfl) (Nat.le_of_ble_eq_true rfl) ?_
    refine lv_iconst (pc := 24) (v := 1) hx hb dV_failAfter_24 (by decide) ?_
    have hP9 := hP.sub (ws' := []) [] rfl
    have hD9 := hD.sub (ws' := []) [] (by decide) rfl
    have hK9 := hK.sub (tys' := []) [] rfl
    exact W.zret (pc := 25) hx hb hr rfl (fun t ht hW => ⟨⟨_, (), rfl, (Or.inl ⟨rfl, by first | assumption | exact ⟨by assumption, by assumption⟩ | exact Or.inl (by assumption) | exact Or.inr (by assumption) | exact Or.inr (Or.inl (by assumption)) | exact Or.inr (Or.inr (by assumption)) | simp_all⟩), by rw [ht]; exact hP9, va_K.moved hW.alike hK9, hD9⟩, hS.F ht⟩) hS.2.2 dV_failAfter_25
set_option maxHeartbeats 4000000 in
set_option maxRecDepth 100000 in
theorem p_switchOn (l : Launch) (dC : Nat → ClassId) (dI : Nat → Nat → Nat) (sz : Nat) (pg : Nat) : Met l yP_switchOn (.code yP_switchOn cP_switchOn 1 none :: aw) ({ frames := 0, cells := 0, slots := 0, locals := 0 }) (pW (dC, dI) sz [(pg, .inr (3, [.int 400, .int 0, .int 0, .int 0, .int 0, .int 0]))] [] [.ref pg]) (va_Qv (fun (_ : Unit) => True) (fun _ t => wW (dC, dI) (va_A [(pg, .inr (3, [.int 400, .int 0, .int 0, .int 0, .int 0, .int 0]))] sz) [(pg, .inr (3, [.int 400, .int 0, .int 0, .int 0, .int 0, .int 0]))] [] t) (va_A [(pg, .inr (3, [.int 400, .int 0, .int 0, .int 0, .int 0, .int 0]))] sz)) 0 0 (va_A [(pg, .inr (3, [.int 400, .int 0, .int 0, .int 0, .int 0, .int 0]))] sz) := by
  refine Met.ofW (cc := cP_switchOn) (maxL := 1) (ret := none) (by decide) rfl ?_
  intro p e s m args below meth c s₁ B hml hv
  obtain ⟨rfl, hv⟩ := hv
  have hx := B.exec
  have hb := B.bytes
  have hr := B.returns
  have hts : ∀ w ∈ aw, w.before _ s = true := fun w h => atoms_spec (ws := (.code yP_switchOn cP_switchOn 1 none :: aw)) B.pre w (List.mem_cons_of_mem _ h)
  have hown : s.vm.findClass RP = some m.cls := findClass_of_methodNamed B.named
  have hlocks := B.notSynchronized
  obtain ⟨hsz, hP, hK, hD0⟩ := hv
  subst hsz
  have hD := hD0.self (sz := s.heap.size)
  generalize hAe : va_A [(pg, .inr (3, [.int 400, .int 0, .int 0, .int 0, .int 0, .int 0]))] s.heap.size = A at hD ⊢
  have hA : ∀ q : Nat, s.heap.size ≤ q → A q := fun q h => by rw [← hAe]; exact Or.inr h
  obtain ⟨H, hH⟩ : ∃ H, H = s.heap := ⟨_, rfl⟩
  have hS : va_S A s.heap H [] := by rw [hH]; exact va_S.rf
  rw [← hH] at hP ⊢
  have hP : va_P (dC, dI) kCl [(pg, .inr (3, [.int 400, .int 0, .int 0, .int 0, .int 0, .int 0]))] H := hP
  have hl := lv_entry ([.ref pg]) (n := 1) (Nat.le_of_ble_eq_true rfl)
  rw [lg_entry_eq]
  generalize (lg_sl ([.ref pg]) ++ List.replicate (1 - (lg_sl ([.ref pg])).length) Slot.unset).toArray = ls at hl ⊢
  have hl : lv_has ls 1 [(0, .ref pg)] := hl
  refine lv_aload_n (pc := 0) hx hb dP_switchOn_0 rfl (lv_at hl 0 rfl) ?_
  refine lv_iconst (pc := 1) (v := 0) hx hb dP_switchOn_1 (by decide) ?_
  refine va_put (D := (dC, dI)) (cl := kCl) (ci := 3) (v := .int 0) (ty := .boolean) (C := RP) (T := TP) (N := 6) (pc := 2) hx hb hts inP tyP tyP_ok nmP hown hK hP hD hS 0 rfl rfl 3 (by decide) (hts _ wd_120) (fun _ h9 => h9) rfl (by decide +kernel) rfl rfl (Nat.le_of_ble_eq_true rfl) dP_switchOn_2 (fun H locs hP hD hS => ?_)
  have hP : va_P (dC, dI) kCl [(pg, .inr (3, [.int 400, .int 0, .int 0, .int 0, .int 0, .int 0]))] H := hP
  have hD : va_D A [(pg, .inr (3, [.int 400, .int 0, .int 0, .int 0, .int 0, .int 0]))] := hD
  refine lv_aload_n (pc := 5) hx hb dP_switchOn_5 rfl (lv_at hl 0 rfl) ?_
  refine lv_iconst (pc := 6) (v := 0) hx hb dP_switchOn_6 (by decide) ?_
  refine va_put (D := (dC, dI)) (cl := kCl) (ci := 3) (v := .int 0) (ty := .boolean) (C := RP) (T := TP) (N := 6) (pc := 7) hx hb hts inP tyP tyP_ok nmP hown hK hP hD hS 0 rfl rfl 4 (by decide) (hts _ wd_54) (fun _ h9 => h9) rfl (by decide +kernel) rfl rfl (Nat.le_of_ble_eq_true rfl) dP_switchOn_7 (fun H locs hP hD hS => ?_)
  have hP : va_P (dC, dI) kCl [(pg, .inr (3, [.int 400, .int 0, .int 0, .int 0, .int 0, .int 0]))] H := hP
  have hD : va_D A [(pg, .inr (3, [.int 400, .int 0, .int 0, .int 0, .int 0, .int 0]))] := hD
  have hP9 := hP.sub (ws' := [(pg, .inr (3, [.int 400, .int 0, .int 0, .int 0, .int 0, .int 0]))]) [0] rfl
  have hD9 := hD.sub (ws' := [(pg, .inr (3, [.int 400, .int 0, .int 0, .int 0, .int 0, .int 0]))]) [0] (by decide) rfl
  have hK9 := hK.sub (tys' := []) [] rfl
  exact W.vret (pc := 10) hx hb hr (fun t ht hW => ⟨⟨(), rfl, trivial, by rw [ht]; exact hP9, va_K.moved hW.alike hK9, hD9⟩, hS.F ht⟩) hS.2.2 dP_switchOn_10
set_option maxHeartbeats 4000000 in
set_option maxRecDepth 100000 in
theorem v_drawingsOut (l : Launch) (dC : Nat → ClassId) (dI : Nat → Nat → Nat) (x : Nat) (rt : Nat) (dr : Nat) (bs : Nat) (df : Nat) (ch : Nat) (pg : Nat) (rs : Int32) : Met l yV_drawingsOut (.code yV_drawingsOut cV_drawingsOut 3 (some .int) :: aw) ({ frames := 0, cells := 0, slots := 0, locals := 0 }) (pR (dC, dI) [(x, .inr (0, [.ref rt, .ref dr, .int 0, .int 0, .ref bs, .ref df, .ref ch, .ref pg, .int rs]))] [] [.ref x]) (vp_Si (fun r => r = 0)) 0 0 (fun _ => False) := by
  refine Met.ofW (cc := cV_drawingsOut) (maxL := 3) (ret := (some .int)) (by decide) rfl ?_
  intro p e s m args below meth c s₁ B hml hv
  obtain ⟨rfl, hv⟩ := hv
  have hx := B.exec
  have hb := B.bytes
  have hr := B.returns
  have hts : ∀ w ∈ aw, w.before _ s = true := fun w h => atoms_spec (ws := (.code yV_drawingsOut cV_drawingsOut 3 (some .int) :: aw)) B.pre w (List.mem_cons_of_mem _ h)
  have hown : s.vm.findClass RV = some m.cls := findClass_of_methodNamed B.named
  have hlocks := B.notSynchronized
  obtain ⟨hP, hK⟩ := hv
  obtain ⟨H, hH⟩ : ∃ H, H = s.heap := ⟨_, rfl⟩
  rw [← hH] at hP ⊢
  have hl := lv_entry ([.ref x]) (n := 3) (Nat.le_of_ble_eq_true rfl)
  rw [lg_entry_eq]
  generalize (lg_sl ([.ref x]) ++ List.replicate (3 - (lg_sl ([.ref x])).length) Slot.unset).toArray = ls at hl ⊢
  have hl : lv_has ls 3 [(0, .ref x)] := hl
  refine lv_iconst (pc := 0) (v := 0) hx hb dV_drawingsOut_0 (by decide) ?_
  refine lv_istore_n (pc := 1) hx hb dV_drawingsOut_1 rfl hl (by decide) rfl (fun ls hl => ?_)
  have hl : lv_has ls 3 [(1, .int 0), (0, .ref x)] := hl
  refine lv_iconst (pc := 2) (v := 0) hx hb dV_drawingsOut_2 (by decide) ?_
  refine lv_istore_n (pc := 3) hx hb dV_drawingsOut_3 rfl hl (by decide) rfl (fun ls hl => ?_)
  have hl : lv_has ls 3 [(2, .int 0), (1, .int 0), (0, .ref x)] := hl
  refine lv_iload_n (pc := 4) hx hb dV_drawingsOut_4 rfl (lv_at hl 0 rfl) ?_
  refine lv_aload_n (pc := 5) hx hb dV_drawingsOut_5 rfl (lv_at hl 2 rfl) ?_
  refine va_get (D := (dC, dI)) (cl := kCl) (C := RV) (T := TV) (N := 9) (pc := 6) hx hb hts inV hown hK hP 0 rfl rfl 2 (by decide) (hts _ wd_39) (fun _ h9 => h9) rfl dV_drawingsOut_6 ?_
  refine lv_icmp_ge (pc := 9) (tgt := 34) hx hb dV_drawingsOut_9 rfl (fun h1 => ?_) (fun h1 => absurd h1 (by decide))
  refine lv_iload_n (pc := 34) hx hb dV_drawingsOut_34 rfl (lv_at hl 1 rfl) ?_
  exact W.iret (pc := 35) hx hb hr (fun t ht hW => ⟨_, rfl, rfl, ht.trans hH⟩) (fun q h => nomatch h) dV_drawingsOut_35
set_option maxHeartbeats 4000000 in
set_option maxRecDepth 100000 in
theorem v_start (l : Launch) (dC : Nat → ClassId) (dI : Nat → Nat → Nat) (sz : Nat) (x : Nat) (rt : Nat) (dr : Nat) (bs : Nat) (df : Nat) (ch : Nat) (pg : Nat) (rs : Int32) : Met l yV_start (.code yV_start cV_start 2 (some .int) :: aw) ({ frames := 1, cells := 0, slots := 0, locals := 22 }) (pW (dC, dI) sz [(x, .inr (0, [.ref rt, .ref dr, .int 0, .int 0, .ref bs, .ref df, .ref ch, .ref pg, .int rs])), (pg, .inr (3, [.int 400, .int 0, .int 0, .int 0, .int 0, .int 0]))] [] [.ref x]) (va_Qi (fun r (_ : Unit) => r = 0) (fun _ t => wW (dC, dI) (va_A [(x, .inr (0, [.ref rt, .ref dr, .int 0, .int 0, .ref bs, .ref df, .ref ch, .ref pg, .int rs])), (pg, .inr (3, [.int 400, .int 0, .int 0, .int 0, .int 0, .int 0]))] sz) [] [] t) (va_A [(x, .inr (0, [.ref rt, .ref dr, .int 0, .int 0, .ref bs, .ref df, .ref ch, .ref pg, .int rs])), (pg, .inr (3, [.int 400, .int 0, .int 0, .int 0, .int 0, .int 0]))] sz)) 0 0 (va_A [(x, .inr (0, [.ref rt, .ref dr, .int 0, .int 0, .ref bs, .ref df, .ref ch, .ref pg, .int rs])), (pg, .inr (3, [.int 400, .int 0, .int 0, .int 0, .int 0, .int 0]))] sz) := by
  refine Met.ofW (cc := cV_start) (maxL := 2) (ret := (some .int)) (by decide) rfl ?_
  intro p e s m args below meth c s₁ B hml hv
  obtain ⟨rfl, hv⟩ := hv
  have hx := B.exec
  have hb := B.bytes
  have hr := B.returns
  have hts : ∀ w ∈ aw, w.before _ s = true := fun w h => atoms_spec (ws := (.code yV_start cV_start 2 (some .int) :: aw)) B.pre w (List.mem_cons_of_mem _ h)
  have hown : s.vm.findClass RV = some m.cls := findClass_of_methodNamed B.named
  have hlocks := B.notSynchronized
  obtain ⟨hsz, hP, hK, hD0⟩ := hv
  subst hsz
  have hD := hD0.self (sz := s.heap.size)
  generalize hAe : va_A [(x, .inr (0, [.ref rt, .ref dr, .int 0, .int 0, .ref bs, .ref df, .ref ch, .ref pg, .int rs])), (pg, .inr (3, [.int 400, .int 0, .int 0, .int 0, .int 0, .int 0]))] s.heap.size = A at hD ⊢
  have hA : ∀ q : Nat, s.heap.size ≤ q → A q := fun q h => by rw [← hAe]; exact Or.inr h
  obtain ⟨H, hH⟩ : ∃ H, H = s.heap := ⟨_, rfl⟩
  have hS : va_S A s.heap H [] := by rw [hH]; exact va_S.rf
  rw [← hH] at hP ⊢
  have hP : va_P (dC, dI) kCl [(x, .inr (0, [.ref rt, .ref dr, .int 0, .int 0, .ref bs, .ref df, .ref ch, .ref pg, .int rs])), (pg, .inr (3, [.int 400, .int 0, .int 0, .int 0, .int 0, .int 0]))] H := hP
  have hl := lv_entry ([.ref x]) (n := 2) (Nat.le_of_ble_eq_true rfl)
  rw [lg_entry_eq]
  generalize (lg_sl ([.ref x]) ++ List.replicate (2 - (lg_sl ([.ref x])).length) Slot.unset).toArray = ls at hl ⊢
  have hl : lv_has ls 2 [(0, .ref x)] := hl
  refine lv_iconst (pc := 0) (v := 0) hx hb dV_start_0 (by decide) ?_
  refine lv_istore_n (pc := 1) hx hb dV_start_1 rfl hl (by decide) rfl (fun ls hl => ?_)
  have hl : lv_has ls 2 [(1, .int 0), (0, .ref x)] := hl
  refine lv_iload_n (pc := 2) hx hb dV_start_2 rfl (lv_at hl 0 rfl) ?_
  refine lv_aload_n (pc := 3) hx hb dV_start_3 rfl (lv_at hl 1 rfl) ?_
  refine va_get (D := (dC, dI)) (cl := kCl) (C := RV) (T := TV) (N := 9) (pc := 4) hx hb hts inV hown hK hP 0 rfl rfl 2 (by decide) (hts _ wd_39) (fun _ h9 => h9) rfl dV_start_4 ?_
  refine lv_icmp_ge (pc := 7) (tgt := 37) hx hb dV_start_7 rfl (fun h1 => ?_) (fun h1 => absurd h1 (by decide))
  refine lv_aload_n (pc := 37) hx hb dV_start_37 rfl (lv_at hl 1 rfl) ?_
  refine va_get (D := (dC, dI)) (cl := kCl) (C := RV) (T := TV) (N := 9) (pc := 38) hx hb hts inV hown hK hP 0 rfl rfl 7 (by decide) (hts _ wd_37) (fun _ h9 => h9) rfl dV_start_38 ?_
  have hPc := hP.sub (ws' := [(pg, .inr (3, [.int 400, .int 0, .int 0, .int 0, .int 0, .int 0]))]) [1] rfl
  have hDc := hD.sub (ws' := [(pg, .inr (3, [.int 400, .int 0, .int 0, .int 0, .int 0, .int 0]))]) [1] (by decide) rfl
  have hKc := hK.sub (tys' := []) [] rfl
  have hFc := va_free (wc := [(pg, .inr (3, [.int 400, .int 0, .int 0, .int 0, .int 0, .int 0]))]) hD hS hA [1] rfl
  refine va_callv (pc := 41) (va_runV (As := []) (rest := []) ⟨hx, hb, hml, hown, hts⟩ (p_switchOn l dC dI H.size pg) (cwV 0 hts (gV wd_122 wd_123 wd_124 wd_60 wd_121) rfl rfl rfl (by decide +kernel) ⟨Nat.le_of_ble_eq_true rfl, Nat.le_of_ble_eq_true rfl⟩) ⟨pW_blind, va_recv (q := (RP, TP, 6)) (q0 := 1) (ci := 3) hK hP rfl rfl, pW_pre hPc hKc hDc⟩ rfl rfl hl.1 rfl (lv_room (Nat.le_of_ble_eq_true rfl)) dV_start_41 ⟨Nat.le_of_ble_eq_true rfl, Nat.le_of_ble_eq_true rfl⟩) hS (fun q _ h => hFc q h) hFc (fun u t H1 locs ht hvm hr3 hB hz1 hk1 hS => ?_)
  obtain ⟨hP1, hK1, hD1⟩ := hB
  rw [ht] at hP1
  have hK1 := va_K.moved hvm.symm hK1
  obtain ⟨hP, hD⟩ := va_join (wr := [(x, .inr (0, [.ref rt, .ref dr, .int 0, .int 0, .ref bs, .ref df, .ref ch, .ref pg, .int rs]))]) (w1 := [(pg, .inr (3, [.int 400, .int 0, .int 0, .int 0, .int 0, .int 0]))]) hP hD [1] [0] rfl rfl (by decide) (by decide) hk1 hFc hP1 hD1
  generalize H1 = H at hP hS ⊢
  have hP : va_P (dC, dI) kCl [(x, .inr (0, [.ref rt, .ref dr, .int 0, .int 0, .ref bs, .ref df, .ref ch, .ref pg, .int rs])), (pg, .inr (3, [.int 400, .int 0, .int 0, .int 0, .int 0, .int 0]))] H := hP
  have hD : va_D A [(x, .inr (0, [.ref rt, .ref dr, .int 0, .int 0, .ref bs, .ref df, .ref ch, .ref pg, .int rs])), (pg, .inr (3, [.int 400, .int 0, .int 0, .int 0, .int 0, .int 0]))] := hD
  refine W.widen (k := 0) (n := 0) (Nat.le_of_ble_eq_true rfl) (Nat.le_of_ble_eq_true rfl) ?_
  refine lv_aload_n (pc := 44) hx hb dV_start_44 rfl (lv_at hl 1 rfl) ?_
  refine vp_callSi (pc := 45) (W.runV (As := []) (rest := []) ⟨hx, hb, hml, hown, hts⟩ (v_drawingsOut l dC dI x rt dr bs df ch pg rs) (cwV 0 hts (gV wd_126 wd_127 wd_128 wd_35 wd_125) rfl rfl rfl (by decide +kernel) ⟨Nat.le_of_ble_eq_true rfl, Nat.le_of_ble_eq_true rfl⟩) ⟨pR_blind, va_recv (q := (RV, TV, 9)) (q0 := 0) (ci := 0) hK hP rfl rfl, pR_pre (hP.sub (ws' := [(x, .inr (0, [.ref rt, .ref dr, .int 0, .int 0, .ref bs, .ref df, .ref ch, .ref pg, .int rs]))]) [0] rfl) (hK.sub (tys' := []) [] rfl)⟩ rfl rfl hl.1 rfl (lv_room (Nat.le_of_ble_eq_true rfl)) dV_start_45 ⟨Nat.le_of_ble_eq_true rfl, Nat.le_of_ble_eq_true rfl⟩) (fun r5 hr6 => ?_)
  obtain rfl : r5 = 0 := hr6
  have hP9 := hP.sub (ws' := []) [] rfl
  have hD9 := hD.sub (ws' := []) [] (by decide) rfl
  have hK9 := hK.sub (tys' := []) [] rfl
  exact W.iret (pc := 48) hx hb hr (fun t ht hW => ⟨⟨_, (), rfl, rfl, by rw [ht]; exact hP9, va_K.moved hW.alike hK9, hD9⟩, hS.F ht⟩) hS.2.2 dV_start_48
set_option maxHeartbeats 4000000 in
set_option maxRecDepth 100000 in
theorem v_user (l : Launch) (dC : Nat → ClassId) (dI : Nat → Nat → Nat) (x : Nat) (rt : Nat) (dr : Nat) (bs : Nat) (df : Nat) (ch : Nat) (pg : Nat) (rs : Int32) (dd : Int32) (al : Int32) (kk : Int32) : Met l yV_user (.code yV_user cV_user 7 (some .int) :: aw) ({ frames := 1, cells := 0, slots := 0, locals := 21 }) (pR (dC, dI) [(x, .inr (0, [.ref rt, .ref dr, .int 0, .int 0, .ref bs, .ref df, .ref ch, .ref pg, .int rs]))] [] [.ref x, .int dd, .int al, .int kk]) (vp_Si (fun r => r = (-1))) 0 0 (fun _ => False) := by
  refine Met.ofW (cc := cV_user) (maxL := 7) (ret := (some .int)) (by decide) rfl ?_
  intro p e s m args below meth c s₁ B hml hv
  obtain ⟨rfl, hv⟩ := hv
  have hx := B.exec
  have hb := B.bytes
  have hr := B.returns
  have hts : ∀ w ∈ aw, w.before _ s = true := fun w h => atoms_spec (ws := (.code yV_user cV_user 7 (some .int) :: aw)) B.pre w (List.mem_cons_of_mem _ h)
  have hown : s.vm.findClass RV = some m.cls := findClass_of_methodNamed B.named
  have hlocks := B.notSynchronized
  obtain ⟨hP, hK⟩ := hv
  obtain ⟨H, hH⟩ : ∃ H, H = s.heap := ⟨_, rfl⟩
  rw [← hH] at hP ⊢
  have hl := lv_entry ([.ref x, .int dd, .int al, .int kk]) (n := 7) (Nat.le_of_ble_eq_true rfl)
  rw [lg_entry_eq]
  generalize (lg_sl ([.ref x, .int dd, .int al, .int kk]) ++ List.replicate (7 - (lg_sl ([.ref x, .int dd, .int al, .int kk])).length) Slot.unset).toArray = ls at hl ⊢
  have hl : lv_has ls 7 [(0, .ref x), (1, .int dd), (2, .int al), (3, .int kk)] := hl
  refine lv_aload_n (pc := 0) hx hb dV_user_0 rfl (lv_at hl 0 rfl) ?_
  refine lv_iload_n (pc := 1) hx hb dV_user_1 rfl (lv_at hl 1 rfl) ?_
  refine va_csq (pc := 2) (W.runV (As := [.int dd]) (rest := []) ⟨hx, hb, hml, hown, hts⟩ (v_drawingAt l dC dI x rt dr bs df ch pg rs dd) (cwV 1 hts (gV wd_41 wd_42 wd_43 wd_35 wd_40) rfl rfl rfl (by decide +kernel) ⟨Nat.le_of_ble_eq_true rfl, Nat.le_of_ble_eq_true rfl⟩) ⟨pR_blind, va_recv (q := (RV, TV, 9)) (q0 := 0) (ci := 0) hK hP rfl rfl, pR_pre (hP.sub (ws' := [(x, .inr (0, [.ref rt, .ref dr, .int 0, .int 0, .ref bs, .ref df, .ref ch, .ref pg, .int rs]))]) [0] rfl) (hK.sub (tys' := []) [] rfl)⟩ rfl rfl hl.1 rfl (lv_room (Nat.le_of_ble_eq_true rfl)) dV_user_2 ⟨Nat.le_of_ble_eq_true rfl, Nat.le_of_ble_eq_true rfl⟩) (fun r1 hr2 => ?_)
  obtain rfl : r1 = none := hr2
  refine W.eq (g2 := F0 m 5 ls [.null]) rfl ?_
  refine lv_ifnonnullN (pc := 5) hx hb dV_user_5 ?_
  refine lv_iconst (pc := 8) (v := (-1)) hx hb dV_user_8 (by decide) ?_
  exact W.iret (pc := 9) hx hb hr (fun t ht hW => ⟨_, rfl, rfl, ht.trans hH⟩) (fun q h => nomatch h) dV_user_9
set_option maxHeartbeats 4000000 in
set_option maxRecDepth 100000 in
theorem k_clear (l : Launch) (dC : Nat → ClassId) (dI : Nat → Nat → Nat) (sz : Nat) (ch : Nat) (cp : Nat) (cn : Nat) : Met l yK_clear (.code yK_clear cK_clear 1 none :: aw) ({ frames := 0, cells := 0, slots := 0, locals := 0 }) (pW (dC, dI) sz [(ch, .inr (2, [.ref cp, .ref cn, .int 0]))] [] [.ref ch]) (va_Qv (fun (_ : Unit) => True) (fun _ t => wW (dC, dI) (va_A [(ch, .inr (2, [.ref cp, .ref cn, .int 0]))] sz) [(ch, .inr (2, [.ref cp, .ref cn, .int 0]))] [] t) (va_A [(ch, .inr (2, [.ref cp, .ref cn, .int 0]))] sz)) 0 0 (va_A [(ch, .inr (2, [.ref cp, .ref cn, .int 0]))] sz) := by
  refine Met.ofW (cc := cK_clear) (maxL := 1) (ret := none) (by decide) rfl ?_
  intro p e s m args below meth c s₁ B hml hv
  obtain ⟨rfl, hv⟩ := hv
  have hx := B.exec
  have hb := B.bytes
  have hr := B.returns
  have hts : ∀ w ∈ aw, w.before _ s = true := fun w h => atoms_spec (ws := (.code yK_clear cK_clear 1 none :: aw)) B.pre w (List.mem_cons_of_mem _ h)
  have hown : s.vm.findClass RK = some m.cls := findClass_of_methodNamed B.named
  have hlocks := B.notSynchronized
  obtain ⟨hsz, hP, hK, hD0⟩ := hv
  subst hsz
  have hD := hD0.self (sz := s.heap.size)
  generalize hAe : va_A [(ch, .inr (2, [.ref cp, .ref cn, .int 0]))] s.heap.size = A at hD ⊢
  have hA : ∀ q : Nat, s.heap.size ≤ q → A q := fun q h => by rw [← hAe]; exact Or.inr h
  obtain ⟨H, hH⟩ : ∃ H, H = s.heap := ⟨_, rfl⟩
  have hS : va_S A s.heap H [] := by rw [hH]; exact va_S.rf
  rw [← hH] at hP ⊢
  have hP : va_P (dC, dI) kCl [(ch, .inr (2, [.ref cp, .ref cn, .int 0]))] H := hP
  have hl := lv_entry ([.ref ch]) (n := 1) (Nat.le_of_ble_eq_true rfl)
  rw [lg_entry_eq]
  generalize (lg_sl ([.ref ch]) ++ List.replicate (1 - (lg_sl ([.ref ch])).length) Slot.unset).toArray = ls at hl ⊢
  have hl : lv_has ls 1 [(0, .ref ch)] := hl
  refine lv_aload_n (pc := 0) hx hb dK_clear_0 rfl (lv_at hl 0 rfl) ?_
  refine lv_iconst (pc := 1) (v := 0) hx hb dK_clear_1 (by decide) ?_
  refine va_put (D := (dC, dI)) (cl := kCl) (ci := 2) (v := .int 0) (ty := .int) (C := RK) (T := TK) (N := 3) (pc := 2) hx hb hts inK tyK tyK_ok nmK hown hK hP hD hS 0 rfl rfl 2 (by decide) (hts _ wd_129) (fun _ h9 => h9) rfl (by decide +kernel) rfl rfl (Nat.le_of_ble_eq_true rfl) dK_clear_2 (fun H locs hP hD hS => ?_)
  have hP : va_P (dC, dI) kCl [(ch, .inr (2, [.ref cp, .ref cn, .int 0]))] H := hP
  have hD : va_D A [(ch, .inr (2, [.ref cp, .ref cn, .int 0]))] := hD
  have hP9 := hP.sub (ws' := [(ch, .inr (2, [.ref cp, .ref cn, .int 0]))]) [0] rfl
  have hD9 := hD.sub (ws' := [(ch, .inr (2, [.ref cp, .ref cn, .int 0]))]) [0] (by decide) rfl
  have hK9 := hK.sub (tys' := []) [] rfl
  exact W.vret (pc := 5) hx hb hr (fun t ht hW => ⟨⟨(), rfl, trivial, by rw [ht]; exact hP9, va_K.moved hW.alike hK9, hD9⟩, hS.F ht⟩) hS.2.2 dK_clear_5
set_option maxHeartbeats 4000000 in
set_option maxRecDepth 100000 in
theorem v_chunksOfRevisions (l : Launch) (dC : Nat → ClassId) (dI : Nat → Nat → Nat) (sz : Nat) (x : Nat) (rt : Nat) (dr : Nat) (bs : Nat) (df : Nat) (ch : Nat) (pg : Nat) (rs : Int32) (cp : Nat) (cn : Nat) : Met l yV_chunksOfRevisions (.code yV_chunksOfRevisions cV_chunksOfRevisions 3 (some .int) :: aw) ({ frames := 1, cells := 0, slots := 0, locals := 20 }) (pW (dC, dI) sz [(x, .inr (0, [.ref rt, .ref dr, .int 0, .int 0, .ref bs, .ref df, .ref ch, .ref pg, .int rs])), (ch, .inr (2, [.ref cp, .ref cn, .int 0]))] [] [.ref x]) (va_Qi (fun r (_ : Unit) => r = 0) (fun _ t => wW (dC, dI) (va_A [(x, .inr (0, [.ref rt, .ref dr, .int 0, .int 0, .ref bs, .ref df, .ref ch, .ref pg, .int rs])), (ch, .inr (2, [.ref cp, .ref cn, .int 0]))] sz) [(x, .inr (0, [.ref rt, .ref dr, .int 0, .int 0, .ref bs, .ref df, .ref ch, .ref pg, .int rs])), (ch, .inr (2, [.ref cp, .ref cn, .int 0]))] [] t) (va_A [(x, .inr (0, [.ref rt, .ref dr, .int 0, .int 0, .ref bs, .ref df, .ref ch, .ref pg, .int rs])), (ch, .inr (2, [.ref cp, .ref cn, .int 0]))] sz)) 0 0 (va_A [(x, .inr (0, [.ref rt, .ref dr, .int 0, .int 0, .ref bs, .ref df, .ref ch, .ref pg, .int rs])), (ch, .inr (2, [.ref cp, .ref cn, .int 0]))] sz) := by
  refine Met.ofW (cc := cV_chunksOfRevisions) (maxL := 3) (ret := (some .int)) (by decide) rfl ?_
  intro p e s m args below meth c s₁ B hml hv
  obtain ⟨rfl, hv⟩ := hv
  have hx := B.exec
  have hb := B.bytes
  have hr := B.returns
  have hts : ∀ w ∈ aw, w.before _ s = true := fun w h => atoms_spec (ws := (.code yV_chunksOfRevisions cV_chunksOfRevisions 3 (some .int) :: aw)) B.pre w (List.mem_cons_of_mem _ h)
  have hown : s.vm.findClass RV = some m.cls := findClass_of_methodNamed B.named
  have hlocks := B.notSynchronized
  obtain ⟨hsz, hP, hK, hD0⟩ := hv
  subst hsz
  have hD := hD0.self (sz := s.heap.size)
  generalize hAe : va_A [(x, .inr (0, [.ref rt, .ref dr, .int 0, .int 0, .ref bs, .ref df, .ref ch, .ref pg, .int rs])), (ch, .inr (2, [.ref cp, .ref cn, .int 0]))] s.heap.size = A at hD ⊢
  have hA : ∀ q : Nat, s.heap.size ≤ q → A q := fun q h => by rw [← hAe]; exact Or.inr h
  obtain ⟨H, hH⟩ : ∃ H, H = s.heap := ⟨_, rfl⟩
  have hS : va_S A s.heap H [] := by rw [hH]; exact va_S.rf
  rw [← hH] at hP ⊢
  have hP : va_P (dC, dI) kCl [(x, .inr (0, [.ref rt, .ref dr, .int 0, .int 0, .ref bs, .ref df, .ref ch, .ref pg, .int rs])), (ch, .inr (2, [.ref cp, .ref cn, .int 0]))] H := hP
  have hl := lv_entry ([.ref x]) (n := 3) (Nat.le_of_ble_eq_true rfl)
  rw [lg_entry_eq]
  generalize (lg_sl ([.ref x]) ++ List.replicate (3 - (lg_sl ([.ref x])).length) Slot.unset).toArray = ls at hl ⊢
  have hl : lv_has ls 3 [(0, .ref x)] := hl
  refine lv_aload_n (pc := 0) hx hb dV_chunksOfRevisions_0 rfl (lv_at hl 0 rfl) ?_
  refine va_get (D := (dC, dI)) (cl := kCl) (C := RV) (T := TV) (N := 9) (pc := 1) hx hb hts inV hown hK hP 0 rfl rfl 6 (by decide) (hts _ wd_130) (fun _ h9 => h9) rfl dV_chunksOfRevisions_1 ?_
  have hPc := hP.sub (ws' := [(ch, .inr (2, [.ref cp, .ref cn, .int 0]))]) [1] rfl
  have hDc := hD.sub (ws' := [(ch, .inr (2, [.ref cp, .ref cn, .int 0]))]) [1] (by decide) rfl
  have hKc := hK.sub (tys' := []) [] rfl
  have hFc := va_free (wc := [(ch, .inr (2, [.ref cp, .ref cn, .int 0]))]) hD hS hA [1] rfl
  refine va_callv (pc := 4) (va_runV (As := []) (rest := []) ⟨hx, hb, hml, hown, hts⟩ (k_clear l dC dI H.size ch cp cn) (cwV 0 hts (gV wd_132 wd_133 wd_134 wd_135 wd_131) rfl rfl rfl (by decide +kernel) ⟨Nat.le_of_ble_eq_true rfl, Nat.le_of_ble_eq_true rfl⟩) ⟨pW_blind, va_recv (q := (RK, TK, 3)) (q0 := 1) (ci := 2) hK hP rfl rfl, pW_pre hPc hKc hDc⟩ rfl rfl hl.1 rfl (lv_room (Nat.le_of_ble_eq_true rfl)) dV_chunksOfRevisions_4 ⟨Nat.le_of_ble_eq_true rfl, Nat.le_of_ble_eq_true rfl⟩) hS (fun q _ h => hFc q h) hFc (fun u t H1 locs ht hvm hr2 hB hz1 hk1 hS => ?_)
  obtain ⟨hP1, hK1, hD1⟩ := hB
  rw [ht] at hP1
  have hK1 := va_K.moved hvm.symm hK1
  obtain ⟨hP, hD⟩ := va_join (wr := [(x, .inr (0, [.ref rt, .ref dr, .int 0, .int 0, .ref bs, .ref df, .ref ch, .ref pg, .int rs]))]) (w1 := [(ch, .inr (2, [.ref cp, .ref cn, .int 0]))]) hP hD [1] [0] rfl rfl (by decide) (by decide) hk1 hFc hP1 hD1
  generalize H1 = H at hP hS ⊢
  have hP : va_P (dC, dI) kCl [(x, .inr (0, [.ref rt, .ref dr, .int 0, .int 0, .ref bs, .ref df, .ref ch, .ref pg, .int rs])), (ch, .inr (2, [.ref cp, .ref cn, .int 0]))] H := hP
  have hD : va_D A [(x, .inr (0, [.ref rt, .ref dr, .int 0, .int 0, .ref bs, .ref df, .ref ch, .ref pg, .int rs])), (ch, .inr (2, [.ref cp, .ref cn, .int 0]))] := hD
  refine W.widen (k := 0) (n := 0) (Nat.le_of_ble_eq_true rfl) (Nat.le_of_ble_eq_true rfl) ?_
  refine lv_iconst (pc := 7) (v := 0) hx hb dV_chunksOfRevisions_7 (by decide) ?_
  refine lv_istore_n (pc := 8) hx hb dV_chunksOfRevisions_8 rfl hl (by decide) rfl (fun ls hl => ?_)
  have hl : lv_has ls 3 [(1, .int 0), (0, .ref x)] := hl
  refine lv_iload_n (pc := 9) hx hb dV_chunksOfRevisions_9 rfl (lv_at hl 0 rfl) ?_
  refine lv_aload_n (pc := 10) hx hb dV_chunksOfRevisions_10 rfl (lv_at hl 1 rfl) ?_
  refine va_get (D := (dC, dI)) (cl := kCl) (C := RV) (T := TV) (N := 9) (pc := 11) hx hb hts inV hown hK hP 0 rfl rfl 2 (by decide) (hts _ wd_39) (fun _ h9 => h9) rfl dV_chunksOfRevisions_11 ?_
  refine lv_icmp_ge (pc := 14) (tgt := 65) hx hb dV_chunksOfRevisions_14 rfl (fun h4 => ?_) (fun h4 => absurd h4 (by decide))
  refine lv_aload_n (pc := 65) hx hb dV_chunksOfRevisions_65 rfl (lv_at hl 1 rfl) ?_
  refine va_get (D := (dC, dI)) (cl := kCl) (C := RV) (T := TV) (N := 9) (pc := 66) hx hb hts inV hown hK hP 0 rfl rfl 6 (by decide) (hts _ wd_130) (fun _ h9 => h9) rfl dV_chunksOfRevisions_66 ?_
  refine va_get (D := (dC, dI)) (cl := kCl) (C := RK) (T := TK) (N := 3) (pc := 69) hx hb hts inK hown hK hP 1 rfl rfl 2 (by decide) (hts _ wd_136) (fun _ h9 => h9) rfl dV_chunksOfRevisions_69 ?_
  have hP9 := hP.sub (ws' := [(x, .inr (0, [.ref rt, .ref dr, .int 0, .int 0, .ref bs, .ref df, .ref ch, .ref pg, .int rs])), (ch, .inr (2, [.ref cp, .ref cn, .int 0]))]) [0, 1] rfl
  have hD9 := hD.sub (ws' := [(x, .inr (0, [.ref rt, .ref dr, .int 0, .int 0, .ref bs, .ref df, .ref ch, .ref pg, .int rs])), (ch, .inr (2, [.ref cp, .ref cn, .int 0]))]) [0, 1] (by decide) rfl
  have hK9 := hK.sub (tys' := []) [] rfl
  exact W.iret (pc := 72) hx hb hr (fun t ht hW => ⟨⟨_, (), rfl, rfl, by rw [ht]; exact hP9, va_K.moved hW.alike hK9, hD9⟩, hS.F ht⟩) hS.2.2 dV_chunksOfRevisions_72
set_option maxHeartbeats 4000000 in
set_option maxRecDepth 100000 in
theorem v_chunksKept (l : Launch) (dC : Nat → ClassId) (dI : Nat → Nat → Nat) (sz : Nat) (x : Nat) (rt : Nat) (dr : Nat) (bs : Nat) (df : Nat) (ch : Nat) (pg : Nat) (rs : Int32) (cp : Nat) (cn : Nat) : Met l yV_chunksKept (.code yV_chunksKept cV_chunksKept 2 (some .int) :: aw) ({ frames := 2, cells := 0, slots := 0, locals := 42 }) (pW (dC, dI) sz [(x, .inr (0, [.ref rt, .ref dr, .int 0, .int 0, .ref bs, .ref df, .ref ch, .ref pg, .int rs])), (ch, .inr (2, [.ref cp, .ref cn, .int 0]))] [] [.ref x]) (va_Qi (fun r (_ : Unit) => r = 0) (fun _ t => wW (dC, dI) (va_A [(x, .inr (0, [.ref rt, .ref dr, .int 0, .int 0, .ref bs, .ref df, .ref ch, .ref pg, .int rs])), (ch, .inr (2, [.ref cp, .ref cn, .int 0]))] sz) [(x, .inr (0, [.ref rt, .ref dr, .int 0, .int 0, .ref bs, .ref df, .ref ch, .ref pg, .int rs])), (ch, .inr (2, [.ref cp, .ref cn, .int 0]))] [] t) (va_A [(x, .inr (0, [.ref rt, .ref dr, .int 0, .int 0, .ref bs, .ref df, .ref ch, .ref pg, .int rs])), (ch, .inr (2, [.ref cp, .ref cn, .int 0]))] sz)) 0 0 (va_A [(x, .inr (0, [.ref rt, .ref dr, .int 0, .int 0, .ref bs, .ref df, .ref ch, .ref pg, .int rs])), (ch, .inr (2, [.ref cp, .ref cn, .int 0]))] sz) := by
  refine Met.ofW (cc := cV_chunksKept) (maxL := 2) (ret := (some .int)) (by decide) rfl ?_
  intro p e s m args below meth c s₁ B hml hv
  obtain ⟨rfl, hv⟩ := hv
  have hx := B.exec
  have hb := B.bytes
  have hr := B.returns
  have hts : ∀ w ∈ aw, w.before _ s = true := fun w h => atoms_spec (ws := (.code yV_chunksKept cV_chunksKept 2 (some .int) :: aw)) B.pre w (List.mem_cons_of_mem _ h)
  have hown : s.vm.findClass RV = some m.cls := findClass_of_methodNamed B.named
  have hlocks := B.notSynchronized
  obtain ⟨hsz, hP, hK, hD0⟩ := hv
  subst hsz
  have hD := hD0.self (sz := s.heap.size)
  generalize hAe : va_A [(x, .inr (0, [.ref rt, .ref dr, .int 0, .int 0, .ref bs, .ref df, .ref ch, .ref pg, .int rs])), (ch, .inr (2, [.ref cp, .ref cn, .int 0]))] s.heap.size = A at hD ⊢
  have hA : ∀ q : Nat, s.heap.size ≤ q → A q := fun q h => by rw [← hAe]; exact Or.inr h
  obtain ⟨H, hH⟩ : ∃ H, H = s.heap := ⟨_, rfl⟩
  have hS : va_S A s.heap H [] := by rw [hH]; exact va_S.rf
  rw [← hH] at hP ⊢
  have hP : va_P (dC, dI) kCl [(x, .inr (0, [.ref rt, .ref dr, .int 0, .int 0, .ref bs, .ref df, .ref ch, .ref pg, .int rs])), (ch, .inr (2, [.ref cp, .ref cn, .int 0]))] H := hP
  have hl := lv_entry ([.ref x]) (n := 2) (Nat.le_of_ble_eq_true rfl)
  rw [lg_entry_eq]
  generalize (lg_sl ([.ref x]) ++ List.replicate (2 - (lg_sl ([.ref x])).length) Slot.unset).toArray = ls at hl ⊢
  have hl : lv_has ls 2 [(0, .ref x)] := hl
  refine lv_aload_n (pc := 0) hx hb dV_chunksKept_0 rfl (lv_at hl 0 rfl) ?_
  have hPc := hP.sub (ws' := [(x, .inr (0, [.ref rt, .ref dr, .int 0, .int 0, .ref bs, .ref df, .ref ch, .ref pg, .int rs])), (ch, .inr (2, [.ref cp, .ref cn, .int 0]))]) [0, 1] rfl
  have hDc := hD.sub (ws' := [(x, .inr (0, [.ref rt, .ref dr, .int 0, .int 0, .ref bs, .ref df, .ref ch, .ref pg, .int rs])), (ch, .inr (2, [.ref cp, .ref cn, .int 0]))]) [0, 1] (by decide) rfl
  have hKc := hK.sub (tys' := []) [] rfl
  have hFc := va_free (wc := [(x, .inr (0, [.ref rt, .ref dr, .int 0, .int 0, .ref bs, .ref df, .ref ch, .ref pg, .int rs])), (ch, .inr (2, [.ref cp, .ref cn, .int 0]))]) hD hS hA [0, 1] rfl
  refine va_calli (pc := 1) (va_runV (As := []) (rest := []) ⟨hx, hb, hml, hown, hts⟩ (v_chunksOfRevisions l dC dI H.size x rt dr bs df ch pg rs cp cn) (cwV 0 hts (gV wd_138 wd_139 wd_140 wd_35 wd_137) rfl rfl rfl (by decide +kernel) ⟨Nat.le_of_ble_eq_true rfl, Nat.le_of_ble_eq_true rfl⟩) ⟨pW_blind, va_recv (q := (RV, TV, 9)) (q0 := 0) (ci := 0) hK hP rfl rfl, pW_pre hPc hKc hDc⟩ rfl rfl hl.1 rfl (lv_room (Nat.le_of_ble_eq_true rfl)) dV_chunksKept_1 ⟨Nat.le_of_ble_eq_true rfl, Nat.le_of_ble_eq_true rfl⟩) hS (fun q _ h => hFc q h) hFc (fun r1 u t H1 locs ht hvm hr2 hB hz1 hk1 hS => ?_)
  obtain ⟨hP1, hK1, hD1⟩ := hB
  rw [ht] at hP1
  have hK1 := va_K.moved hvm.symm hK1
  obtain ⟨hP, hD⟩ := va_join (wr := []) (w1 := [(x, .inr (0, [.ref rt, .ref dr, .int 0, .int 0, .ref bs, .ref df, .ref ch, .ref pg, .int rs])), (ch, .inr (2, [.ref cp, .ref cn, .int 0]))]) hP hD [0, 1] [] rfl rfl (by decide) (by decide) hk1 hFc hP1 hD1
  generalize H1 = H at hP hS ⊢
  have hP : va_P (dC, dI) kCl [(x, .inr (0, [.ref rt, .ref dr, .int 0, .int 0, .ref bs, .ref df, .ref ch, .ref pg, .int rs])), (ch, .inr (2, [.ref cp, .ref cn, .int 0]))] H := hP
  have hD : va_D A [(x, .inr (0, [.ref rt, .ref dr, .int 0, .int 0, .ref bs, .ref df, .ref ch, .ref pg, .int rs])), (ch, .inr (2, [.ref cp, .ref cn, .int 0]))] := hD
  refine W.widen (k := 0) (n := 0) (Nat.le_of_ble_eq_true rfl) (Nat.le_of_ble_eq_true rfl) ?_
  obtain rfl : r1 = 0 := hr2
  refine lv_pop (pc := 4) hx hb dV_chunksKept_4 rfl ?_
  refine lv_iconst (pc := 5) (v := 0) hx hb dV_chunksKept_5 (by decide) ?_
  refine lv_istore_n (pc := 6) hx hb dV_chunksKept_6 rfl hl (by decide) rfl (fun ls hl => ?_)
  have hl : lv_has ls 2 [(1, .int 0), (0, .ref x)] := hl
  refine lv_iload_n (pc := 7) hx hb dV_chunksKept_7 rfl (lv_at hl 0 rfl) ?_
  refine lv_aload_n (pc := 8) hx hb dV_chunksKept_8 rfl (lv_at hl 1 rfl) ?_
  refine va_get (D := (dC, dI)) (cl := kCl) (C := RV) (T := TV) (N := 9) (pc := 9) hx hb hts inV hown hK hP 0 rfl rfl 2 (by decide) (hts _ wd_39) (fun _ h9 => h9) rfl dV_chunksKept_9 ?_
  refine lv_icmp_ge (pc := 12) (tgt := 37) hx hb dV_chunksKept_12 rfl (fun h4 => ?_) (fun h4 => absurd h4 (by decide))
  refine lv_aload_n (pc := 37) hx hb dV_chunksKept_37 rfl (lv_at hl 1 rfl) ?_
  refine va_get (D := (dC, dI)) (cl := kCl) (C := RV) (T := TV) (N := 9) (pc := 38) hx hb hts inV hown hK hP 0 rfl rfl 6 (by decide) (hts _ wd_130) (fun _ h9 => h9) rfl dV_chunksKept_38 ?_
  refine va_get (D := (dC, dI)) (cl := kCl) (C := RK) (T := TK) (N := 3) (pc := 41) hx hb hts inK hown hK hP 1 rfl rfl 2 (by decide) (hts _ wd_136) (fun _ h9 => h9) rfl dV_chunksKept_41 ?_
  have hP9 := hP.sub (ws' := [(x, .inr (0, [.ref rt, .ref dr, .int 0, .int 0, .ref bs, .ref df, .ref ch, .ref pg, .int rs])), (ch, .inr (2, [.ref cp, .ref cn, .int 0]))]) [0, 1] rfl
  have hD9 := hD.sub (ws' := [(x, .inr (0, [.ref rt, .ref dr, .int 0, .int 0, .ref bs, .ref df, .ref ch, .ref pg, .int rs])), (ch, .inr (2, [.ref cp, .ref cn, .int 0]))]) [0, 1] (by decide) rfl
  have hK9 := hK.sub (tys' := []) [] rfl
  exact W.iret (pc := 44) hx hb hr (fun t ht hW => ⟨⟨_, (), rfl, rfl, by rw [ht]; exact hP9, va_K.moved hW.alike hK9, hD9⟩, hS.F ht⟩) hS.2.2 dV_chunksKept_44
set_option maxHeartbeats 4000000 in
set_option maxRecDepth 100000 in
theorem v_baselinesMade (l : Launch) (dC : Nat → ClassId) (dI : Nat → Nat → Nat) (x : Nat) (rt : Nat) (dr : Nat) (bs : Nat) (df : Nat) (ch : Nat) (pg : Nat) (rs : Int32) (cB : ClassId) : Met l yV_baselinesMade (.code yV_baselinesMade cV_baselinesMade 3 (some .int) :: aw) ({ frames := 0, cells := 0, slots := 0, locals := 0 }) (pR (dC, dI) [(x, .inr (0, [.ref rt, .ref dr, .int 0, .int 0, .ref bs, .ref df, .ref ch, .ref pg, .int rs])), (bs, .inl (cB, 10, .inr (.inr (.inr (.inr (fun _ => none))))))] [(cB, .object "DrawingVault$Baseline")] [.ref x]) (vp_Si (fun r => r = 0)) 0 0 (fun _ => False) := by
  refine Met.ofW (cc := cV_baselinesMade) (maxL := 3) (ret := (some .int)) (by decide) rfl ?_
  intro p e s m args below meth c s₁ B hml hv
  obtain ⟨rfl, hv⟩ := hv
  have hx := B.exec
  have hb := B.bytes
  have hr := B.returns
  have hts : ∀ w ∈ aw, w.before _ s = true := fun w h => atoms_spec (ws := (.code yV_baselinesMade cV_baselinesMade 3 (some .int) :: aw)) B.pre w (List.mem_cons_of_mem _ h)
  have hown : s.vm.findClass RV = some m.cls := findClass_of_methodNamed B.named
  have hlocks := B.notSynchronized
  obtain ⟨hP, hK⟩ := hv
  obtain ⟨H, hH⟩ : ∃ H, H = s.heap := ⟨_, rfl⟩
  rw [← hH] at hP ⊢
  have hl := lv_entry ([.ref x]) (n := 3) (Nat.le_of_ble_eq_true rfl)
  rw [lg_entry_eq]
  generalize (lg_sl ([.ref x]) ++ List.replicate (3 - (lg_sl ([.ref x])).length) Slot.unset).toArray = ls at hl ⊢
  have hl : lv_has ls 3 [(0, .ref x)] := hl
  refine lv_iconst (pc := 0) (v := 0) hx hb dV_baselinesMade_0 (by decide) ?_
  refine lv_istore_n (pc := 1) hx hb dV_baselinesMade_1 rfl hl (by decide) rfl (fun ls hl => ?_)
  have hl : lv_has ls 3 [(1, .int 0), (0, .ref x)] := hl
  refine lv_iconst (pc := 2) (v := 0) hx hb dV_baselinesMade_2 (by decide) ?_
  refine lv_istore_n (pc := 3) hx hb dV_baselinesMade_3 rfl hl (by decide) rfl (fun ls hl => ?_)
  have hl : lv_has ls 3 [(2, .int 0), (1, .int 0), (0, .ref x)] := hl
  refine lv_iload_n (pc := 4) hx hb dV_baselinesMade_4 rfl (lv_at hl 0 rfl) ?_
  refine lv_bipush (pc := 5) (v := 10) hx hb dV_baselinesMade_5 (by decide) ?_
  refine lv_icmp_ge (pc := 7) (tgt := 28) hx hb dV_baselinesMade_7 rfl (fun h1 => absurd h1 (by decide)) (fun h1 => ?_)
  refine lv_aload_n (pc := 10) hx hb dV_baselinesMade_10 rfl (lv_at hl 2 rfl) ?_
  refine va_get (D := (dC, dI)) (cl := kCl) (C := RV) (T := TV) (N := 9) (pc := 11) hx hb hts inV hown hK hP 0 rfl rfl 4 (by decide) (hts _ wd_44) (fun _ h9 => h9) rfl dV_baselinesMade_11 ?_
  refine lv_iload_n (pc := 14) hx hb dV_baselinesMade_14 rfl (lv_at hl 0 rfl) ?_
  refine va_aldq (D := (dC, dI)) (cl := kCl) (pc := 15) hx hb hK hP 1 0 rfl rfl (vp_in_lit 0 10 (by decide)) dV_baselinesMade_15 ?_
  refine W.eq (g2 := F0 m 16 ls [.null]) rfl ?_
  refine lv_ifnullN (pc := 16) (tgt := 22) hx hb dV_baselinesMade_16 rfl ?_
  refine lv_iinc (pc := 22) (v := 1) hx hb dV_baselinesMade_22 hl (k := 0) rfl (by decide) (by decide) rfl (fun ls hl => ?_)
  have hl : lv_has ls 3 [(2, .int 1), (1, .int 0), (0, .ref x)] := hl
  refine lv_goto (pc := 25) (tgt := 4) hx hb dV_baselinesMade_25 rfl ?_
  refine lv_iload_n (pc := 4) hx hb dV_baselinesMade_4 rfl (lv_at hl 0 rfl) ?_
  refine lv_bipush (pc := 5) (v := 10) hx hb dV_baselinesMade_5 (by decide) ?_
  refine lv_icmp_ge (pc := 7) (tgt := 28) hx hb dV_baselinesMade_7 rfl (fun h2 => absurd h2 (by decide)) (fun h2 => ?_)
  refine lv_aload_n (pc := 10) hx hb dV_baselinesMade_10 rfl (lv_at hl 2 rfl) ?_
  refine va_get (D := (dC, dI)) (cl := kCl) (C := RV) (T := TV) (N := 9) (pc := 11) hx hb hts inV hown hK hP 0 rfl rfl 4 (by decide) (hts _ wd_44) (fun _ h9 => h9) rfl dV_baselinesMade_11 ?_
  refine lv_iload_n (pc := 14) hx hb dV_baselinesMade_14 rfl (lv_at hl 0 rfl) ?_
  refine va_aldq (D := (dC, dI)) (cl := kCl) (pc := 15) hx hb hK hP 1 0 rfl rfl (vp_in_lit 1 10 (by decide)) dV_baselinesMade_15 ?_
  refine W.eq (g2 := F0 m 16 ls [.null]) rfl ?_
  refine lv_ifnullN (pc := 16) (tgt := 22) hx hb dV_baselinesMade_16 rfl ?_
  refine lv_iinc (pc := 22) (v := 2) hx hb dV_baselinesMade_22 hl (k := 0) rfl (by decide) (by decide) rfl (fun ls hl => ?_)
  have hl : lv_has ls 3 [(2, .int 2), (1, .int 0), (0, .ref x)] := hl
  refine lv_goto (pc := 25) (tgt := 4) hx hb dV_baselinesMade_25 rfl ?_
  refine lv_iload_n (pc := 4) hx hb dV_baselinesMade_4 rfl (lv_at hl 0 rfl) ?_
  refine lv_bipush (pc := 5) (v := 10) hx hb dV_baselinesMade_5 (by decide) ?_
  refine lv_icmp_ge (pc := 7) (tgt := 28) hx hb dV_baselinesMade_7 rfl (fun h3 => absurd h3 (by decide)) (fun h3 => ?_)
  refine lv_aload_n (pc := 10) hx hb dV_baselinesMade_10 rfl (lv_at hl 2 rfl) ?_
  refine va_get (D := (dC, dI)) (cl := kCl) (C := RV) (T := TV) (N := 9) (pc := 11) hx hb hts inV hown hK hP 0 rfl rfl 4 (by decide) (hts _ wd_44) (fun _ h9 => h9) rfl dV_baselinesMade_11 ?_
  refine lv_iload_n (pc := 14) hx hb dV_baselinesMade_14 rfl (lv_at hl 0 rfl) ?_
  refine va_aldq (D := (dC, dI)) (cl := kCl) (pc := 15) hx hb hK hP 1 0 rfl rfl (vp_in_lit 2 10 (by decide)) dV_baselinesMade_15 ?_
  refine W.eq (g2 := F0 m 16 ls [.null]) rfl ?_
  refine lv_ifnullN (pc := 16) (tgt := 22) hx hb dV_baselinesMade_16 rfl ?_
  refine lv_iinc (pc := 22) (v := 3) hx hb dV_baselinesMade_22 hl (k := 0) rfl (by decide) (by decide) rfl (fun ls hl => ?_)
  have hl : lv_has ls 3 [(2, .int 3), (1, .int 0), (0, .ref x)] := hl
  refine lv_goto (pc := 25) (tgt := 4) hx hb dV_baselinesMade_25 rfl ?_
  refine lv_iload_n (pc := 4) hx hb dV_baselinesMade_4 rfl (lv_at hl 0 rfl) ?_
  refine lv_bipush (pc := 5) (v := 10) hx hb dV_baselinesMade_5 (by decide) ?_
  refine lv_icmp_ge (pc := 7) (tgt := 28) hx hb dV_baselinesMade_7 rfl (fun h4 => absurd h4 (by decide)) (fun h4 => ?_)
  refine lv_aload_n (pc := 10) hx hb dV_baselinesMade_10 rfl (lv_at hl 2 rfl) ?_
  refine va_get (D := (dC, dI)) (cl := kCl) (C := RV) (T := TV) (N := 9) (pc := 11) hx hb hts inV hown hK hP 0 rfl rfl 4 (by decide) (hts _ wd_44) (fun _ h9 => h9) rfl dV_baselinesMade_11 ?_
  refine lv_iload_n (pc := 14) hx hb dV_baselinesMade_14 rfl (lv_at hl 0 rfl) ?_
  refine va_aldq (D := (dC, dI)) (cl := kCl) (pc := 15) hx hb hK hP 1 0 rfl rfl (vp_in_lit 3 10 (by decide)) dV_baselinesMade_15 ?_
  refine W.eq (g2 := F0 m 16 ls [.null]) rfl ?_
  refine lv_ifnullN (pc := 16) (tgt := 22) hx hb dV_baselinesMade_16 rfl ?_
  refine lv_iinc (pc := 22) (v := 4) hx hb dV_baselinesMade_22 hl (k := 0) rfl (by decide) (by decide) rfl (fun ls hl => ?_)
  have hl : lv_has ls 3 [(2, .int 4), (1, .int 0), (0, .ref x)] := hl
  refine lv_goto (pc := 25) (tgt := 4) hx hb dV_baselinesMade_25 rfl ?_
  refine lv_iload_n (pc := 4) hx hb dV_baselinesMade_4 rfl (lv_at hl 0 rfl) ?_
  refine lv_bipush (pc := 5) (v := 10) hx hb dV_baselinesMade_5 (by decide) ?_
  refine lv_icmp_ge (pc := 7) (tgt := 28) hx hb dV_baselinesMade_7 rfl (fun h5 => absurd h5 (by decide)) (fun h5 => ?_)
  refine lv_aload_n (pc := 10) hx hb dV_baselinesMade_10 rfl (lv_at hl 2 rfl) ?_
  refine va_get (D := (dC, dI)) (cl := kCl) (C := RV) (T := TV) (N := 9) (pc := 11) hx hb hts inV hown hK hP 0 rfl rfl 4 (by decide) (hts _ wd_44) (fun _ h9 => h9) rfl dV_baselinesMade_11 ?_
  refine lv_iload_n (pc := 14) hx hb dV_baselinesMade_14 rfl (lv_at hl 0 rfl) ?_
  refine va_aldq (D := (dC, dI)) (cl := kCl) (pc := 15) hx hb hK hP 1 0 rfl rfl (vp_in_lit 4 10 (by decide)) dV_baselinesMade_15 ?_
  refine W.eq (g2 := F0 m 16 ls [.null]) rfl ?_
  refine lv_ifnullN (pc := 16) (tgt := 22) hx hb dV_baselinesMade_16 rfl ?_
  refine lv_iinc (pc := 22) (v := 5) hx hb dV_baselinesMade_22 hl (k := 0) rfl (by decide) (by decide) rfl (fun ls hl => ?_)
  have hl : lv_has ls 3 [(2, .int 5), (1, .int 0), (0, .ref x)] := hl
  refine lv_goto (pc := 25) (tgt := 4) hx hb dV_baselinesMade_25 rfl ?_
  refine lv_iload_n (pc := 4) hx hb dV_baselinesMade_4 rfl (lv_at hl 0 rfl) ?_
  refine lv_bipush (pc := 5) (v := 10) hx hb dV_baselinesMade_5 (by decide) ?_
  refine lv_icmp_ge (pc := 7) (tgt := 28) hx hb dV_baselinesMade_7 rfl (fun h6 => absurd h6 (by decide)) (fun h6 => ?_)
  refine lv_aload_n (pc := 10) hx hb dV_baselinesMade_10 rfl (lv_at hl 2 rfl) ?_
  refine va_get (D := (dC, dI)) (cl := kCl) (C := RV) (T := TV) (N := 9) (pc := 11) hx hb hts inV hown hK hP 0 rfl rfl 4 (by decide) (hts _ wd_44) (fun _ h9 => h9) rfl dV_baselinesMade_11 ?_
  refine lv_iload_n (pc := 14) hx hb dV_baselinesMade_14 rfl (lv_at hl 0 rfl) ?_
  refine va_aldq (D := (dC, dI)) (cl := kCl) (pc := 15) hx hb hK hP 1 0 rfl rfl (vp_in_lit 5 10 (by decide)) dV_baselinesMade_15 ?_
  refine W.eq (g2 := F0 m 16 ls [.null]) rfl ?_
  refine lv_ifnullN (pc := 16) (tgt := 22) hx hb dV_baselinesMade_16 rfl ?_
  refine lv_iinc (pc := 22) (v := 6) hx hb dV_baselinesMade_22 hl (k := 0) rfl (by decide) (by decide) rfl (fun ls hl => ?_)
  have hl : lv_has ls 3 [(2, .int 6), (1, .int 0), (0, .ref x)] := hl
  refine lv_goto (pc := 25) (tgt := 4) hx hb dV_baselinesMade_25 rfl ?_
  refine lv_iload_n (pc := 4) hx hb dV_baselinesMade_4 rfl (lv_at hl 0 rfl) ?_
  refine lv_bipush (pc := 5) (v := 10) hx hb dV_baselinesMade_5 (by decide) ?_
  refine lv_icmp_ge (pc := 7) (tgt := 28) hx hb dV_baselinesMade_7 rfl (fun h7 => absurd h7 (by decide)) (fun h7 => ?_)
  refine lv_aload_n (pc := 10) hx hb dV_baselinesMade_10 rfl (lv_at hl 2 rfl) ?_
  refine va_get (D := (dC, dI)) (cl := kCl) (C := RV) (T := TV) (N := 9) (pc := 11) hx hb hts inV hown hK hP 0 rfl rfl 4 (by decide) (hts _ wd_44) (fun _ h9 => h9) rfl dV_baselinesMade_11 ?_
  refine lv_iload_n (pc := 14) hx hb dV_baselinesMade_14 rfl (lv_at hl 0 rfl) ?_
  refine va_aldq (D := (dC, dI)) (cl := kCl) (pc := 15) hx hb hK hP 1 0 rfl rfl (vp_in_lit 6 10 (by decide)) dV_baselinesMade_15 ?_
  refine W.eq (g2 := F0 m 16 ls [.null]) rfl ?_
  refine lv_ifnullN (pc := 16) (tgt := 22) hx hb dV_baselinesMade_16 rfl ?_
  refine lv_iinc (pc := 22) (v := 7) hx hb dV_baselinesMade_22 hl (k := 0) rfl (by decide) (by decide) rfl (fun ls hl => ?_)
  have hl : lv_has ls 3 [(2, .int 7), (1, .int 0), (0, .ref x)] := hl
  refine lv_goto (pc := 25) (tgt := 4) hx hb dV_baselinesMade_25 rfl ?_
  refine lv_iload_n (pc := 4) hx hb dV_baselinesMade_4 rfl (lv_at hl 0 rfl) ?_
  refine lv_bipush (pc := 5) (v := 10) hx hb dV_baselinesMade_5 (by decide) ?_
  refine lv_icmp_ge (pc := 7) (tgt := 28) hx hb dV_baselinesMade_7 rfl (fun h8 => absurd h8 (by decide)) (fun h8 => ?_)
  refine lv_aload_n (pc := 10) hx hb dV_baselinesMade_10 rfl (lv_at hl 2 rfl) ?_
  refine va_get (D := (dC, dI)) (cl := kCl) (C := RV) (T := TV) (N := 9) (pc := 11) hx hb hts inV hown hK hP 0 rfl rfl 4 (by decide) (hts _ wd_44) (fun _ h9 => h9) rfl dV_baselinesMade_11 ?_
  refine lv_iload_n (pc := 14) hx hb dV_baselinesMade_14 rfl (lv_at hl 0 rfl) ?_
  refine va_aldq (D := (dC, dI)) (cl := kCl) (pc := 15) hx hb hK hP 1 0 rfl rfl (vp_in_lit 7 10 (by decide)) dV_baselinesMade_15 ?_
  refine W.eq (g2 := F0 m 16 ls [.null]) rfl ?_
  refine lv_ifnullN (pc := 16) (tgt := 22) hx hb dV_baselinesMade_16 rfl ?_
  refine lv_iinc (pc := 22) (v := 8) hx hb dV_baselinesMade_22 hl (k := 0) rfl (by decide) (by decide) rfl (fun ls hl => ?_)
  have hl : lv_has ls 3 [(2, .int 8), (1, .int 0), (0, .ref x)] := hl
  refine lv_goto (pc := 25) (tgt := 4) hx hb dV_baselinesMade_25 rfl ?_
  refine lv_iload_n (pc := 4) hx hb dV_baselinesMade_4 rfl (lv_at hl 0 rfl) ?_
  refine lv_bipush (pc := 5) (v := 10) hx hb dV_baselinesMade_5 (by decide) ?_
  refine lv_icmp_ge (pc := 7) (tgt := 28) hx hb dV_baselinesMade_7 rfl (fun h9 => absurd h9 (by decide)) (fun h9 => ?_)
  refine lv_aload_n (pc := 10) hx hb dV_baselinesMade_10 rfl (lv_at hl 2 rfl) ?_
  refine va_get (D := (dC, dI)) (cl := kCl) (C := RV) (T := TV) (N := 9) (pc := 11) hx hb hts inV hown hK hP 0 rfl rfl 4 (by decide) (hts _ wd_44) (fun _ h9 => h9) rfl dV_baselinesMade_11 ?_
  refine lv_iload_n (pc := 14) hx hb dV_baselinesMade_14 rfl (lv_at hl 0 rfl) ?_
  refine va_aldq (D := (dC, dI)) (cl := kCl) (pc := 15) hx hb hK hP 1 0 rfl rfl (vp_in_lit 8 10 (by decide)) dV_baselinesMade_15 ?_
  refine W.eq (g2 := F0 m 16 ls [.null]) rfl ?_
  refine lv_ifnullN (pc := 16) (tgt := 22) hx hb dV_baselinesMade_16 rfl ?_
  refine lv_iinc (pc := 22) (v := 9) hx hb dV_baselinesMade_22 hl (k := 0) rfl (by decide) (by decide) rfl (fun ls hl => ?_)
  have hl : lv_has ls 3 [(2, .int 9), (1, .int 0), (0, .ref x)] := hl
  refine lv_goto (pc := 25) (tgt := 4) hx hb dV_baselinesMade_25 rfl ?_
  refine lv_iload_n (pc := 4) hx hb dV_baselinesMade_4 rfl (lv_at hl 0 rfl) ?_
  refine lv_bipush (pc := 5) (v := 10) hx hb dV_baselinesMade_5 (by decide) ?_
  refine lv_icmp_ge (pc := 7) (tgt := 28) hx hb dV_baselinesMade_7 rfl (fun h10 => absurd h10 (by decide)) (fun h10 => ?_)
  refine lv_aload_n (pc := 10) hx hb dV_baselinesMade_10 rfl (lv_at hl 2 rfl) ?_
  refine va_get (D := (dC, dI)) (cl := kCl) (C := RV) (T := TV) (N := 9) (pc := 11) hx hb hts inV hown hK hP 0 rfl rfl 4 (by decide) (hts _ wd_44) (fun _ h9 => h9) rfl dV_baselinesMade_11 ?_
  refine lv_iload_n (pc := 14) hx hb dV_baselinesMade_14 rfl (lv_at hl 0 rfl) ?_
  refine va_aldq (D := (dC, dI)) (cl := kCl) (pc := 15) hx hb hK hP 1 0 rfl rfl (vp_in_lit 9 10 (by decide)) dV_baselinesMade_15 ?_
  refine W.eq (g2 := F0 m 16 ls [.null]) rfl ?_
  refine lv_ifnullN (pc := 16) (tgt := 22) hx hb dV_baselinesMade_16 rfl ?_
  refine lv_iinc (pc := 22) (v := 10) hx hb dV_baselinesMade_22 hl (k := 0) rfl (by decide) (by decide) rfl (fun ls hl => ?_)
  have hl : lv_has ls 3 [(2, .int 10), (1, .int 0), (0, .ref x)] := hl
  refine lv_goto (pc := 25) (tgt := 4) hx hb dV_baselinesMade_25 rfl ?_
  refine lv_iload_n (pc := 4) hx hb dV_baselinesMade_4 rfl (lv_at hl 0 rfl) ?_
  refine lv_bipush (pc := 5) (v := 10) hx hb dV_baselinesMade_5 (by decide) ?_
  refine lv_icmp_ge (pc := 7) (tgt := 28) hx hb dV_baselinesMade_7 rfl (fun h11 => ?_) (fun h11 => absurd h11 (by decide))
  refine lv_iload_n (pc := 28) hx hb dV_baselinesMade_28 rfl (lv_at hl 1 rfl) ?_
  exact W.iret (pc := 29) hx hb hr (fun t ht hW => ⟨_, rfl, rfl, ht.trans hH⟩) (fun q h => nomatch h) dV_baselinesMade_29
set_option maxHeartbeats 4000000 in
set_option maxRecDepth 100000 in
theorem v_count (l : Launch) (dC : Nat → ClassId) (dI : Nat → Nat → Nat) (sz : Nat) (x : Nat) (rt : Nat) (dr : Nat) (bs : Nat) (df : Nat) (ch : Nat) (pg : Nat) (rs : Int32) (cB : ClassId) (cp : Nat) (cn : Nat) (ww : Int32) : Met l yV_count (.code yV_count cV_count 2 (some .int) :: aw) ({ frames := 3, cells := 0, slots := 0, locals := 63 }) (pW (dC, dI) sz [(x, .inr (0, [.ref rt, .ref dr, .int 0, .int 0, .ref bs, .ref df, .ref ch, .ref pg, .int rs])), (bs, .inl (cB, 10, .inr (.inr (.inr (.inr (fun _ => none)))))), (ch, .inr (2, [.ref cp, .ref cn, .int 0])), (pg, .inr (3, [.int 400, .int 0, .int 0, .int 0, .int 0, .int 0]))] [(cB, .object "DrawingVault$Baseline")] [.ref x, .int ww]) (va_Qi (fun r (_ : Unit) => r = (cnt0 ww)) (fun _ t => wW (dC, dI) (va_A [(x, .inr (0, [.ref rt, .ref dr, .int 0, .int 0, .ref bs, .ref df, .ref ch, .ref pg, .int rs])), (bs, .inl (cB, 10, .inr (.inr (.inr (.inr (fun _ => none)))))), (ch, .inr (2, [.ref cp, .ref cn, .int 0])), (pg, .inr (3, [.int 400, .int 0, .int 0, .int 0, .int 0, .int 0]))] sz) [] [] t) (va_A [(x, .inr (0, [.ref rt, .ref dr, .int 0, .int 0, .ref bs, .ref df, .ref ch, .ref pg, .int rs])), (bs, .inl (cB, 10, .inr (.inr (.inr (.inr (fun _ => none)))))), (ch, .inr (2, [.ref cp, .ref cn, .int 0])), (pg, .inr (3, [.int 400, .int 0, .int 0, .int 0, .int 0, .int 0]))] sz)) 0 0 (va_A [(x, .inr (0, [.ref rt, .ref dr, .int 0, .int 0, .ref bs, .ref df, .ref ch, .ref pg, .int rs])), (bs, .inl (cB, 10, .inr (.inr (.inr (.inr (fun _ => none)))))), (ch, .inr (2, [.ref cp, .ref cn, .int 0])), (pg, .inr (3, [.int 400, .int 0, .int 0, .int 0, .int 0, .int 0]))] sz) := by
  refine Met.ofW (cc := cV_count) (maxL := 2) (ret := (some .int)) (by decide) rfl ?_
  intro p e s m args below meth c s₁ B hml hv
  obtain ⟨rfl, hv⟩ := hv
  have hx := B.exec
  have hb := B.bytes
  have hr := B.returns
  have hts : ∀ w ∈ aw, w.before _ s = true := fun w h => atoms_spec (ws := (.code yV_count cV_count 2 (some .int) :: aw)) B.pre w (List.mem_cons_of_mem _ h)
  have hown : s.vm.findClass RV = some m.cls := findClass_of_methodNamed B.named
  have hlocks := B.notSynchronized
  obtain ⟨hsz, hP, hK, hD0⟩ := hv
  subst hsz
  have hD := hD0.self (sz := s.heap.size)
  generalize hAe : va_A [(x, .inr (0, [.ref rt, .ref dr, .int 0, .int 0, .ref bs, .ref df, .ref ch, .ref pg, .int rs])), (bs, .inl (cB, 10, .inr (.inr (.inr (.inr (fun _ => none)))))), (ch, .inr (2, [.ref cp, .ref cn, .int 0])), (pg, .inr (3, [.int 400, .int 0, .int 0, .int 0, .int 0, .int 0]))] s.heap.size = A at hD ⊢
  have hA : ∀ q : Nat, s.heap.size ≤ q → A q := fun q h => by rw [← hAe]; exact Or.inr h
  obtain ⟨H, hH⟩ : ∃ H, H = s.heap := ⟨_, rfl⟩
  have hS : va_S A s.heap H [] := by rw [hH]; exact va_S.rf
  rw [← hH] at hP ⊢
  have hP : va_P (dC, dI) kCl [(x, .inr (0, [.ref rt, .ref dr, .int 0, .int 0, .ref bs, .ref df, .ref ch, .ref pg, .int rs])), (bs, .inl (cB, 10, .inr (.inr (.inr (.inr (fun _ => none)))))), (ch, .inr (2, [.ref cp, .ref cn, .int 0])), (pg, .inr (3, [.int 400, .int 0, .int 0, .int 0, .int 0, .int 0]))] H := hP
  have hl := lv_entry ([.ref x, .int ww]) (n := 2) (Nat.le_of_ble_eq_true rfl)
  rw [lg_entry_eq]
  generalize (lg_sl ([.ref x, .int ww]) ++ List.replicate (2 - (lg_sl ([.ref x, .int ww])).length) Slot.unset).toArray = ls at hl ⊢
  have hl : lv_has ls 2 [(0, .ref x), (1, .int ww)] := hl
  refine lv_iload_n (pc := 0) hx hb dV_count_0 rfl (lv_at hl 1 rfl) ?_
  rcases pk_ix ww (n := 8) (by decide) with h1 | h1 | ⟨j2, hj3, rfl⟩
  · refine lv_tableOut (pc := 1) (tgt := 108) hx hb dV_count_1 (Or.inl (tsw_lo h1)) rfl ?_
    refine lv_iconst (pc := 108) (v := (-1)) hx hb dV_count_108 (by decide) ?_
    have hP9 := hP.sub (ws' := []) [] rfl
    have hD9 := hD.sub (ws' := []) [] (by decide) rfl
    have hK9 := hK.sub (tys' := []) [] rfl
    exact W.iret (pc := 109) hx hb hr (fun t ht hW => ⟨⟨_, (), rfl, cnt0_lo h1, by rw [ht]; exact hP9, va_K.moved hW.alike hK9, hD9⟩, hS.F ht⟩) hS.2.2 dV_count_109
  · refine lv_tableOut (pc := 1) (tgt := 108) hx hb dV_count_1 (Or.inr (tsw_hi (n := 7) (by decide) h1)) rfl ?_
    refine lv_iconst (pc := 108) (v := (-1)) hx hb dV_count_108 (by decide) ?_
    have hP9 := hP.sub (ws' := []) [] rfl
    have hD9 := hD.sub (ws' := []) [] (by decide) rfl
    have hK9 := hK.sub (tys' := []) [] rfl
    exact W.iret (pc := 109) hx hb hr (fun t ht hW => ⟨⟨_, (), rfl, cnt0_hi h1, by rw [ht]; exact hP9, va_K.moved hW.alike hK9, hD9⟩, hS.F ht⟩) hS.2.2 dV_count_109
  · rcases (show j2 = 0 ∨ j2 = 1 ∨ j2 = 2 ∨ j2 = 3 ∨ j2 = 4 ∨ j2 = 5 ∨ j2 = 6 ∨ j2 = 7 by omega) with rfl | rfl | rfl | rfl | rfl | rfl | rfl | rfl
    · refine lv_tableIn (pc := 1) (tgt := 48) (off := 47) hx hb dV_count_1 (by decide) (by decide) (by decide) rfl ?_
      refine lv_aload_n (pc := 48) hx hb dV_count_48 rfl (lv_at hl 0 rfl) ?_
      refine va_get (D := (dC, dI)) (cl := kCl) (C := RV) (T := TV) (N := 9) (pc := 49) hx hb hts inV hown hK hP 0 rfl rfl 2 (by decide) (hts _ wd_39) (fun _ h9 => h9) rfl dV_count_49 ?_
      have hP9 := hP.sub (ws' := []) [] rfl
      have hD9 := hD.sub (ws' := []) [] (by decide) rfl
      have hK9 := hK.sub (tys' := []) [] rfl
      exact W.iret (pc := 52) hx hb hr (fun t ht hW => ⟨⟨_, (), rfl, by decide, by rw [ht]; exact hP9, va_K.moved hW.alike hK9, hD9⟩, hS.F ht⟩) hS.2.2 dV_count_52
    · refine lv_tableIn (pc := 1) (tgt := 53) (off := 52) hx hb dV_count_1 (by decide) (by decide) (by decide) rfl ?_
      refine lv_aload_n (pc := 53) hx hb dV_count_53 rfl (lv_at hl 0 rfl) ?_
      refine va_get (D := (dC, dI)) (cl := kCl) (C := RV) (T := TV) (N := 9) (pc := 54) hx hb hts inV hown hK hP 0 rfl rfl 3 (by decide) (hts _ wd_141) (fun _ h9 => h9) rfl dV_count_54 ?_
      have hP9 := hP.sub (ws' := []) [] rfl
      have hD9 := hD.sub (ws' := []) [] (by decide) rfl
      have hK9 := hK.sub (tys' := []) [] rfl
      exact W.iret (pc := 57) hx hb hr (fun t ht hW => ⟨⟨_, (), rfl, by decide, by rw [ht]; exact hP9, va_K.moved hW.alike hK9, hD9⟩, hS.F ht⟩) hS.2.2 dV_count_57
    · refine lv_tableIn (pc := 1) (tgt := 58) (off := 57) hx hb dV_count_1 (by decide) (by decide) (by decide) rfl ?_
      refine lv_aload_n (pc := 58) hx hb dV_count_58 rfl (lv_at hl 0 rfl) ?_
      have hPc := hP.sub (ws' := [(x, .inr (0, [.ref rt, .ref dr, .int 0, .int 0, .ref bs, .ref df, .ref ch, .ref pg, .int rs])), (ch, .inr (2, [.ref cp, .ref cn, .int 0]))]) [0, 2] rfl
      have hDc := hD.sub (ws' := [(x, .inr (0, [.ref rt, .ref dr, .int 0, .int 0, .ref bs, .ref df, .ref ch, .ref pg, .int rs])), (ch, .inr (2, [.ref cp, .ref cn, .int 0]))]) [0, 2] (by decide) rfl
      have hKc := hK.sub (tys' := []) [] rfl
      have hFc := va_free (wc := [(x, .inr (0, [.ref rt, .ref dr, .int 0, .int 0, .ref bs, .ref df, .ref ch, .ref pg, .int rs])), (ch, .inr (2, [.ref cp, .ref cn, .int 0]))]) hD hS hA [0, 2] rfl
      refine va_calli (pc := 59) (va_runV (As := []) (rest := []) ⟨hx, hb, hml, hown, hts⟩ (v_chunksKept l dC dI H.size x rt dr bs df ch pg rs cp cn) (cwV 0 hts (gV wd_143 wd_144 wd_145 wd_35 wd_142) rfl rfl rfl (by decide +kernel) ⟨Nat.le_of_ble_eq_true rfl, Nat.le_of_ble_eq_true rfl⟩) ⟨pW_blind, va_recv (q := (RV, TV, 9)) (q0 := 0) (ci := 0) hK hP rfl rfl, pW_pre hPc hKc hDc⟩ rfl rfl hl.1 rfl (lv_room (Nat.le_of_ble_eq_true rfl)) dV_count_59 ⟨Nat.le_of_ble_eq_true rfl, Nat.le_of_ble_eq_true rfl⟩) hS (fun q _ h => hFc q h) hFc (fun r4 u t H1 locs ht hvm hr5 hB hz1 hk1 hS => ?_)
      obtain ⟨hP1, hK1, hD1⟩ := hB
      rw [ht] at hP1
      have hK1 := va_K.moved hvm.symm hK1
      obtain ⟨hP, hD⟩ := va_join (wr := [(bs, .inl (cB, 10, .inr (.inr (.inr (.inr (fun _ => none)))))), (pg, .inr (3, [.int 400, .int 0, .int 0, .int 0, .int 0, .int 0]))]) (w1 := [(x, .inr (0, [.ref rt, .ref dr, .int 0, .int 0, .ref bs, .ref df, .ref ch, .ref pg, .int rs])), (ch, .inr (2, [.ref cp, .ref cn, .int 0]))]) hP hD [0, 2] [1, 3] rfl rfl (by decide) (by decide) hk1 hFc hP1 hD1
      generalize H1 = H at hP hS ⊢
      have hP : va_P (dC, dI) kCl [(bs, .inl (cB, 10, .inr (.inr (.inr (.inr (fun _ => none)))))), (pg, .inr (3, [.int 400, .int 0, .int 0, .int 0, .int 0, .int 0])), (x, .inr (0, [.ref rt, .ref dr, .int 0, .int 0, .ref bs, .ref df, .ref ch, .ref pg, .int rs])), (ch, .inr (2, [.ref cp, .ref cn, .int 0]))] H := hP
      have hD : va_D A [(bs, .inl (cB, 10, .inr (.inr (.inr (.inr (fun _ => none)))))), (pg, .inr (3, [.int 400, .int 0, .int 0, .int 0, .int 0, .int 0])), (x, .inr (0, [.ref rt, .ref dr, .int 0, .int 0, .ref bs, .ref df, .ref ch, .ref pg, .int rs])), (ch, .inr (2, [.ref cp, .ref cn, .int 0]))] := hD
      refine W.widen (k := 0) (n := 0) (Nat.le_of_ble_eq_true rfl) (Nat.le_of_ble_eq_true rfl) ?_
      obtain rfl : r4 = 0 := hr5
      have hP9 := hP.sub (ws' := []) [] rfl
      have hD9 := hD.sub (ws' := []) [] (by decide) rfl
      have hK9 := hK.sub (tys' := []) [] rfl
      exact W.iret (pc := 62) hx hb hr (fun t ht hW => ⟨⟨_, (), rfl, by decide, by rw [ht]; exact hP9, va_K.moved hW.alike hK9, hD9⟩, hS.F ht⟩) hS.2.2 dV_count_62
    · refine lv_tableIn (pc := 1) (tgt := 63) (off := 62) hx hb dV_count_1 (by decide) (by decide) (by decide) rfl ?_
      refine lv_aload_n (pc := 63) hx hb dV_count_63 rfl (lv_at hl 0 rfl) ?_
      refine va_get (D := (dC, dI)) (cl := kCl) (C := RV) (T := TV) (N := 9) (pc := 64) hx hb hts inV hown hK hP 0 rfl rfl 7 (by decide) (hts _ wd_37) (fun _ h9 => h9) rfl dV_count_64 ?_
      refine va_get (D := (dC, dI)) (cl := kCl) (C := RP) (T := TP) (N := 6) (pc := 67) hx hb hts inP hown hK hP 3 rfl rfl 0 (by decide) (hts _ wd_55) (fun _ h9 => h9) rfl dV_count_67 ?_
      have hP9 := hP.sub (ws' := []) [] rfl
      have hD9 := hD.sub (ws' := []) [] (by decide) rfl
      have hK9 := hK.sub (tys' := []) [] rfl
      exact W.iret (pc := 70) hx hb hr (fun t ht hW => ⟨⟨_, (), rfl, by decide, by rw [ht]; exact hP9, va_K.moved hW.alike hK9, hD9⟩, hS.F ht⟩) hS.2.2 dV_count_70
    · refine lv_tableIn (pc := 1) (tgt := 71) (off := 70) hx hb dV_count_1 (by decide) (by decide) (by decide) rfl ?_
      refine lv_aload_n (pc := 71) hx hb dV_count_71 rfl (lv_at hl 0 rfl) ?_
      refine va_get (D := (dC, dI)) (cl := kCl) (C := RV) (T := TV) (N := 9) (pc := 72) hx hb hts inV hown hK hP 0 rfl rfl 7 (by decide) (hts _ wd_37) (fun _ h9 => h9) rfl dV_count_72 ?_
      refine va_get (D := (dC, dI)) (cl := kCl) (C := RP) (T := TP) (N := 6) (pc := 75) hx hb hts inP hown hK hP 3 rfl rfl 1 (by decide) (hts _ wd_146) (fun _ h9 => h9) rfl dV_count_75 ?_
      have hP9 := hP.sub (ws' := []) [] rfl
      have hD9 := hD.sub (ws' := []) [] (by decide) rfl
      have hK9 := hK.sub (tys' := []) [] rfl
      exact W.iret (pc := 78) hx hb hr (fun t ht hW => ⟨⟨_, (), rfl, by decide, by rw [ht]; exact hP9, va_K.moved hW.alike hK9, hD9⟩, hS.F ht⟩) hS.2.2 dV_count_78
    · refine lv_tableIn (pc := 1) (tgt := 79) (off := 78) hx hb dV_count_1 (by decide) (by decide) (by decide) rfl ?_
      refine lv_aload_n (pc := 79) hx hb dV_count_79 rfl (lv_at hl 0 rfl) ?_
      refine va_get (D := (dC, dI)) (cl := kCl) (C := RV) (T := TV) (N := 9) (pc := 80) hx hb hts inV hown hK hP 0 rfl rfl 7 (by decide) (hts _ wd_37) (fun _ h9 => h9) rfl dV_count_80 ?_
      refine va_get (D := (dC, dI)) (cl := kCl) (C := RP) (T := TP) (N := 6) (pc := 83) hx hb hts inP hown hK hP 3 rfl rfl 2 (by decide) (hts _ wd_147) (fun _ h9 => h9) rfl dV_count_83 ?_
      have hP9 := hP.sub (ws' := []) [] rfl
      have hD9 := hD.sub (ws' := []) [] (by decide) rfl
      have hK9 := hK.sub (tys' := []) [] rfl
      exact W.iret (pc := 86) hx hb hr (fun t ht hW => ⟨⟨_, (), rfl, by decide, by rw [ht]; exact hP9, va_K.moved hW.alike hK9, hD9⟩, hS.F ht⟩) hS.2.2 dV_count_86
    · refine lv_tableIn (pc := 1) (tgt := 87) (off := 86) hx hb dV_count_1 (by decide) (by decide) (by decide) rfl ?_
      refine lv_aload_n (pc := 87) hx hb dV_count_87 rfl (lv_at hl 0 rfl) ?_
      refine vp_callSi (pc := 88) (W.runV (As := []) (rest := []) ⟨hx, hb, hml, hown, hts⟩ (v_baselinesMade l dC dI x rt dr bs df ch pg rs cB) (cwV 0 hts (gV wd_149 wd_150 wd_151 wd_35 wd_148) rfl rfl rfl (by decide +kernel) ⟨Nat.le_of_ble_eq_true rfl, Nat.le_of_ble_eq_true rfl⟩) ⟨pR_blind, va_recv (q := (RV, TV, 9)) (q0 := 0) (ci := 0) hK hP rfl rfl, pR_pre (hP.sub (ws' := [(x, .inr (0, [.ref rt, .ref dr, .int 0, .int 0, .ref bs, .ref df, .ref ch, .ref pg, .int rs])), (bs, .inl (cB, 10, .inr (.inr (.inr (.inr (fun _ => none))))))]) [0, 1] rfl) (hK.sub (tys' := [(cB, .object "DrawingVault$Baseline")]) [0] rfl)⟩ rfl rfl hl.1 rfl (lv_room (Nat.le_of_ble_eq_true rfl)) dV_count_88 ⟨Nat.le_of_ble_eq_true rfl, Nat.le_of_ble_eq_true rfl⟩) (fun r7 hr8 => ?_)
      obtain rfl : r7 = 0 := hr8
      have hP9 := hP.sub (ws' := []) [] rfl
      have hD9 := hD.sub (ws' := []) [] (by decide) rfl
      have hK9 := hK.sub (tys' := []) [] rfl
      exact W.iret (pc := 91) hx hb hr (fun t ht hW => ⟨⟨_, (), rfl, by decide, by rw [ht]; exact hP9, va_K.moved hW.alike hK9, hD9⟩, hS.F ht⟩) hS.2.2 dV_count_91
    · refine lv_tableIn (pc := 1) (tgt := 92) (off := 91) hx hb dV_count_1 (by decide) (by decide) (by decide) rfl ?_
      refine lv_aload_n (pc := 92) hx hb dV_count_92 rfl (lv_at hl 0 rfl) ?_
      refine va_get (D := (dC, dI)) (cl := kCl) (C := RV) (T := TV) (N := 9) (pc := 93) hx hb hts inV hown hK hP 0 rfl rfl 7 (by decide) (hts _ wd_37) (fun _ h9 => h9) rfl dV_count_93 ?_
      refine va_get (D := (dC, dI)) (cl := kCl) (C := RP) (T := TP) (N := 6) (pc := 96) hx hb hts inP hown hK hP 3 rfl rfl 3 (by decide) (hts _ wd_38) (fun _ h9 => h9) rfl dV_count_96 ?_
      refine lv_if_eq (pc := 99) (tgt := 106) hx hb dV_count_99 rfl (fun h9 => ?_) (fun h9 => absurd h9 (by decide))
      refine lv_iconst (pc := 106) (v := 0) hx hb dV_count_106 (by decide) ?_
      have hP9 := hP.sub (ws' := []) [] rfl
      have hD9 := hD.sub (ws' := []) [] (by decide) rfl
      have hK9 := hK.sub (tys' := []) [] rfl
      exact W.iret (pc := 107) hx hb hr (fun t ht hW => ⟨⟨_, (), rfl, by decide, by rw [ht]; exact hP9, va_K.moved hW.alike hK9, hD9⟩, hS.F ht⟩) hS.2.2 dV_count_107
end
section
abbrev cM_thrown : ByteArray := prog_9_method_2_code
abbrev yM_thrown : MethodName := ⟨"DrawingVaultModel", "thrown", "()I"⟩
theorem dM_thrown_0 : decode cM_thrown 0 = .ok (.aload_n 0, 1) := by decide +kernel
theorem dM_thrown_1 : decode cM_thrown 1 = .ok (.getfield 33, 3) := by decide +kernel
theorem dM_thrown_4 : decode cM_thrown 4 = .ok (.ireturn, 1) := by decide +kernel
abbrev cM_isPerson : ByteArray := prog_9_method_4_code
abbrev yM_isPerson : MethodName := ⟨"DrawingVaultModel", "isPerson", "(I)Z"⟩
theorem dM_isPerson_0 : decode cM_isPerson 0 = .ok (.iload_n 1, 1) := by decide +kernel
theorem dM_isPerson_1 : decode cM_isPerson 1 = .ok (.ifCond .lt 13, 3) := by decide +kernel
theorem dM_isPerson_4 : decode cM_isPerson 4 = .ok (.iload_n 1, 1) := by decide +kernel
theorem dM_isPerson_5 : decode cM_isPerson 5 = .ok (.bipush 16, 2) := by decide +kernel
theorem dM_isPerson_7 : decode cM_isPerson 7 = .ok (.if_icmp .ge 7, 3) := by decide +kernel
theorem dM_isPerson_10 : decode cM_isPerson 10 = .ok (.iconst 1, 1) := by decide +kernel
theorem dM_isPerson_11 : decode cM_isPerson 11 = .ok (.goto 4, 3) := by decide +kernel
theorem dM_isPerson_14 : decode cM_isPerson 14 = .ok (.iconst 0, 1) := by decide +kernel
theorem dM_isPerson_15 : decode cM_isPerson 15 = .ok (.ireturn, 1) := by decide +kernel
abbrev cM_rights : ByteArray := prog_9_method_5_code
abbrev yM_rights : MethodName := ⟨"DrawingVaultModel", "rights", "(I)I"⟩
theorem dM_rights_0 : decode cM_rights 0 = .ok (.aload_n 0, 1) := by decide +kernel
theorem dM_rights_1 : decode cM_rights 1 = .ok (.iload_n 1, 1) := by decide +kernel
theorem dM_rights_2 : decode cM_rights 2 = .ok (.invokevirtual 36, 3) := by decide +kernel
theorem dM_rights_5 : decode cM_rights 5 = .ok (.ifCond .eq 12, 3) := by decide +kernel
theorem dM_rights_8 : decode cM_rights 8 = .ok (.aload_n 0, 1) := by decide +kernel
theorem dM_rights_9 : decode cM_rights 9 = .ok (.getfield 7, 3) := by decide +kernel
theorem dM_rights_12 : decode cM_rights 12 = .ok (.iload_n 1, 1) := by decide +kernel
theorem dM_rights_13 : decode cM_rights 13 = .ok (.iaload, 1) := by decide +kernel
theorem dM_rights_14 : decode cM_rights 14 = .ok (.goto 4, 3) := by decide +kernel
theorem dM_rights_17 : decode cM_rights 17 = .ok (.iconst 0, 1) := by decide +kernel
theorem dM_rights_18 : decode cM_rights 18 = .ok (.ireturn, 1) := by decide +kernel
abbrev cM_isDrawing : ByteArray := prog_9_method_6_code
abbrev yM_isDrawing : MethodName := ⟨"DrawingVaultModel", "isDrawing", "(I)Z"⟩
theorem dM_isDrawing_0 : decode cM_isDrawing 0 = .ok (.iload_n 1, 1) := by decide +kernel
theorem dM_isDrawing_1 : decode cM_isDrawing 1 = .ok (.ifCond .lt 18, 3) := by decide +kernel
theorem dM_isDrawing_4 : decode cM_isDrawing 4 = .ok (.iload_n 1, 1) := by decide +kernel
theorem dM_isDrawing_5 : decode cM_isDrawing 5 = .ok (.aload_n 0, 1) := by decide +kernel
theorem dM_isDrawing_6 : decode cM_isDrawing 6 = .ok (.getfield 7, 3) := by decide +kernel
theorem dM_isDrawing_9 : decode cM_isDrawing 9 = .ok (.bipush 16, 2) := by decide +kernel
theorem dM_isDrawing_11 : decode cM_isDrawing 11 = .ok (.iaload, 1) := by decide +kernel
theorem dM_isDrawing_12 : decode cM_isDrawing 12 = .ok (.if_icmp .ge 7, 3) := by decide +kernel
theorem dM_isDrawing_19 : decode cM_isDrawing 19 = .ok (.iconst 0, 1) := by decide +kernel
theorem dM_isDrawing_20 : decode cM_isDrawing 20 = .ok (.ireturn, 1) := by decide +kernel
abbrev cM_isRevision : ByteArray := prog_9_method_9_code
abbrev yM_isRevision : MethodName := ⟨"DrawingVaultModel", "isRevision", "(II)Z"⟩
theorem dM_isRevision_0 : decode cM_isRevision 0 = .ok (.aload_n 0, 1) := by decide +kernel
theorem dM_isRevision_1 : decode cM_isRevision 1 = .ok (.iload_n 1, 1) := by decide +kernel
theorem dM_isRevision_2 : decode cM_isRevision 2 = .ok (.invokevirtual 44, 3) := by decide +kernel
theorem dM_isRevision_5 : decode cM_isRevision 5 = .ok (.ifCond .eq 20, 3) := by decide +kernel
theorem dM_isRevision_25 : decode cM_isRevision 25 = .ok (.iconst 0, 1) := by decide +kernel
theorem dM_isRevision_26 : decode cM_isRevision 26 = .ok (.ireturn, 1) := by decide +kernel
abbrev cM_baselineAt : ByteArray := prog_9_method_27_code
abbrev yM_baselineAt : MethodName := ⟨"DrawingVaultModel", "baselineAt", "(I)I"⟩
theorem dM_baselineAt_0 : decode cM_baselineAt 0 = .ok (.sipush 24980, 3) := by decide +kernel
theorem dM_baselineAt_3 : decode cM_baselineAt 3 = .ok (.bipush 26, 2) := by decide +kernel
theorem dM_baselineAt_5 : decode cM_baselineAt 5 = .ok (.iload_n 1, 1) := by decide +kernel
theorem dM_baselineAt_6 : decode cM_baselineAt 6 = .ok (.imul, 1) := by decide +kernel
theorem dM_baselineAt_7 : decode cM_baselineAt 7 = .ok (.iadd, 1) := by decide +kernel
theorem dM_baselineAt_8 : decode cM_baselineAt 8 = .ok (.ireturn, 1) := by decide +kernel
abbrev cM_parts : ByteArray := prog_9_method_19_code
abbrev yM_parts : MethodName := ⟨"DrawingVaultModel", "parts", "(I)I"⟩
theorem dM_parts_0 : decode cM_parts 0 = .ok (.iload_n 0, 1) := by decide +kernel
theorem dM_parts_1 : decode cM_parts 1 = .ok (.bipush 7, 2) := by decide +kernel
theorem dM_parts_3 : decode cM_parts 3 = .ok (.iadd, 1) := by decide +kernel
theorem dM_parts_4 : decode cM_parts 4 = .ok (.bipush 8, 2) := by decide +kernel
theorem dM_parts_6 : decode cM_parts 6 = .ok (.idiv, 1) := by decide +kernel
theorem dM_parts_7 : decode cM_parts 7 = .ok (.ireturn, 1) := by decide +kernel
abbrev cM_least : ByteArray := prog_9_method_26_code
abbrev yM_least : MethodName := ⟨"DrawingVaultModel", "least", "(ZII)I"⟩
theorem dM_least_0 : decode cM_least 0 = .ok (.iload_n 0, 1) := by decide +kernel
theorem dM_least_1 : decode cM_least 1 = .ok (.ifCond .eq 16, 3) := by decide +kernel
theorem dM_least_4 : decode cM_least 4 = .ok (.iload_n 2, 1) := by decide +kernel
theorem dM_least_5 : decode cM_least 5 = .ok (.ifCond .eq 8, 3) := by decide +kernel
theorem dM_least_8 : decode cM_least 8 = .ok (.iload_n 1, 1) := by decide +kernel
theorem dM_least_9 : decode cM_least 9 = .ok (.iload_n 2, 1) := by decide +kernel
theorem dM_least_10 : decode cM_least 10 = .ok (.if_icmp .ge 7, 3) := by decide +kernel
theorem dM_least_13 : decode cM_least 13 = .ok (.iload_n 1, 1) := by decide +kernel
theorem dM_least_14 : decode cM_least 14 = .ok (.goto 4, 3) := by decide +kernel
theorem dM_least_17 : decode cM_least 17 = .ok (.iload_n 2, 1) := by decide +kernel
theorem dM_least_18 : decode cM_least 18 = .ok (.ireturn, 1) := by decide +kernel
abbrev cM_allRevisions : ByteArray := prog_9_method_18_code
abbrev yM_allRevisions : MethodName := ⟨"DrawingVaultModel", "allRevisions", "()I"⟩
theorem dM_allRevisions_0 : decode cM_allRevisions 0 = .ok (.iconst 0, 1) := by decide +kernel
theorem dM_allRevisions_1 : decode cM_allRevisions 1 = .ok (.istore_n 1, 1) := by decide +kernel
theorem dM_allRevisions_2 : decode cM_allRevisions 2 = .ok (.iconst 0, 1) := by decide +kernel
theorem dM_allRevisions_3 : decode cM_allRevisions 3 = .ok (.istore_n 2, 1) := by decide +kernel
theorem dM_allRevisions_4 : decode cM_allRevisions 4 = .ok (.iload_n 2, 1) := by decide +kernel
theorem dM_allRevisions_5 : decode cM_allRevisions 5 = .ok (.aload_n 0, 1) := by decide +kernel
theorem dM_allRevisions_6 : decode cM_allRevisions 6 = .ok (.getfield 7, 3) := by decide +kernel
theorem dM_allRevisions_9 : decode cM_allRevisions 9 = .ok (.bipush 16, 2) := by decide +kernel
theorem dM_allRevisions_11 : decode cM_allRevisions 11 = .ok (.iaload, 1) := by decide +kernel
theorem dM_allRevisions_12 : decode cM_allRevisions 12 = .ok (.if_icmp .ge 17, 3) := by decide +kernel
theorem dM_allRevisions_29 : decode cM_allRevisions 29 = .ok (.iload_n 1, 1) := by decide +kernel
theorem dM_allRevisions_30 : decode cM_allRevisions 30 = .ok (.ireturn, 1) := by decide +kernel
abbrev cM_may : ByteArray := prog_9_method_29_code
abbrev yM_may : MethodName := ⟨"DrawingVaultModel", "may", "(II)Z"⟩
theorem dM_may_0 : decode cM_may 0 = .ok (.iload_n 1, 1) := by decide +kernel
theorem dM_may_1 : decode cM_may 1 = .ok (.ifCond .ne 19, 3) := by decide +kernel
theorem dM_may_20 : decode cM_may 20 = .ok (.iload_n 1, 1) := by decide +kernel
theorem dM_may_21 : decode cM_may 21 = .ok (.istore_n 3, 1) := by decide +kernel
theorem dM_may_22 : decode cM_may 22 = .ok (.aload_n 0, 1) := by decide +kernel
theorem dM_may_23 : decode cM_may 23 = .ok (.aload_n 0, 1) := by decide +kernel
theorem dM_may_24 : decode cM_may 24 = .ok (.getfield 102, 3) := by decide +kernel
theorem dM_may_27 : decode cM_may 27 = .ok (.ifCond .eq 7, 3) := by decide +kernel
theorem dM_may_34 : decode cM_may 34 = .ok (.iconst 0, 1) := by decide +kernel
theorem dM_may_35 : decode cM_may 35 = .ok (.putfield 33, 3) := by decide +kernel
theorem dM_may_38 : decode cM_may 38 = .ok (.aload_n 0, 1) := by decide +kernel
theorem dM_may_39 : decode cM_may 39 = .ok (.getfield 102, 3) := by decide +kernel
theorem dM_may_42 : decode cM_may 42 = .ok (.ifCond .eq 5, 3) := by decide +kernel
theorem dM_may_47 : decode cM_may 47 = .ok (.iload_n 3, 1) := by decide +kernel
theorem dM_may_48 : decode cM_may 48 = .ok (.ifCond .ne 31, 3) := by decide +kernel
theorem dM_may_79 : decode cM_may 79 = .ok (.aload_n 0, 1) := by decide +kernel
theorem dM_may_80 : decode cM_may 80 = .ok (.iload_n 3, 1) := by decide +kernel
theorem dM_may_81 : decode cM_may 81 = .ok (.putfield 106, 3) := by decide +kernel
theorem dM_may_84 : decode cM_may 84 = .ok (.iload_n 3, 1) := by decide +kernel
theorem dM_may_85 : decode cM_may 85 = .ok (.ifCond .le 5, 3) := by decide +kernel
theorem dM_may_88 : decode cM_may 88 = .ok (.iconst 0, 1) := by decide +kernel
theorem dM_may_89 : decode cM_may 89 = .ok (.ireturn, 1) := by decide +kernel
abbrev cM_mayHere : ByteArray := prog_9_method_38_code
abbrev yM_mayHere : MethodName := ⟨"DrawingVaultModel", "mayHere", "(I)Z"⟩
theorem dM_mayHere_0 : decode cM_mayHere 0 = .ok (.aload_n 0, 1) := by decide +kernel
theorem dM_mayHere_1 : decode cM_mayHere 1 = .ok (.aload_n 0, 1) := by decide +kernel
theorem dM_mayHere_2 : decode cM_mayHere 2 = .ok (.getfield 102, 3) := by decide +kernel
theorem dM_mayHere_5 : decode cM_mayHere 5 = .ok (.ifCond .eq 7, 3) := by decide +kernel
theorem dM_mayHere_12 : decode cM_mayHere 12 = .ok (.iconst 0, 1) := by decide +kernel
theorem dM_mayHere_13 : decode cM_mayHere 13 = .ok (.putfield 33, 3) := by decide +kernel
theorem dM_mayHere_16 : decode cM_mayHere 16 = .ok (.aload_n 0, 1) := by decide +kernel
theorem dM_mayHere_17 : decode cM_mayHere 17 = .ok (.getfield 102, 3) := by decide +kernel
theorem dM_mayHere_20 : decode cM_mayHere 20 = .ok (.ifCond .eq 5, 3) := by decide +kernel
theorem dM_mayHere_25 : decode cM_mayHere 25 = .ok (.aload_n 0, 1) := by decide +kernel
theorem dM_mayHere_26 : decode cM_mayHere 26 = .ok (.iload_n 1, 1) := by decide +kernel
theorem dM_mayHere_27 : decode cM_mayHere 27 = .ok (.putfield 106, 3) := by decide +kernel
theorem dM_mayHere_30 : decode cM_mayHere 30 = .ok (.iload_n 1, 1) := by decide +kernel
theorem dM_mayHere_31 : decode cM_mayHere 31 = .ok (.ifCond .ne 7, 3) := by decide +kernel
theorem dM_mayHere_38 : decode cM_mayHere 38 = .ok (.iconst 0, 1) := by decide +kernel
theorem dM_mayHere_39 : decode cM_mayHere 39 = .ok (.ireturn, 1) := by decide +kernel
abbrev cM_whyNot : ByteArray := prog_9_method_36_code
abbrev yM_whyNot : MethodName := ⟨"DrawingVaultModel", "whyNot", "(II)I"⟩
theorem dM_whyNot_0 : decode cM_whyNot 0 = .ok (.aload_n 0, 1) := by decide +kernel
theorem dM_whyNot_1 : decode cM_whyNot 1 = .ok (.iload_n 1, 1) := by decide +kernel
theorem dM_whyNot_2 : decode cM_whyNot 2 = .ok (.invokevirtual 44, 3) := by decide +kernel
theorem dM_whyNot_5 : decode cM_whyNot 5 = .ok (.istore_n 3, 1) := by decide +kernel
theorem dM_whyNot_6 : decode cM_whyNot 6 = .ok (.aload_n 0, 1) := by decide +kernel
theorem dM_whyNot_7 : decode cM_whyNot 7 = .ok (.iload_n 2, 1) := by decide +kernel
theorem dM_whyNot_8 : decode cM_whyNot 8 = .ok (.invokevirtual 118, 3) := by decide +kernel
theorem dM_whyNot_11 : decode cM_whyNot 11 = .ok (.ifCond .ne 7, 3) := by decide +kernel
theorem dM_whyNot_14 : decode cM_whyNot 14 = .ok (.iconst 1, 1) := by decide +kernel
theorem dM_whyNot_15 : decode cM_whyNot 15 = .ok (.goto 4, 3) := by decide +kernel
theorem dM_whyNot_19 : decode cM_whyNot 19 = .ok (.iconst 1, 1) := by decide +kernel
theorem dM_whyNot_20 : decode cM_whyNot 20 = .ok (.iload_n 3, 1) := by decide +kernel
theorem dM_whyNot_21 : decode cM_whyNot 21 = .ok (.ifCond .ne 7, 3) := by decide +kernel
theorem dM_whyNot_24 : decode cM_whyNot 24 = .ok (.iconst 1, 1) := by decide +kernel
theorem dM_whyNot_25 : decode cM_whyNot 25 = .ok (.goto 4, 3) := by decide +kernel
theorem dM_whyNot_29 : decode cM_whyNot 29 = .ok (.bipush 7, 2) := by decide +kernel
theorem dM_whyNot_31 : decode cM_whyNot 31 = .ok (.iload_n 3, 1) := by decide +kernel
theorem dM_whyNot_32 : decode cM_whyNot 32 = .ok (.ifCond .eq 24, 3) := by decide +kernel
theorem dM_whyNot_56 : decode cM_whyNot 56 = .ok (.iconst 0, 1) := by decide +kernel
theorem dM_whyNot_57 : decode cM_whyNot 57 = .ok (.iconst 2, 1) := by decide +kernel
theorem dM_whyNot_58 : decode cM_whyNot 58 = .ok (.iconst 0, 1) := by decide +kernel
theorem dM_whyNot_59 : decode cM_whyNot 59 = .ok (.invokestatic 121, 3) := by decide +kernel
theorem dM_whyNot_62 : decode cM_whyNot 62 = .ok (.invokestatic 121, 3) := by decide +kernel
theorem dM_whyNot_65 : decode cM_whyNot 65 = .ok (.invokestatic 121, 3) := by decide +kernel
theorem dM_whyNot_68 : decode cM_whyNot 68 = .ok (.ireturn, 1) := by decide +kernel
abbrev cM_whyNotRevision : ByteArray := prog_9_method_49_code
abbrev yM_whyNotRevision : MethodName := ⟨"DrawingVaultModel", "whyNotRevision", "(IIII)I"⟩
theorem dM_whyNotRevision_0 : decode cM_whyNotRevision 0 = .ok (.aload_n 0, 1) := by decide +kernel
theorem dM_whyNotRevision_1 : decode cM_whyNotRevision 1 = .ok (.iload_n 3, 1) := by decide +kernel
theorem dM_whyNotRevision_2 : decode cM_whyNotRevision 2 = .ok (.invokevirtual 118, 3) := by decide +kernel
theorem dM_whyNotRevision_5 : decode cM_whyNotRevision 5 = .ok (.iload 4, 2) := by decide +kernel
theorem dM_whyNotRevision_7 : decode cM_whyNotRevision 7 = .ok (.iand, 1) := by decide +kernel
theorem dM_whyNotRevision_8 : decode cM_whyNotRevision 8 = .ok (.ifCond .ne 7, 3) := by decide +kernel
theorem dM_whyNotRevision_11 : decode cM_whyNotRevision 11 = .ok (.iconst 1, 1) := by decide +kernel
theorem dM_whyNotRevision_12 : decode cM_whyNotRevision 12 = .ok (.goto 4, 3) := by decide +kernel
theorem dM_whyNotRevision_16 : decode cM_whyNotRevision 16 = .ok (.iconst 1, 1) := by decide +kernel
theorem dM_whyNotRevision_17 : decode cM_whyNotRevision 17 = .ok (.aload_n 0, 1) := by decide +kernel
theorem dM_whyNotRevision_18 : decode cM_whyNotRevision 18 = .ok (.iload_n 1, 1) := by decide +kernel
theorem dM_whyNotRevision_19 : decode cM_whyNotRevision 19 = .ok (.iload_n 2, 1) := by decide +kernel
theorem dM_whyNotRevision_20 : decode cM_whyNotRevision 20 = .ok (.invokevirtual 79, 3) := by decide +kernel
theorem dM_whyNotRevision_23 : decode cM_whyNotRevision 23 = .ok (.ifCond .ne 7, 3) := by decide +kernel
theorem dM_whyNotRevision_26 : decode cM_whyNotRevision 26 = .ok (.iconst 1, 1) := by decide +kernel
theorem dM_whyNotRevision_27 : decode cM_whyNotRevision 27 = .ok (.goto 4, 3) := by decide +kernel
theorem dM_whyNotRevision_31 : decode cM_whyNotRevision 31 = .ok (.bipush 7, 2) := by decide +kernel
theorem dM_whyNotRevision_33 : decode cM_whyNotRevision 33 = .ok (.iconst 0, 1) := by decide +kernel
theorem dM_whyNotRevision_34 : decode cM_whyNotRevision 34 = .ok (.invokestatic 121, 3) := by decide +kernel
theorem dM_whyNotRevision_37 : decode cM_whyNotRevision 37 = .ok (.invokestatic 121, 3) := by decide +kernel
theorem dM_whyNotRevision_40 : decode cM_whyNotRevision 40 = .ok (.ireturn, 1) := by decide +kernel
abbrev cM_drawing : ByteArray := prog_9_method_33_code
abbrev yM_drawing : MethodName := ⟨"DrawingVaultModel", "drawing", "(I)I"⟩
theorem dM_drawing_0 : decode cM_drawing 0 = .ok (.aload_n 0, 1) := by decide +kernel
theorem dM_drawing_1 : decode cM_drawing 1 = .ok (.iload_n 1, 1) := by decide +kernel
theorem dM_drawing_2 : decode cM_drawing 2 = .ok (.invokevirtual 118, 3) := by decide +kernel
theorem dM_drawing_5 : decode cM_drawing 5 = .ok (.iconst 1, 1) := by decide +kernel
theorem dM_drawing_6 : decode cM_drawing 6 = .ok (.iand, 1) := by decide +kernel
theorem dM_drawing_7 : decode cM_drawing 7 = .ok (.ifCond .ne 7, 3) := by decide +kernel
theorem dM_drawing_10 : decode cM_drawing 10 = .ok (.iconst 1, 1) := by decide +kernel
theorem dM_drawing_11 : decode cM_drawing 11 = .ok (.goto 4, 3) := by decide +kernel
theorem dM_drawing_15 : decode cM_drawing 15 = .ok (.iconst 1, 1) := by decide +kernel
theorem dM_drawing_16 : decode cM_drawing 16 = .ok (.aload_n 0, 1) := by decide +kernel
theorem dM_drawing_17 : decode cM_drawing 17 = .ok (.getfield 7, 3) := by decide +kernel
theorem dM_drawing_20 : decode cM_drawing 20 = .ok (.bipush 16, 2) := by decide +kernel
theorem dM_drawing_22 : decode cM_drawing 22 = .ok (.iaload, 1) := by decide +kernel
theorem dM_drawing_23 : decode cM_drawing 23 = .ok (.bipush 24, 2) := by decide +kernel
theorem dM_drawing_25 : decode cM_drawing 25 = .ok (.if_icmp .eq 12, 3) := by decide +kernel
theorem dM_drawing_28 : decode cM_drawing 28 = .ok (.aload_n 0, 1) := by decide +kernel
theorem dM_drawing_29 : decode cM_drawing 29 = .ok (.invokevirtual 92, 3) := by decide +kernel
theorem dM_drawing_32 : decode cM_drawing 32 = .ok (.bipush 100, 2) := by decide +kernel
theorem dM_drawing_34 : decode cM_drawing 34 = .ok (.if_icmp .ne 7, 3) := by decide +kernel
theorem dM_drawing_41 : decode cM_drawing 41 = .ok (.iconst 0, 1) := by decide +kernel
theorem dM_drawing_42 : decode cM_drawing 42 = .ok (.bipush 8, 2) := by decide +kernel
theorem dM_drawing_44 : decode cM_drawing 44 = .ok (.iconst 0, 1) := by decide +kernel
theorem dM_drawing_45 : decode cM_drawing 45 = .ok (.invokestatic 121, 3) := by decide +kernel
theorem dM_drawing_48 : decode cM_drawing 48 = .ok (.invokestatic 121, 3) := by decide +kernel
theorem dM_drawing_51 : decode cM_drawing 51 = .ok (.istore_n 2, 1) := by decide +kernel
theorem dM_drawing_52 : decode cM_drawing 52 = .ok (.aload_n 0, 1) := by decide +kernel
theorem dM_drawing_53 : decode cM_drawing 53 = .ok (.iload_n 2, 1) := by decide +kernel
theorem dM_drawing_54 : decode cM_drawing 54 = .ok (.iconst 2, 1) := by decide +kernel
theorem dM_drawing_55 : decode cM_drawing 55 = .ok (.invokevirtual 112, 3) := by decide +kernel
theorem dM_drawing_58 : decode cM_drawing 58 = .ok (.ifCond .ne 16, 3) := by decide +kernel
theorem dM_drawing_61 : decode cM_drawing 61 = .ok (.aload_n 0, 1) := by decide +kernel
theorem dM_drawing_62 : decode cM_drawing 62 = .ok (.getfield 33, 3) := by decide +kernel
theorem dM_drawing_65 : decode cM_drawing 65 = .ok (.ifCond .le 7, 3) := by decide +kernel
theorem dM_drawing_72 : decode cM_drawing 72 = .ok (.iconst (-1), 1) := by decide +kernel
theorem dM_drawing_73 : decode cM_drawing 73 = .ok (.ireturn, 1) := by decide +kernel
abbrev cM_out : ByteArray := prog_9_method_35_code
abbrev yM_out : MethodName := ⟨"DrawingVaultModel", "out", "(II)Z"⟩
theorem dM_out_0 : decode cM_out 0 = .ok (.aload_n 0, 1) := by decide +kernel
theorem dM_out_1 : decode cM_out 1 = .ok (.iload_n 1, 1) := by decide +kernel
theorem dM_out_2 : decode cM_out 2 = .ok (.invokevirtual 44, 3) := by decide +kernel
theorem dM_out_5 : decode cM_out 5 = .ok (.istore_n 3, 1) := by decide +kernel
theorem dM_out_6 : decode cM_out 6 = .ok (.aload_n 0, 1) := by decide +kernel
theorem dM_out_7 : decode cM_out 7 = .ok (.iload_n 2, 1) := by decide +kernel
theorem dM_out_8 : decode cM_out 8 = .ok (.invokevirtual 118, 3) := by decide +kernel
theorem dM_out_11 : decode cM_out 11 = .ok (.ifCond .ne 7, 3) := by decide +kernel
theorem dM_out_14 : decode cM_out 14 = .ok (.iconst 1, 1) := by decide +kernel
theorem dM_out_15 : decode cM_out 15 = .ok (.goto 4, 3) := by decide +kernel
theorem dM_out_19 : decode cM_out 19 = .ok (.iconst 1, 1) := by decide +kernel
theorem dM_out_20 : decode cM_out 20 = .ok (.iload_n 3, 1) := by decide +kernel
theorem dM_out_21 : decode cM_out 21 = .ok (.ifCond .ne 7, 3) := by decide +kernel
theorem dM_out_24 : decode cM_out 24 = .ok (.iconst 1, 1) := by decide +kernel
theorem dM_out_25 : decode cM_out 25 = .ok (.goto 4, 3) := by decide +kernel
theorem dM_out_29 : decode cM_out 29 = .ok (.bipush 7, 2) := by decide +kernel
theorem dM_out_31 : decode cM_out 31 = .ok (.iload_n 3, 1) := by decide +kernel
theorem dM_out_32 : decode cM_out 32 = .ok (.ifCond .eq 23, 3) := by decide +kernel
theorem dM_out_55 : decode cM_out 55 = .ok (.iconst 0, 1) := by decide +kernel
theorem dM_out_56 : decode cM_out 56 = .ok (.iconst 2, 1) := by decide +kernel
theorem dM_out_57 : decode cM_out 57 = .ok (.iconst 0, 1) := by decide +kernel
theorem dM_out_58 : decode cM_out 58 = .ok (.invokestatic 121, 3) := by decide +kernel
theorem dM_out_61 : decode cM_out 61 = .ok (.invokestatic 121, 3) := by decide +kernel
theorem dM_out_64 : decode cM_out 64 = .ok (.invokestatic 121, 3) := by decide +kernel
theorem dM_out_67 : decode cM_out 67 = .ok (.istore 4, 2) := by decide +kernel
theorem dM_out_69 : decode cM_out 69 = .ok (.aload_n 0, 1) := by decide +kernel
theorem dM_out_70 : decode cM_out 70 = .ok (.iload 4, 2) := by decide +kernel
theorem dM_out_72 : decode cM_out 72 = .ok (.iconst 1, 1) := by decide +kernel
theorem dM_out_73 : decode cM_out 73 = .ok (.invokevirtual 112, 3) := by decide +kernel
theorem dM_out_76 : decode cM_out 76 = .ok (.ifCond .ne 5, 3) := by decide +kernel
theorem dM_out_79 : decode cM_out 79 = .ok (.iconst 0, 1) := by decide +kernel
theorem dM_out_80 : decode cM_out 80 = .ok (.ireturn, 1) := by decide +kernel
abbrev cM_undo : ByteArray := prog_9_method_37_code
abbrev yM_undo : MethodName := ⟨"DrawingVaultModel", "undo", "(II)Z"⟩
theorem dM_undo_0 : decode cM_undo 0 = .ok (.aload_n 0, 1) := by decide +kernel
theorem dM_undo_1 : decode cM_undo 1 = .ok (.aload_n 0, 1) := by decide +kernel
theorem dM_undo_2 : decode cM_undo 2 = .ok (.iload_n 1, 1) := by decide +kernel
theorem dM_undo_3 : decode cM_undo 3 = .ok (.iload_n 2, 1) := by decide +kernel
theorem dM_undo_4 : decode cM_undo 4 = .ok (.invokevirtual 133, 3) := by decide +kernel
theorem dM_undo_7 : decode cM_undo 7 = .ok (.iconst 1, 1) := by decide +kernel
theorem dM_undo_8 : decode cM_undo 8 = .ok (.invokevirtual 112, 3) := by decide +kernel
theorem dM_undo_11 : decode cM_undo 11 = .ok (.ifCond .ne 5, 3) := by decide +kernel
theorem dM_undo_14 : decode cM_undo 14 = .ok (.iconst 0, 1) := by decide +kernel
theorem dM_undo_15 : decode cM_undo 15 = .ok (.ireturn, 1) := by decide +kernel
abbrev cM_put : ByteArray := prog_9_method_39_code
abbrev yM_put : MethodName := ⟨"DrawingVaultModel", "put", "(IIII)Z"⟩
theorem dM_put_0 : decode cM_put 0 = .ok (.aload_n 0, 1) := by decide +kernel
theorem dM_put_1 : decode cM_put 1 = .ok (.iload_n 1, 1) := by decide +kernel
theorem dM_put_2 : decode cM_put 2 = .ok (.iload_n 2, 1) := by decide +kernel
theorem dM_put_3 : decode cM_put 3 = .ok (.invokevirtual 133, 3) := by decide +kernel
theorem dM_put_6 : decode cM_put 6 = .ok (.istore 5, 2) := by decide +kernel
theorem dM_put_8 : decode cM_put 8 = .ok (.iload 5, 2) := by decide +kernel
theorem dM_put_10 : decode cM_put 10 = .ok (.ifCond .ne 49, 3) := by decide +kernel
theorem dM_put_59 : decode cM_put 59 = .ok (.iconst 0, 1) := by decide +kernel
theorem dM_put_60 : decode cM_put 60 = .ok (.istore 6, 2) := by decide +kernel
theorem dM_put_62 : decode cM_put 62 = .ok (.aload_n 0, 1) := by decide +kernel
theorem dM_put_63 : decode cM_put 63 = .ok (.iload 5, 2) := by decide +kernel
theorem dM_put_65 : decode cM_put 65 = .ok (.ifCond .ne 13, 3) := by decide +kernel
theorem dM_put_78 : decode cM_put 78 = .ok (.iload 5, 2) := by decide +kernel
theorem dM_put_80 : decode cM_put 80 = .ok (.invokevirtual 136, 3) := by decide +kernel
theorem dM_put_83 : decode cM_put 83 = .ok (.ifCond .ne 5, 3) := by decide +kernel
theorem dM_put_86 : decode cM_put 86 = .ok (.iconst 0, 1) := by decide +kernel
theorem dM_put_87 : decode cM_put 87 = .ok (.ireturn, 1) := by decide +kernel
abbrev cM_resize : ByteArray := prog_9_method_40_code
abbrev yM_resize : MethodName := ⟨"DrawingVaultModel", "resize", "(III)Z"⟩
theorem dM_resize_0 : decode cM_resize 0 = .ok (.aload_n 0, 1) := by decide +kernel
theorem dM_resize_1 : decode cM_resize 1 = .ok (.iload_n 1, 1) := by decide +kernel
theorem dM_resize_2 : decode cM_resize 2 = .ok (.iload_n 2, 1) := by decide +kernel
theorem dM_resize_3 : decode cM_resize 3 = .ok (.invokevirtual 133, 3) := by decide +kernel
theorem dM_resize_6 : decode cM_resize 6 = .ok (.istore 4, 2) := by decide +kernel
theorem dM_resize_8 : decode cM_resize 8 = .ok (.aload_n 0, 1) := by decide +kernel
theorem dM_resize_9 : decode cM_resize 9 = .ok (.iload 4, 2) := by decide +kernel
theorem dM_resize_11 : decode cM_resize 11 = .ok (.ifCond .ne 18, 3) := by decide +kernel
theorem dM_resize_29 : decode cM_resize 29 = .ok (.iload 4, 2) := by decide +kernel
theorem dM_resize_31 : decode cM_resize 31 = .ok (.invokevirtual 136, 3) := by decide +kernel
theorem dM_resize_34 : decode cM_resize 34 = .ok (.ifCond .ne 5, 3) := by decide +kernel
theorem dM_resize_37 : decode cM_resize 37 = .ok (.iconst 0, 1) := by decide +kernel
theorem dM_resize_38 : decode cM_resize 38 = .ok (.ireturn, 1) := by decide +kernel
abbrev cM_ref : ByteArray := prog_9_method_41_code
abbrev yM_ref : MethodName := ⟨"DrawingVaultModel", "ref", "(IIIII)Z"⟩
theorem dM_ref_0 : decode cM_ref 0 = .ok (.aload_n 0, 1) := by decide +kernel
theorem dM_ref_1 : decode cM_ref 1 = .ok (.iload_n 1, 1) := by decide +kernel
theorem dM_ref_2 : decode cM_ref 2 = .ok (.iload_n 2, 1) := by decide +kernel
theorem dM_ref_3 : decode cM_ref 3 = .ok (.invokevirtual 133, 3) := by decide +kernel
theorem dM_ref_6 : decode cM_ref 6 = .ok (.istore 6, 2) := by decide +kernel
theorem dM_ref_8 : decode cM_ref 8 = .ok (.iload 6, 2) := by decide +kernel
theorem dM_ref_10 : decode cM_ref 10 = .ok (.ifCond .ne 18, 3) := by decide +kernel
theorem dM_ref_28 : decode cM_ref 28 = .ok (.iconst 0, 1) := by decide +kernel
theorem dM_ref_29 : decode cM_ref 29 = .ok (.istore 7, 2) := by decide +kernel
theorem dM_ref_31 : decode cM_ref 31 = .ok (.iload_n 3, 1) := by decide +kernel
theorem dM_ref_32 : decode cM_ref 32 = .ok (.ifCond .lt 24, 3) := by decide +kernel
theorem dM_ref_35 : decode cM_ref 35 = .ok (.iload_n 3, 1) := by decide +kernel
theorem dM_ref_36 : decode cM_ref 36 = .ok (.iload 7, 2) := by decide +kernel
theorem dM_ref_38 : decode cM_ref 38 = .ok (.if_icmp .gt 18, 3) := by decide +kernel
theorem dM_ref_41 : decode cM_ref 41 = .ok (.aload_n 0, 1) := by decide +kernel
theorem dM_ref_42 : decode cM_ref 42 = .ok (.iload 4, 2) := by decide +kernel
theorem dM_ref_44 : decode cM_ref 44 = .ok (.invokevirtual 44, 3) := by decide +kernel
theorem dM_ref_47 : decode cM_ref 47 = .ok (.ifCond .eq 9, 3) := by decide +kernel
theorem dM_ref_56 : decode cM_ref 56 = .ok (.iconst 1, 1) := by decide +kernel
theorem dM_ref_57 : decode cM_ref 57 = .ok (.goto 4, 3) := by decide +kernel
theorem dM_ref_61 : decode cM_ref 61 = .ok (.istore 8, 2) := by decide +kernel
theorem dM_ref_63 : decode cM_ref 63 = .ok (.iload 6, 2) := by decide +kernel
theorem dM_ref_65 : decode cM_ref 65 = .ok (.ifCond .le 8, 3) := by decide +kernel
theorem dM_ref_68 : decode cM_ref 68 = .ok (.iload 6, 2) := by decide +kernel
theorem dM_ref_70 : decode cM_ref 70 = .ok (.goto 25, 3) := by decide +kernel
theorem dM_ref_95 : decode cM_ref 95 = .ok (.istore 9, 2) := by decide +kernel
theorem dM_ref_97 : decode cM_ref 97 = .ok (.aload_n 0, 1) := by decide +kernel
theorem dM_ref_98 : decode cM_ref 98 = .ok (.iload 9, 2) := by decide +kernel
theorem dM_ref_100 : decode cM_ref 100 = .ok (.invokevirtual 136, 3) := by decide +kernel
theorem dM_ref_103 : decode cM_ref 103 = .ok (.ifCond .ne 5, 3) := by decide +kernel
theorem dM_ref_106 : decode cM_ref 106 = .ok (.iconst 0, 1) := by decide +kernel
theorem dM_ref_107 : decode cM_ref 107 = .ok (.ireturn, 1) := by decide +kernel
abbrev cM_drop : ByteArray := prog_9_method_42_code
abbrev yM_drop : MethodName := ⟨"DrawingVaultModel", "drop", "(III)Z"⟩
theorem dM_drop_0 : decode cM_drop 0 = .ok (.aload_n 0, 1) := by decide +kernel
theorem dM_drop_1 : decode cM_drop 1 = .ok (.iload_n 1, 1) := by decide +kernel
theorem dM_drop_2 : decode cM_drop 2 = .ok (.iload_n 2, 1) := by decide +kernel
theorem dM_drop_3 : decode cM_drop 3 = .ok (.invokevirtual 133, 3) := by decide +kernel
theorem dM_drop_6 : decode cM_drop 6 = .ok (.istore 4, 2) := by decide +kernel
theorem dM_drop_8 : decode cM_drop 8 = .ok (.iload 4, 2) := by decide +kernel
theorem dM_drop_10 : decode cM_drop 10 = .ok (.ifCond .ne 36, 3) := by decide +kernel
theorem dM_drop_46 : decode cM_drop 46 = .ok (.iconst 0, 1) := by decide +kernel
theorem dM_drop_47 : decode cM_drop 47 = .ok (.istore 5, 2) := by decide +kernel
theorem dM_drop_49 : decode cM_drop 49 = .ok (.aload_n 0, 1) := by decide +kernel
theorem dM_drop_50 : decode cM_drop 50 = .ok (.iload 4, 2) := by decide +kernel
theorem dM_drop_52 : decode cM_drop 52 = .ok (.ifCond .ne 13, 3) := by decide +kernel
theorem dM_drop_65 : decode cM_drop 65 = .ok (.iload 4, 2) := by decide +kernel
theorem dM_drop_67 : decode cM_drop 67 = .ok (.invokevirtual 136, 3) := by decide +kernel
theorem dM_drop_70 : decode cM_drop 70 = .ok (.ifCond .ne 5, 3) := by decide +kernel
theorem dM_drop_73 : decode cM_drop 73 = .ok (.iconst 0, 1) := by decide +kernel
theorem dM_drop_74 : decode cM_drop 74 = .ok (.ireturn, 1) := by decide +kernel
abbrev cM_checkIn : ByteArray := prog_9_method_48_code
abbrev yM_checkIn : MethodName := ⟨"DrawingVaultModel", "checkIn", "(II)I"⟩
theorem dM_checkIn_0 : decode cM_checkIn 0 = .ok (.aload_n 0, 1) := by decide +kernel
theorem dM_checkIn_1 : decode cM_checkIn 1 = .ok (.iload_n 1, 1) := by decide +kernel
theorem dM_checkIn_2 : decode cM_checkIn 2 = .ok (.iload_n 2, 1) := by decide +kernel
theorem dM_checkIn_3 : decode cM_checkIn 3 = .ok (.invokevirtual 133, 3) := by decide +kernel
theorem dM_checkIn_6 : decode cM_checkIn 6 = .ok (.istore_n 3, 1) := by decide +kernel
theorem dM_checkIn_7 : decode cM_checkIn 7 = .ok (.iconst 2, 1) := by decide +kernel
theorem dM_checkIn_8 : decode cM_checkIn 8 = .ok (.istore 4, 2) := by decide +kernel
theorem dM_checkIn_10 : decode cM_checkIn 10 = .ok (.iload_n 3, 1) := by decide +kernel
theorem dM_checkIn_11 : decode cM_checkIn 11 = .ok (.ifCond .ne 72, 3) := by decide +kernel
theorem dM_checkIn_83 : decode cM_checkIn 83 = .ok (.aload_n 0, 1) := by decide +kernel
theorem dM_checkIn_84 : decode cM_checkIn 84 = .ok (.iload_n 3, 1) := by decide +kernel
theorem dM_checkIn_85 : decode cM_checkIn 85 = .ok (.iload 4, 2) := by decide +kernel
theorem dM_checkIn_87 : decode cM_checkIn 87 = .ok (.invokevirtual 112, 3) := by decide +kernel
theorem dM_checkIn_90 : decode cM_checkIn 90 = .ok (.ifCond .ne 16, 3) := by decide +kernel
theorem dM_checkIn_93 : decode cM_checkIn 93 = .ok (.aload_n 0, 1) := by decide +kernel
theorem dM_checkIn_94 : decode cM_checkIn 94 = .ok (.getfield 33, 3) := by decide +kernel
theorem dM_checkIn_97 : decode cM_checkIn 97 = .ok (.ifCond .le 7, 3) := by decide +kernel
theorem dM_checkIn_104 : decode cM_checkIn 104 = .ok (.iconst (-1), 1) := by decide +kernel
theorem dM_checkIn_105 : decode cM_checkIn 105 = .ok (.ireturn, 1) := by decide +kernel
abbrev cM_check : ByteArray := prog_9_method_50_code
abbrev yM_check : MethodName := ⟨"DrawingVaultModel", "check", "(III)Z"⟩
theorem dM_check_0 : decode cM_check 0 = .ok (.aload_n 0, 1) := by decide +kernel
theorem dM_check_1 : decode cM_check 1 = .ok (.iload_n 1, 1) := by decide +kernel
theorem dM_check_2 : decode cM_check 2 = .ok (.iload_n 2, 1) := by decide +kernel
theorem dM_check_3 : decode cM_check 3 = .ok (.iload_n 3, 1) := by decide +kernel
theorem dM_check_4 : decode cM_check 4 = .ok (.iconst 2, 1) := by decide +kernel
theorem dM_check_5 : decode cM_check 5 = .ok (.invokevirtual 157, 3) := by decide +kernel
theorem dM_check_8 : decode cM_check 8 = .ok (.istore 4, 2) := by decide +kernel
theorem dM_check_10 : decode cM_check 10 = .ok (.aload_n 0, 1) := by decide +kernel
theorem dM_check_11 : decode cM_check 11 = .ok (.iload_n 1, 1) := by decide +kernel
theorem dM_check_12 : decode cM_check 12 = .ok (.iload_n 2, 1) := by decide +kernel
theorem dM_check_13 : decode cM_check 13 = .ok (.invokevirtual 79, 3) := by decide +kernel
theorem dM_check_16 : decode cM_check 16 = .ok (.ifCond .eq 74, 3) := by decide +kernel
theorem dM_check_90 : decode cM_check 90 = .ok (.aload_n 0, 1) := by decide +kernel
theorem dM_check_91 : decode cM_check 91 = .ok (.iload 4, 2) := by decide +kernel
theorem dM_check_93 : decode cM_check 93 = .ok (.iconst 1, 1) := by decide +kernel
theorem dM_check_94 : decode cM_check 94 = .ok (.invokevirtual 112, 3) := by decide +kernel
theorem dM_check_97 : decode cM_check 97 = .ok (.ifCond .ne 5, 3) := by decide +kernel
theorem dM_check_100 : decode cM_check 100 = .ok (.iconst 0, 1) := by decide +kernel
theorem dM_check_101 : decode cM_check 101 = .ok (.ireturn, 1) := by decide +kernel
abbrev cM_release : ByteArray := prog_9_method_52_code
abbrev yM_release : MethodName := ⟨"DrawingVaultModel", "release", "(III)Z"⟩
theorem dM_release_0 : decode cM_release 0 = .ok (.aload_n 0, 1) := by decide +kernel
theorem dM_release_1 : decode cM_release 1 = .ok (.iload_n 1, 1) := by decide +kernel
theorem dM_release_2 : decode cM_release 2 = .ok (.iload_n 2, 1) := by decide +kernel
theorem dM_release_3 : decode cM_release 3 = .ok (.iload_n 3, 1) := by decide +kernel
theorem dM_release_4 : decode cM_release 4 = .ok (.iconst 4, 1) := by decide +kernel
theorem dM_release_5 : decode cM_release 5 = .ok (.invokevirtual 157, 3) := by decide +kernel
theorem dM_release_8 : decode cM_release 8 = .ok (.istore 4, 2) := by decide +kernel
theorem dM_release_10 : decode cM_release 10 = .ok (.aload_n 0, 1) := by decide +kernel
theorem dM_release_11 : decode cM_release 11 = .ok (.iload_n 1, 1) := by decide +kernel
theorem dM_release_12 : decode cM_release 12 = .ok (.iload_n 2, 1) := by decide +kernel
theorem dM_release_13 : decode cM_release 13 = .ok (.invokevirtual 79, 3) := by decide +kernel
theorem dM_release_16 : decode cM_release 16 = .ok (.ifCond .eq 44, 3) := by decide +kernel
theorem dM_release_60 : decode cM_release 60 = .ok (.aload_n 0, 1) := by decide +kernel
theorem dM_release_61 : decode cM_release 61 = .ok (.iload 4, 2) := by decide +kernel
theorem dM_release_63 : decode cM_release 63 = .ok (.iconst 1, 1) := by decide +kernel
theorem dM_release_64 : decode cM_release 64 = .ok (.invokevirtual 112, 3) := by decide +kernel
theorem dM_release_67 : decode cM_release 67 = .ok (.ifCond .ne 5, 3) := by decide +kernel
theorem dM_release_70 : decode cM_release 70 = .ok (.iconst 0, 1) := by decide +kernel
theorem dM_release_71 : decode cM_release 71 = .ok (.ireturn, 1) := by decide +kernel
abbrev cM_withdraw : ByteArray := prog_9_method_54_code
abbrev yM_withdraw : MethodName := ⟨"DrawingVaultModel", "withdraw", "(III)Z"⟩
theorem dM_withdraw_0 : decode cM_withdraw 0 = .ok (.aload_n 0, 1) := by decide +kernel
theorem dM_withdraw_1 : decode cM_withdraw 1 = .ok (.iload_n 1, 1) := by decide +kernel
theorem dM_withdraw_2 : decode cM_withdraw 2 = .ok (.iload_n 2, 1) := by decide +kernel
theorem dM_withdraw_3 : decode cM_withdraw 3 = .ok (.iload_n 3, 1) := by decide +kernel
theorem dM_withdraw_4 : decode cM_withdraw 4 = .ok (.iconst 4, 1) := by decide +kernel
theorem dM_withdraw_5 : decode cM_withdraw 5 = .ok (.invokevirtual 157, 3) := by decide +kernel
theorem dM_withdraw_8 : decode cM_withdraw 8 = .ok (.istore 4, 2) := by decide +kernel
theorem dM_withdraw_10 : decode cM_withdraw 10 = .ok (.aload_n 0, 1) := by decide +kernel
theorem dM_withdraw_11 : decode cM_withdraw 11 = .ok (.iload_n 1, 1) := by decide +kernel
theorem dM_withdraw_12 : decode cM_withdraw 12 = .ok (.iload_n 2, 1) := by decide +kernel
theorem dM_withdraw_13 : decode cM_withdraw 13 = .ok (.invokevirtual 79, 3) := by decide +kernel
theorem dM_withdraw_16 : decode cM_withdraw 16 = .ok (.ifCond .eq 40, 3) := by decide +kernel
theorem dM_withdraw_56 : decode cM_withdraw 56 = .ok (.aload_n 0, 1) := by decide +kernel
theorem dM_withdraw_57 : decode cM_withdraw 57 = .ok (.iload 4, 2) := by decide +kernel
theorem dM_withdraw_59 : decode cM_withdraw 59 = .ok (.iconst 1, 1) := by decide +kernel
theorem dM_withdraw_60 : decode cM_withdraw 60 = .ok (.invokevirtual 112, 3) := by decide +kernel
theorem dM_withdraw_63 : decode cM_withdraw 63 = .ok (.ifCond .ne 5, 3) := by decide +kernel
theorem dM_withdraw_66 : decode cM_withdraw 66 = .ok (.iconst 0, 1) := by decide +kernel
theorem dM_withdraw_67 : decode cM_withdraw 67 = .ok (.ireturn, 1) := by decide +kernel
abbrev cM_why : ByteArray := prog_9_method_58_code
abbrev yM_why : MethodName := ⟨"DrawingVaultModel", "why", "()I"⟩
theorem dM_why_0 : decode cM_why 0 = .ok (.aload_n 0, 1) := by decide +kernel
theorem dM_why_1 : decode cM_why 1 = .ok (.iconst 0, 1) := by decide +kernel
theorem dM_why_2 : decode cM_why 2 = .ok (.putfield 33, 3) := by decide +kernel
theorem dM_why_5 : decode cM_why 5 = .ok (.aload_n 0, 1) := by decide +kernel
theorem dM_why_6 : decode cM_why 6 = .ok (.getfield 106, 3) := by decide +kernel
theorem dM_why_9 : decode cM_why 9 = .ok (.ireturn, 1) := by decide +kernel
abbrev cM_look : ByteArray := prog_9_method_59_code
abbrev yM_look : MethodName := ⟨"DrawingVaultModel", "look", "(III)I"⟩
theorem dM_look_0 : decode cM_look 0 = .ok (.aload_n 0, 1) := by decide +kernel
theorem dM_look_1 : decode cM_look 1 = .ok (.iload_n 1, 1) := by decide +kernel
theorem dM_look_2 : decode cM_look 2 = .ok (.iload_n 2, 1) := by decide +kernel
theorem dM_look_3 : decode cM_look 3 = .ok (.invokevirtual 79, 3) := by decide +kernel
theorem dM_look_6 : decode cM_look 6 = .ok (.istore 4, 2) := by decide +kernel
theorem dM_look_8 : decode cM_look 8 = .ok (.iload 4, 2) := by decide +kernel
theorem dM_look_10 : decode cM_look 10 = .ok (.ifCond .eq 12, 3) := by decide +kernel
theorem dM_look_22 : decode cM_look 22 = .ok (.sipush 1940, 3) := by decide +kernel
theorem dM_look_25 : decode cM_look 25 = .ok (.istore 5, 2) := by decide +kernel
theorem dM_look_27 : decode cM_look 27 = .ok (.aload_n 0, 1) := by decide +kernel
theorem dM_look_28 : decode cM_look 28 = .ok (.iload 4, 2) := by decide +kernel
theorem dM_look_30 : decode cM_look 30 = .ok (.ifCond .eq 38, 3) := by decide +kernel
theorem dM_look_68 : decode cM_look 68 = .ok (.iconst 1, 1) := by decide +kernel
theorem dM_look_69 : decode cM_look 69 = .ok (.putfield 33, 3) := by decide +kernel
theorem dM_look_72 : decode cM_look 72 = .ok (.aload_n 0, 1) := by decide +kernel
theorem dM_look_73 : decode cM_look 73 = .ok (.getfield 33, 3) := by decide +kernel
theorem dM_look_76 : decode cM_look 76 = .ok (.ifCond .le 5, 3) := by decide +kernel
theorem dM_look_79 : decode cM_look 79 = .ok (.iconst 0, 1) := by decide +kernel
theorem dM_look_80 : decode cM_look 80 = .ok (.ireturn, 1) := by decide +kernel
abbrev cM_reference : ByteArray := prog_9_method_60_code
abbrev yM_reference : MethodName := ⟨"DrawingVaultModel", "reference", "(IIII)I"⟩
theorem dM_reference_0 : decode cM_reference 0 = .ok (.aload_n 0, 1) := by decide +kernel
theorem dM_reference_1 : decode cM_reference 1 = .ok (.iload_n 1, 1) := by decide +kernel
theorem dM_reference_2 : decode cM_reference 2 = .ok (.iload_n 2, 1) := by decide +kernel
theorem dM_reference_3 : decode cM_reference 3 = .ok (.invokevirtual 79, 3) := by decide +kernel
theorem dM_reference_6 : decode cM_reference 6 = .ok (.istore 5, 2) := by decide +kernel
theorem dM_reference_8 : decode cM_reference 8 = .ok (.iload 5, 2) := by decide +kernel
theorem dM_reference_10 : decode cM_reference 10 = .ok (.ifCond .eq 12, 3) := by decide +kernel
theorem dM_reference_22 : decode cM_reference 22 = .ok (.sipush 1940, 3) := by decide +kernel
theorem dM_reference_25 : decode cM_reference 25 = .ok (.istore 6, 2) := by decide +kernel
theorem dM_reference_27 : decode cM_reference 27 = .ok (.aload_n 0, 1) := by decide +kernel
theorem dM_reference_28 : decode cM_reference 28 = .ok (.iload 5, 2) := by decide +kernel
theorem dM_reference_30 : decode cM_reference 30 = .ok (.ifCond .eq 35, 3) := by decide +kernel
theorem dM_reference_65 : decode cM_reference 65 = .ok (.iconst 1, 1) := by decide +kernel
theorem dM_reference_66 : decode cM_reference 66 = .ok (.putfield 33, 3) := by decide +kernel
theorem dM_reference_69 : decode cM_reference 69 = .ok (.aload_n 0, 1) := by decide +kernel
theorem dM_reference_70 : decode cM_reference 70 = .ok (.getfield 33, 3) := by decide +kernel
theorem dM_reference_73 : decode cM_reference 73 = .ok (.ifCond .le 5, 3) := by decide +kernel
theorem dM_reference_76 : decode cM_reference 76 = .ok (.iconst 0, 1) := by decide +kernel
theorem dM_reference_77 : decode cM_reference 77 = .ok (.ireturn, 1) := by decide +kernel
abbrev cM_about : ByteArray := prog_9_method_61_code
abbrev yM_about : MethodName := ⟨"DrawingVaultModel", "about", "(II)I"⟩
theorem dM_about_0 : decode cM_about 0 = .ok (.aload_n 0, 1) := by decide +kernel
theorem dM_about_1 : decode cM_about 1 = .ok (.iload_n 1, 1) := by decide +kernel
theorem dM_about_2 : decode cM_about 2 = .ok (.invokevirtual 44, 3) := by decide +kernel
theorem dM_about_5 : decode cM_about 5 = .ok (.istore_n 3, 1) := by decide +kernel
theorem dM_about_6 : decode cM_about 6 = .ok (.iload_n 3, 1) := by decide +kernel
theorem dM_about_7 : decode cM_about 7 = .ok (.ifCond .eq 11, 3) := by decide +kernel
theorem dM_about_18 : decode cM_about 18 = .ok (.bipush 20, 2) := by decide +kernel
theorem dM_about_20 : decode cM_about 20 = .ok (.istore 4, 2) := by decide +kernel
theorem dM_about_22 : decode cM_about 22 = .ok (.iload_n 3, 1) := by decide +kernel
theorem dM_about_23 : decode cM_about 23 = .ok (.ifCond .eq 15, 3) := by decide +kernel
theorem dM_about_38 : decode cM_about 38 = .ok (.iconst 0, 1) := by decide +kernel
theorem dM_about_39 : decode cM_about 39 = .ok (.istore 5, 2) := by decide +kernel
theorem dM_about_41 : decode cM_about 41 = .ok (.iload_n 3, 1) := by decide +kernel
theorem dM_about_42 : decode cM_about 42 = .ok (.ifCond .eq 12, 3) := by decide +kernel
theorem dM_about_54 : decode cM_about 54 = .ok (.iload 5, 2) := by decide +kernel
theorem dM_about_56 : decode cM_about 56 = .ok (.ifCond .eq 25, 3) := by decide +kernel
theorem dM_about_81 : decode cM_about 81 = .ok (.iload 5, 2) := by decide +kernel
theorem dM_about_83 : decode cM_about 83 = .ok (.ifCond .eq 33, 3) := by decide +kernel
theorem dM_about_116 : decode cM_about 116 = .ok (.iconst 0, 1) := by decide +kernel
theorem dM_about_117 : decode cM_about 117 = .ok (.istore 6, 2) := by decide +kernel
theorem dM_about_119 : decode cM_about 119 = .ok (.aload_n 0, 1) := by decide +kernel
theorem dM_about_120 : decode cM_about 120 = .ok (.iload 6, 2) := by decide +kernel
theorem dM_about_122 : decode cM_about 122 = .ok (.ifCond .eq 7, 3) := by decide +kernel
theorem dM_about_129 : decode cM_about 129 = .ok (.iconst 1, 1) := by decide +kernel
theorem dM_about_130 : decode cM_about 130 = .ok (.putfield 33, 3) := by decide +kernel
theorem dM_about_133 : decode cM_about 133 = .ok (.iload 6, 2) := by decide +kernel
theorem dM_about_135 : decode cM_about 135 = .ok (.ifCond .ne 5, 3) := by decide +kernel
theorem dM_about_138 : decode cM_about 138 = .ok (.iconst 0, 1) := by decide +kernel
theorem dM_about_139 : decode cM_about 139 = .ok (.ireturn, 1) := by decide +kernel
abbrev cM_inBaseline : ByteArray := prog_9_method_62_code
abbrev yM_inBaseline : MethodName := ⟨"DrawingVaultModel", "inBaseline", "(III)I"⟩
theorem dM_inBaseline_0 : decode cM_inBaseline 0 = .ok (.iload_n 1, 1) := by decide +kernel
theorem dM_inBaseline_1 : decode cM_inBaseline 1 = .ok (.ifCond .lt 40, 3) := by decide +kernel
theorem dM_inBaseline_4 : decode cM_inBaseline 4 = .ok (.iload_n 1, 1) := by decide +kernel
theorem dM_inBaseline_5 : decode cM_inBaseline 5 = .ok (.bipush 10, 2) := by decide +kernel
theorem dM_inBaseline_7 : decode cM_inBaseline 7 = .ok (.if_icmp .ge 34, 3) := by decide +kernel
theorem dM_inBaseline_10 : decode cM_inBaseline 10 = .ok (.aload_n 0, 1) := by decide +kernel
theorem dM_inBaseline_11 : decode cM_inBaseline 11 = .ok (.getfield 7, 3) := by decide +kernel
theorem dM_inBaseline_14 : decode cM_inBaseline 14 = .ok (.aload_n 0, 1) := by decide +kernel
theorem dM_inBaseline_15 : decode cM_inBaseline 15 = .ok (.iload_n 1, 1) := by decide +kernel
theorem dM_inBaseline_16 : decode cM_inBaseline 16 = .ok (.ifCond .lt 13, 3) := by decide +kernel
theorem dM_inBaseline_19 : decode cM_inBaseline 19 = .ok (.iload_n 1, 1) := by decide +kernel
theorem dM_inBaseline_20 : decode cM_inBaseline 20 = .ok (.bipush 10, 2) := by decide +kernel
theorem dM_inBaseline_22 : decode cM_inBaseline 22 = .ok (.if_icmp .ge 7, 3) := by decide +kernel
theorem dM_inBaseline_25 : decode cM_inBaseline 25 = .ok (.iload_n 1, 1) := by decide +kernel
theorem dM_inBaseline_26 : decode cM_inBaseline 26 = .ok (.goto 4, 3) := by decide +kernel
theorem dM_inBaseline_29 : decode cM_inBaseline 29 = .ok (.iconst 0, 1) := by decide +kernel
theorem dM_inBaseline_30 : decode cM_inBaseline 30 = .ok (.invokevirtual 99, 3) := by decide +kernel
theorem dM_inBaseline_33 : decode cM_inBaseline 33 = .ok (.iaload, 1) := by decide +kernel
theorem dM_inBaseline_34 : decode cM_inBaseline 34 = .ok (.ifCond .le 7, 3) := by decide +kernel
theorem dM_inBaseline_41 : decode cM_inBaseline 41 = .ok (.iconst 0, 1) := by decide +kernel
theorem dM_inBaseline_42 : decode cM_inBaseline 42 = .ok (.istore 4, 2) := by decide +kernel
theorem dM_inBaseline_44 : decode cM_inBaseline 44 = .ok (.iload 4, 2) := by decide +kernel
theorem dM_inBaseline_46 : decode cM_inBaseline 46 = .ok (.ifCond .eq 11, 3) := by decide +kernel
theorem dM_inBaseline_57 : decode cM_inBaseline 57 = .ok (.sipush 24980, 3) := by decide +kernel
theorem dM_inBaseline_60 : decode cM_inBaseline 60 = .ok (.istore 5, 2) := by decide +kernel
theorem dM_inBaseline_62 : decode cM_inBaseline 62 = .ok (.iload 4, 2) := by decide +kernel
theorem dM_inBaseline_64 : decode cM_inBaseline 64 = .ok (.ifCond .eq 45, 3) := by decide +kernel
theorem dM_inBaseline_109 : decode cM_inBaseline 109 = .ok (.iconst 0, 1) := by decide +kernel
theorem dM_inBaseline_110 : decode cM_inBaseline 110 = .ok (.istore 6, 2) := by decide +kernel
theorem dM_inBaseline_112 : decode cM_inBaseline 112 = .ok (.aload_n 0, 1) := by decide +kernel
theorem dM_inBaseline_113 : decode cM_inBaseline 113 = .ok (.iload 6, 2) := by decide +kernel
theorem dM_inBaseline_115 : decode cM_inBaseline 115 = .ok (.ifCond .eq 7, 3) := by decide +kernel
theorem dM_inBaseline_122 : decode cM_inBaseline 122 = .ok (.iconst 1, 1) := by decide +kernel
theorem dM_inBaseline_123 : decode cM_inBaseline 123 = .ok (.putfield 33, 3) := by decide +kernel
theorem dM_inBaseline_126 : decode cM_inBaseline 126 = .ok (.iload 6, 2) := by decide +kernel
theorem dM_inBaseline_128 : decode cM_inBaseline 128 = .ok (.ifCond .ne 5, 3) := by decide +kernel
theorem dM_inBaseline_131 : decode cM_inBaseline 131 = .ok (.iconst 0, 1) := by decide +kernel
theorem dM_inBaseline_132 : decode cM_inBaseline 132 = .ok (.ireturn, 1) := by decide +kernel
abbrev cM_difference : ByteArray := prog_9_method_64_code
abbrev yM_difference : MethodName := ⟨"DrawingVaultModel", "difference", "(IIII)I"⟩
theorem dM_difference_0 : decode cM_difference 0 = .ok (.aload_n 0, 1) := by decide +kernel
theorem dM_difference_1 : decode cM_difference 1 = .ok (.iload_n 1, 1) := by decide +kernel
theorem dM_difference_2 : decode cM_difference 2 = .ok (.iload_n 2, 1) := by decide +kernel
theorem dM_difference_3 : decode cM_difference 3 = .ok (.invokevirtual 79, 3) := by decide +kernel
theorem dM_difference_6 : decode cM_difference 6 = .ok (.ifCond .eq 16, 3) := by decide +kernel
theorem dM_difference_22 : decode cM_difference 22 = .ok (.iconst 0, 1) := by decide +kernel
theorem dM_difference_23 : decode cM_difference 23 = .ok (.istore 5, 2) := by decide +kernel
theorem dM_difference_25 : decode cM_difference 25 = .ok (.aload_n 0, 1) := by decide +kernel
theorem dM_difference_26 : decode cM_difference 26 = .ok (.iload 5, 2) := by decide +kernel
theorem dM_difference_28 : decode cM_difference 28 = .ok (.ifCond .eq 7, 3) := by decide +kernel
theorem dM_difference_35 : decode cM_difference 35 = .ok (.iconst 1, 1) := by decide +kernel
theorem dM_difference_36 : decode cM_difference 36 = .ok (.putfield 33, 3) := by decide +kernel
theorem dM_difference_39 : decode cM_difference 39 = .ok (.iload 5, 2) := by decide +kernel
theorem dM_difference_41 : decode cM_difference 41 = .ok (.ifCond .ne 5, 3) := by decide +kernel
theorem dM_difference_44 : decode cM_difference 44 = .ok (.iconst 0, 1) := by decide +kernel
theorem dM_difference_45 : decode cM_difference 45 = .ok (.ireturn, 1) := by decide +kernel
abbrev cM_user : ByteArray := prog_9_method_63_code
abbrev yM_user : MethodName := ⟨"DrawingVaultModel", "user", "(IZI)I"⟩
theorem dM_user_0 : decode cM_user 0 = .ok (.aload_n 0, 1) := by decide +kernel
theorem dM_user_1 : decode cM_user 1 = .ok (.iconst 0, 1) := by decide +kernel
theorem dM_user_2 : decode cM_user 2 = .ok (.putfield 33, 3) := by decide +kernel
theorem dM_user_5 : decode cM_user 5 = .ok (.aload_n 0, 1) := by decide +kernel
theorem dM_user_6 : decode cM_user 6 = .ok (.iload_n 1, 1) := by decide +kernel
theorem dM_user_7 : decode cM_user 7 = .ok (.invokevirtual 44, 3) := by decide +kernel
theorem dM_user_10 : decode cM_user 10 = .ok (.ifCond .eq 7, 3) := by decide +kernel
theorem dM_user_17 : decode cM_user 17 = .ok (.iconst (-1), 1) := by decide +kernel
theorem dM_user_18 : decode cM_user 18 = .ok (.ireturn, 1) := by decide +kernel
abbrev cM_baseline : ByteArray := prog_9_method_57_code
abbrev yM_baseline : MethodName := ⟨"DrawingVaultModel", "baseline", "(II)I"⟩
theorem dM_baseline_0 : decode cM_baseline 0 = .ok (.iload_n 1, 1) := by decide +kernel
theorem dM_baseline_1 : decode cM_baseline 1 = .ok (.ifCond .lt 13, 3) := by decide +kernel
theorem dM_baseline_4 : decode cM_baseline 4 = .ok (.iload_n 1, 1) := by decide +kernel
theorem dM_baseline_5 : decode cM_baseline 5 = .ok (.bipush 10, 2) := by decide +kernel
theorem dM_baseline_7 : decode cM_baseline 7 = .ok (.if_icmp .ge 7, 3) := by decide +kernel
theorem dM_baseline_10 : decode cM_baseline 10 = .ok (.iconst 1, 1) := by decide +kernel
theorem dM_baseline_11 : decode cM_baseline 11 = .ok (.goto 4, 3) := by decide +kernel
theorem dM_baseline_14 : decode cM_baseline 14 = .ok (.iconst 0, 1) := by decide +kernel
theorem dM_baseline_15 : decode cM_baseline 15 = .ok (.istore_n 3, 1) := by decide +kernel
theorem dM_baseline_16 : decode cM_baseline 16 = .ok (.iload_n 3, 1) := by decide +kernel
theorem dM_baseline_17 : decode cM_baseline 17 = .ok (.ifCond .eq 11, 3) := by decide +kernel
theorem dM_baseline_20 : decode cM_baseline 20 = .ok (.aload_n 0, 1) := by decide +kernel
theorem dM_baseline_21 : decode cM_baseline 21 = .ok (.iload_n 2, 1) := by decide +kernel
theorem dM_baseline_22 : decode cM_baseline 22 = .ok (.invokevirtual 44, 3) := by decide +kernel
theorem dM_baseline_25 : decode cM_baseline 25 = .ok (.ifCond .ne 7, 3) := by decide +kernel
theorem dM_baseline_28 : decode cM_baseline 28 = .ok (.iconst 1, 1) := by decide +kernel
theorem dM_baseline_29 : decode cM_baseline 29 = .ok (.goto 4, 3) := by decide +kernel
theorem dM_baseline_33 : decode cM_baseline 33 = .ok (.bipush 7, 2) := by decide +kernel
theorem dM_baseline_35 : decode cM_baseline 35 = .ok (.iconst 0, 1) := by decide +kernel
theorem dM_baseline_36 : decode cM_baseline 36 = .ok (.invokestatic 121, 3) := by decide +kernel
theorem dM_baseline_39 : decode cM_baseline 39 = .ok (.istore 4, 2) := by decide +kernel
theorem dM_baseline_41 : decode cM_baseline 41 = .ok (.iload_n 3, 1) := by decide +kernel
theorem dM_baseline_42 : decode cM_baseline 42 = .ok (.ifCond .eq 28, 3) := by decide +kernel
theorem dM_baseline_45 : decode cM_baseline 45 = .ok (.aload_n 0, 1) := by decide +kernel
theorem dM_baseline_46 : decode cM_baseline 46 = .ok (.getfield 7, 3) := by decide +kernel
theorem dM_baseline_49 : decode cM_baseline 49 = .ok (.aload_n 0, 1) := by decide +kernel
theorem dM_baseline_50 : decode cM_baseline 50 = .ok (.iload_n 3, 1) := by decide +kernel
theorem dM_baseline_51 : decode cM_baseline 51 = .ok (.ifCond .eq 7, 3) := by decide +kernel
theorem dM_baseline_54 : decode cM_baseline 54 = .ok (.iload_n 1, 1) := by decide +kernel
theorem dM_baseline_55 : decode cM_baseline 55 = .ok (.goto 4, 3) := by decide +kernel
theorem dM_baseline_59 : decode cM_baseline 59 = .ok (.invokevirtual 99, 3) := by decide +kernel
theorem dM_baseline_62 : decode cM_baseline 62 = .ok (.iaload, 1) := by decide +kernel
theorem dM_baseline_63 : decode cM_baseline 63 = .ok (.ifCond .le 7, 3) := by decide +kernel
theorem dM_baseline_70 : decode cM_baseline 70 = .ok (.iconst 0, 1) := by decide +kernel
theorem dM_baseline_71 : decode cM_baseline 71 = .ok (.iconst 2, 1) := by decide +kernel
theorem dM_baseline_72 : decode cM_baseline 72 = .ok (.iload 4, 2) := by decide +kernel
theorem dM_baseline_74 : decode cM_baseline 74 = .ok (.invokestatic 121, 3) := by decide +kernel
theorem dM_baseline_77 : decode cM_baseline 77 = .ok (.istore 4, 2) := by decide +kernel
theorem dM_baseline_79 : decode cM_baseline 79 = .ok (.iconst 0, 1) := by decide +kernel
theorem dM_baseline_80 : decode cM_baseline 80 = .ok (.istore 5, 2) := by decide +kernel
theorem dM_baseline_82 : decode cM_baseline 82 = .ok (.aload_n 0, 1) := by decide +kernel
theorem dM_baseline_83 : decode cM_baseline 83 = .ok (.iload_n 2, 1) := by decide +kernel
theorem dM_baseline_84 : decode cM_baseline 84 = .ok (.invokevirtual 44, 3) := by decide +kernel
theorem dM_baseline_87 : decode cM_baseline 87 = .ok (.ifCond .eq 102, 3) := by decide +kernel
theorem dM_baseline_189 : decode cM_baseline 189 = .ok (.aload_n 0, 1) := by decide +kernel
theorem dM_baseline_190 : decode cM_baseline 190 = .ok (.iload 4, 2) := by decide +kernel
theorem dM_baseline_192 : decode cM_baseline 192 = .ok (.iconst 1, 1) := by decide +kernel
theorem dM_baseline_193 : decode cM_baseline 193 = .ok (.iload 5, 2) := by decide +kernel
theorem dM_baseline_195 : decode cM_baseline 195 = .ok (.invokestatic 83, 3) := by decide +kernel
theorem dM_baseline_198 : decode cM_baseline 198 = .ok (.iadd, 1) := by decide +kernel
theorem dM_baseline_199 : decode cM_baseline 199 = .ok (.invokevirtual 112, 3) := by decide +kernel
theorem dM_baseline_202 : decode cM_baseline 202 = .ok (.ifCond .ne 16, 3) := by decide +kernel
theorem dM_baseline_205 : decode cM_baseline 205 = .ok (.aload_n 0, 1) := by decide +kernel
theorem dM_baseline_206 : decode cM_baseline 206 = .ok (.getfield 33, 3) := by decide +kernel
theorem dM_baseline_209 : decode cM_baseline 209 = .ok (.ifCond .le 7, 3) := by decide +kernel
theorem dM_baseline_216 : decode cM_baseline 216 = .ok (.iconst (-1), 1) := by decide +kernel
theorem dM_baseline_217 : decode cM_baseline 217 = .ok (.ireturn, 1) := by decide +kernel
abbrev cM_failAfter : ByteArray := prog_9_method_65_code
abbrev yM_failAfter : MethodName := ⟨"DrawingVaultModel", "failAfter", "(I)Z"⟩
theorem dM_failAfter_0 : decode cM_failAfter 0 = .ok (.aload_n 0, 1) := by decide +kernel
theorem dM_failAfter_1 : decode cM_failAfter 1 = .ok (.iconst 0, 1) := by decide +kernel
theorem dM_failAfter_2 : decode cM_failAfter 2 = .ok (.putfield 33, 3) := by decide +kernel
theorem dM_failAfter_5 : decode cM_failAfter 5 = .ok (.iload_n 1, 1) := by decide +kernel
theorem dM_failAfter_6 : decode cM_failAfter 6 = .ok (.ifCond .lt 10, 3) := by decide +kernel
theorem dM_failAfter_9 : decode cM_failAfter 9 = .ok (.aload_n 0, 1) := by decide +kernel
theorem dM_failAfter_10 : decode cM_failAfter 10 = .ok (.getfield 102, 3) := by decide +kernel
theorem dM_failAfter_13 : decode cM_failAfter 13 = .ok (.ifCond .eq 5, 3) := by decide +kernel
theorem dM_failAfter_16 : decode cM_failAfter 16 = .ok (.iconst 0, 1) := by decide +kernel
theorem dM_failAfter_17 : decode cM_failAfter 17 = .ok (.ireturn, 1) := by decide +kernel
theorem dM_failAfter_18 : decode cM_failAfter 18 = .ok (.aload_n 0, 1) := by decide +kernel
theorem dM_failAfter_19 : decode cM_failAfter 19 = .ok (.iload_n 1, 1) := by decide +kernel
theorem dM_failAfter_20 : decode cM_failAfter 20 = .ok (.putfield 16, 3) := by decide +kernel
theorem dM_failAfter_23 : decode cM_failAfter 23 = .ok (.iconst 1, 1) := by decide +kernel
theorem dM_failAfter_24 : decode cM_failAfter 24 = .ok (.ireturn, 1) := by decide +kernel
theorem wd_152 : (.fieldLink "DrawingVaultModel" 33 "DrawingVaultModel" "thrown" "I" : Cond) ∈ aw := aw_in (tb_4 (List.mem_of_getElem? (i := 30) rfl)) rfl
theorem wd_153 : (.code ⟨"DrawingVaultModel", "isPerson", "(I)Z"⟩ prog_9_method_4_code 2 (Option.some .boolean) : Cond) ∈ aw := aw_in (tb_4 (List.mem_of_getElem? (i := 76) rfl)) rfl
theorem wd_154 : (.methodLink "DrawingVaultModel" 36 ⟨"DrawingVaultModel", "isPerson", "(I)Z"⟩ : Cond) ∈ aw := aw_in (tb_4 (List.mem_of_getElem? (i := 73) rfl)) rfl
theorem wd_155 : (.instanceMethod ⟨"DrawingVaultModel", "isPerson", "(I)Z"⟩ : Cond) ∈ aw := aw_in (tb_4 (List.mem_of_getElem? (i := 75) rfl)) rfl
theorem wd_156 : (.selects "DrawingVaultModel" ⟨"DrawingVaultModel", "isPerson", "(I)Z"⟩ ⟨"DrawingVaultModel", "isPerson", "(I)Z"⟩ : Cond) ∈ aw := aw_in (tb_s (q := (⟨"DrawingVaultModel", "isPerson", "(I)Z"⟩, _)) (List.mem_append_right _ (List.mem_append_right _ (List.mem_append_left _ (List.mem_of_getElem? (i := 4) rfl))))) rfl
theorem wd_157 : (.initialized "DrawingVaultModel" : Cond) ∈ aw := aw_in (tb_1 (List.mem_of_getElem? (i := 6) rfl)) rfl
theorem wd_158 : (.fieldLink "DrawingVaultModel" 7 "DrawingVaultModel" "now" "[I" : Cond) ∈ aw := aw_in (tb_4 (List.mem_of_getElem? (i := 32) rfl)) rfl
theorem wd_159 : (.code ⟨"DrawingVaultModel", "isDrawing", "(I)Z"⟩ prog_9_method_6_code 2 (Option.some .boolean) : Cond) ∈ aw := aw_in (tb_4 (List.mem_of_getElem? (i := 112) rfl)) rfl
theorem wd_160 : (.methodLink "DrawingVaultModel" 44 ⟨"DrawingVaultModel", "isDrawing", "(I)Z"⟩ : Cond) ∈ aw := aw_in (tb_4 (List.mem_of_getElem? (i := 109) rfl)) rfl
theorem wd_161 : (.instanceMethod ⟨"DrawingVaultModel", "isDrawing", "(I)Z"⟩ : Cond) ∈ aw := aw_in (tb_4 (List.mem_of_getElem? (i := 111) rfl)) rfl
theorem wd_162 : (.selects "DrawingVaultModel" ⟨"DrawingVaultModel", "isDrawing", "(I)Z"⟩ ⟨"DrawingVaultModel", "isDrawing", "(I)Z"⟩ : Cond) ∈ aw := aw_in (tb_s (q := (⟨"DrawingVaultModel", "isDrawing", "(I)Z"⟩, _)) (List.mem_append_right _ (List.mem_append_right _ (List.mem_append_left _ (List.mem_of_getElem? (i := 13) rfl))))) rfl
theorem wd_163 : (.fieldLink "DrawingVaultModel" 102 "DrawingVaultModel" "failed" "Z" : Cond) ∈ aw := aw_in (tb_4 (List.mem_of_getElem? (i := 34) rfl)) rfl
theorem wd_164 : (.fieldLink "DrawingVaultModel" 106 "DrawingVaultModel" "reason" "I" : Cond) ∈ aw := aw_in (tb_4 (List.mem_of_getElem? (i := 31) rfl)) rfl
theorem wd_165 : (.code ⟨"DrawingVaultModel", "rights", "(I)I"⟩ prog_9_method_5_code 2 (Option.some .int) : Cond) ∈ aw := aw_in (tb_4 (List.mem_of_getElem? (i := 151) rfl)) rfl
theorem wd_166 : (.methodLink "DrawingVaultModel" 118 ⟨"DrawingVaultModel", "rights", "(I)I"⟩ : Cond) ∈ aw := aw_in (tb_4 (List.mem_of_getElem? (i := 148) rfl)) rfl
theorem wd_167 : (.instanceMethod ⟨"DrawingVaultModel", "rights", "(I)I"⟩ : Cond) ∈ aw := aw_in (tb_4 (List.mem_of_getElem? (i := 150) rfl)) rfl
theorem wd_168 : (.selects "DrawingVaultModel" ⟨"DrawingVaultModel", "rights", "(I)I"⟩ ⟨"DrawingVaultModel", "rights", "(I)I"⟩ : Cond) ∈ aw := aw_in (tb_s (q := (⟨"DrawingVaultModel", "rights", "(I)I"⟩, _)) (List.mem_append_right _ (List.mem_append_right _ (List.mem_append_right _ (List.mem_append_left _ (List.mem_of_getElem? (i := 5) rfl)))))) rfl
theorem wd_169 : (.code ⟨"DrawingVaultModel", "least", "(ZII)I"⟩ prog_9_method_26_code 3 (Option.some .int) : Cond) ∈ aw := aw_in (tb_4 (List.mem_of_getElem? (i := 154) rfl)) rfl
theorem wd_170 : (.methodLink "DrawingVaultModel" 121 ⟨"DrawingVaultModel", "least", "(ZII)I"⟩ : Cond) ∈ aw := aw_in (tb_4 (List.mem_of_getElem? (i := 152) rfl)) rfl
theorem wd_171 : (.static ⟨"DrawingVaultModel", "least", "(ZII)I"⟩ : Cond) ∈ aw := aw_in (tb_4 (List.mem_of_getElem? (i := 153) rfl)) rfl
theorem wd_172 : (.code ⟨"DrawingVaultModel", "isRevision", "(II)Z"⟩ prog_9_method_9_code 3 (Option.some .boolean) : Cond) ∈ aw := aw_in (tb_4 (List.mem_of_getElem? (i := 120) rfl)) rfl
theorem wd_173 : (.methodLink "DrawingVaultModel" 79 ⟨"DrawingVaultModel", "isRevision", "(II)Z"⟩ : Cond) ∈ aw := aw_in (tb_4 (List.mem_of_getElem? (i := 117) rfl)) rfl
theorem wd_174 : (.instanceMethod ⟨"DrawingVaultModel", "isRevision", "(II)Z"⟩ : Cond) ∈ aw := aw_in (tb_4 (List.mem_of_getElem? (i := 119) rfl)) rfl
theorem wd_175 : (.selects "DrawingVaultModel" ⟨"DrawingVaultModel", "isRevision", "(II)Z"⟩ ⟨"DrawingVaultModel", "isRevision", "(II)Z"⟩ : Cond) ∈ aw := aw_in (tb_s (q := (⟨"DrawingVaultModel", "isRevision", "(II)Z"⟩, _)) (List.mem_append_right _ (List.mem_append_right _ (List.mem_append_left _ (List.mem_of_getElem? (i := 15) rfl))))) rfl
theorem wd_176 : (.code ⟨"DrawingVaultModel", "allRevisions", "()I"⟩ prog_9_method_18_code 3 (Option.some .int) : Cond) ∈ aw := aw_in (tb_4 (List.mem_of_getElem? (i := 92) rfl)) rfl
theorem wd_177 : (.methodLink "DrawingVaultModel" 92 ⟨"DrawingVaultModel", "allRevisions", "()I"⟩ : Cond) ∈ aw := aw_in (tb_4 (List.mem_of_getElem? (i := 89) rfl)) rfl
theorem wd_178 : (.instanceMethod ⟨"DrawingVaultModel", "allRevisions", "()I"⟩ : Cond) ∈ aw := aw_in (tb_4 (List.mem_of_getElem? (i := 91) rfl)) rfl
theorem wd_179 : (.selects "DrawingVaultModel" ⟨"DrawingVaultModel", "allRevisions", "()I"⟩ ⟨"DrawingVaultModel", "allRevisions", "()I"⟩ : Cond) ∈ aw := aw_in (tb_s (q := (⟨"DrawingVaultModel", "allRevisions", "()I"⟩, _)) (List.mem_append_right _ (List.mem_append_right _ (List.mem_append_left _ (List.mem_of_getElem? (i := 8) rfl))))) rfl
theorem wd_180 : (.code ⟨"DrawingVaultModel", "may", "(II)Z"⟩ prog_9_method_29_code 4 (Option.some .boolean) : Cond) ∈ aw := aw_in (tb_4 (List.mem_of_getElem? (i := 80) rfl)) rfl
theorem wd_181 : (.methodLink "DrawingVaultModel" 112 ⟨"DrawingVaultModel", "may", "(II)Z"⟩ : Cond) ∈ aw := aw_in (tb_4 (List.mem_of_getElem? (i := 77) rfl)) rfl
theorem wd_182 : (.instanceMethod ⟨"DrawingVaultModel", "may", "(II)Z"⟩ : Cond) ∈ aw := aw_in (tb_4 (List.mem_of_getElem? (i := 79) rfl)) rfl
theorem wd_183 : (.selects "DrawingVaultModel" ⟨"DrawingVaultModel", "may", "(II)Z"⟩ ⟨"DrawingVaultModel", "may", "(II)Z"⟩ : Cond) ∈ aw := aw_in (tb_s (q := (⟨"DrawingVaultModel", "may", "(II)Z"⟩, _)) (List.mem_append_right _ (List.mem_append_right _ (List.mem_append_left _ (List.mem_of_getElem? (i := 5) rfl))))) rfl
theorem wd_184 : (.code ⟨"DrawingVaultModel", "whyNot", "(II)I"⟩ prog_9_method_36_code 4 (Option.some .int) : Cond) ∈ aw := aw_in (tb_4 (List.mem_of_getElem? (i := 174) rfl)) rfl
theorem wd_185 : (.methodLink "DrawingVaultModel" 133 ⟨"DrawingVaultModel", "whyNot", "(II)I"⟩ : Cond) ∈ aw := aw_in (tb_4 (List.mem_of_getElem? (i := 171) rfl)) rfl
theorem wd_186 : (.instanceMethod ⟨"DrawingVaultModel", "whyNot", "(II)I"⟩ : Cond) ∈ aw := aw_in (tb_4 (List.mem_of_getElem? (i := 173) rfl)) rfl
theorem wd_187 : (.selects "DrawingVaultModel" ⟨"DrawingVaultModel", "whyNot", "(II)I"⟩ ⟨"DrawingVaultModel", "whyNot", "(II)I"⟩ : Cond) ∈ aw := aw_in (tb_s (q := (⟨"DrawingVaultModel", "whyNot", "(II)I"⟩, _)) (List.mem_append_right _ (List.mem_append_right _ (List.mem_append_right _ (List.mem_append_left _ (List.mem_of_getElem? (i := 8) rfl)))))) rfl
theorem wd_188 : (.code ⟨"DrawingVaultModel", "mayHere", "(I)Z"⟩ prog_9_method_38_code 2 (Option.some .boolean) : Cond) ∈ aw := aw_in (tb_4 (List.mem_of_getElem? (i := 182) rfl)) rfl
theorem wd_189 : (.methodLink "DrawingVaultModel" 136 ⟨"DrawingVaultModel", "mayHere", "(I)Z"⟩ : Cond) ∈ aw := aw_in (tb_4 (List.mem_of_getElem? (i := 179) rfl)) rfl
theorem wd_190 : (.instanceMethod ⟨"DrawingVaultModel", "mayHere", "(I)Z"⟩ : Cond) ∈ aw := aw_in (tb_4 (List.mem_of_getElem? (i := 181) rfl)) rfl
theorem wd_191 : (.selects "DrawingVaultModel" ⟨"DrawingVaultModel", "mayHere", "(I)Z"⟩ ⟨"DrawingVaultModel", "mayHere", "(I)Z"⟩ : Cond) ∈ aw := aw_in (tb_s (q := (⟨"DrawingVaultModel", "mayHere", "(I)Z"⟩, _)) (List.mem_append_right _ (List.mem_append_right _ (List.mem_append_right _ (List.mem_append_left _ (List.mem_of_getElem? (i := 9) rfl)))))) rfl
theorem wd_192 : (.code ⟨"DrawingVaultModel", "whyNotRevision", "(IIII)I"⟩ prog_9_method_49_code 5 (Option.some .int) : Cond) ∈ aw := aw_in (tb_4 (List.mem_of_getElem? (i := 238) rfl)) rfl
theorem wd_193 : (.methodLink "DrawingVaultModel" 157 ⟨"DrawingVaultModel", "whyNotRevision", "(IIII)I"⟩ : Cond) ∈ aw := aw_in (tb_4 (List.mem_of_getElem? (i := 235) rfl)) rfl
theorem wd_194 : (.instanceMethod ⟨"DrawingVaultModel", "whyNotRevision", "(IIII)I"⟩ : Cond) ∈ aw := aw_in (tb_4 (List.mem_of_getElem? (i := 237) rfl)) rfl
theorem wd_195 : (.selects "DrawingVaultModel" ⟨"DrawingVaultModel", "whyNotRevision", "(IIII)I"⟩ ⟨"DrawingVaultModel", "whyNotRevision", "(IIII)I"⟩ : Cond) ∈ aw := aw_in (tb_s (q := (⟨"DrawingVaultModel", "whyNotRevision", "(IIII)I"⟩, _)) (List.mem_append_right _ (List.mem_append_right _ (List.mem_append_right _ (List.mem_append_right _ (List.mem_of_getElem? (i := 2) rfl)))))) rfl
theorem wd_196 : (.code ⟨"DrawingVaultModel", "baselineAt", "(I)I"⟩ prog_9_method_27_code 2 (Option.some .int) : Cond) ∈ aw := aw_in (tb_4 (List.mem_of_getElem? (i := 143) rfl)) rfl
theorem wd_197 : (.methodLink "DrawingVaultModel" 99 ⟨"DrawingVaultModel", "baselineAt", "(I)I"⟩ : Cond) ∈ aw := aw_in (tb_4 (List.mem_of_getElem? (i := 140) rfl)) rfl
theorem wd_198 : (.instanceMethod ⟨"DrawingVaultModel", "baselineAt", "(I)I"⟩ : Cond) ∈ aw := aw_in (tb_4 (List.mem_of_getElem? (i := 142) rfl)) rfl
theorem wd_199 : (.selects "DrawingVaultModel" ⟨"DrawingVaultModel", "baselineAt", "(I)I"⟩ ⟨"DrawingVaultModel", "baselineAt", "(I)I"⟩ : Cond) ∈ aw := aw_in (tb_s (q := (⟨"DrawingVaultModel", "baselineAt", "(I)I"⟩, _)) (List.mem_append_right _ (List.mem_append_right _ (List.mem_append_right _ (List.mem_append_left _ (List.mem_of_getElem? (i := 4) rfl)))))) rfl
theorem wd_200 : (.code ⟨"DrawingVaultModel", "parts", "(I)I"⟩ prog_9_method_19_code 1 (Option.some .int) : Cond) ∈ aw := aw_in (tb_4 (List.mem_of_getElem? (i := 127) rfl)) rfl
theorem wd_201 : (.methodLink "DrawingVaultModel" 83 ⟨"DrawingVaultModel", "parts", "(I)I"⟩ : Cond) ∈ aw := aw_in (tb_4 (List.mem_of_getElem? (i := 125) rfl)) rfl
theorem wd_202 : (.static ⟨"DrawingVaultModel", "parts", "(I)I"⟩ : Cond) ∈ aw := aw_in (tb_4 (List.mem_of_getElem? (i := 126) rfl)) rfl
theorem wd_203 : (.fieldLink "DrawingVaultModel" 16 "DrawingVaultModel" "powerLeft" "I" : Cond) ∈ aw := aw_in (tb_4 (List.mem_of_getElem? (i := 35) rfl)) rfl

/-- a loop that counts up to B -/
theorem lpN {σ : Type} (G : σ → Prop) (I : Nat → σ → Prop) (B : Nat) (hx : ∀ z, I B z → G z) (hs : ∀ i z, i < B → I i z → (∀ z', I (i + 1) z' → G z') → G z) : ∀ n i z, i + n = B → I i z → G z := by
  intro n
  induction n with
  | zero => intro i z h hI; obtain rfl : i = B := by omega
            exact hx z hI
  | succ n ih => intro i z h hI; exact hs i z (by omega) hI (fun z' hI' => ih (i + 1) z' (by omega) hI')
theorem vin_le {i : Int32} {a b : Nat} (h : vp_in i a) (hab : a ≤ b) : vp_in i b := fun q => q.elim (fun z => h (Or.inl z)) (fun z => h (Or.inr (Nat.le_trans hab z)))
/-- the model's numbers in a fresh object -/
def now0 : Nat → Int32 := upd (fun _ => 0) (17 : Int32).toNatClampNeg 400
theorem now0_p {i : Int32} (h : vp_in i 16) : now0 i.toNatClampNeg = 0 := by
  have h1 : i.toNatClampNeg < 16 := Nat.not_le.mp fun q => h (Or.inr q)
  unfold now0
  exact pk_un (fun e => by have h2 : (17 : Int32).toNatClampNeg = 17 := by decide
                           omega)
theorem bl_all : ∀ j, j < 10 → (¬ ((24980 + 26 * nI j : Int32) < 0 ∨ 25240 ≤ (24980 + 26 * nI j : Int32).toNatClampNeg)) ∧ now0 (24980 + 26 * nI j : Int32).toNatClampNeg = 0 := by decide +kernel
theorem bl_ix {n : Int32} (h1 : ¬ n < 0) (h2 : ¬ (10 : Int32) ≤ n) : vp_in (24980 + 26 * n) 25240 ∧ now0 (24980 + 26 * n : Int32).toNatClampNeg = 0 := by
  rcases pk_ix n (n := 10) (by decide) with h | h | ⟨j, hj, rfl⟩
  · exact absurd h h1
  · exact absurd h h2
  · exact bl_all j hj
/-- the lesser of two reasons, as the model takes it -/
def lst (a b c : Int32) : Int32 := if a = 0 then c else if c = 0 then b else if b < c then b else c
theorem lst_0 {b c : Int32} : c = lst 0 b c := by unfold lst; rw [if_pos rfl]
theorem lst_n {a b : Int32} (h : ¬ a = 0) : b = lst a b 0 := by unfold lst; rw [if_neg h, if_pos rfl]
theorem lst_l {a b c : Int32} (h : ¬ a = 0) (h1 : ¬ c = 0) (h2 : b < c) : b = lst a b c := by unfold lst; rw [if_neg h, if_neg h1, if_pos h2]
theorem lst_g {a b c : Int32} (h : ¬ a = 0) (h1 : ¬ c = 0) (h2 : ¬ b < c) : c = lst a b c := by unfold lst; rw [if_neg h, if_neg h1, if_neg h2]

set_option maxHeartbeats 4000000 in
set_option maxRecDepth 100000 in
theorem m_thrown (l : Launch) (dC : Nat → ClassId) (dI : Nat → Nat → Nat) (mo : Nat) (nw : Nat) (kp : Nat) (mk : Nat) (co : Nat) (se : Nat) (th : Int32) (mr : Int32) : Met l yM_thrown (.code yM_thrown cM_thrown 1 (some .int) :: aw) ({ frames := 0, cells := 0, slots := 0, locals := 0 }) (pR (dC, dI) [(mo, .inr (4, [.int th, .int mr, .ref nw, .ref kp, .int 0, .int (-1), .ref mk, .ref co, .int 0, .int 0, .ref se]))] [] [.ref mo]) (vp_Si (fun r => r = th)) 0 0 (fun _ => False) := by
  refine Met.ofW (cc := cM_thrown) (maxL := 1) (ret := (some .int)) (by decide) rfl ?_
  intro p e s m args below meth c s₁ B hml hv
  obtain ⟨rfl, hv⟩ := hv
  have hx := B.exec
  have hb := B.bytes
  have hr := B.returns
  have hts : ∀ w ∈ aw, w.before _ s = true := fun w h => atoms_spec (ws := (.code yM_thrown cM_thrown 1 (some .int) :: aw)) B.pre w (List.mem_cons_of_mem _ h)
  have hown : s.vm.findClass RM = some m.cls := findClass_of_methodNamed B.named
  have hlocks := B.notSynchronized
  obtain ⟨hP, hK⟩ := hv
  obtain ⟨H, hH⟩ : ∃ H, H = s.heap := ⟨_, rfl⟩
  rw [← hH] at hP ⊢
  have hl := lv_entry ([.ref mo]) (n := 1) (Nat.le_of_ble_eq_true rfl)
  rw [lg_entry_eq]
  generalize (lg_sl ([.ref mo]) ++ List.replicate (1 - (lg_sl ([.ref mo])).length) Slot.unset).toArray = ls at hl ⊢
  have hl : lv_has ls 1 [(0, .ref mo)] := hl
  refine lv_aload_n (pc := 0) hx hb dM_thrown_0 rfl (lv_at hl 0 rfl) ?_
  refine va_get (D := (dC, dI)) (cl := kCl) (C := RM) (T := TM) (N := 11) (pc := 1) hx hb hts inM hown hK hP 0 rfl rfl 0 (by decide) (hts _ wd_152) (fun _ h9 => h9) rfl dM_thrown_1 ?_
  exact W.iret (pc := 4) hx hb hr (fun t ht hW => ⟨_, rfl, rfl, ht.trans hH⟩) (fun q h => nomatch h) dM_thrown_4
set_option maxHeartbeats 4000000 in
set_option maxRecDepth 100000 in
theorem m_isPerson (l : Launch) (dC : Nat → ClassId) (dI : Nat → Nat → Nat) (mo : Nat) (nw : Nat) (kp : Nat) (mk : Nat) (co : Nat) (se : Nat) (th : Int32) (mr : Int32) (pp : Int32) : Met l yM_isPerson (.code yM_isPerson cM_isPerson 2 (some .boolean) :: aw) ({ frames := 0, cells := 0, slots := 0, locals := 0 }) (pR (dC, dI) [(mo, .inr (4, [.int th, .int mr, .ref nw, .ref kp, .int 0, .int (-1), .ref mk, .ref co, .int 0, .int 0, .ref se]))] [] [.ref mo, .int pp]) (vp_Si (fun r => (r = 1 ∧ (¬ pp < 0 ∧ ¬ (16 : Int32) ≤ pp)) ∨ (r = 0 ∧ (pp < 0 ∨ (16 : Int32) ≤ pp)))) 0 0 (fun _ => False) := by
  refine Met.ofW (cc := cM_isPerson) (maxL := 2) (ret := (some .boolean)) (by decide) rfl ?_
  intro p e s m args below meth c s₁ B hml hv
  obtain ⟨rfl, hv⟩ := hv
  have hx := B.exec
  have hb := B.bytes
  have hr := B.returns
  have hts : ∀ w ∈ aw, w.before _ s = true := fun w h => atoms_spec (ws := (.code yM_isPerson cM_isPerson 2 (some .boolean) :: aw)) B.pre w (List.mem_cons_of_mem _ h)
  have hown : s.vm.findClass RM = some m.cls := findClass_of_methodNamed B.named
  have hlocks := B.notSynchronized
  obtain ⟨hP, hK⟩ := hv
  obtain ⟨H, hH⟩ : ∃ H, H = s.heap := ⟨_, rfl⟩
  rw [← hH] at hP ⊢
  have hl := lv_entry ([.ref mo, .int pp]) (n := 2) (Nat.le_of_ble_eq_true rfl)
  rw [lg_entry_eq]
  generalize (lg_sl ([.ref mo, .int pp]) ++ List.replicate (2 - (lg_sl ([.ref mo, .int pp])).length) Slot.unset).toArray = ls at hl ⊢
  have hl : lv_has ls 2 [(0, .ref mo), (1, .int pp)] := hl
  refine lv_iload_n (pc := 0) hx hb dM_isPerson_0 rfl (lv_at hl 1 rfl) ?_
  refine lv_if_lt (pc := 1) (tgt := 14) hx hb dM_isPerson_1 rfl (fun h1 => ?_) (fun h1 => ?_)
  · refine lv_iconst (pc := 14) (v := 0) hx hb dM_isPerson_14 (by decide) ?_
    exact W.zret (pc := 15) hx hb hr rfl (fun t ht hW => ⟨_, rfl, (Or.inr ⟨rfl, by first | assumption | exact ⟨by assumption, by assumption⟩ | exact Or.inl (by assumption) | exact Or.inr (by assumption) | exact Or.inr (Or.inl (by assumption)) | exact Or.inr (Or.inr (by assumption)) | simp_all⟩), ht.trans hH⟩) (fun q h => nomatch h) dM_isPerson_15
  · refine lv_iload_n (pc := 4) hx hb dM_isPerson_4 rfl (lv_at hl 1 rfl) ?_
    refine lv_bipush (pc := 5) (v := 16) hx hb dM_isPerson_5 (by decide) ?_
    refine lv_icmp_ge (pc := 7) (tgt := 14) hx hb dM_isPerson_7 rfl (fun h2 => ?_) (fun h2 => ?_)
    · refine lv_iconst (pc := 14) (v := 0) hx hb dM_isPerson_14 (by decide) ?_
      exact W.zret (pc := 15) hx hb hr rfl (fun t ht hW => ⟨_, rfl, (Or.inr ⟨rfl, by first | assumption | exact ⟨by assumption, by assumption⟩ | exact Or.inl (by assumption) | exact Or.inr (by assumption) | exact Or.inr (Or.inl (by assumption)) | exact Or.inr (Or.inr (by assumption)) | simp_all⟩), ht.trans hH⟩) (fun q h => nomatch h) dM_isPerson_15
    · refine lv_iconst (pc := 10) (v := 1) hx hb dM_isPerson_10 (by decide) ?_
      refine lv_goto (pc := 11) (tgt := 15) hx hb dM_isPerson_11 rfl ?_
      exact W.zret (pc := 15) hx hb hr rfl (fun t ht hW => ⟨_, rfl, (Or.inl ⟨rfl, by first | assumption | exact ⟨by assumption, by assumption⟩ | exact Or.inl (by assumption) | exact Or.inr (by assumption) | exact Or.inr (Or.inl (by assumption)) | exact Or.inr (Or.inr (by assumption)) | simp_all⟩), ht.trans hH⟩) (fun q h => nomatch h) dM_isPerson_15
set_option maxHeartbeats 4000000 in
set_option maxRecDepth 100000 in
theorem m_rights (l : Launch) (dC : Nat → ClassId) (dI : Nat → Nat → Nat) (mo : Nat) (nw : Nat) (kp : Nat) (mk : Nat) (co : Nat) (se : Nat) (th : Int32) (mr : Int32) (cN : ClassId) (pp : Int32) : Met l yM_rights (.code yM_rights cM_rights 2 (some .int) :: aw) ({ frames := 1, cells := 0, slots := 0, locals := 21 }) (pR (dC, dI) [(mo, .inr (4, [.int th, .int mr, .ref nw, .ref kp, .int 0, .int (-1), .ref mk, .ref co, .int 0, .int 0, .ref se])), (nw, .inl (cN, 25240, .inl now0))] [(cN, .int)] [.ref mo, .int pp]) (vp_Si (fun r => r = 0)) 0 0 (fun _ => False) := by
  refine Met.ofW (cc := cM_rights) (maxL := 2) (ret := (some .int)) (by decide) rfl ?_
  intro p e s m args below meth c s₁ B hml hv
  obtain ⟨rfl, hv⟩ := hv
  have hx := B.exec
  have hb := B.bytes
  have hr := B.returns
  have hts : ∀ w ∈ aw, w.before _ s = true := fun w h => atoms_spec (ws := (.code yM_rights cM_rights 2 (some .int) :: aw)) B.pre w (List.mem_cons_of_mem _ h)
  have hown : s.vm.findClass RM = some m.cls := findClass_of_methodNamed B.named
  have hlocks := B.notSynchronized
  obtain ⟨hP, hK⟩ := hv
  obtain ⟨H, hH⟩ : ∃ H, H = s.heap := ⟨_, rfl⟩
  rw [← hH] at hP ⊢
  have hl := lv_entry ([.ref mo, .int pp]) (n := 2) (Nat.le_of_ble_eq_true rfl)
  rw [lg_entry_eq]
  generalize (lg_sl ([.ref mo, .int pp]) ++ List.replicate (2 - (lg_sl ([.ref mo, .int pp])).length) Slot.unset).toArray = ls at hl ⊢
  have hl : lv_has ls 2 [(0, .ref mo), (1, .int pp)] := hl
  refine lv_aload_n (pc := 0) hx hb dM_rights_0 rfl (lv_at hl 0 rfl) ?_
  refine lv_iload_n (pc := 1) hx hb dM_rights_1 rfl (lv_at hl 1 rfl) ?_
  refine vp_callSi (pc := 2) (W.runV (As := [.int pp]) (rest := []) ⟨hx, hb, hml, hown, hts⟩ (m_isPerson l dC dI mo nw kp mk co se th mr pp) (cwV 1 hts (gV wd_154 wd_155 wd_156 wd_157 wd_153) rfl rfl rfl (by decide +kernel) ⟨Nat.le_of_ble_eq_true rfl, Nat.le_of_ble_eq_true rfl⟩) ⟨pR_blind, va_recv (q := (RM, TM, 11)) (q0 := 0) (ci := 4) hK hP rfl rfl, pR_pre (hP.sub (ws' := [(mo, .inr (4, [.int th, .int mr, .ref nw, .ref kp, .int 0, .int (-1), .ref mk, .ref co, .int 0, .int 0, .ref se]))]) [0] rfl) (hK.sub (tys' := []) [] rfl)⟩ rfl rfl hl.1 rfl (lv_room (Nat.le_of_ble_eq_true rfl)) dM_rights_2 ⟨Nat.le_of_ble_eq_true rfl, Nat.le_of_ble_eq_true rfl⟩) (fun r1 hr2 => ?_)
  obtain ⟨rfl, h3⟩ | ⟨rfl, h3⟩ : (r1 = 1 ∧ (¬ pp < 0 ∧ ¬ (16 : Int32) ≤ pp)) ∨ (r1 = 0 ∧ (pp < 0 ∨ (16 : Int32) ≤ pp)) := hr2
  · refine lv_if_eq (pc := 5) (tgt := 17) hx hb dM_rights_5 rfl (fun h4 => absurd h4 (by decide)) (fun h4 => ?_)
    refine lv_aload_n (pc := 8) hx hb dM_rights_8 rfl (lv_at hl 0 rfl) ?_
    refine va_get (D := (dC, dI)) (cl := kCl) (C := RM) (T := TM) (N := 11) (pc := 9) hx hb hts inM hown hK hP 0 rfl rfl 2 (by decide) (hts _ wd_158) (fun _ h9 => h9) rfl dM_rights_9 ?_
    refine lv_iload_n (pc := 12) hx hb dM_rights_12 rfl (lv_at hl 1 rfl) ?_
    refine va_iald (D := (dC, dI)) (cl := kCl) (pc := 13) hx hb hK hP 1 0 rfl rfl (vin_le (vin_of (n := 16) (k := 16) (by decide) h3.1 h3.2) (by decide)) dM_rights_13 ?_
    refine W.eq (g2 := F0 m 14 ls [.int (now0 (pp : Int32).toNatClampNeg)]) rfl ?_
    refine lv_topi (fun z5 hz6 => ?_)
    obtain rfl : z5 = 0 := hz6.trans (now0_p (vin_of (k := 16) (by decide) h3.1 h3.2))
    refine lv_goto (pc := 14) (tgt := 18) hx hb dM_rights_14 rfl ?_
    exact W.iret (pc := 18) hx hb hr (fun t ht hW => ⟨_, rfl, rfl, ht.trans hH⟩) (fun q h => nomatch h) dM_rights_18
  · refine lv_if_eq (pc := 5) (tgt := 17) hx hb dM_rights_5 rfl (fun h7 => ?_) (fun h7 => absurd h7 (by decide))
    refine lv_iconst (pc := 17) (v := 0) hx hb dM_rights_17 (by decide) ?_
    exact W.iret (pc := 18) hx hb hr (fun t ht hW => ⟨_, rfl, rfl, ht.trans hH⟩) (fun q h => nomatch h) dM_rights_18
set_option maxHeartbeats 4000000 in
set_option maxRecDepth 100000 in
theorem m_isDrawing (l : Launch) (dC : Nat → ClassId) (dI : Nat → Nat → Nat) (mo : Nat) (nw : Nat) (kp : Nat) (mk : Nat) (co : Nat) (se : Nat) (th : Int32) (mr : Int32) (cN : ClassId) (dd : Int32) : Met l yM_isDrawing (.code yM_isDrawing cM_isDrawing 2 (some .boolean) :: aw) ({ frames := 0, cells := 0, slots := 0, locals := 0 }) (pR (dC, dI) [(mo, .inr (4, [.int th, .int mr, .ref nw, .ref kp, .int 0, .int (-1), .ref mk, .ref co, .int 0, .int 0, .ref se])), (nw, .inl (cN, 25240, .inl now0))] [(cN, .int)] [.ref mo, .int dd]) (vp_Si (fun r => r = 0)) 0 0 (fun _ => False) := by
  refine Met.ofW (cc := cM_isDrawing) (maxL := 2) (ret := (some .boolean)) (by decide) rfl ?_
  intro p e s m args below meth c s₁ B hml hv
  obtain ⟨rfl, hv⟩ := hv
  have hx := B.exec
  have hb := B.bytes
  have hr := B.returns
  have hts : ∀ w ∈ aw, w.before _ s = true := fun w h => atoms_spec (ws := (.code yM_isDrawing cM_isDrawing 2 (some .boolean) :: aw)) B.pre w (List.mem_cons_of_mem _ h)
  have hown : s.vm.findClass RM = some m.cls := findClass_of_methodNamed B.named
  have hlocks := B.notSynchronized
  obtain ⟨hP, hK⟩ := hv
  obtain ⟨H, hH⟩ : ∃ H, H = s.heap := ⟨_, rfl⟩
  rw [← hH] at hP ⊢
  have hl := lv_entry ([.ref mo, .int dd]) (n := 2) (Nat.le_of_ble_eq_true rfl)
  rw [lg_entry_eq]
  generalize (lg_sl ([.ref mo, .int dd]) ++ List.replicate (2 - (lg_sl ([.ref mo, .int dd])).length) Slot.unset).toArray = ls at hl ⊢
  have hl : lv_has ls 2 [(0, .ref mo), (1, .int dd)] := hl
  refine lv_iload_n (pc := 0) hx hb dM_isDrawing_0 rfl (lv_at hl 1 rfl) ?_
  refine lv_if_lt (pc := 1) (tgt := 19) hx hb dM_isDrawing_1 rfl (fun h1 => ?_) (fun h1 => ?_)
  · refine lv_iconst (pc := 19) (v := 0) hx hb dM_isDrawing_19 (by decide) ?_
    exact W.zret (pc := 20) hx hb hr rfl (fun t ht hW => ⟨_, rfl, rfl, ht.trans hH⟩) (fun q h => nomatch h) dM_isDrawing_20
  · refine lv_iload_n (pc := 4) hx hb dM_isDrawing_4 rfl (lv_at hl 1 rfl) ?_
    refine lv_aload_n (pc := 5) hx hb dM_isDrawing_5 rfl (lv_at hl 0 rfl) ?_
    refine va_get (D := (dC, dI)) (cl := kCl) (C := RM) (T := TM) (N := 11) (pc := 6) hx hb hts inM hown hK hP 0 rfl rfl 2 (by decide) (hts _ wd_158) (fun _ h9 => h9) rfl dM_isDrawing_6 ?_
    refine lv_bipush (pc := 9) (v := 16) hx hb dM_isDrawing_9 (by decide) ?_
    refine va_iald (D := (dC, dI)) (cl := kCl) (pc := 11) hx hb hK hP 1 0 rfl rfl (vp_in_lit 16 25240 (by decide)) dM_isDrawing_11 ?_
    refine W.eq (g2 := F0 m 12 ls [.int 0, .int dd]) rfl ?_
    refine lv_icmp_ge (pc := 12) (tgt := 19) hx hb dM_isDrawing_12 rfl (fun h2 => ?_) (fun h2 => absurd (Int32.not_lt.mp h1) h2)
    refine lv_iconst (pc := 19) (v := 0) hx hb dM_isDrawing_19 (by decide) ?_
    exact W.zret (pc := 20) hx hb hr rfl (fun t ht hW => ⟨_, rfl, rfl, ht.trans hH⟩) (fun q h => nomatch h) dM_isDrawing_20
set_option maxHeartbeats 4000000 in
set_option maxRecDepth 100000 in
theorem m_isRevision (l : Launch) (dC : Nat → ClassId) (dI : Nat → Nat → Nat) (mo : Nat) (nw : Nat) (kp : Nat) (mk : Nat) (co : Nat) (se : Nat) (th : Int32) (mr : Int32) (cN : ClassId) (dd : Int32) (vv : Int32) : Met l yM_isRevision (.code yM_isRevision cM_isRevision 3 (some .boolean) :: aw) ({ frames := 1, cells := 0, slots := 0, locals := 21 }) (pR (dC, dI) [(mo, .inr (4, [.int th, .int mr, .ref nw, .ref kp, .int 0, .int (-1), .ref mk, .ref co, .int 0, .int 0, .ref se])), (nw, .inl (cN, 25240, .inl now0))] [(cN, .int)] [.ref mo, .int dd, .int vv]) (vp_Si (fun r => r = 0)) 0 0 (fun _ => False) := by
  refine Met.ofW (cc := cM_isRevision) (maxL := 3) (ret := (some .boolean)) (by decide) rfl ?_
  intro p e s m args below meth c s₁ B hml hv
  obtain ⟨rfl, hv⟩ := hv
  have hx := B.exec
  have hb := B.bytes
  have hr := B.returns
  have hts : ∀ w ∈ aw, w.before _ s = true := fun w h => atoms_spec (ws := (.code yM_isRevision cM_isRevision 3 (some .boolean) :: aw)) B.pre w (List.mem_cons_of_mem _ h)
  have hown : s.vm.findClass RM = some m.cls := findClass_of_methodNamed B.named
  have hlocks := B.notSynchronized
  obtain ⟨hP, hK⟩ := hv
  obtain ⟨H, hH⟩ : ∃ H, H = s.heap := ⟨_, rfl⟩
  rw [← hH] at hP ⊢
  have hl := lv_entry ([.ref mo, .int dd, .int vv]) (n := 3) (Nat.le_of_ble_eq_true rfl)
  rw [lg_entry_eq]
  generalize (lg_sl ([.ref mo, .int dd, .int vv]) ++ List.replicate (3 - (lg_sl ([.ref mo, .int dd, .int vv])).length) Slot.unset).toArray = ls at hl ⊢
  have hl : lv_has ls 3 [(0, .ref mo), (1, .int dd), (2, .int vv)] := hl
  refine lv_aload_n (pc := 0) hx hb dM_isRevision_0 rfl (lv_at hl 0 rfl) ?_
  refine lv_iload_n (pc := 1) hx hb dM_isRevision_1 rfl (lv_at hl 1 rfl) ?_
  refine vp_callSi (pc := 2) (W.runV (As := [.int dd]) (rest := []) ⟨hx, hb, hml, hown, hts⟩ (m_isDrawing l dC dI mo nw kp mk co se th mr cN dd) (cwV 1 hts (gV wd_160 wd_161 wd_162 wd_157 wd_159) rfl rfl rfl (by decide +kernel) ⟨Nat.le_of_ble_eq_true rfl, Nat.le_of_ble_eq_true rfl⟩) ⟨pR_blind, va_recv (q := (RM, TM, 11)) (q0 := 0) (ci := 4) hK hP rfl rfl, pR_pre (hP.sub (ws' := [(mo, .inr (4, [.int th, .int mr, .ref nw, .ref kp, .int 0, .int (-1), .ref mk, .ref co, .int 0, .int 0, .ref se])), (nw, .inl (cN, 25240, .inl now0))]) [0, 1] rfl) (hK.sub (tys' := [(cN, .int)]) [0] rfl)⟩ rfl rfl hl.1 rfl (lv_room (Nat.le_of_ble_eq_true rfl)) dM_isRevision_2 ⟨Nat.le_of_ble_eq_true rfl, Nat.le_of_ble_eq_true rfl⟩) (fun r1 hr2 => ?_)
  obtain rfl : r1 = 0 := hr2
  refine lv_if_eq (pc := 5) (tgt := 25) hx hb dM_isRevision_5 rfl (fun h3 => ?_) (fun h3 => absurd h3 (by decide))
  refine lv_iconst (pc := 25) (v := 0) hx hb dM_isRevision_25 (by decide) ?_
  exact W.zret (pc := 26) hx hb hr rfl (fun t ht hW => ⟨_, rfl, rfl, ht.trans hH⟩) (fun q h => nomatch h) dM_isRevision_26
set_option maxHeartbeats 4000000 in
set_option maxRecDepth 100000 in
theorem m_baselineAt (l : Launch) (dC : Nat → ClassId) (dI : Nat → Nat → Nat) (mo : Nat) (nw : Nat) (kp : Nat) (mk : Nat) (co : Nat) (se : Nat) (th : Int32) (mr : Int32) (nn : Int32) : Met l yM_baselineAt (.code yM_baselineAt cM_baselineAt 2 (some .int) :: aw) ({ frames := 0, cells := 0, slots := 0, locals := 0 }) (pR (dC, dI) [(mo, .inr (4, [.int th, .int mr, .ref nw, .ref kp, .int 0, .int (-1), .ref mk, .ref co, .int 0, .int 0, .ref se]))] [] [.ref mo, .int nn]) (vp_Si (fun r => r = (24980 + 26 * nn))) 0 0 (fun _ => False) := by
  refine Met.ofW (cc := cM_baselineAt) (maxL := 2) (ret := (some .int)) (by decide) rfl ?_
  intro p e s m args below meth c s₁ B hml hv
  obtain ⟨rfl, hv⟩ := hv
  have hx := B.exec
  have hb := B.bytes
  have hr := B.returns
  have hts : ∀ w ∈ aw, w.before _ s = true := fun w h => atoms_spec (ws := (.code yM_baselineAt cM_baselineAt 2 (some .int) :: aw)) B.pre w (List.mem_cons_of_mem _ h)
  have hown : s.vm.findClass RM = some m.cls := findClass_of_methodNamed B.named
  have hlocks := B.notSynchronized
  obtain ⟨hP, hK⟩ := hv
  obtain ⟨H, hH⟩ : ∃ H, H = s.heap := ⟨_, rfl⟩
  rw [← hH] at hP ⊢
  have hl := lv_entry ([.ref mo, .int nn]) (n := 2) (Nat.le_of_ble_eq_true rfl)
  rw [lg_entry_eq]
  generalize (lg_sl ([.ref mo, .int nn]) ++ List.replicate (2 - (lg_sl ([.ref mo, .int nn])).length) Slot.unset).toArray = ls at hl ⊢
  have hl : lv_has ls 2 [(0, .ref mo), (1, .int nn)] := hl
  refine lv_sipush (pc := 0) (v := 24980) hx hb dM_baselineAt_0 (by decide) ?_
  refine lv_bipush (pc := 3) (v := 26) hx hb dM_baselineAt_3 (by decide) ?_
  refine lv_iload_n (pc := 5) hx hb dM_baselineAt_5 rfl (lv_at hl 1 rfl) ?_
  refine lv_imul (pc := 6) hx hb dM_baselineAt_6 ?_
  refine lv_iadd (pc := 7) hx hb dM_baselineAt_7 ?_
  exact W.iret (pc := 8) hx hb hr (fun t ht hW => ⟨_, rfl, rfl, ht.trans hH⟩) (fun q h => nomatch h) dM_baselineAt_8
set_option maxHeartbeats 4000000 in
set_option maxRecDepth 100000 in
theorem m_parts (l : Launch) (dC : Nat → ClassId) (dI : Nat → Nat → Nat) : Met l yM_parts (.code yM_parts cM_parts 1 (some .int) :: aw) ({ frames := 0, cells := 0, slots := 0, locals := 0 }) (pR (dC, dI) [] [] [.int 0]) (vp_Si (fun r => r = 0)) 0 0 (fun _ => False) := by
  refine Met.ofW (cc := cM_parts) (maxL := 1) (ret := (some .int)) (by decide) rfl ?_
  intro p e s m args below meth c s₁ B hml hv
  obtain ⟨rfl, hv⟩ := hv
  have hx := B.exec
  have hb := B.bytes
  have hr := B.returns
  have hts : ∀ w ∈ aw, w.before _ s = true := fun w h => atoms_spec (ws := (.code yM_parts cM_parts 1 (some .int) :: aw)) B.pre w (List.mem_cons_of_mem _ h)
  have hown : s.vm.findClass RM = some m.cls := findClass_of_methodNamed B.named
  have hlocks := B.notSynchronized
  obtain ⟨hP, hK⟩ := hv
  obtain ⟨H, hH⟩ : ∃ H, H = s.heap := ⟨_, rfl⟩
  rw [← hH] at hP ⊢
  have hl := lv_entry ([.int 0]) (n := 1) (Nat.le_of_ble_eq_true rfl)
  rw [lg_entry_eq]
  generalize (lg_sl ([.int 0]) ++ List.replicate (1 - (lg_sl ([.int 0])).length) Slot.unset).toArray = ls at hl ⊢
  have hl : lv_has ls 1 [(0, .int 0)] := hl
  refine lv_iload_n (pc := 0) hx hb dM_parts_0 rfl (lv_at hl 0 rfl) ?_
  refine lv_bipush (pc := 1) (v := 7) hx hb dM_parts_1 (by decide) ?_
  refine lv_iadd (pc := 3) hx hb dM_parts_3 ?_
  refine lv_topi (fun z1 hz2 => ?_)
  obtain rfl : z1 = 7 := hz2.trans (by decide)
  refine lv_bipush (pc := 4) (v := 8) hx hb dM_parts_4 (by decide) ?_
  refine lv_idiv (pc := 6) hx hb dM_parts_6 (by decide) ?_
  refine lv_topi (fun z3 hz4 => ?_)
  obtain rfl : z3 = 0 := hz4.trans (by decide)
  exact W.iret (pc := 7) hx hb hr (fun t ht hW => ⟨_, rfl, rfl, ht.trans hH⟩) (fun q h => nomatch h) dM_parts_7
set_option maxHeartbeats 4000000 in
set_option maxRecDepth 100000 in
theorem m_least (l : Launch) (dC : Nat → ClassId) (dI : Nat → Nat → Nat) (ba : Int32) (nu : Int32) (be : Int32) : Met l yM_least (.code yM_least cM_least 3 (some .int) :: aw) ({ frames := 0, cells := 0, slots := 0, locals := 0 }) (pR (dC, dI) [] [] [.int ba, .int nu, .int be]) (vp_Si (fun r => r = (lst ba nu be))) 0 0 (fun _ => False) := by
  refine Met.ofW (cc := cM_least) (maxL := 3) (ret := (some .int)) (by decide) rfl ?_
  intro p e s m args below meth c s₁ B hml hv
  obtain ⟨rfl, hv⟩ := hv
  have hx := B.exec
  have hb := B.bytes
  have hr := B.returns
  have hts : ∀ w ∈ aw, w.before _ s = true := fun w h => atoms_spec (ws := (.code yM_least cM_least 3 (some .int) :: aw)) B.pre w (List.mem_cons_of_mem _ h)
  have hown : s.vm.findClass RM = some m.cls := findClass_of_methodNamed B.named
  have hlocks := B.notSynchronized
  obtain ⟨hP, hK⟩ := hv
  obtain ⟨H, hH⟩ : ∃ H, H = s.heap := ⟨_, rfl⟩
  rw [← hH] at hP ⊢
  have hl := lv_entry ([.int ba, .int nu, .int be]) (n := 3) (Nat.le_of_ble_eq_true rfl)
  rw [lg_entry_eq]
  generalize (lg_sl ([.int ba, .int nu, .int be]) ++ List.replicate (3 - (lg_sl ([.int ba, .int nu, .int be])).length) Slot.unset).toArray = ls at hl ⊢
  have hl : lv_has ls 3 [(0, .int ba), (1, .int nu), (2, .int be)] := hl
  refine lv_iload_n (pc := 0) hx hb dM_least_0 rfl (lv_at hl 0 rfl) ?_
  refine lv_if_eq (pc := 1) (tgt := 17) hx hb dM_least_1 rfl (fun h1 => ?_) (fun h1 => ?_)
  · refine lv_iload_n (pc := 17) hx hb dM_least_17 rfl (lv_at hl 2 rfl) ?_
    exact W.iret (pc := 18) hx hb hr (fun t ht hW => ⟨_, rfl, by rw [h1]; exact lst_0, ht.trans hH⟩) (fun q h => nomatch h) dM_least_18
  · refine lv_iload_n (pc := 4) hx hb dM_least_4 rfl (lv_at hl 2 rfl) ?_
    refine lv_if_eq (pc := 5) (tgt := 13) hx hb dM_least_5 rfl (fun h2 => ?_) (fun h2 => ?_)
    · refine lv_iload_n (pc := 13) hx hb dM_least_13 rfl (lv_at hl 1 rfl) ?_
      refine lv_goto (pc := 14) (tgt := 18) hx hb dM_least_14 rfl ?_
      exact W.iret (pc := 18) hx hb hr (fun t ht hW => ⟨_, rfl, by rw [h2]; exact lst_n h1, ht.trans hH⟩) (fun q h => nomatch h) dM_least_18
    · refine lv_iload_n (pc := 8) hx hb dM_least_8 rfl (lv_at hl 1 rfl) ?_
      refine lv_iload_n (pc := 9) hx hb dM_least_9 rfl (lv_at hl 2 rfl) ?_
      refine lv_icmp_ge (pc := 10) (tgt := 17) hx hb dM_least_10 rfl (fun h3 => ?_) (fun h3 => ?_)
      · refine lv_iload_n (pc := 17) hx hb dM_least_17 rfl (lv_at hl 2 rfl) ?_
        exact W.iret (pc := 18) hx hb hr (fun t ht hW => ⟨_, rfl, lst_g h1 h2 (Int32.not_lt.mpr h3), ht.trans hH⟩) (fun q h => nomatch h) dM_least_18
      · refine lv_iload_n (pc := 13) hx hb dM_least_13 rfl (lv_at hl 1 rfl) ?_
        refine lv_goto (pc := 14) (tgt := 18) hx hb dM_least_14 rfl ?_
        exact W.iret (pc := 18) hx hb hr (fun t ht hW => ⟨_, rfl, lst_l h1 h2 (Int32.not_le.mp h3), ht.trans hH⟩) (fun q h => nomatch h) dM_least_18
set_option maxHeartbeats 4000000 in
set_option maxRecDepth 100000 in
theorem m_allRevisions (l : Launch) (dC : Nat → ClassId) (dI : Nat → Nat → Nat) (mo : Nat) (nw : Nat) (kp : Nat) (mk : Nat) (co : Nat) (se : Nat) (th : Int32) (mr : Int32) (cN : ClassId) : Met l yM_allRevisions (.code yM_allRevisions cM_allRevisions 3 (some .int) :: aw) ({ frames := 0, cells := 0, slots := 0, locals := 0 }) (pR (dC, dI) [(mo, .inr (4, [.int th, .int mr, .ref nw, .ref kp, .int 0, .int (-1), .ref mk, .ref co, .int 0, .int 0, .ref se])), (nw, .inl (cN, 25240, .inl now0))] [(cN, .int)] [.ref mo]) (vp_Si (fun r => r = 0)) 0 0 (fun _ => False) := by
  refine Met.ofW (cc := cM_allRevisions) (maxL := 3) (ret := (some .int)) (by decide) rfl ?_
  intro p e s m args below meth c s₁ B hml hv
  obtain ⟨rfl, hv⟩ := hv
  have hx := B.exec
  have hb := B.bytes
  have hr := B.returns
  have hts : ∀ w ∈ aw, w.before _ s = true := fun w h => atoms_spec (ws := (.code yM_allRevisions cM_allRevisions 3 (some .int) :: aw)) B.pre w (List.mem_cons_of_mem _ h)
  have hown : s.vm.findClass RM = some m.cls := findClass_of_methodNamed B.named
  have hlocks := B.notSynchronized
  obtain ⟨hP, hK⟩ := hv
  obtain ⟨H, hH⟩ : ∃ H, H = s.heap := ⟨_, rfl⟩
  rw [← hH] at hP ⊢
  have hl := lv_entry ([.ref mo]) (n := 3) (Nat.le_of_ble_eq_true rfl)
  rw [lg_entry_eq]
  generalize (lg_sl ([.ref mo]) ++ List.replicate (3 - (lg_sl ([.ref mo])).length) Slot.unset).toArray = ls at hl ⊢
  have hl : lv_has ls 3 [(0, .ref mo)] := hl
  refine lv_iconst (pc := 0) (v := 0) hx hb dM_allRevisions_0 (by decide) ?_
  refine lv_istore_n (pc := 1) hx hb dM_allRevisions_1 rfl hl (by decide) rfl (fun ls hl => ?_)
  have hl : lv_has ls 3 [(1, .int 0), (0, .ref mo)] := hl
  refine lv_iconst (pc := 2) (v := 0) hx hb dM_allRevisions_2 (by decide) ?_
  refine lv_istore_n (pc := 3) hx hb dM_allRevisions_3 rfl hl (by decide) rfl (fun ls hl => ?_)
  have hl : lv_has ls 3 [(2, .int 0), (1, .int 0), (0, .ref mo)] := hl
  refine lv_iload_n (pc := 4) hx hb dM_allRevisions_4 rfl (lv_at hl 0 rfl) ?_
  refine lv_aload_n (pc := 5) hx hb dM_allRevisions_5 rfl (lv_at hl 2 rfl) ?_
  refine va_get (D := (dC, dI)) (cl := kCl) (C := RM) (T := TM) (N := 11) (pc := 6) hx hb hts inM hown hK hP 0 rfl rfl 2 (by decide) (hts _ wd_158) (fun _ h9 => h9) rfl dM_allRevisions_6 ?_
  refine lv_bipush (pc := 9) (v := 16) hx hb dM_allRevisions_9 (by decide) ?_
  refine va_iald (D := (dC, dI)) (cl := kCl) (pc := 11) hx hb hK hP 1 0 rfl rfl (vp_in_lit 16 25240 (by decide)) dM_allRevisions_11 ?_
  refine W.eq (g2 := F0 m 12 ls [.int 0, .int 0]) rfl ?_
  refine lv_icmp_ge (pc := 12) (tgt := 29) hx hb dM_allRevisions_12 rfl (fun h1 => ?_) (fun h1 => absurd h1 (by decide))
  refine lv_iload_n (pc := 29) hx hb dM_allRevisions_29 rfl (lv_at hl 1 rfl) ?_
  exact W.iret (pc := 30) hx hb hr (fun t ht hW => ⟨_, rfl, rfl, ht.trans hH⟩) (fun q h => nomatch h) dM_allRevisions_30
set_option maxHeartbeats 4000000 in
set_option maxRecDepth 100000 in
theorem m_may (l : Launch) (dC : Nat → ClassId) (dI : Nat → Nat → Nat) (sz : Nat) (mo : Nat) (nw : Nat) (kp : Nat) (mk : Nat) (co : Nat) (se : Nat) (th : Int32) (mr : Int32) (cN : ClassId) (rf : Int32) (kk : Int32) (hf : ¬ rf = 0) (hg : 0 < rf) : Met l yM_may (.code yM_may cM_may 4 (some .boolean) :: aw) ({ frames := 0, cells := 0, slots := 0, locals := 0 }) (pW (dC, dI) sz [(mo, .inr (4, [.int th, .int mr, .ref nw, .ref kp, .int 0, .int (-1), .ref mk, .ref co, .int 0, .int 0, .ref se])), (nw, .inl (cN, 25240, .inl now0))] [(cN, .int)] [.ref mo, .int rf, .int kk]) (va_Qi (fun r (_ : Unit) => r = 0) (fun _ t => wW (dC, dI) (va_A [(mo, .inr (4, [.int th, .int mr, .ref nw, .ref kp, .int 0, .int (-1), .ref mk, .ref co, .int 0, .int 0, .ref se])), (nw, .inl (cN, 25240, .inl now0))] sz) [(mo, .inr (4, [.int 0, .int rf, .ref nw, .ref kp, .int 0, .int (-1), .ref mk, .ref co, .int 0, .int 0, .ref se])), (nw, .inl (cN, 25240, .inl now0))] [(cN, .int)] t) (va_A [(mo, .inr (4, [.int th, .int mr, .ref nw, .ref kp, .int 0, .int (-1), .ref mk, .ref co, .int 0, .int 0, .ref se])), (nw, .inl (cN, 25240, .inl now0))] sz)) 0 0 (va_A [(mo, .inr (4, [.int th, .int mr, .ref nw, .ref kp, .int 0, .int (-1), .ref mk, .ref co, .int 0, .int 0, .ref se])), (nw, .inl (cN, 25240, .inl now0))] sz) := by
  refine Met.ofW (cc := cM_may) (maxL := 4) (ret := (some .boolean)) (by decide) rfl ?_
  intro p e s m args below meth c s₁ B hml hv
  obtain ⟨rfl, hv⟩ := hv
  have hx := B.exec
  have hb := B.bytes
  have hr := B.returns
  have hts : ∀ w ∈ aw, w.before _ s = true := fun w h => atoms_spec (ws := (.code yM_may cM_may 4 (some .boolean) :: aw)) B.pre w (List.mem_cons_of_mem _ h)
  have hown : s.vm.findClass RM = some m.cls := findClass_of_methodNamed B.named
  have hlocks := B.notSynchronized
  obtain ⟨hsz, hP, hK, hD0⟩ := hv
  subst hsz
  have hD := hD0.self (sz := s.heap.size)
  generalize hAe : va_A [(mo, .inr (4, [.int th, .int mr, .ref nw, .ref kp, .int 0, .int (-1), .ref mk, .ref co, .int 0, .int 0, .ref se])), (nw, .inl (cN, 25240, .inl now0))] s.heap.size = A at hD ⊢
  have hA : ∀ q : Nat, s.heap.size ≤ q → A q := fun q h => by rw [← hAe]; exact Or.inr h
  obtain ⟨H, hH⟩ : ∃ H, H = s.heap := ⟨_, rfl⟩
  have hS : va_S A s.heap H [] := by rw [hH]; exact va_S.rf
  rw [← hH] at hP ⊢
  have hP : va_P (dC, dI) kCl [(mo, .inr (4, [.int th, .int mr, .ref nw, .ref kp, .int 0, .int (-1), .ref mk, .ref co, .int 0, .int 0, .ref se])), (nw, .inl (cN, 25240, .inl now0))] H := hP
  have hl := lv_entry ([.ref mo, .int rf, .int kk]) (n := 4) (Nat.le_of_ble_eq_true rfl)
  rw [lg_entry_eq]
  generalize (lg_sl ([.ref mo, .int rf, .int kk]) ++ List.replicate (4 - (lg_sl ([.ref mo, .int rf, .int kk])).length) Slot.unset).toArray = ls at hl ⊢
  have hl : lv_has ls 4 [(0, .ref mo), (1, .int rf), (2, .int kk)] := hl
  refine lv_iload_n (pc := 0) hx hb dM_may_0 rfl (lv_at hl 1 rfl) ?_
  refine lv_if_ne (pc := 1) (tgt := 20) hx hb dM_may_1 rfl (fun h1 => ?_) (fun h1 => absurd h1 hf)
  refine lv_iload_n (pc := 20) hx hb dM_may_20 rfl (lv_at hl 1 rfl) ?_
  refine lv_istore_n (pc := 21) hx hb dM_may_21 rfl hl (by decide) rfl (fun ls hl => ?_)
  have hl : lv_has ls 4 [(3, .int rf), (0, .ref mo), (1, .int rf), (2, .int kk)] := hl
  refine lv_aload_n (pc := 22) hx hb dM_may_22 rfl (lv_at hl 1 rfl) ?_
  refine lv_aload_n (pc := 23) hx hb dM_may_23 rfl (lv_at hl 1 rfl) ?_
  refine va_get (D := (dC, dI)) (cl := kCl) (C := RM) (T := TM) (N := 11) (pc := 24) hx hb hts inM hown hK hP 0 rfl rfl 4 (by decide) (hts _ wd_163) (fun _ h9 => h9) rfl dM_may_24 ?_
  refine lv_if_eq (pc := 27) (tgt := 34) hx hb dM_may_27 rfl (fun h2 => ?_) (fun h2 => absurd h2 (by decide))
  refine lv_iconst (pc := 34) (v := 0) hx hb dM_may_34 (by decide) ?_
  refine va_put (D := (dC, dI)) (cl := kCl) (ci := 4) (v := .int 0) (ty := .int) (C := RM) (T := TM) (N := 11) (pc := 35) hx hb hts inM tyM tyM_ok nmM hown hK hP hD hS 0 rfl rfl 0 (by decide) (hts _ wd_152) (fun _ h9 => h9) rfl (by decide +kernel) rfl rfl (Nat.le_of_ble_eq_true rfl) dM_may_35 (fun H locs hP hD hS => ?_)
  have hP : va_P (dC, dI) kCl [(mo, .inr (4, [.int 0, .int mr, .ref nw, .ref kp, .int 0, .int (-1), .ref mk, .ref co, .int 0, .int 0, .ref se])), (nw, .inl (cN, 25240, .inl now0))] H := hP
  have hD : va_D A [(mo, .inr (4, [.int 0, .int mr, .ref nw, .ref kp, .int 0, .int (-1), .ref mk, .ref co, .int 0, .int 0, .ref se])), (nw, .inl (cN, 25240, .inl now0))] := hD
  refine lv_aload_n (pc := 38) hx hb dM_may_38 rfl (lv_at hl 1 rfl) ?_
  refine va_get (D := (dC, dI)) (cl := kCl) (C := RM) (T := TM) (N := 11) (pc := 39) hx hb hts inM hown hK hP 0 rfl rfl 4 (by decide) (hts _ wd_163) (fun _ h9 => h9) rfl dM_may_39 ?_
  refine lv_if_eq (pc := 42) (tgt := 47) hx hb dM_may_42 rfl (fun h3 => ?_) (fun h3 => absurd h3 (by decide))
  refine lv_iload_n (pc := 47) hx hb dM_may_47 rfl (lv_at hl 0 rfl) ?_
  refine lv_if_ne (pc := 48) (tgt := 79) hx hb dM_may_48 rfl (fun h4 => ?_) (fun h4 => absurd h4 hf)
  refine lv_aload_n (pc := 79) hx hb dM_may_79 rfl (lv_at hl 1 rfl) ?_
  refine lv_iload_n (pc := 80) hx hb dM_may_80 rfl (lv_at hl 0 rfl) ?_
  refine va_put (D := (dC, dI)) (cl := kCl) (ci := 4) (v := .int rf) (ty := .int) (C := RM) (T := TM) (N := 11) (pc := 81) hx hb hts inM tyM tyM_ok nmM hown hK hP hD hS 0 rfl rfl 1 (by decide) (hts _ wd_164) (fun _ h9 => h9) rfl (by decide +kernel) rfl rfl (Nat.le_of_ble_eq_true rfl) dM_may_81 (fun H locs hP hD hS => ?_)
  have hP : va_P (dC, dI) kCl [(mo, .inr (4, [.int 0, .int rf, .ref nw, .ref kp, .int 0, .int (-1), .ref mk, .ref co, .int 0, .int 0, .ref se])), (nw, .inl (cN, 25240, .inl now0))] H := hP
  have hD : va_D A [(mo, .inr (4, [.int 0, .int rf, .ref nw, .ref kp, .int 0, .int (-1), .ref mk, .ref co, .int 0, .int 0, .ref se])), (nw, .inl (cN, 25240, .inl now0))] := hD
  refine lv_iload_n (pc := 84) hx hb dM_may_84 rfl (lv_at hl 0 rfl) ?_
  refine lv_if_le (pc := 85) (tgt := 90) hx hb dM_may_85 rfl (fun h5 => absurd hg (Int32.not_lt.mpr h5)) (fun h5 => ?_)
  refine lv_iconst (pc := 88) (v := 0) hx hb dM_may_88 (by decide) ?_
  have hP9 := hP.sub (ws' := [(mo, .inr (4, [.int 0, .int rf, .ref nw, .ref kp, .int 0, .int (-1), .ref mk, .ref co, .int 0, .int 0, .ref se])), (nw, .inl (cN, 25240, .inl now0))]) [0, 1] rfl
  have hD9 := hD.sub (ws' := [(mo, .inr (4, [.int 0, .int rf, .ref nw, .ref kp, .int 0, .int (-1), .ref mk, .ref co, .int 0, .int 0, .ref se])), (nw, .inl (cN, 25240, .inl now0))]) [0, 1] (by decide) rfl
  have hK9 := hK.sub (tys' := [(cN, .int)]) [0] rfl
  exact W.zret (pc := 89) hx hb hr rfl (fun t ht hW => ⟨⟨_, (), rfl, rfl, by rw [ht]; exact hP9, va_K.moved hW.alike hK9, hD9⟩, hS.F ht⟩) hS.2.2 dM_may_89
set_option maxHeartbeats 4000000 in
set_option maxRecDepth 100000 in
theorem m_mayHere (l : Launch) (dC : Nat → ClassId) (dI : Nat → Nat → Nat) (sz : Nat) (mo : Nat) (nw : Nat) (kp : Nat) (mk : Nat) (co : Nat) (se : Nat) (th : Int32) (mr : Int32) (rf : Int32) (hf : ¬ rf = 0) : Met l yM_mayHere (.code yM_mayHere cM_mayHere 2 (some .boolean) :: aw) ({ frames := 0, cells := 0, slots := 0, locals := 0 }) (pW (dC, dI) sz [(mo, .inr (4, [.int th, .int mr, .ref nw, .ref kp, .int 0, .int (-1), .ref mk, .ref co, .int 0, .int 0, .ref se]))] [] [.ref mo, .int rf]) (va_Qi (fun r (_ : Unit) => r = 0) (fun _ t => wW (dC, dI) (va_A [(mo, .inr (4, [.int th, .int mr, .ref nw, .ref kp, .int 0, .int (-1), .ref mk, .ref co, .int 0, .int 0, .ref se]))] sz) [(mo, .inr (4, [.int 0, .int rf, .ref nw, .ref kp, .int 0, .int (-1), .ref mk, .ref co, .int 0, .int 0, .ref se]))] [] t) (va_A [(mo, .inr (4, [.int th, .int mr, .ref nw, .ref kp, .int 0, .int (-1), .ref mk, .ref co, .int 0, .int 0, .ref se]))] sz)) 0 0 (va_A [(mo, .inr (4, [.int th, .int mr, .ref nw, .ref kp, .int 0, .int (-1), .ref mk, .ref co, .int 0, .int 0, .ref se]))] sz) := by
  refine Met.ofW (cc := cM_mayHere) (maxL := 2) (ret := (some .boolean)) (by decide) rfl ?_
  intro p e s m args below meth c s₁ B hml hv
  obtain ⟨rfl, hv⟩ := hv
  have hx := B.exec
  have hb := B.bytes
  have hr := B.returns
  have hts : ∀ w ∈ aw, w.before _ s = true := fun w h => atoms_spec (ws := (.code yM_mayHere cM_mayHere 2 (some .boolean) :: aw)) B.pre w (List.mem_cons_of_mem _ h)
  have hown : s.vm.findClass RM = some m.cls := findClass_of_methodNamed B.named
  have hlocks := B.notSynchronized
  obtain ⟨hsz, hP, hK, hD0⟩ := hv
  subst hsz
  have hD := hD0.self (sz := s.heap.size)
  generalize hAe : va_A [(mo, .inr (4, [.int th, .int mr, .ref nw, .ref kp, .int 0, .int (-1), .ref mk, .ref co, .int 0, .int 0, .ref se]))] s.heap.size = A at hD ⊢
  have hA : ∀ q : Nat, s.heap.size ≤ q → A q := fun q h => by rw [← hAe]; exact Or.inr h
  obtain ⟨H, hH⟩ : ∃ H, H = s.heap := ⟨_, rfl⟩
  have hS : va_S A s.heap H [] := by rw [hH]; exact va_S.rf
  rw [← hH] at hP ⊢
  have hP : va_P (dC, dI) kCl [(mo, .inr (4, [.int th, .int mr, .ref nw, .ref kp, .int 0, .int (-1), .ref mk, .ref co, .int 0, .int 0, .ref se]))] H := hP
  have hl := lv_entry ([.ref mo, .int rf]) (n := 2) (Nat.le_of_ble_eq_true rfl)
  rw [lg_entry_eq]
  generalize (lg_sl ([.ref mo, .int rf]) ++ List.replicate (2 - (lg_sl ([.ref mo, .int rf])).length) Slot.unset).toArray = ls at hl ⊢
  have hl : lv_has ls 2 [(0, .ref mo), (1, .int rf)] := hl
  refine lv_aload_n (pc := 0) hx hb dM_mayHere_0 rfl (lv_at hl 0 rfl) ?_
  refine lv_aload_n (pc := 1) hx hb dM_mayHere_1 rfl (lv_at hl 0 rfl) ?_
  refine va_get (D := (dC, dI)) (cl := kCl) (C := RM) (T := TM) (N := 11) (pc := 2) hx hb hts inM hown hK hP 0 rfl rfl 4 (by decide) (hts _ wd_163) (fun _ h9 => h9) rfl dM_mayHere_2 ?_
  refine lv_if_eq (pc := 5) (tgt := 12) hx hb dM_mayHere_5 rfl (fun h1 => ?_) (fun h1 => absurd h1 (by decide))
  refine lv_iconst (pc := 12) (v := 0) hx hb dM_mayHere_12 (by decide) ?_
  refine va_put (D := (dC, dI)) (cl := kCl) (ci := 4) (v := .int 0) (ty := .int) (C := RM) (T := TM) (N := 11) (pc := 13) hx hb hts inM tyM tyM_ok nmM hown hK hP hD hS 0 rfl rfl 0 (by decide) (hts _ wd_152) (fun _ h9 => h9) rfl (by decide +kernel) rfl rfl (Nat.le_of_ble_eq_true rfl) dM_mayHere_13 (fun H locs hP hD hS => ?_)
  have hP : va_P (dC, dI) kCl [(mo, .inr (4, [.int 0, .int mr, .ref nw, .ref kp, .int 0, .int (-1), .ref mk, .ref co, .int 0, .int 0, .ref se]))] H := hP
  have hD : va_D A [(mo, .inr (4, [.int 0, .int mr, .ref nw, .ref kp, .int 0, .int (-1), .ref mk, .ref co, .int 0, .int 0, .ref se]))] := hD
  refine lv_aload_n (pc := 16) hx hb dM_mayHere_16 rfl (lv_at hl 0 rfl) ?_
  refine va_get (D := (dC, dI)) (cl := kCl) (C := RM) (T := TM) (N := 11) (pc := 17) hx hb hts inM hown hK hP 0 rfl rfl 4 (by decide) (hts _ wd_163) (fun _ h9 => h9) rfl dM_mayHere_17 ?_
  refine lv_if_eq (pc := 20) (tgt := 25) hx hb dM_mayHere_20 rfl (fun h2 => ?_) (fun h2 => absurd h2 (by decide))
  refine lv_aload_n (pc := 25) hx hb dM_mayHere_25 rfl (lv_at hl 0 rfl) ?_
  refine lv_iload_n (pc := 26) hx hb dM_mayHere_26 rfl (lv_at hl 1 rfl) ?_
  refine va_put (D := (dC, dI)) (cl := kCl) (ci := 4) (v := .int rf) (ty := .int) (C := RM) (T := TM) (N := 11) (pc := 27) hx hb hts inM tyM tyM_ok nmM hown hK hP hD hS 0 rfl rfl 1 (by decide) (hts _ wd_164) (fun _ h9 => h9) rfl (by decide +kernel) rfl rfl (Nat.le_of_ble_eq_true rfl) dM_mayHere_27 (fun H locs hP hD hS => ?_)
  have hP : va_P (dC, dI) kCl [(mo, .inr (4, [.int 0, .int rf, .ref nw, .ref kp, .int 0, .int (-1), .ref mk, .ref co, .int 0, .int 0, .ref se]))] H := hP
  have hD : va_D A [(mo, .inr (4, [.int 0, .int rf, .ref nw, .ref kp, .int 0, .int (-1), .ref mk, .ref co, .int 0, .int 0, .ref se]))] := hD
  refine lv_iload_n (pc := 30) hx hb dM_mayHere_30 rfl (lv_at hl 1 rfl) ?_
  refine lv_if_ne (pc := 31) (tgt := 38) hx hb dM_mayHere_31 rfl (fun h3 => ?_) (fun h3 => absurd h3 hf)
  refine lv_iconst (pc := 38) (v := 0) hx hb dM_mayHere_38 (by decide) ?_
  have hP9 := hP.sub (ws' := [(mo, .inr (4, [.int 0, .int rf, .ref nw, .ref kp, .int 0, .int (-1), .ref mk, .ref co, .int 0, .int 0, .ref se]))]) [0] rfl
  have hD9 := hD.sub (ws' := [(mo, .inr (4, [.int 0, .int rf, .ref nw, .ref kp, .int 0, .int (-1), .ref mk, .ref co, .int 0, .int 0, .ref se]))]) [0] (by decide) rfl
  have hK9 := hK.sub (tys' := []) [] rfl
  exact W.zret (pc := 39) hx hb hr rfl (fun t ht hW => ⟨⟨_, (), rfl, rfl, by rw [ht]; exact hP9, va_K.moved hW.alike hK9, hD9⟩, hS.F ht⟩) hS.2.2 dM_mayHere_39
set_option maxHeartbeats 4000000 in
set_option maxRecDepth 100000 in
theorem m_whyNot (l : Launch) (dC : Nat → ClassId) (dI : Nat → Nat → Nat) (mo : Nat) (nw : Nat) (kp : Nat) (mk : Nat) (co : Nat) (se : Nat) (th : Int32) (mr : Int32) (cN : ClassId) (dd : Int32) (pp : Int32) : Met l yM_whyNot (.code yM_whyNot cM_whyNot 4 (some .int) :: aw) ({ frames := 2, cells := 0, slots := 0, locals := 42 }) (pR (dC, dI) [(mo, .inr (4, [.int th, .int mr, .ref nw, .ref kp, .int 0, .int (-1), .ref mk, .ref co, .int 0, .int 0, .ref se])), (nw, .inl (cN, 25240, .inl now0))] [(cN, .int)] [.ref mo, .int dd, .int pp]) (vp_Si (fun r => r = 1)) 0 0 (fun _ => False) := by
  refine Met.ofW (cc := cM_whyNot) (maxL := 4) (ret := (some .int)) (by decide) rfl ?_
  intro p e s m args below meth c s₁ B hml hv
  obtain ⟨rfl, hv⟩ := hv
  have hx := B.exec
  have hb := B.bytes
  have hr := B.returns
  have hts : ∀ w ∈ aw, w.before _ s = true := fun w h => atoms_spec (ws := (.code yM_whyNot cM_whyNot 4 (some .int) :: aw)) B.pre w (List.mem_cons_of_mem _ h)
  have hown : s.vm.findClass RM = some m.cls := findClass_of_methodNamed B.named
  have hlocks := B.notSynchronized
  obtain ⟨hP, hK⟩ := hv
  obtain ⟨H, hH⟩ : ∃ H, H = s.heap := ⟨_, rfl⟩
  rw [← hH] at hP ⊢
  have hl := lv_entry ([.ref mo, .int dd, .int pp]) (n := 4) (Nat.le_of_ble_eq_true rfl)
  rw [lg_entry_eq]
  generalize (lg_sl ([.ref mo, .int dd, .int pp]) ++ List.replicate (4 - (lg_sl ([.ref mo, .int dd, .int pp])).length) Slot.unset).toArray = ls at hl ⊢
  have hl : lv_has ls 4 [(0, .ref mo), (1, .int dd), (2, .int pp)] := hl
  refine lv_aload_n (pc := 0) hx hb dM_whyNot_0 rfl (lv_at hl 0 rfl) ?_
  refine lv_iload_n (pc := 1) hx hb dM_whyNot_1 rfl (lv_at hl 1 rfl) ?_
  refine vp_callSi (pc := 2) (W.runV (As := [.int dd]) (rest := []) ⟨hx, hb, hml, hown, hts⟩ (m_isDrawing l dC dI mo nw kp mk co se th mr cN dd) (cwV 1 hts (gV wd_160 wd_161 wd_162 wd_157 wd_159) rfl rfl rfl (by decide +kernel) ⟨Nat.le_of_ble_eq_true rfl, Nat.le_of_ble_eq_true rfl⟩) ⟨pR_blind, va_recv (q := (RM, TM, 11)) (q0 := 0) (ci := 4) hK hP rfl rfl, pR_pre (hP.sub (ws' := [(mo, .inr (4, [.int th, .int mr, .ref nw, .ref kp, .int 0, .int (-1), .ref mk, .ref co, .int 0, .int 0, .ref se])), (nw, .inl (cN, 25240, .inl now0))]) [0, 1] rfl) (hK.sub (tys' := [(cN, .int)]) [0] rfl)⟩ rfl rfl hl.1 rfl (lv_room (Nat.le_of_ble_eq_true rfl)) dM_whyNot_2 ⟨Nat.le_of_ble_eq_true rfl, Nat.le_of_ble_eq_true rfl⟩) (fun r1 hr2 => ?_)
  obtain rfl : r1 = 0 := hr2
  refine lv_istore_n (pc := 5) hx hb dM_whyNot_5 rfl hl (by decide) rfl (fun ls hl => ?_)
  have hl : lv_has ls 4 [(3, .int 0), (0, .ref mo), (1, .int dd), (2, .int pp)] := hl
  refine lv_aload_n (pc := 6) hx hb dM_whyNot_6 rfl (lv_at hl 1 rfl) ?_
  refine lv_iload_n (pc := 7) hx hb dM_whyNot_7 rfl (lv_at hl 3 rfl) ?_
  refine vp_callSi (pc := 8) (W.runV (As := [.int pp]) (rest := []) ⟨hx, hb, hml, hown, hts⟩ (m_rights l dC dI mo nw kp mk co se th mr cN pp) (cwV 1 hts (gV wd_166 wd_167 wd_168 wd_157 wd_165) rfl rfl rfl (by decide +kernel) ⟨Nat.le_of_ble_eq_true rfl, Nat.le_of_ble_eq_true rfl⟩) ⟨pR_blind, va_recv (q := (RM, TM, 11)) (q0 := 0) (ci := 4) hK hP rfl rfl, pR_pre (hP.sub (ws' := [(mo, .inr (4, [.int th, .int mr, .ref nw, .ref kp, .int 0, .int (-1), .ref mk, .ref co, .int 0, .int 0, .ref se])), (nw, .inl (cN, 25240, .inl now0))]) [0, 1] rfl) (hK.sub (tys' := [(cN, .int)]) [0] rfl)⟩ rfl rfl hl.1 rfl (lv_room (Nat.le_of_ble_eq_true rfl)) dM_whyNot_8 ⟨Nat.le_of_ble_eq_true rfl, Nat.le_of_ble_eq_true rfl⟩) (fun r3 hr4 => ?_)
  obtain rfl : r3 = 0 := hr4
  refine lv_if_ne (pc := 11) (tgt := 18) hx hb dM_whyNot_11 rfl (fun h5 => absurd h5 (by decide)) (fun h5 => ?_)
  refine lv_iconst (pc := 14) (v := 1) hx hb dM_whyNot_14 (by decide) ?_
  refine lv_goto (pc := 15) (tgt := 19) hx hb dM_whyNot_15 rfl ?_
  refine lv_iconst (pc := 19) (v := 1) hx hb dM_whyNot_19 (by decide) ?_
  refine lv_iload_n (pc := 20) hx hb dM_whyNot_20 rfl (lv_at hl 0 rfl) ?_
  refine lv_if_ne (pc := 21) (tgt := 28) hx hb dM_whyNot_21 rfl (fun h6 => absurd h6 (by decide)) (fun h6 => ?_)
  refine lv_iconst (pc := 24) (v := 1) hx hb dM_whyNot_24 (by decide) ?_
  refine lv_goto (pc := 25) (tgt := 29) hx hb dM_whyNot_25 rfl ?_
  refine lv_bipush (pc := 29) (v := 7) hx hb dM_whyNot_29 (by decide) ?_
  refine lv_iload_n (pc := 31) hx hb dM_whyNot_31 rfl (lv_at hl 0 rfl) ?_
  refine lv_if_eq (pc := 32) (tgt := 56) hx hb dM_whyNot_32 rfl (fun h7 => ?_) (fun h7 => absurd h7 (by decide))
  refine lv_iconst (pc := 56) (v := 0) hx hb dM_whyNot_56 (by decide) ?_
  refine lv_iconst (pc := 57) (v := 2) hx hb dM_whyNot_57 (by decide) ?_
  refine lv_iconst (pc := 58) (v := 0) hx hb dM_whyNot_58 (by decide) ?_
  refine vp_callSi (pc := 59) (W.runS (As := [.int 0, .int 2, .int 0]) (rest := [.int 7, .int 1, .int 1, .int 1]) ⟨hx, hb, hml, hown, hts⟩ (m_least l dC dI 0 2 0) (cwS 3 hts (gS wd_170 wd_171 wd_157 wd_169) rfl rfl rfl (by decide +kernel) ⟨Nat.le_of_ble_eq_true rfl, Nat.le_of_ble_eq_true rfl⟩) ⟨pR_blind, pR_pre (hP.sub (ws' := []) [] rfl) (hK.sub (tys' := []) [] rfl)⟩ rfl rfl hl.1 rfl (lv_room (Nat.le_of_ble_eq_true rfl)) dM_whyNot_59 ⟨Nat.le_of_ble_eq_true rfl, Nat.le_of_ble_eq_true rfl⟩) (fun r8 hr9 => ?_)
  obtain rfl : r8 = 0 := Eq.trans (hr9) (by decide)
  refine vp_callSi (pc := 62) (W.runS (As := [.int 1, .int 7, .int 0]) (rest := [.int 1, .int 1]) ⟨hx, hb, hml, hown, hts⟩ (m_least l dC dI 1 7 0) (cwS 3 hts (gS wd_170 wd_171 wd_157 wd_169) rfl rfl rfl (by decide +kernel) ⟨Nat.le_of_ble_eq_true rfl, Nat.le_of_ble_eq_true rfl⟩) ⟨pR_blind, pR_pre (hP.sub (ws' := []) [] rfl) (hK.sub (tys' := []) [] rfl)⟩ rfl rfl hl.1 rfl (lv_room (Nat.le_of_ble_eq_true rfl)) dM_whyNot_62 ⟨Nat.le_of_ble_eq_true rfl, Nat.le_of_ble_eq_true rfl⟩) (fun r10 hr11 => ?_)
  obtain rfl : r10 = 7 := Eq.trans (hr11) (by decide)
  refine vp_callSi (pc := 65) (W.runS (As := [.int 1, .int 1, .int 7]) (rest := []) ⟨hx, hb, hml, hown, hts⟩ (m_least l dC dI 1 1 7) (cwS 3 hts (gS wd_170 wd_171 wd_157 wd_169) rfl rfl rfl (by decide +kernel) ⟨Nat.le_of_ble_eq_true rfl, Nat.le_of_ble_eq_true rfl⟩) ⟨pR_blind, pR_pre (hP.sub (ws' := []) [] rfl) (hK.sub (tys' := []) [] rfl)⟩ rfl rfl hl.1 rfl (lv_room (Nat.le_of_ble_eq_true rfl)) dM_whyNot_65 ⟨Nat.le_of_ble_eq_true rfl, Nat.le_of_ble_eq_true rfl⟩) (fun r12 hr13 => ?_)
  obtain rfl : r12 = 1 := Eq.trans (hr13) (by decide)
  exact W.iret (pc := 68) hx hb hr (fun t ht hW => ⟨_, rfl, rfl, ht.trans hH⟩) (fun q h => nomatch h) dM_whyNot_68
set_option maxHeartbeats 4000000 in
set_option maxRecDepth 100000 in
theorem m_whyNotRevision (l : Launch) (dC : Nat → ClassId) (dI : Nat → Nat → Nat) (mo : Nat) (nw : Nat) (kp : Nat) (mk : Nat) (co : Nat) (se : Nat) (th : Int32) (mr : Int32) (cN : ClassId) (dd : Int32) (vv : Int32) (pp : Int32) (kk : Int32) : Met l yM_whyNotRevision (.code yM_whyNotRevision cM_whyNotRevision 5 (some .int) :: aw) ({ frames := 2, cells := 0, slots := 0, locals := 43 }) (pR (dC, dI) [(mo, .inr (4, [.int th, .int mr, .ref nw, .ref kp, .int 0, .int (-1), .ref mk, .ref co, .int 0, .int 0, .ref se])), (nw, .inl (cN, 25240, .inl now0))] [(cN, .int)] [.ref mo, .int dd, .int vv, .int pp, .int kk]) (vp_Si (fun r => r = 1)) 0 0 (fun _ => False) := by
  refine Met.ofW (cc := cM_whyNotRevision) (maxL := 5) (ret := (some .int)) (by decide) rfl ?_
  intro p e s m args below meth c s₁ B hml hv
  obtain ⟨rfl, hv⟩ := hv
  have hx := B.exec
  have hb := B.bytes
  have hr := B.returns
  have hts : ∀ w ∈ aw, w.before _ s = true := fun w h => atoms_spec (ws := (.code yM_whyNotRevision cM_whyNotRevision 5 (some .int) :: aw)) B.pre w (List.mem_cons_of_mem _ h)
  have hown : s.vm.findClass RM = some m.cls := findClass_of_methodNamed B.named
  have hlocks := B.notSynchronized
  obtain ⟨hP, hK⟩ := hv
  obtain ⟨H, hH⟩ : ∃ H, H = s.heap := ⟨_, rfl⟩
  rw [← hH] at hP ⊢
  have hl := lv_entry ([.ref mo, .int dd, .int vv, .int pp, .int kk]) (n := 5) (Nat.le_of_ble_eq_true rfl)
  rw [lg_entry_eq]
  generalize (lg_sl ([.ref mo, .int dd, .int vv, .int pp, .int kk]) ++ List.replicate (5 - (lg_sl ([.ref mo, .int dd, .int vv, .int pp, .int kk])).length) Slot.unset).toArray = ls at hl ⊢
  have hl : lv_has ls 5 [(0, .ref mo), (1, .int dd), (2, .int vv), (3, .int pp), (4, .int kk)] := hl
  refine lv_aload_n (pc := 0) hx hb dM_whyNotRevision_0 rfl (lv_at hl 0 rfl) ?_
  refine lv_iload_n (pc := 1) hx hb dM_whyNotRevision_1 rfl (lv_at hl 3 rfl) ?_
  refine vp_callSi (pc := 2) (W.runV (As := [.int pp]) (rest := []) ⟨hx, hb, hml, hown, hts⟩ (m_rights l dC dI mo nw kp mk co se th mr cN pp) (cwV 1 hts (gV wd_166 wd_167 wd_168 wd_157 wd_165) rfl rfl rfl (by decide +kernel) ⟨Nat.le_of_ble_eq_true rfl, Nat.le_of_ble_eq_true rfl⟩) ⟨pR_blind, va_recv (q := (RM, TM, 11)) (q0 := 0) (ci := 4) hK hP rfl rfl, pR_pre (hP.sub (ws' := [(mo, .inr (4, [.int th, .int mr, .ref nw, .ref kp, .int 0, .int (-1), .ref mk, .ref co, .int 0, .int 0, .ref se])), (nw, .inl (cN, 25240, .inl now0))]) [0, 1] rfl) (hK.sub (tys' := [(cN, .int)]) [0] rfl)⟩ rfl rfl hl.1 rfl (lv_room (Nat.le_of_ble_eq_true rfl)) dM_whyNotRevision_2 ⟨Nat.le_of_ble_eq_true rfl, Nat.le_of_ble_eq_true rfl⟩) (fun r1 hr2 => ?_)
  obtain rfl : r1 = 0 := hr2
  refine lv_iload (pc := 5) hx hb dM_whyNotRevision_5 (lv_at hl 4 rfl) ?_
  refine lv_iand (pc := 7) hx hb dM_whyNotRevision_7 ?_
  refine lv_topi (fun z3 hz4 => ?_)
  obtain rfl : z3 = 0 := hz4.trans (Int32.zero_and)
  refine lv_if_ne (pc := 8) (tgt := 15) hx hb dM_whyNotRevision_8 rfl (fun h5 => absurd h5 (by decide)) (fun h5 => ?_)
  refine lv_iconst (pc := 11) (v := 1) hx hb dM_whyNotRevision_11 (by decide) ?_
  refine lv_goto (pc := 12) (tgt := 16) hx hb dM_whyNotRevision_12 rfl ?_
  refine lv_iconst (pc := 16) (v := 1) hx hb dM_whyNotRevision_16 (by decide) ?_
  refine lv_aload_n (pc := 17) hx hb dM_whyNotRevision_17 rfl (lv_at hl 0 rfl) ?_
  refine lv_iload_n (pc := 18) hx hb dM_whyNotRevision_18 rfl (lv_at hl 1 rfl) ?_
  refine lv_iload_n (pc := 19) hx hb dM_whyNotRevision_19 rfl (lv_at hl 2 rfl) ?_
  refine vp_callSi (pc := 20) (W.runV (As := [.int dd, .int vv]) (rest := [.int 1, .int 1]) ⟨hx, hb, hml, hown, hts⟩ (m_isRevision l dC dI mo nw kp mk co se th mr cN dd vv) (cwV 2 hts (gV wd_173 wd_174 wd_175 wd_157 wd_172) rfl rfl rfl (by decide +kernel) ⟨Nat.le_of_ble_eq_true rfl, Nat.le_of_ble_eq_true rfl⟩) ⟨pR_blind, va_recv (q := (RM, TM, 11)) (q0 := 0) (ci := 4) hK hP rfl rfl, pR_pre (hP.sub (ws' := [(mo, .inr (4, [.int th, .int mr, .ref nw, .ref kp, .int 0, .int (-1), .ref mk, .ref co, .int 0, .int 0, .ref se])), (nw, .inl (cN, 25240, .inl now0))]) [0, 1] rfl) (hK.sub (tys' := [(cN, .int)]) [0] rfl)⟩ rfl rfl hl.1 rfl (lv_room (Nat.le_of_ble_eq_true rfl)) dM_whyNotRevision_20 ⟨Nat.le_of_ble_eq_true rfl, Nat.le_of_ble_eq_true rfl⟩) (fun r6 hr7 => ?_)
  obtain rfl : r6 = 0 := hr7
  refine lv_if_ne (pc := 23) (tgt := 30) hx hb dM_whyNotRevision_23 rfl (fun h8 => absurd h8 (by decide)) (fun h8 => ?_)
  refine lv_iconst (pc := 26) (v := 1) hx hb dM_whyNotRevision_26 (by decide) ?_
  refine lv_goto (pc := 27) (tgt := 31) hx hb dM_whyNotRevision_27 rfl ?_
  refine lv_bipush (pc := 31) (v := 7) hx hb dM_whyNotRevision_31 (by decide) ?_
  refine lv_iconst (pc := 33) (v := 0) hx hb dM_whyNotRevision_33 (by decide) ?_
  refine vp_callSi (pc := 34) (W.runS (As := [.int 1, .int 7, .int 0]) (rest := [.int 1, .int 1]) ⟨hx, hb, hml, hown, hts⟩ (m_least l dC dI 1 7 0) (cwS 3 hts (gS wd_170 wd_171 wd_157 wd_169) rfl rfl rfl (by decide +kernel) ⟨Nat.le_of_ble_eq_true rfl, Nat.le_of_ble_eq_true rfl⟩) ⟨pR_blind, pR_pre (hP.sub (ws' := []) [] rfl) (hK.sub (tys' := []) [] rfl)⟩ rfl rfl hl.1 rfl (lv_room (Nat.le_of_ble_eq_true rfl)) dM_whyNotRevision_34 ⟨Nat.le_of_ble_eq_true rfl, Nat.le_of_ble_eq_true rfl⟩) (fun r9 hr10 => ?_)
  obtain rfl : r9 = 7 := Eq.trans (hr10) (by decide)
  refine vp_callSi (pc := 37) (W.runS (As := [.int 1, .int 1, .int 7]) (rest := []) ⟨hx, hb, hml, hown, hts⟩ (m_least l dC dI 1 1 7) (cwS 3 hts (gS wd_170 wd_171 wd_157 wd_169) rfl rfl rfl (by decide +kernel) ⟨Nat.le_of_ble_eq_true rfl, Nat.le_of_ble_eq_true rfl⟩) ⟨pR_blind, pR_pre (hP.sub (ws' := []) [] rfl) (hK.sub (tys' := []) [] rfl)⟩ rfl rfl hl.1 rfl (lv_room (Nat.le_of_ble_eq_true rfl)) dM_whyNotRevision_37 ⟨Nat.le_of_ble_eq_true rfl, Nat.le_of_ble_eq_true rfl⟩) (fun r11 hr12 => ?_)
  obtain rfl : r11 = 1 := Eq.trans (hr12) (by decide)
  exact W.iret (pc := 40) hx hb hr (fun t ht hW => ⟨_, rfl, rfl, ht.trans hH⟩) (fun q h => nomatch h) dM_whyNotRevision_40
set_option maxHeartbeats 4000000 in
set_option maxRecDepth 100000 in
theorem m_drawing (l : Launch) (dC : Nat → ClassId) (dI : Nat → Nat → Nat) (sz : Nat) (mo : Nat) (nw : Nat) (kp : Nat) (mk : Nat) (co : Nat) (se : Nat) (th : Int32) (mr : Int32) (cN : ClassId) (pp : Int32) : Met l yM_drawing (.code yM_drawing cM_drawing 4 (some .int) :: aw) ({ frames := 2, cells := 0, slots := 0, locals := 42 }) (pW (dC, dI) sz [(mo, .inr (4, [.int th, .int mr, .ref nw, .ref kp, .int 0, .int (-1), .ref mk, .ref co, .int 0, .int 0, .ref se])), (nw, .inl (cN, 25240, .inl now0))] [(cN, .int)] [.ref mo, .int pp]) (va_Qi (fun r (_ : Unit) => r = (-1)) (fun _ t => wW (dC, dI) (va_A [(mo, .inr (4, [.int th, .int mr, .ref nw, .ref kp, .int 0, .int (-1), .ref mk, .ref co, .int 0, .int 0, .ref se])), (nw, .inl (cN, 25240, .inl now0))] sz) [(mo, .inr (4, [.int 0, .int 1, .ref nw, .ref kp, .int 0, .int (-1), .ref mk, .ref co, .int 0, .int 0, .ref se]))] [] t) (va_A [(mo, .inr (4, [.int th, .int mr, .ref nw, .ref kp, .int 0, .int (-1), .ref mk, .ref co, .int 0, .int 0, .ref se])), (nw, .inl (cN, 25240, .inl now0))] sz)) 0 0 (va_A [(mo, .inr (4, [.int th, .int mr, .ref nw, .ref kp, .int 0, .int (-1), .ref mk, .ref co, .int 0, .int 0, .ref se])), (nw, .inl (cN, 25240, .inl now0))] sz) := by
  refine Met.ofW (cc := cM_drawing) (maxL := 4) (ret := (some .int)) (by decide) rfl ?_
  intro p e s m args below meth c s₁ B hml hv
  obtain ⟨rfl, hv⟩ := hv
  have hx := B.exec
  have hb := B.bytes
  have hr := B.returns
  have hts : ∀ w ∈ aw, w.before _ s = true := fun w h => atoms_spec (ws := (.code yM_drawing cM_drawing 4 (some .int) :: aw)) B.pre w (List.mem_cons_of_mem _ h)
  have hown : s.vm.findClass RM = some m.cls := findClass_of_methodNamed B.named
  have hlocks := B.notSynchronized
  obtain ⟨hsz, hP, hK, hD0⟩ := hv
  subst hsz
  have hD := hD0.self (sz := s.heap.size)
  generalize hAe : va_A [(mo, .inr (4, [.int th, .int mr, .ref nw, .ref kp, .int 0, .int (-1), .ref mk, .ref co, .int 0, .int 0, .ref se])), (nw, .inl (cN, 25240, .inl now0))] s.heap.size = A at hD ⊢
  have hA : ∀ q : Nat, s.heap.size ≤ q → A q := fun q h => by rw [← hAe]; exact Or.inr h
  obtain ⟨H, hH⟩ : ∃ H, H = s.heap := ⟨_, rfl⟩
  have hS : va_S A s.heap H [] := by rw [hH]; exact va_S.rf
  rw [← hH] at hP ⊢
  have hP : va_P (dC, dI) kCl [(mo, .inr (4, [.int th, .int mr, .ref nw, .ref kp, .int 0, .int (-1), .ref mk, .ref co, .int 0, .int 0, .ref se])), (nw, .inl (cN, 25240, .inl now0))] H := hP
  have hl := lv_entry ([.ref mo, .int pp]) (n := 4) (Nat.le_of_ble_eq_true rfl)
  rw [lg_entry_eq]
  generalize (lg_sl ([.ref mo, .int pp]) ++ List.replicate (4 - (lg_sl ([.ref mo, .int pp])).length) Slot.unset).toArray = ls at hl ⊢
  have hl : lv_has ls 4 [(0, .ref mo), (1, .int pp)] := hl
  refine lv_aload_n (pc := 0) hx hb dM_drawing_0 rfl (lv_at hl 0 rfl) ?_
  refine lv_iload_n (pc := 1) hx hb dM_drawing_1 rfl (lv_at hl 1 rfl) ?_
  refine vp_callSi (pc := 2) (W.runV (As := [.int pp]) (rest := []) ⟨hx, hb, hml, hown, hts⟩ (m_rights l dC dI mo nw kp mk co se th mr cN pp) (cwV 1 hts (gV wd_166 wd_167 wd_168 wd_157 wd_165) rfl rfl rfl (by decide +kernel) ⟨Nat.le_of_ble_eq_true rfl, Nat.le_of_ble_eq_true rfl⟩) ⟨pR_blind, va_recv (q := (RM, TM, 11)) (q0 := 0) (ci := 4) hK hP rfl rfl, pR_pre (hP.sub (ws' := [(mo, .inr (4, [.int th, .int mr, .ref nw, .ref kp, .int 0, .int (-1), .ref mk, .ref co, .int 0, .int 0, .ref se])), (nw, .inl (cN, 25240, .inl now0))]) [0, 1] rfl) (hK.sub (tys' := [(cN, .int)]) [0] rfl)⟩ rfl rfl hl.1 rfl (lv_room (Nat.le_of_ble_eq_true rfl)) dM_drawing_2 ⟨Nat.le_of_ble_eq_true rfl, Nat.le_of_ble_eq_true rfl⟩) (fun r1 hr2 => ?_)
  obtain rfl : r1 = 0 := hr2
  refine lv_iconst (pc := 5) (v := 1) hx hb dM_drawing_5 (by decide) ?_
  refine lv_iand (pc := 6) hx hb dM_drawing_6 ?_
  refine lv_topi (fun z3 hz4 => ?_)
  obtain rfl : z3 = 0 := hz4.trans (by decide)
  refine lv_if_ne (pc := 7) (tgt := 14) hx hb dM_drawing_7 rfl (fun h5 => absurd h5 (by decide)) (fun h5 => ?_)
  refine lv_iconst (pc := 10) (v := 1) hx hb dM_drawing_10 (by decide) ?_
  refine lv_goto (pc := 11) (tgt := 15) hx hb dM_drawing_11 rfl ?_
  refine lv_iconst (pc := 15) (v := 1) hx hb dM_drawing_15 (by decide) ?_
  refine lv_aload_n (pc := 16) hx hb dM_drawing_16 rfl (lv_at hl 0 rfl) ?_
  refine va_get (D := (dC, dI)) (cl := kCl) (C := RM) (T := TM) (N := 11) (pc := 17) hx hb hts inM hown hK hP 0 rfl rfl 2 (by decide) (hts _ wd_158) (fun _ h9 => h9) rfl dM_drawing_17 ?_
  refine lv_bipush (pc := 20) (v := 16) hx hb dM_drawing_20 (by decide) ?_
  refine va_iald (D := (dC, dI)) (cl := kCl) (pc := 22) hx hb hK hP 1 0 rfl rfl (vp_in_lit 16 25240 (by decide)) dM_drawing_22 ?_
  refine W.eq (g2 := F0 m 23 ls [.int 0, .int 1, .int 1]) rfl ?_
  refine lv_bipush (pc := 23) (v := 24) hx hb dM_drawing_23 (by decide) ?_
  refine lv_icmp_eq (pc := 25) (tgt := 37) hx hb dM_drawing_25 rfl (fun h6 => absurd h6 (by decide)) (fun h6 => ?_)
  refine lv_aload_n (pc := 28) hx hb dM_drawing_28 rfl (lv_at hl 0 rfl) ?_
  refine vp_callSi (pc := 29) (W.runV (As := []) (rest := [.int 1, .int 1]) ⟨hx, hb, hml, hown, hts⟩ (m_allRevisions l dC dI mo nw kp mk co se th mr cN) (cwV 0 hts (gV wd_177 wd_178 wd_179 wd_157 wd_176) rfl rfl rfl (by decide +kernel) ⟨Nat.le_of_ble_eq_true rfl, Nat.le_of_ble_eq_true rfl⟩) ⟨pR_blind, va_recv (q := (RM, TM, 11)) (q0 := 0) (ci := 4) hK hP rfl rfl, pR_pre (hP.sub (ws' := [(mo, .inr (4, [.int th, .int mr, .ref nw, .ref kp, .int 0, .int (-1), .ref mk, .ref co, .int 0, .int 0, .ref se])), (nw, .inl (cN, 25240, .inl now0))]) [0, 1] rfl) (hK.sub (tys' := [(cN, .int)]) [0] rfl)⟩ rfl rfl hl.1 rfl (lv_room (Nat.le_of_ble_eq_true rfl)) dM_drawing_29 ⟨Nat.le_of_ble_eq_true rfl, Nat.le_of_ble_eq_true rfl⟩) (fun r7 hr8 => ?_)
  obtain rfl : r7 = 0 := hr8
  refine lv_bipush (pc := 32) (v := 100) hx hb dM_drawing_32 (by decide) ?_
  refine lv_icmp_ne (pc := 34) (tgt := 41) hx hb dM_drawing_34 rfl (fun h9 => ?_) (fun h9 => absurd h9 (by decide))
  refine lv_iconst (pc := 41) (v := 0) hx hb dM_drawing_41 (by decide) ?_
  refine lv_bipush (pc := 42) (v := 8) hx hb dM_drawing_42 (by decide) ?_
  refine lv_iconst (pc := 44) (v := 0) hx hb dM_drawing_44 (by decide) ?_
  refine vp_callSi (pc := 45) (W.runS (As := [.int 0, .int 8, .int 0]) (rest := [.int 1, .int 1]) ⟨hx, hb, hml, hown, hts⟩ (m_least l dC dI 0 8 0) (cwS 3 hts (gS wd_170 wd_171 wd_157 wd_169) rfl rfl rfl (by decide +kernel) ⟨Nat.le_of_ble_eq_true rfl, Nat.le_of_ble_eq_true rfl⟩) ⟨pR_blind, pR_pre (hP.sub (ws' := []) [] rfl) (hK.sub (tys' := []) [] rfl)⟩ rfl rfl hl.1 rfl (lv_room (Nat.le_of_ble_eq_true rfl)) dM_drawing_45 ⟨Nat.le_of_ble_eq_true rfl, Nat.le_of_ble_eq_true rfl⟩) (fun r10 hr11 => ?_)
  obtain rfl : r10 = 0 := Eq.trans (hr11) (by decide)
  refine vp_callSi (pc := 48) (W.runS (As := [.int 1, .int 1, .int 0]) (rest := []) ⟨hx, hb, hml, hown, hts⟩ (m_least l dC dI 1 1 0) (cwS 3 hts (gS wd_170 wd_171 wd_157 wd_169) rfl rfl rfl (by decide +kernel) ⟨Nat.le_of_ble_eq_true rfl, Nat.le_of_ble_eq_true rfl⟩) ⟨pR_blind, pR_pre (hP.sub (ws' := []) [] rfl) (hK.sub (tys' := []) [] rfl)⟩ rfl rfl hl.1 rfl (lv_room (Nat.le_of_ble_eq_true rfl)) dM_drawing_48 ⟨Nat.le_of_ble_eq_true rfl, Nat.le_of_ble_eq_true rfl⟩) (fun r12 hr13 => ?_)
  obtain rfl : r12 = 1 := Eq.trans (hr13) (by decide)
  refine lv_istore_n (pc := 51) hx hb dM_drawing_51 rfl hl (by decide) rfl (fun ls hl => ?_)
  have hl : lv_has ls 4 [(2, .int 1), (0, .ref mo), (1, .int pp)] := hl
  refine lv_aload_n (pc := 52) hx hb dM_drawing_52 rfl (lv_at hl 1 rfl) ?_
  refine lv_iload_n (pc := 53) hx hb dM_drawing_53 rfl (lv_at hl 0 rfl) ?_
  refine lv_iconst (pc := 54) (v := 2) hx hb dM_drawing_54 (by decide) ?_
  have hPc := hP.sub (ws' := [(mo, .inr (4, [.int th, .int mr, .ref nw, .ref kp, .int 0, .int (-1), .ref mk, .ref co, .int 0, .int 0, .ref se])), (nw, .inl (cN, 25240, .inl now0))]) [0, 1] rfl
  have hDc := hD.sub (ws' := [(mo, .inr (4, [.int th, .int mr, .ref nw, .ref kp, .int 0, .int (-1), .ref mk, .ref co, .int 0, .int 0, .ref se])), (nw, .inl (cN, 25240, .inl now0))]) [0, 1] (by decide) rfl
  have hKc := hK.sub (tys' := [(cN, .int)]) [0] rfl
  have hFc := va_free (wc := [(mo, .inr (4, [.int th, .int mr, .ref nw, .ref kp, .int 0, .int (-1), .ref mk, .ref co, .int 0, .int 0, .ref se])), (nw, .inl (cN, 25240, .inl now0))]) hD hS hA [0, 1] rfl
  refine va_calli (pc := 55) (va_runV (As := [.int 1, .int 2]) (rest := []) ⟨hx, hb, hml, hown, hts⟩ (m_may l dC dI H.size mo nw kp mk co se th mr cN 1 2 (by decide) (by decide)) (cwV 2 hts (gV wd_181 wd_182 wd_183 wd_157 wd_180) rfl rfl rfl (by decide +kernel) ⟨Nat.le_of_ble_eq_true rfl, Nat.le_of_ble_eq_true rfl⟩) ⟨pW_blind, va_recv (q := (RM, TM, 11)) (q0 := 0) (ci := 4) hK hP rfl rfl, pW_pre hPc hKc hDc⟩ rfl rfl hl.1 rfl (lv_room (Nat.le_of_ble_eq_true rfl)) dM_drawing_55 ⟨Nat.le_of_ble_eq_true rfl, Nat.le_of_ble_eq_true rfl⟩) hS (fun q _ h => hFc q h) hFc (fun r14 u t H1 locs ht hvm hr15 hB hz1 hk1 hS => ?_)
  obtain ⟨hP1, hK1, hD1⟩ := hB
  rw [ht] at hP1
  have hK1 := va_K.moved hvm.symm hK1
  obtain ⟨hP, hD⟩ := va_join (wr := []) (w1 := [(mo, .inr (4, [.int 0, .int 1, .ref nw, .ref kp, .int 0, .int (-1), .ref mk, .ref co, .int 0, .int 0, .ref se])), (nw, .inl (cN, 25240, .inl now0))]) hP hD [0, 1] [] rfl rfl (by decide) (by decide) hk1 hFc hP1 hD1
  generalize H1 = H at hP hS ⊢
  have hP : va_P (dC, dI) kCl [(mo, .inr (4, [.int 0, .int 1, .ref nw, .ref kp, .int 0, .int (-1), .ref mk, .ref co, .int 0, .int 0, .ref se])), (nw, .inl (cN, 25240, .inl now0))] H := hP
  have hD : va_D A [(mo, .inr (4, [.int 0, .int 1, .ref nw, .ref kp, .int 0, .int (-1), .ref mk, .ref co, .int 0, .int 0, .ref se])), (nw, .inl (cN, 25240, .inl now0))] := hD
  refine W.widen (k := 0) (n := 0) (Nat.le_of_ble_eq_true rfl) (Nat.le_of_ble_eq_true rfl) ?_
  obtain rfl : r14 = 0 := hr15
  refine lv_if_ne (pc := 58) (tgt := 74) hx hb dM_drawing_58 rfl (fun h17 => absurd h17 (by decide)) (fun h17 => ?_)
  refine lv_aload_n (pc := 61) hx hb dM_drawing_61 rfl (lv_at hl 1 rfl) ?_
  refine va_get (D := (dC, dI)) (cl := kCl) (C := RM) (T := TM) (N := 11) (pc := 62) hx hb hts inM hown hK hP 0 rfl rfl 0 (by decide) (hts _ wd_152) (fun _ h9 => h9) rfl dM_drawing_62 ?_
  refine lv_if_le (pc := 65) (tgt := 72) hx hb dM_drawing_65 rfl (fun h18 => ?_) (fun h18 => absurd h18 (by decide))
  refine lv_iconst (pc := 72) (v := (-1)) hx hb dM_drawing_72 (by decide) ?_
  have hP9 := hP.sub (ws' := [(mo, .inr (4, [.int 0, .int 1, .ref nw, .ref kp, .int 0, .int (-1), .ref mk, .ref co, .int 0, .int 0, .ref se]))]) [0] rfl
  have hD9 := hD.sub (ws' := [(mo, .inr (4, [.int 0, .int 1, .ref nw, .ref kp, .int 0, .int (-1), .ref mk, .ref co, .int 0, .int 0, .ref se]))]) [0] (by decide) rfl
  have hK9 := hK.sub (tys' := []) [] rfl
  exact W.iret (pc := 73) hx hb hr (fun t ht hW => ⟨⟨_, (), rfl, rfl, by rw [ht]; exact hP9, va_K.moved hW.alike hK9, hD9⟩, hS.F ht⟩) hS.2.2 dM_drawing_73
set_option maxHeartbeats 4000000 in
set_option maxRecDepth 100000 in
theorem m_out (l : Launch) (dC : Nat → ClassId) (dI : Nat → Nat → Nat) (sz : Nat) (mo : Nat) (nw : Nat) (kp : Nat) (mk : Nat) (co : Nat) (se : Nat) (th : Int32) (mr : Int32) (cN : ClassId) (dd : Int32) (pp : Int32) : Met l yM_out (.code yM_out cM_out 5 (some .boolean) :: aw) ({ frames := 2, cells := 0, slots := 0, locals := 42 }) (pW (dC, dI) sz [(mo, .inr (4, [.int th, .int mr, .ref nw, .ref kp, .int 0, .int (-1), .ref mk, .ref co, .int 0, .int 0, .ref se])), (nw, .inl (cN, 25240, .inl now0))] [(cN, .int)] [.ref mo, .int dd, .int pp]) (va_Qi (fun r (_ : Unit) => r = 0) (fun _ t => wW (dC, dI) (va_A [(mo, .inr (4, [.int th, .int mr, .ref nw, .ref kp, .int 0, .int (-1), .ref mk, .ref co, .int 0, .int 0, .ref se])), (nw, .inl (cN, 25240, .inl now0))] sz) [(mo, .inr (4, [.int 0, .int 1, .ref nw, .ref kp, .int 0, .int (-1), .ref mk, .ref co, .int 0, .int 0, .ref se]))] [] t) (va_A [(mo, .inr (4, [.int th, .int mr, .ref nw, .ref kp, .int 0, .int (-1), .ref mk, .ref co, .int 0, .int 0, .ref se])), (nw, .inl (cN, 25240, .inl now0))] sz)) 0 0 (va_A [(mo, .inr (4, [.int th, .int mr, .ref nw, .ref kp, .int 0, .int (-1), .ref mk, .ref co, .int 0, .int 0, .ref se])), (nw, .inl (cN, 25240, .inl now0))] sz) := by
  refine Met.ofW (cc := cM_out) (maxL := 5) (ret := (some .boolean)) (by decide) rfl ?_
  intro p e s m args below meth c s₁ B hml hv
  obtain ⟨rfl, hv⟩ := hv
  have hx := B.exec
  have hb := B.bytes
  have hr := B.returns
  have hts : ∀ w ∈ aw, w.before _ s = true := fun w h => atoms_spec (ws := (.code yM_out cM_out 5 (some .boolean) :: aw)) B.pre w (List.mem_cons_of_mem _ h)
  have hown : s.vm.findClass RM = some m.cls := findClass_of_methodNamed B.named
  have hlocks := B.notSynchronized
  obtain ⟨hsz, hP, hK, hD0⟩ := hv
  subst hsz
  have hD := hD0.self (sz := s.heap.size)
  generalize hAe : va_A [(mo, .inr (4, [.int th, .int mr, .ref nw, .ref kp, .int 0, .int (-1), .ref mk, .ref co, .int 0, .int 0, .ref se])), (nw, .inl (cN, 25240, .inl now0))] s.heap.size = A at hD ⊢
  have hA : ∀ q : Nat, s.heap.size ≤ q → A q := fun q h => by rw [← hAe]; exact Or.inr h
  obtain ⟨H, hH⟩ : ∃ H, H = s.heap := ⟨_, rfl⟩
  have hS : va_S A s.heap H [] := by rw [hH]; exact va_S.rf
  rw [← hH] at hP ⊢
  have hP : va_P (dC, dI) kCl [(mo, .inr (4, [.int th, .int mr, .ref nw, .ref kp, .int 0, .int (-1), .ref mk, .ref co, .int 0, .int 0, .ref se])), (nw, .inl (cN, 25240, .inl now0))] H := hP
  have hl := lv_entry ([.ref mo, .int dd, .int pp]) (n := 5) (Nat.le_of_ble_eq_true rfl)
  rw [lg_entry_eq]
  generalize (lg_sl ([.ref mo, .int dd, .int pp]) ++ List.replicate (5 - (lg_sl ([.ref mo, .int dd, .int pp])).length) Slot.unset).toArray = ls at hl ⊢
  have hl : lv_has ls 5 [(0, .ref mo), (1, .int dd), (2, .int pp)] := hl
  refine lv_aload_n (pc := 0) hx hb dM_out_0 rfl (lv_at hl 0 rfl) ?_
  refine lv_iload_n (pc := 1) hx hb dM_out_1 rfl (lv_at hl 1 rfl) ?_
  refine vp_callSi (pc := 2) (W.runV (As := [.int dd]) (rest := []) ⟨hx, hb, hml, hown, hts⟩ (m_isDrawing l dC dI mo nw kp mk co se th mr cN dd) (cwV 1 hts (gV wd_160 wd_161 wd_162 wd_157 wd_159) rfl rfl rfl (by decide +kernel) ⟨Nat.le_of_ble_eq_true rfl, Nat.le_of_ble_eq_true rfl⟩) ⟨pR_blind, va_recv (q := (RM, TM, 11)) (q0 := 0) (ci := 4) hK hP rfl rfl, pR_pre (hP.sub (ws' := [(mo, .inr (4, [.int th, .int mr, .ref nw, .ref kp, .int 0, .int (-1), .ref mk, .ref co, .int 0, .int 0, .ref se])), (nw, .inl (cN, 25240, .inl now0))]) [0, 1] rfl) (hK.sub (tys' := [(cN, .int)]) [0] rfl)⟩ rfl rfl hl.1 rfl (lv_room (Nat.le_of_ble_eq_true rfl)) dM_out_2 ⟨Nat.le_of_ble_eq_true rfl, Nat.le_of_ble_eq_true rfl⟩) (fun r1 hr2 => ?_)
  obtain rfl : r1 = 0 := hr2
  refine lv_istore_n (pc := 5) hx hb dM_out_5 rfl hl (by decide) rfl (fun ls hl => ?_)
  have hl : lv_has ls 5 [(3, .int 0), (0, .ref mo), (1, .int dd), (2, .int pp)] := hl
  refine lv_aload_n (pc := 6) hx hb dM_out_6 rfl (lv_at hl 1 rfl) ?_
  refine lv_iload_n (pc := 7) hx hb dM_out_7 rfl (lv_at hl 3 rfl) ?_
  refine vp_callSi (pc := 8) (W.runV (As := [.int pp]) (rest := []) ⟨hx, hb, hml, hown, hts⟩ (m_rights l dC dI mo nw kp mk co se th mr cN pp) (cwV 1 hts (gV wd_166 wd_167 wd_168 wd_157 wd_165) rfl rfl rfl (by decide +kernel) ⟨Nat.le_of_ble_eq_true rfl, Nat.le_of_ble_eq_true rfl⟩) ⟨pR_blind, va_recv (q := (RM, TM, 11)) (q0 := 0) (ci := 4) hK hP rfl rfl, pR_pre (hP.sub (ws' := [(mo, .inr (4, [.int th, .int mr, .ref nw, .ref kp, .int 0, .int (-1), .ref mk, .ref co, .int 0, .int 0, .ref se])), (nw, .inl (cN, 25240, .inl now0))]) [0, 1] rfl) (hK.sub (tys' := [(cN, .int)]) [0] rfl)⟩ rfl rfl hl.1 rfl (lv_room (Nat.le_of_ble_eq_true rfl)) dM_out_8 ⟨Nat.le_of_ble_eq_true rfl, Nat.le_of_ble_eq_true rfl⟩) (fun r3 hr4 => ?_)
  obtain rfl : r3 = 0 := hr4
  refine lv_if_ne (pc := 11) (tgt := 18) hx hb dM_out_11 rfl (fun h5 => absurd h5 (by decide)) (fun h5 => ?_)
  refine lv_iconst (pc := 14) (v := 1) hx hb dM_out_14 (by decide) ?_
  refine lv_goto (pc := 15) (tgt := 19) hx hb dM_out_15 rfl ?_
  refine lv_iconst (pc := 19) (v := 1) hx hb dM_out_19 (by decide) ?_
  refine lv_iload_n (pc := 20) hx hb dM_out_20 rfl (lv_at hl 0 rfl) ?_
  refine lv_if_ne (pc := 21) (tgt := 28) hx hb dM_out_21 rfl (fun h6 => absurd h6 (by decide)) (fun h6 => ?_)
  refine lv_iconst (pc := 24) (v := 1) hx hb dM_out_24 (by decide) ?_
  refine lv_goto (pc := 25) (tgt := 29) hx hb dM_out_25 rfl ?_
  refine lv_bipush (pc := 29) (v := 7) hx hb dM_out_29 (by decide) ?_
  refine lv_iload_n (pc := 31) hx hb dM_out_31 rfl (lv_at hl 0 rfl) ?_
  refine lv_if_eq (pc := 32) (tgt := 55) hx hb dM_out_32 rfl (fun h7 => ?_) (fun h7 => absurd h7 (by decide))
  refine lv_iconst (pc := 55) (v := 0) hx hb dM_out_55 (by decide) ?_
  refine lv_iconst (pc := 56) (v := 2) hx hb dM_out_56 (by decide) ?_
  refine lv_iconst (pc := 57) (v := 0) hx hb dM_out_57 (by decide) ?_
  refine vp_callSi (pc := 58) (W.runS (As := [.int 0, .int 2, .int 0]) (rest := [.int 7, .int 1, .int 1, .int 1]) ⟨hx, hb, hml, hown, hts⟩ (m_least l dC dI 0 2 0) (cwS 3 hts (gS wd_170 wd_171 wd_157 wd_169) rfl rfl rfl (by decide +kernel) ⟨Nat.le_of_ble_eq_true rfl, Nat.le_of_ble_eq_true rfl⟩) ⟨pR_blind, pR_pre (hP.sub (ws' := []) [] rfl) (hK.sub (tys' := []) [] rfl)⟩ rfl rfl hl.1 rfl (lv_room (Nat.le_of_ble_eq_true rfl)) dM_out_58 ⟨Nat.le_of_ble_eq_true rfl, Nat.le_of_ble_eq_true rfl⟩) (fun r8 hr9 => ?_)
  obtain rfl : r8 = 0 := Eq.trans (hr9) (by decide)
  refine vp_callSi (pc := 61) (W.runS (As := [.int 1, .int 7, .int 0]) (rest := [.int 1, .int 1]) ⟨hx, hb, hml, hown, hts⟩ (m_least l dC dI 1 7 0) (cwS 3 hts (gS wd_170 wd_171 wd_157 wd_169) rfl rfl rfl (by decide +kernel) ⟨Nat.le_of_ble_eq_true rfl, Nat.le_of_ble_eq_true rfl⟩) ⟨pR_blind, pR_pre (hP.sub (ws' := []) [] rfl) (hK.sub (tys' := []) [] rfl)⟩ rfl rfl hl.1 rfl (lv_room (Nat.le_of_ble_eq_true rfl)) dM_out_61 ⟨Nat.le_of_ble_eq_true rfl, Nat.le_of_ble_eq_true rfl⟩) (fun r10 hr11 => ?_)
  obtain rfl : r10 = 7 := Eq.trans (hr11) (by decide)
  refine vp_callSi (pc := 64) (W.runS (As := [.int 1, .int 1, .int 7]) (rest := []) ⟨hx, hb, hml, hown, hts⟩ (m_least l dC dI 1 1 7) (cwS 3 hts (gS wd_170 wd_171 wd_157 wd_169) rfl rfl rfl (by decide +kernel) ⟨Nat.le_of_ble_eq_true rfl, Nat.le_of_ble_eq_true rfl⟩) ⟨pR_blind, pR_pre (hP.sub (ws' := []) [] rfl) (hK.sub (tys' := []) [] rfl)⟩ rfl rfl hl.1 rfl (lv_room (Nat.le_of_ble_eq_true rfl)) dM_out_64 ⟨Nat.le_of_ble_eq_true rfl, Nat.le_of_ble_eq_true rfl⟩) (fun r12 hr13 => ?_)
  obtain rfl : r12 = 1 := Eq.trans (hr13) (by decide)
  refine lv_istore (pc := 67) hx hb dM_out_67 hl (by decide) rfl (fun ls hl => ?_)
  have hl : lv_has ls 5 [(4, .int 1), (3, .int 0), (0, .ref mo), (1, .int dd), (2, .int pp)] := hl
  refine lv_aload_n (pc := 69) hx hb dM_out_69 rfl (lv_at hl 2 rfl) ?_
  refine lv_iload (pc := 70) hx hb dM_out_70 (lv_at hl 0 rfl) ?_
  refine lv_iconst (pc := 72) (v := 1) hx hb dM_out_72 (by decide) ?_
  have hPc := hP.sub (ws' := [(mo, .inr (4, [.int th, .int mr, .ref nw, .ref kp, .int 0, .int (-1), .ref mk, .ref co, .int 0, .int 0, .ref se])), (nw, .inl (cN, 25240, .inl now0))]) [0, 1] rfl
  have hDc := hD.sub (ws' := [(mo, .inr (4, [.int th, .int mr, .ref nw, .ref kp, .int 0, .int (-1), .ref mk, .ref co, .int 0, .int 0, .ref se])), (nw, .inl (cN, 25240, .inl now0))]) [0, 1] (by decide) rfl
  have hKc := hK.sub (tys' := [(cN, .int)]) [0] rfl
  have hFc := va_free (wc := [(mo, .inr (4, [.int th, .int mr, .ref nw, .ref kp, .int 0, .int (-1), .ref mk, .ref co, .int 0, .int 0, .ref se])), (nw, .inl (cN, 25240, .inl now0))]) hD hS hA [0, 1] rfl
  refine va_calli (pc := 73) (va_runV (As := [.int 1, .int 1]) (rest := []) ⟨hx, hb, hml, hown, hts⟩ (m_may l dC dI H.size mo nw kp mk co se th mr cN 1 1 (by decide) (by decide)) (cwV 2 hts (gV wd_181 wd_182 wd_183 wd_157 wd_180) rfl rfl rfl (by decide +kernel) ⟨Nat.le_of_ble_eq_true rfl, Nat.le_of_ble_eq_true rfl⟩) ⟨pW_blind, va_recv (q := (RM, TM, 11)) (q0 := 0) (ci := 4) hK hP rfl rfl, pW_pre hPc hKc hDc⟩ rfl rfl hl.1 rfl (lv_room (Nat.le_of_ble_eq_true rfl)) dM_out_73 ⟨Nat.le_of_ble_eq_true rfl, Nat.le_of_ble_eq_true rfl⟩) hS (fun q _ h => hFc q h) hFc (fun r14 u t H1 locs ht hvm hr15 hB hz1 hk1 hS => ?_)
  obtain ⟨hP1, hK1, hD1⟩ := hB
  rw [ht] at hP1
  have hK1 := va_K.moved hvm.symm hK1
  obtain ⟨hP, hD⟩ := va_join (wr := []) (w1 := [(mo, .inr (4, [.int 0, .int 1, .ref nw, .ref kp, .int 0, .int (-1), .ref mk, .ref co, .int 0, .int 0, .ref se])), (nw, .inl (cN, 25240, .inl now0))]) hP hD [0, 1] [] rfl rfl (by decide) (by decide) hk1 hFc hP1 hD1
  generalize H1 = H at hP hS ⊢
  have hP : va_P (dC, dI) kCl [(mo, .inr (4, [.int 0, .int 1, .ref nw, .ref kp, .int 0, .int (-1), .ref mk, .ref co, .int 0, .int 0, .ref se])), (nw, .inl (cN, 25240, .inl now0))] H := hP
  have hD : va_D A [(mo, .inr (4, [.int 0, .int 1, .ref nw, .ref kp, .int 0, .int (-1), .ref mk, .ref co, .int 0, .int 0, .ref se])), (nw, .inl (cN, 25240, .inl now0))] := hD
  refine W.widen (k := 0) (n := 0) (Nat.le_of_ble_eq_true rfl) (Nat.le_of_ble_eq_true rfl) ?_
  obtain rfl : r14 = 0 := hr15
  refine lv_if_ne (pc := 76) (tgt := 81) hx hb dM_out_76 rfl (fun h17 => absurd h17 (by decide)) (fun h17 => ?_)
  refine lv_iconst (pc := 79) (v := 0) hx hb dM_out_79 (by decide) ?_
  have hP9 := hP.sub (ws' := [(mo, .inr (4, [.int 0, .int 1, .ref nw, .ref kp, .int 0, .int (-1), .ref mk, .ref co, .int 0, .int 0, .ref se]))]) [0] rfl
  have hD9 := hD.sub (ws' := [(mo, .inr (4, [.int 0, .int 1, .ref nw, .ref kp, .int 0, .int (-1), .ref mk, .ref co, .int 0, .int 0, .ref se]))]) [0] (by decide) rfl
  have hK9 := hK.sub (tys' := []) [] rfl
  exact W.zret (pc := 80) hx hb hr rfl (fun t ht hW => ⟨⟨_, (), rfl, rfl, by rw [ht]; exact hP9, va_K.moved hW.alike hK9, hD9⟩, hS.F ht⟩) hS.2.2 dM_out_80
set_option maxHeartbeats 4000000 in
set_option maxRecDepth 100000 in
theorem m_undo (l : Launch) (dC : Nat → ClassId) (dI : Nat → Nat → Nat) (sz : Nat) (mo : Nat) (nw : Nat) (kp : Nat) (mk : Nat) (co : Nat) (se : Nat) (th : Int32) (mr : Int32) (cN : ClassId) (dd : Int32) (pp : Int32) : Met l yM_undo (.code yM_undo cM_undo 3 (some .boolean) :: aw) ({ frames := 3, cells := 0, slots := 0, locals := 65 }) (pW (dC, dI) sz [(mo, .inr (4, [.int th, .int mr, .ref nw, .ref kp, .int 0, .int (-1), .ref mk, .ref co, .int 0, .int 0, .ref se])), (nw, .inl (cN, 25240, .inl now0))] [(cN, .int)] [.ref mo, .int dd, .int pp]) (va_Qi (fun r (_ : Unit) => r = 0) (fun _ t => wW (dC, dI) (va_A [(mo, .inr (4, [.int th, .int mr, .ref nw, .ref kp, .int 0, .int (-1), .ref mk, .ref co, .int 0, .int 0, .ref se])), (nw, .inl (cN, 25240, .inl now0))] sz) [(mo, .inr (4, [.int 0, .int 1, .ref nw, .ref kp, .int 0, .int (-1), .ref mk, .ref co, .int 0, .int 0, .ref se]))] [] t) (va_A [(mo, .inr (4, [.int th, .int mr, .ref nw, .ref kp, .int 0, .int (-1), .ref mk, .ref co, .int 0, .int 0, .ref se])), (nw, .inl (cN, 25240, .inl now0))] sz)) 0 0 (va_A [(mo, .inr (4, [.int th, .int mr, .ref nw, .ref kp, .int 0, .int (-1), .ref mk, .ref co, .int 0, .int 0, .ref se])), (nw, .inl (cN, 25240, .inl now0))] sz) := by
  refine Met.ofW (cc := cM_undo) (maxL := 3) (ret := (some .boolean)) (by decide) rfl ?_
  intro p e s m args below meth c s₁ B hml hv
  obtain ⟨rfl, hv⟩ := hv
  have hx := B.exec
  have hb := B.bytes
  have hr := B.returns
  have hts : ∀ w ∈ aw, w.before _ s = true := fun w h => atoms_spec (ws := (.code yM_undo cM_undo 3 (some .boolean) :: aw)) B.pre w (List.mem_cons_of_mem _ h)
  have hown : s.vm.findClass RM = some m.cls := findClass_of_methodNamed B.named
  have hlocks := B.notSynchronized
  obtain ⟨hsz, hP, hK, hD0⟩ := hv
  subst hsz
  have hD := hD0.self (sz := s.heap.size)
  generalize hAe : va_A [(mo, .inr (4, [.int th, .int mr, .ref nw, .ref kp, .int 0, .int (-1), .ref mk, .ref co, .int 0, .int 0, .ref se])), (nw, .inl (cN, 25240, .inl now0))] s.heap.size = A at hD ⊢
  have hA : ∀ q : Nat, s.heap.size ≤ q → A q := fun q h => by rw [← hAe]; exact Or.inr h
  obtain ⟨H, hH⟩ : ∃ H, H = s.heap := ⟨_, rfl⟩
  have hS : va_S A s.heap H [] := by rw [hH]; exact va_S.rf
  rw [← hH] at hP ⊢
  have hP : va_P (dC, dI) kCl [(mo, .inr (4, [.int th, .int mr, .ref nw, .ref kp, .int 0, .int (-1), .ref mk, .ref co, .int 0, .int 0, .ref se])), (nw, .inl (cN, 25240, .inl now0))] H := hP
  have hl := lv_entry ([.ref mo, .int dd, .int pp]) (n := 3) (Nat.le_of_ble_eq_true rfl)
  rw [lg_entry_eq]
  generalize (lg_sl ([.ref mo, .int dd, .int pp]) ++ List.replicate (3 - (lg_sl ([.ref mo, .int dd, .int pp])).length) Slot.unset).toArray = ls at hl ⊢
  have hl : lv_has ls 3 [(0, .ref mo), (1, .int dd), (2, .int pp)] := hl
  refine lv_aload_n (pc := 0) hx hb dM_undo_0 rfl (lv_at hl 0 rfl) ?_
  refine lv_aload_n (pc := 1) hx hb dM_undo_1 rfl (lv_at hl 0 rfl) ?_
  refine lv_iload_n (pc := 2) hx hb dM_undo_2 rfl (lv_at hl 1 rfl) ?_
  refine lv_iload_n (pc := 3) hx hb dM_undo_3 rfl (lv_at hl 2 rfl) ?_
  refine vp_callSi (pc := 4) (W.runV (As := [.int dd, .int pp]) (rest := [.ref mo]) ⟨hx, hb, hml, hown, hts⟩ (m_whyNot l dC dI mo nw kp mk co se th mr cN dd pp) (cwV 2 hts (gV wd_185 wd_186 wd_187 wd_157 wd_184) rfl rfl rfl (by decide +kernel) ⟨Nat.le_of_ble_eq_true rfl, Nat.le_of_ble_eq_true rfl⟩) ⟨pR_blind, va_recv (q := (RM, TM, 11)) (q0 := 0) (ci := 4) hK hP rfl rfl, pR_pre (hP.sub (ws' := [(mo, .inr (4, [.int th, .int mr, .ref nw, .ref kp, .int 0, .int (-1), .ref mk, .ref co, .int 0, .int 0, .ref se])), (nw, .inl (cN, 25240, .inl now0))]) [0, 1] rfl) (hK.sub (tys' := [(cN, .int)]) [0] rfl)⟩ rfl rfl hl.1 rfl (lv_room (Nat.le_of_ble_eq_true rfl)) dM_undo_4 ⟨Nat.le_of_ble_eq_true rfl, Nat.le_of_ble_eq_true rfl⟩) (fun r1 hr2 => ?_)
  obtain rfl : r1 = 1 := hr2
  refine lv_iconst (pc := 7) (v := 1) hx hb dM_undo_7 (by decide) ?_
  have hPc := hP.sub (ws' := [(mo, .inr (4, [.int th, .int mr, .ref nw, .ref kp, .int 0, .int (-1), .ref mk, .ref co, .int 0, .int 0, .ref se])), (nw, .inl (cN, 25240, .inl now0))]) [0, 1] rfl
  have hDc := hD.sub (ws' := [(mo, .inr (4, [.int th, .int mr, .ref nw, .ref kp, .int 0, .int (-1), .ref mk, .ref co, .int 0, .int 0, .ref se])), (nw, .inl (cN, 25240, .inl now0))]) [0, 1] (by decide) rfl
  have hKc := hK.sub (tys' := [(cN, .int)]) [0] rfl
  have hFc := va_free (wc := [(mo, .inr (4, [.int th, .int mr, .ref nw, .ref kp, .int 0, .int (-1), .ref mk, .ref co, .int 0, .int 0, .ref se])), (nw, .inl (cN, 25240, .inl now0))]) hD hS hA [0, 1] rfl
  refine va_calli (pc := 8) (va_runV (As := [.int 1, .int 1]) (rest := []) ⟨hx, hb, hml, hown, hts⟩ (m_may l dC dI H.size mo nw kp mk co se th mr cN 1 1 (by decide) (by decide)) (cwV 2 hts (gV wd_181 wd_182 wd_183 wd_157 wd_180) rfl rfl rfl (by decide +kernel) ⟨Nat.le_of_ble_eq_true rfl, Nat.le_of_ble_eq_true rfl⟩) ⟨pW_blind, va_recv (q := (RM, TM, 11)) (q0 := 0) (ci := 4) hK hP rfl rfl, pW_pre hPc hKc hDc⟩ rfl rfl hl.1 rfl (lv_room (Nat.le_of_ble_eq_true rfl)) dM_undo_8 ⟨Nat.le_of_ble_eq_true rfl, Nat.le_of_ble_eq_true rfl⟩) hS (fun q _ h => hFc q h) hFc (fun r3 u t H1 locs ht hvm hr4 hB hz1 hk1 hS => ?_)
  obtain ⟨hP1, hK1, hD1⟩ := hB
  rw [ht] at hP1
  have hK1 := va_K.moved hvm.symm hK1
  obtain ⟨hP, hD⟩ := va_join (wr := []) (w1 := [(mo, .inr (4, [.int 0, .int 1, .ref nw, .ref kp, .int 0, .int (-1), .ref mk, .ref co, .int 0, .int 0, .ref se])), (nw, .inl (cN, 25240, .inl now0))]) hP hD [0, 1] [] rfl rfl (by decide) (by decide) hk1 hFc hP1 hD1
  generalize H1 = H at hP hS ⊢
  have hP : va_P (dC, dI) kCl [(mo, .inr (4, [.int 0, .int 1, .ref nw, .ref kp, .int 0, .int (-1), .ref mk, .ref co, .int 0, .int 0, .ref se])), (nw, .inl (cN, 25240, .inl now0))] H := hP
  have hD : va_D A [(mo, .inr (4, [.int 0, .int 1, .ref nw, .ref kp, .int 0, .int (-1), .ref mk, .ref co, .int 0, .int 0, .ref se])), (nw, .inl (cN, 25240, .inl now0))] := hD
  refine W.widen (k := 0) (n := 0) (Nat.le_of_ble_eq_true rfl) (Nat.le_of_ble_eq_true rfl) ?_
  obtain rfl : r3 = 0 := hr4
  refine lv_if_ne (pc := 11) (tgt := 16) hx hb dM_undo_11 rfl (fun h6 => absurd h6 (by decide)) (fun h6 => ?_)
  refine lv_iconst (pc := 14) (v := 0) hx hb dM_undo_14 (by decide) ?_
  have hP9 := hP.sub (ws' := [(mo, .inr (4, [.int 0, .int 1, .ref nw, .ref kp, .int 0, .int (-1), .ref mk, .ref co, .int 0, .int 0, .ref se]))]) [0] rfl
  have hD9 := hD.sub (ws' := [(mo, .inr (4, [.int 0, .int 1, .ref nw, .ref kp, .int 0, .int (-1), .ref mk, .ref co, .int 0, .int 0, .ref se]))]) [0] (by decide) rfl
  have hK9 := hK.sub (tys' := []) [] rfl
  exact W.zret (pc := 15) hx hb hr rfl (fun t ht hW => ⟨⟨_, (), rfl, rfl, by rw [ht]; exact hP9, va_K.moved hW.alike hK9, hD9⟩, hS.F ht⟩) hS.2.2 dM_undo_15
set_option maxHeartbeats 4000000 in
set_option maxRecDepth 100000 in
theorem m_put (l : Launch) (dC : Nat → ClassId) (dI : Nat → Nat → Nat) (sz : Nat) (mo : Nat) (nw : Nat) (kp : Nat) (mk : Nat) (co : Nat) (se : Nat) (th : Int32) (mr : Int32) (cN : ClassId) (dd : Int32) (pp : Int32) (ta : Int32) (va : Int32) : Met l yM_put (.code yM_put cM_put 7 (some .boolean) :: aw) ({ frames := 3, cells := 0, slots := 0, locals := 65 }) (pW (dC, dI) sz [(mo, .inr (4, [.int th, .int mr, .ref nw, .ref kp, .int 0, .int (-1), .ref mk, .ref co, .int 0, .int 0, .ref se])), (nw, .inl (cN, 25240, .inl now0))] [(cN, .int)] [.ref mo, .int dd, .int pp, .int ta, .int va]) (va_Qi (fun r (_ : Unit) => r = 0) (fun _ t => wW (dC, dI) (va_A [(mo, .inr (4, [.int th, .int mr, .ref nw, .ref kp, .int 0, .int (-1), .ref mk, .ref co, .int 0, .int 0, .ref se])), (nw, .inl (cN, 25240, .inl now0))] sz) [(mo, .inr (4, [.int 0, .int 1, .ref nw, .ref kp, .int 0, .int (-1), .ref mk, .ref co, .int 0, .int 0, .ref se]))] [] t) (va_A [(mo, .inr (4, [.int th, .int mr, .ref nw, .ref kp, .int 0, .int (-1), .ref mk, .ref co, .int 0, .int 0, .ref se])), (nw, .inl (cN, 25240, .inl now0))] sz)) 0 0 (va_A [(mo, .inr (4, [.int th, .int mr, .ref nw, .ref kp, .int 0, .int (-1), .ref mk, .ref co, .int 0, .int 0, .ref se])), (nw, .inl (cN, 25240, .inl now0))] sz) := by
  refine Met.ofW (cc := cM_put) (maxL := 7) (ret := (some .boolean)) (by decide) rfl ?_
  intro p e s m args below meth c s₁ B hml hv
  obtain ⟨rfl, hv⟩ := hv
  have hx := B.exec
  have hb := B.bytes
  have hr := B.returns
  have hts : ∀ w ∈ aw, w.before _ s = true := fun w h => atoms_spec (ws := (.code yM_put cM_put 7 (some .boolean) :: aw)) B.pre w (List.mem_cons_of_mem _ h)
  have hown : s.vm.findClass RM = some m.cls := findClass_of_methodNamed B.named
  have hlocks := B.notSynchronized
  obtain ⟨hsz, hP, hK, hD0⟩ := hv
  subst hsz
  have hD := hD0.self (sz := s.heap.size)
  generalize hAe : va_A [(mo, .inr (4, [.int th, .int mr, .ref nw, .ref kp, .int 0, .int (-1), .ref mk, .ref co, .int 0, .int 0, .ref se])), (nw, .inl (cN, 25240, .inl now0))] s.heap.size = A at hD ⊢
  have hA : ∀ q : Nat, s.heap.size ≤ q → A q := fun q h => by rw [← hAe]; exact Or.inr h
  obtain ⟨H, hH⟩ : ∃ H, H = s.heap := ⟨_, rfl⟩
  have hS : va_S A s.heap H [] := by rw [hH]; exact va_S.rf
  rw [← hH] at hP ⊢
  have hP : va_P (dC, dI) kCl [(mo, .inr (4, [.int th, .int mr, .ref nw, .ref kp, .int 0, .int (-1), .ref mk, .ref co, .int 0, .int 0, .ref se])), (nw, .inl (cN, 25240, .inl now0))] H := hP
  have hl := lv_entry ([.ref mo, .int dd, .int pp, .int ta, .int va]) (n := 7) (Nat.le_of_ble_eq_true rfl)
  rw [lg_entry_eq]
  generalize (lg_sl ([.ref mo, .int dd, .int pp, .int ta, .int va]) ++ List.replicate (7 - (lg_sl ([.ref mo, .int dd, .int pp, .int ta, .int va])).length) Slot.unset).toArray = ls at hl ⊢
  have hl : lv_has ls 7 [(0, .ref mo), (1, .int dd), (2, .int pp), (3, .int ta), (4, .int va)] := hl
  refine lv_aload_n (pc := 0) hx hb dM_put_0 rfl (lv_at hl 0 rfl) ?_
  refine lv_iload_n (pc := 1) hx hb dM_put_1 rfl (lv_at hl 1 rfl) ?_
  refine lv_iload_n (pc := 2) hx hb dM_put_2 rfl (lv_at hl 2 rfl) ?_
  refine vp_callSi (pc := 3) (W.runV (As := [.int dd, .int pp]) (rest := []) ⟨hx, hb, hml, hown, hts⟩ (m_whyNot l dC dI mo nw kp mk co se th mr cN dd pp) (cwV 2 hts (gV wd_185 wd_186 wd_187 wd_157 wd_184) rfl rfl rfl (by decide +kernel) ⟨Nat.le_of_ble_eq_true rfl, Nat.le_of_ble_eq_true rfl⟩) ⟨pR_blind, va_recv (q := (RM, TM, 11)) (q0 := 0) (ci := 4) hK hP rfl rfl, pR_pre (hP.sub (ws' := [(mo, .inr (4, [.int th, .int mr, .ref nw, .ref kp, .int 0, .int (-1), .ref mk, .ref co, .int 0, .int 0, .ref se])), (nw, .inl (cN, 25240, .inl now0))]) [0, 1] rfl) (hK.sub (tys' := [(cN, .int)]) [0] rfl)⟩ rfl rfl hl.1 rfl (lv_room (Nat.le_of_ble_eq_true rfl)) dM_put_3 ⟨Nat.le_of_ble_eq_true rfl, Nat.le_of_ble_eq_true rfl⟩) (fun r1 hr2 => ?_)
  obtain rfl : r1 = 1 := hr2
  refine lv_istore (pc := 6) hx hb dM_put_6 hl (by decide) rfl (fun ls hl => ?_)
  have hl : lv_has ls 7 [(5, .int 1), (0, .ref mo), (1, .int dd), (2, .int pp), (3, .int ta), (4, .int va)] := hl
  refine lv_iload (pc := 8) hx hb dM_put_8 (lv_at hl 0 rfl) ?_
  refine lv_if_ne (pc := 10) (tgt := 59) hx hb dM_put_10 rfl (fun h3 => ?_) (fun h3 => absurd h3 (by decide))
  refine lv_iconst (pc := 59) (v := 0) hx hb dM_put_59 (by decide) ?_
  refine lv_istore (pc := 60) hx hb dM_put_60 hl (by decide) rfl (fun ls hl => ?_)
  have hl : lv_has ls 7 [(6, .int 0), (5, .int 1), (0, .ref mo), (1, .int dd), (2, .int pp), (3, .int ta), (4, .int va)] := hl
  refine lv_aload_n (pc := 62) hx hb dM_put_62 rfl (lv_at hl 2 rfl) ?_
  refine lv_iload (pc := 63) hx hb dM_put_63 (lv_at hl 1 rfl) ?_
  refine lv_if_ne (pc := 65) (tgt := 78) hx hb dM_put_65 rfl (fun h4 => ?_) (fun h4 => absurd h4 (by decide))
  refine lv_iload (pc := 78) hx hb dM_put_78 (lv_at hl 1 rfl) ?_
  have hPc := hP.sub (ws' := [(mo, .inr (4, [.int th, .int mr, .ref nw, .ref kp, .int 0, .int (-1), .ref mk, .ref co, .int 0, .int 0, .ref se]))]) [0] rfl
  have hDc := hD.sub (ws' := [(mo, .inr (4, [.int th, .int mr, .ref nw, .ref kp, .int 0, .int (-1), .ref mk, .ref co, .int 0, .int 0, .ref se]))]) [0] (by decide) rfl
  have hKc := hK.sub (tys' := []) [] rfl
  have hFc := va_free (wc := [(mo, .inr (4, [.int th, .int mr, .ref nw, .ref kp, .int 0, .int (-1), .ref mk, .ref co, .int 0, .int 0, .ref se]))]) hD hS hA [0] rfl
  refine va_calli (pc := 80) (va_runV (As := [.int 1]) (rest := []) ⟨hx, hb, hml, hown, hts⟩ (m_mayHere l dC dI H.size mo nw kp mk co se th mr 1 (by decide)) (cwV 1 hts (gV wd_189 wd_190 wd_191 wd_157 wd_188) rfl rfl rfl (by decide +kernel) ⟨Nat.le_of_ble_eq_true rfl, Nat.le_of_ble_eq_true rfl⟩) ⟨pW_blind, va_recv (q := (RM, TM, 11)) (q0 := 0) (ci := 4) hK hP rfl rfl, pW_pre hPc hKc hDc⟩ rfl rfl hl.1 rfl (lv_room (Nat.le_of_ble_eq_true rfl)) dM_put_80 ⟨Nat.le_of_ble_eq_true rfl, Nat.le_of_ble_eq_true rfl⟩) hS (fun q _ h => hFc q h) hFc (fun r5 u t H1 locs ht hvm hr6 hB hz1 hk1 hS => ?_)
  obtain ⟨hP1, hK1, hD1⟩ := hB
  rw [ht] at hP1
  have hK1 := va_K.moved hvm.symm hK1
  obtain ⟨hP, hD⟩ := va_join (wr := [(nw, .inl (cN, 25240, .inl now0))]) (w1 := [(mo, .inr (4, [.int 0, .int 1, .ref nw, .ref kp, .int 0, .int (-1), .ref mk, .ref co, .int 0, .int 0, .ref se]))]) hP hD [0] [1] rfl rfl (by decide) (by decide) hk1 hFc hP1 hD1
  generalize H1 = H at hP hS ⊢
  have hP : va_P (dC, dI) kCl [(nw, .inl (cN, 25240, .inl now0)), (mo, .inr (4, [.int 0, .int 1, .ref nw, .ref kp, .int 0, .int (-1), .ref mk, .ref co, .int 0, .int 0, .ref se]))] H := hP
  have hD : va_D A [(nw, .inl (cN, 25240, .inl now0)), (mo, .inr (4, [.int 0, .int 1, .ref nw, .ref kp, .int 0, .int (-1), .ref mk, .ref co, .int 0, .int 0, .ref se]))] := hD
  refine W.widen (k := 0) (n := 0) (Nat.le_of_ble_eq_true rfl) (Nat.le_of_ble_eq_true rfl) ?_
  obtain rfl : r5 = 0 := hr6
  refine lv_if_ne (pc := 83) (tgt := 88) hx hb dM_put_83 rfl (fun h8 => absurd h8 (by decide)) (fun h8 => ?_)
  refine lv_iconst (pc := 86) (v := 0) hx hb dM_put_86 (by decide) ?_
  have hP9 := hP.sub (ws' := [(mo, .inr (4, [.int 0, .int 1, .ref nw, .ref kp, .int 0, .int (-1), .ref mk, .ref co, .int 0, .int 0, .ref se]))]) [1] rfl
  have hD9 := hD.sub (ws' := [(mo, .inr (4, [.int 0, .int 1, .ref nw, .ref kp, .int 0, .int (-1), .ref mk, .ref co, .int 0, .int 0, .ref se]))]) [1] (by decide) rfl
  have hK9 := hK.sub (tys' := []) [] rfl
  exact W.zret (pc := 87) hx hb hr rfl (fun t ht hW => ⟨⟨_, (), rfl, rfl, by rw [ht]; exact hP9, va_K.moved hW.alike hK9, hD9⟩, hS.F ht⟩) hS.2.2 dM_put_87
set_option maxHeartbeats 4000000 in
set_option maxRecDepth 100000 in
theorem m_resize (l : Launch) (dC : Nat → ClassId) (dI : Nat → Nat → Nat) (sz : Nat) (mo : Nat) (nw : Nat) (kp : Nat) (mk : Nat) (co : Nat) (se : Nat) (th : Int32) (mr : Int32) (cN : ClassId) (dd : Int32) (pp : Int32) (bn : Int32) : Met l yM_resize (.code yM_resize cM_resize 7 (some .boolean) :: aw) ({ frames := 3, cells := 0, slots := 0, locals := 65 }) (pW (dC, dI) sz [(mo, .inr (4, [.int th, .int mr, .ref nw, .ref kp, .int 0, .int (-1), .ref mk, .ref co, .int 0, .int 0, .ref se])), (nw, .inl (cN, 25240, .inl now0))] [(cN, .int)] [.ref mo, .int dd, .int pp, .int bn]) (va_Qi (fun r (_ : Unit) => r = 0) (fun _ t => wW (dC, dI) (va_A [(mo, .inr (4, [.int th, .int mr, .ref nw, .ref kp, .int 0, .int (-1), .ref mk, .ref co, .int 0, .int 0, .ref se])), (nw, .inl (cN, 25240, .inl now0))] sz) [(mo, .inr (4, [.int 0, .int 1, .ref nw, .ref kp, .int 0, .int (-1), .ref mk, .ref co, .int 0, .int 0, .ref se]))] [] t) (va_A [(mo, .inr (4, [.int th, .int mr, .ref nw, .ref kp, .int 0, .int (-1), .ref mk, .ref co, .int 0, .int 0, .ref se])), (nw, .inl (cN, 25240, .inl now0))] sz)) 0 0 (va_A [(mo, .inr (4, [.int th, .int mr, .ref nw, .ref kp, .int 0, .int (-1), .ref mk, .ref co, .int 0, .int 0, .ref se])), (nw, .inl (cN, 25240, .inl now0))] sz) := by
  refine Met.ofW (cc := cM_resize) (maxL := 7) (ret := (some .boolean)) (by decide) rfl ?_
  intro p e s m args below meth c s₁ B hml hv
  obtain ⟨rfl, hv⟩ := hv
  have hx := B.exec
  have hb := B.bytes
  have hr := B.returns
  have hts : ∀ w ∈ aw, w.before _ s = true := fun w h => atoms_spec (ws := (.code yM_resize cM_resize 7 (some .boolean) :: aw)) B.pre w (List.mem_cons_of_mem _ h)
  have hown : s.vm.findClass RM = some m.cls := findClass_of_methodNamed B.named
  have hlocks := B.notSynchronized
  obtain ⟨hsz, hP, hK, hD0⟩ := hv
  subst hsz
  have hD := hD0.self (sz := s.heap.size)
  generalize hAe : va_A [(mo, .inr (4, [.int th, .int mr, .ref nw, .ref kp, .int 0, .int (-1), .ref mk, .ref co, .int 0, .int 0, .ref se])), (nw, .inl (cN, 25240, .inl now0))] s.heap.size = A at hD ⊢
  have hA : ∀ q : Nat, s.heap.size ≤ q → A q := fun q h => by rw [← hAe]; exact Or.inr h
  obtain ⟨H, hH⟩ : ∃ H, H = s.heap := ⟨_, rfl⟩
  have hS : va_S A s.heap H [] := by rw [hH]; exact va_S.rf
  rw [← hH] at hP ⊢
  have hP : va_P (dC, dI) kCl [(mo, .inr (4, [.int th, .int mr, .ref nw, .ref kp, .int 0, .int (-1), .ref mk, .ref co, .int 0, .int 0, .ref se])), (nw, .inl (cN, 25240, .inl now0))] H := hP
  have hl := lv_entry ([.ref mo, .int dd, .int pp, .int bn]) (n := 7) (Nat.le_of_ble_eq_true rfl)
  rw [lg_entry_eq]
  generalize (lg_sl ([.ref mo, .int dd, .int pp, .int bn]) ++ List.replicate (7 - (lg_sl ([.ref mo, .int dd, .int pp, .int bn])).length) Slot.unset).toArray = ls at hl ⊢
  have hl : lv_has ls 7 [(0, .ref mo), (1, .int dd), (2, .int pp), (3, .int bn)] := hl
  refine lv_aload_n (pc := 0) hx hb dM_resize_0 rfl (lv_at hl 0 rfl) ?_
  refine lv_iload_n (pc := 1) hx hb dM_resize_1 rfl (lv_at hl 1 rfl) ?_
  refine lv_iload_n (pc := 2) hx hb dM_resize_2 rfl (lv_at hl 2 rfl) ?_
  refine vp_callSi (pc := 3) (W.runV (As := [.int dd, .int pp]) (rest := []) ⟨hx, hb, hml, hown, hts⟩ (m_whyNot l dC dI mo nw kp mk co se th mr cN dd pp) (cwV 2 hts (gV wd_185 wd_186 wd_187 wd_157 wd_184) rfl rfl rfl (by decide +kernel) ⟨Nat.le_of_ble_eq_true rfl, Nat.le_of_ble_eq_true rfl⟩) ⟨pR_blind, va_recv (q := (RM, TM, 11)) (q0 := 0) (ci := 4) hK hP rfl rfl, pR_pre (hP.sub (ws' := [(mo, .inr (4, [.int th, .int mr, .ref nw, .ref kp, .int 0, .int (-1), .ref mk, .ref co, .int 0, .int 0, .ref se])), (nw, .inl (cN, 25240, .inl now0))]) [0, 1] rfl) (hK.sub (tys' := [(cN, .int)]) [0] rfl)⟩ rfl rfl hl.1 rfl (lv_room (Nat.le_of_ble_eq_true rfl)) dM_resize_3 ⟨Nat.le_of_ble_eq_true rfl, Nat.le_of_ble_eq_true rfl⟩) (fun r1 hr2 => ?_)
  obtain rfl : r1 = 1 := hr2
  refine lv_istore (pc := 6) hx hb dM_resize_6 hl (by decide) rfl (fun ls hl => ?_)
  have hl : lv_has ls 7 [(4, .int 1), (0, .ref mo), (1, .int dd), (2, .int pp), (3, .int bn)] := hl
  refine lv_aload_n (pc := 8) hx hb dM_resize_8 rfl (lv_at hl 1 rfl) ?_
  refine lv_iload (pc := 9) hx hb dM_resize_9 (lv_at hl 0 rfl) ?_
  refine lv_if_ne (pc := 11) (tgt := 29) hx hb dM_resize_11 rfl (fun h3 => ?_) (fun h3 => absurd h3 (by decide))
  refine lv_iload (pc := 29) hx hb dM_resize_29 (lv_at hl 0 rfl) ?_
  have hPc := hP.sub (ws' := [(mo, .inr (4, [.int th, .int mr, .ref nw, .ref kp, .int 0, .int (-1), .ref mk, .ref co, .int 0, .int 0, .ref se]))]) [0] rfl
  have hDc := hD.sub (ws' := [(mo, .inr (4, [.int th, .int mr, .ref nw, .ref kp, .int 0, .int (-1), .ref mk, .ref co, .int 0, .int 0, .ref se]))]) [0] (by decide) rfl
  have hKc := hK.sub (tys' := []) [] rfl
  have hFc := va_free (wc := [(mo, .inr (4, [.int th, .int mr, .ref nw, .ref kp, .int 0, .int (-1), .ref mk, .ref co, .int 0, .int 0, .ref se]))]) hD hS hA [0] rfl
  refine va_calli (pc := 31) (va_runV (As := [.int 1]) (rest := []) ⟨hx, hb, hml, hown, hts⟩ (m_mayHere l dC dI H.size mo nw kp mk co se th mr 1 (by decide)) (cwV 1 hts (gV wd_189 wd_190 wd_191 wd_157 wd_188) rfl rfl rfl (by decide +kernel) ⟨Nat.le_of_ble_eq_true rfl, Nat.le_of_ble_eq_true rfl⟩) ⟨pW_blind, va_recv (q := (RM, TM, 11)) (q0 := 0) (ci := 4) hK hP rfl rfl, pW_pre hPc hKc hDc⟩ rfl rfl hl.1 rfl (lv_room (Nat.le_of_ble_eq_true rfl)) dM_resize_31 ⟨Nat.le_of_ble_eq_true rfl, Nat.le_of_ble_eq_true rfl⟩) hS (fun q _ h => hFc q h) hFc (fun r4 u t H1 locs ht hvm hr5 hB hz1 hk1 hS => ?_)
  obtain ⟨hP1, hK1, hD1⟩ := hB
  rw [ht] at hP1
  have hK1 := va_K.moved hvm.symm hK1
  obtain ⟨hP, hD⟩ := va_join (wr := [(nw, .inl (cN, 25240, .inl now0))]) (w1 := [(mo, .inr (4, [.int 0, .int 1, .ref nw, .ref kp, .int 0, .int (-1), .ref mk, .ref co, .int 0, .int 0, .ref se]))]) hP hD [0] [1] rfl rfl (by decide) (by decide) hk1 hFc hP1 hD1
  generalize H1 = H at hP hS ⊢
  have hP : va_P (dC, dI) kCl [(nw, .inl (cN, 25240, .inl now0)), (mo, .inr (4, [.int 0, .int 1, .ref nw, .ref kp, .int 0, .int (-1), .ref mk, .ref co, .int 0, .int 0, .ref se]))] H := hP
  have hD : va_D A [(nw, .inl (cN, 25240, .inl now0)), (mo, .inr (4, [.int 0, .int 1, .ref nw, .ref kp, .int 0, .int (-1), .ref mk, .ref co, .int 0, .int 0, .ref se]))] := hD
  refine W.widen (k := 0) (n := 0) (Nat.le_of_ble_eq_true rfl) (Nat.le_of_ble_eq_true rfl) ?_
  obtain rfl : r4 = 0 := hr5
  refine lv_if_ne (pc := 34) (tgt := 39) hx hb dM_resize_34 rfl (fun h7 => absurd h7 (by decide)) (fun h7 => ?_)
  refine lv_iconst (pc := 37) (v := 0) hx hb dM_resize_37 (by decide) ?_
  have hP9 := hP.sub (ws' := [(mo, .inr (4, [.int 0, .int 1, .ref nw, .ref kp, .int 0, .int (-1), .ref mk, .ref co, .int 0, .int 0, .ref se]))]) [1] rfl
  have hD9 := hD.sub (ws' := [(mo, .inr (4, [.int 0, .int 1, .ref nw, .ref kp, .int 0, .int (-1), .ref mk, .ref co, .int 0, .int 0, .ref se]))]) [1] (by decide) rfl
  have hK9 := hK.sub (tys' := []) [] rfl
  exact W.zret (pc := 38) hx hb hr rfl (fun t ht hW => ⟨⟨_, (), rfl, rfl, by rw [ht]; exact hP9, va_K.moved hW.alike hK9, hD9⟩, hS.F ht⟩) hS.2.2 dM_resize_38
set_option maxHeartbeats 4000000 in
set_option maxRecDepth 100000 in
theorem m_ref (l : Launch) (dC : Nat → ClassId) (dI : Nat → Nat → Nat) (sz : Nat) (mo : Nat) (nw : Nat) (kp : Nat) (mk : Nat) (co : Nat) (se : Nat) (th : Int32) (mr : Int32) (cN : ClassId) (dd : Int32) (pp : Int32) (kk : Int32) (tg : Int32) (vv : Int32) : Met l yM_ref (.code yM_ref cM_ref 11 (some .boolean) :: aw) ({ frames := 3, cells := 0, slots := 0, locals := 65 }) (pW (dC, dI) sz [(mo, .inr (4, [.int th, .int mr, .ref nw, .ref kp, .int 0, .int (-1), .ref mk, .ref co, .int 0, .int 0, .ref se])), (nw, .inl (cN, 25240, .inl now0))] [(cN, .int)] [.ref mo, .int dd, .int pp, .int kk, .int tg, .int vv]) (va_Qi (fun r (_ : Unit) => r = 0) (fun _ t => wW (dC, dI) (va_A [(mo, .inr (4, [.int th, .int mr, .ref nw, .ref kp, .int 0, .int (-1), .ref mk, .ref co, .int 0, .int 0, .ref se])), (nw, .inl (cN, 25240, .inl now0))] sz) [(mo, .inr (4, [.int 0, .int 1, .ref nw, .ref kp, .int 0, .int (-1), .ref mk, .ref co, .int 0, .int 0, .ref se]))] [] t) (va_A [(mo, .inr (4, [.int th, .int mr, .ref nw, .ref kp, .int 0, .int (-1), .ref mk, .ref co, .int 0, .int 0, .ref se])), (nw, .inl (cN, 25240, .inl now0))] sz)) 0 0 (va_A [(mo, .inr (4, [.int th, .int mr, .ref nw, .ref kp, .int 0, .int (-1), .ref mk, .ref co, .int 0, .int 0, .ref se])), (nw, .inl (cN, 25240, .inl now0))] sz) := by
  refine Met.ofW (cc := cM_ref) (maxL := 11) (ret := (some .boolean)) (by decide) rfl ?_
  intro p e s m args below meth c s₁ B hml hv
  obtain ⟨rfl, hv⟩ := hv
  have hx := B.exec
  have hb := B.bytes
  have hr := B.returns
  have hts : ∀ w ∈ aw, w.before _ s = true := fun w h => atoms_spec (ws := (.code yM_ref cM_ref 11 (some .boolean) :: aw)) B.pre w (List.mem_cons_of_mem _ h)
  have hown : s.vm.findClass RM = some m.cls := findClass_of_methodNamed B.named
  have hlocks := B.notSynchronized
  obtain ⟨hsz, hP, hK, hD0⟩ := hv
  subst hsz
  have hD := hD0.self (sz := s.heap.size)
  generalize hAe : va_A [(mo, .inr (4, [.int th, .int mr, .ref nw, .ref kp, .int 0, .int (-1), .ref mk, .ref co, .int 0, .int 0, .ref se])), (nw, .inl (cN, 25240, .inl now0))] s.heap.size = A at hD ⊢
  have hA : ∀ q : Nat, s.heap.size ≤ q → A q := fun q h => by rw [← hAe]; exact Or.inr h
  obtain ⟨H, hH⟩ : ∃ H, H = s.heap := ⟨_, rfl⟩
  have hS : va_S A s.heap H [] := by rw [hH]; exact va_S.rf
  rw [← hH] at hP ⊢
  have hP : va_P (dC, dI) kCl [(mo, .inr (4, [.int th, .int mr, .ref nw, .ref kp, .int 0, .int (-1), .ref mk, .ref co, .int 0, .int 0, .ref se])), (nw, .inl (cN, 25240, .inl now0))] H := hP
  have hl := lv_entry ([.ref mo, .int dd, .int pp, .int kk, .int tg, .int vv]) (n := 11) (Nat.le_of_ble_eq_true rfl)
  rw [lg_entry_eq]
  generalize (lg_sl ([.ref mo, .int dd, .int pp, .int kk, .int tg, .int vv]) ++ List.replicate (11 - (lg_sl ([.ref mo, .int dd, .int pp, .int kk, .int tg, .int vv])).length) Slot.unset).toArray = ls at hl ⊢
  have hl : lv_has ls 11 [(0, .ref mo), (1, .int dd), (2, .int pp), (3, .int kk), (4, .int tg), (5, .int vv)] := hl
  refine lv_aload_n (pc := 0) hx hb dM_ref_0 rfl (lv_at hl 0 rfl) ?_
  refine lv_iload_n (pc := 1) hx hb dM_ref_1 rfl (lv_at hl 1 rfl) ?_
  refine lv_iload_n (pc := 2) hx hb dM_ref_2 rfl (lv_at hl 2 rfl) ?_
  refine vp_callSi (pc := 3) (W.runV (As := [.int dd, .int pp]) (rest := []) ⟨hx, hb, hml, hown, hts⟩ (m_whyNot l dC dI mo nw kp mk co se th mr cN dd pp) (cwV 2 hts (gV wd_185 wd_186 wd_187 wd_157 wd_184) rfl rfl rfl (by decide +kernel) ⟨Nat.le_of_ble_eq_true rfl, Nat.le_of_ble_eq_true rfl⟩) ⟨pR_blind, va_recv (q := (RM, TM, 11)) (q0 := 0) (ci := 4) hK hP rfl rfl, pR_pre (hP.sub (ws' := [(mo, .inr (4, [.int th, .int mr, .ref nw, .ref kp, .int 0, .int (-1), .ref mk, .ref co, .int 0, .int 0, .ref se])), (nw, .inl (cN, 25240, .inl now0))]) [0, 1] rfl) (hK.sub (tys' := [(cN, .int)]) [0] rfl)⟩ rfl rfl hl.1 rfl (lv_room (Nat.le_of_ble_eq_true rfl)) dM_ref_3 ⟨Nat.le_of_ble_eq_true rfl, Nat.le_of_ble_eq_true rfl⟩) (fun r1 hr2 => ?_)
  obtain rfl : r1 = 1 := hr2
  refine lv_istore (pc := 6) hx hb dM_ref_6 hl (by decide) rfl (fun ls hl => ?_)
  have hl : lv_has ls 11 [(6, .int 1), (0, .ref mo), (1, .int dd), (2, .int pp), (3, .int kk), (4, .int tg), (5, .int vv)] := hl
  refine lv_iload (pc := 8) hx hb dM_ref_8 (lv_at hl 0 rfl) ?_
  refine lv_if_ne (pc := 10) (tgt := 28) hx hb dM_ref_10 rfl (fun h3 => ?_) (fun h3 => absurd h3 (by decide))
  refine lv_iconst (pc := 28) (v := 0) hx hb dM_ref_28 (by decide) ?_
  refine lv_istore (pc := 29) hx hb dM_ref_29 hl (by decide) rfl (fun ls hl => ?_)
  have hl : lv_has ls 11 [(7, .int 0), (6, .int 1), (0, .ref mo), (1, .int dd), (2, .int pp), (3, .int kk), (4, .int tg), (5, .int vv)] := hl
  refine lv_iload_n (pc := 31) hx hb dM_ref_31 rfl (lv_at hl 5 rfl) ?_
  refine lv_if_lt (pc := 32) (tgt := 56) hx hb dM_ref_32 rfl (fun h4 => ?_) (fun h4 => ?_)
  · refine lv_iconst (pc := 56) (v := 1) hx hb dM_ref_56 (by decide) ?_
    refine lv_goto (pc := 57) (tgt := 61) hx hb dM_ref_57 rfl ?_
    refine lv_istore (pc := 61) hx hb dM_ref_61 hl (by decide) rfl (fun ls hl => ?_)
    have hl : lv_has ls 11 [(8, .int 1), (7, .int 0), (6, .int 1), (0, .ref mo), (1, .int dd), (2, .int pp), (3, .int kk), (4, .int tg), (5, .int vv)] := hl
    refine lv_iload (pc := 63) hx hb dM_ref_63 (lv_at hl 2 rfl) ?_
    refine lv_if_le (pc := 65) (tgt := 73) hx hb dM_ref_65 rfl (fun h5 => absurd h5 (by decide)) (fun h5 => ?_)
    refine lv_iload (pc := 68) hx hb dM_ref_68 (lv_at hl 2 rfl) ?_
    refine lv_goto (pc := 70) (tgt := 95) hx hb dM_ref_70 rfl ?_
    refine lv_istore (pc := 95) hx hb dM_ref_95 hl (by decide) rfl (fun ls hl => ?_)
    have hl : lv_has ls 11 [(9, .int 1), (8, .int 1), (7, .int 0), (6, .int 1), (0, .ref mo), (1, .int dd), (2, .int pp), (3, .int kk), (4, .int tg), (5, .int vv)] := hl
    refine lv_aload_n (pc := 97) hx hb dM_ref_97 rfl (lv_at hl 4 rfl) ?_
    refine lv_iload (pc := 98) hx hb dM_ref_98 (lv_at hl 0 rfl) ?_
    have hPc := hP.sub (ws' := [(mo, .inr (4, [.int th, .int mr, .ref nw, .ref kp, .int 0, .int (-1), .ref mk, .ref co, .int 0, .int 0, .ref se]))]) [0] rfl
    have hDc := hD.sub (ws' := [(mo, .inr (4, [.int th, .int mr, .ref nw, .ref kp, .int 0, .int (-1), .ref mk, .ref co, .int 0, .int 0, .ref se]))]) [0] (by decide) rfl
    have hKc := hK.sub (tys' := []) [] rfl
    have hFc := va_free (wc := [(mo, .inr (4, [.int th, .int mr, .ref nw, .ref kp, .int 0, .int (-1), .ref mk, .ref co, .int 0, .int 0, .ref se]))]) hD hS hA [0] rfl
    refine va_calli (pc := 100) (va_runV (As := [.int 1]) (rest := []) ⟨hx, hb, hml, hown, hts⟩ (m_mayHere l dC dI H.size mo nw kp mk co se th mr 1 (by decide)) (cwV 1 hts (gV wd_189 wd_190 wd_191 wd_157 wd_188) rfl rfl rfl (by decide +kernel) ⟨Nat.le_of_ble_eq_true rfl, Nat.le_of_ble_eq_true rfl⟩) ⟨pW_blind, va_recv (q := (RM, TM, 11)) (q0 := 0) (ci := 4) hK hP rfl rfl, pW_pre hPc hKc hDc⟩ rfl rfl hl.1 rfl (lv_room (Nat.le_of_ble_eq_true rfl)) dM_ref_100 ⟨Nat.le_of_ble_eq_true rfl, Nat.le_of_ble_eq_true rfl⟩) hS (fun q _ h => hFc q h) hFc (fun r6 u t H1 locs ht hvm hr7 hB hz1 hk1 hS => ?_)
    obtain ⟨hP1, hK1, hD1⟩ := hB
    rw [ht] at hP1
    have hK1 := va_K.moved hvm.symm hK1
    obtain ⟨hP, hD⟩ := va_join (wr := [(nw, .inl (cN, 25240, .inl now0))]) (w1 := [(mo, .inr (4, [.int 0, .int 1, .ref nw, .ref kp, .int 0, .int (-1), .ref mk, .ref co, .int 0, .int 0, .ref se]))]) hP hD [0] [1] rfl rfl (by decide) (by decide) hk1 hFc hP1 hD1
    generalize H1 = H at hP hS ⊢
    have hP : va_P (dC, dI) kCl [(nw, .inl (cN, 25240, .inl now0)), (mo, .inr (4, [.int 0, .int 1, .ref nw, .ref kp, .int 0, .int (-1), .ref mk, .ref co, .int 0, .int 0, .ref se]))] H := hP
    have hD : va_D A [(nw, .inl (cN, 25240, .inl now0)), (mo, .inr (4, [.int 0, .int 1, .ref nw, .ref kp, .int 0, .int (-1), .ref mk, .ref co, .int 0, .int 0, .ref se]))] := hD
    refine W.widen (k := 0) (n := 0) (Nat.le_of_ble_eq_true rfl) (Nat.le_of_ble_eq_true rfl) ?_
    obtain rfl : r6 = 0 := hr7
    refine lv_if_ne (pc := 103) (tgt := 108) hx hb dM_ref_103 rfl (fun h9 => absurd h9 (by decide)) (fun h9 => ?_)
    refine lv_iconst (pc := 106) (v := 0) hx hb dM_ref_106 (by decide) ?_
    have hP9 := hP.sub (ws' := [(mo, .inr (4, [.int 0, .int 1, .ref nw, .ref kp, .int 0, .int (-1), .ref mk, .ref co, .int 0, .int 0, .ref se]))]) [1] rfl
    have hD9 := hD.sub (ws' := [(mo, .inr (4, [.int 0, .int 1, .ref nw, .ref kp, .int 0, .int (-1), .ref mk, .ref co, .int 0, .int 0, .ref se]))]) [1] (by decide) rfl
    have hK9 := hK.sub (tys' := []) [] rfl
    exact W.zret (pc := 107) hx hb hr rfl (fun t ht hW => ⟨⟨_, (), rfl, rfl, by rw [ht]; exact hP9, va_K.moved hW.alike hK9, hD9⟩, hS.F ht⟩) hS.2.2 dM_ref_107
  · refine lv_iload_n (pc := 35) hx hb dM_ref_35 rfl (lv_at hl 5 rfl) ?_
    refine lv_iload (pc := 36) hx hb dM_ref_36 (lv_at hl 0 rfl) ?_
    refine lv_icmp_gt (pc := 38) (tgt := 56) hx hb dM_ref_38 rfl (fun h10 => ?_) (fun h10 => ?_)
    · refine lv_iconst (pc := 56) (v := 1) hx hb dM_ref_56 (by decide) ?_
      refine lv_goto (pc := 57) (tgt := 61) hx hb dM_ref_57 rfl ?_
      refine lv_istore (pc := 61) hx hb dM_ref_61 hl (by decide) rfl (fun ls hl => ?_)
      have hl : lv_has ls 11 [(8, .int 1), (7, .int 0), (6, .int 1), (0, .ref mo), (1, .int dd), (2, .int pp), (3, .int kk), (4, .int tg), (5, .int vv)] := hl
      refine lv_iload (pc := 63) hx hb dM_ref_63 (lv_at hl 2 rfl) ?_
      refine lv_if_le (pc := 65) (tgt := 73) hx hb dM_ref_65 rfl (fun h11 => absurd h11 (by decide)) (fun h11 => ?_)
      refine lv_iload (pc := 68) hx hb dM_ref_68 (lv_at hl 2 rfl) ?_
      refine lv_goto (pc := 70) (tgt := 95) hx hb dM_ref_70 rfl ?_
      refine lv_istore (pc := 95) hx hb dM_ref_95 hl (by decide) rfl (fun ls hl => ?_)
      have hl : lv_has ls 11 [(9, .int 1), (8, .int 1), (7, .int 0), (6, .int 1), (0, .ref mo), (1, .int dd), (2, .int pp), (3, .int kk), (4, .int tg), (5, .int vv)] := hl
      refine lv_aload_n (pc := 97) hx hb dM_ref_97 rfl (lv_at hl 4 rfl) ?_
      refine lv_iload (pc := 98) hx hb dM_ref_98 (lv_at hl 0 rfl) ?_
      have hPc := hP.sub (ws' := [(mo, .inr (4, [.int th, .int mr, .ref nw, .ref kp, .int 0, .int (-1), .ref mk, .ref co, .int 0, .int 0, .ref se]))]) [0] rfl
      have hDc := hD.sub (ws' := [(mo, .inr (4, [.int th, .int mr, .ref nw, .ref kp, .int 0, .int (-1), .ref mk, .ref co, .int 0, .int 0, .ref se]))]) [0] (by decide) rfl
      have hKc := hK.sub (tys' := []) [] rfl
      have hFc := va_free (wc := [(mo, .inr (4, [.int th, .int mr, .ref nw, .ref kp, .int 0, .int (-1), .ref mk, .ref co, .int 0, .int 0, .ref se]))]) hD hS hA [0] rfl
      refine va_calli (pc := 100) (va_runV (As := [.int 1]) (rest := []) ⟨hx, hb, hml, hown, hts⟩ (m_mayHere l dC dI H.size mo nw kp mk co se th mr 1 (by decide)) (cwV 1 hts (gV wd_189 wd_190 wd_191 wd_157 wd_188) rfl rfl rfl (by decide +kernel) ⟨Nat.le_of_ble_eq_true rfl, Nat.le_of_ble_eq_true rfl⟩) ⟨pW_blind, va_recv (q := (RM, TM, 11)) (q0 := 0) (ci := 4) hK hP rfl rfl, pW_pre hPc hKc hDc⟩ rfl rfl hl.1 rfl (lv_room (Nat.le_of_ble_eq_true rfl)) dM_ref_100 ⟨Nat.le_of_ble_eq_true rfl, Nat.le_of_ble_eq_true rfl⟩) hS (fun q _ h => hFc q h) hFc (fun r12 u t H1 locs ht hvm hr13 hB hz1 hk1 hS => ?_)
      obtain ⟨hP1, hK1, hD1⟩ := hB
      rw [ht] at hP1
      have hK1 := va_K.moved hvm.symm hK1
      obtain ⟨hP, hD⟩ := va_join (wr := [(nw, .inl (cN, 25240, .inl now0))]) (w1 := [(mo, .inr (4, [.int 0, .int 1, .ref nw, .ref kp, .int 0, .int (-1), .ref mk, .ref co, .int 0, .int 0, .ref se]))]) hP hD [0] [1] rfl rfl (by decide) (by decide) hk1 hFc hP1 hD1
      generalize H1 = H at hP hS ⊢
      have hP : va_P (dC, dI) kCl [(nw, .inl (cN, 25240, .inl now0)), (mo, .inr (4, [.int 0, .int 1, .ref nw, .ref kp, .int 0, .int (-1), .ref mk, .ref co, .int 0, .int 0, .ref se]))] H := hP
      have hD : va_D A [(nw, .inl (cN, 25240, .inl now0)), (mo, .inr (4, [.int 0, .int 1, .ref nw, .ref kp, .int 0, .int (-1), .ref mk, .ref co, .int 0, .int 0, .ref se]))] := hD
      refine W.widen (k := 0) (n := 0) (Nat.le_of_ble_eq_true rfl) (Nat.le_of_ble_eq_true rfl) ?_
      obtain rfl : r12 = 0 := hr13
      refine lv_if_ne (pc := 103) (tgt := 108) hx hb dM_ref_103 rfl (fun h15 => absurd h15 (by decide)) (fun h15 => ?_)
      refine lv_iconst (pc := 106) (v := 0) hx hb dM_ref_106 (by decide) ?_
      have hP9 := hP.sub (ws' := [(mo, .inr (4, [.int 0, .int 1, .ref nw, .ref kp, .int 0, .int (-1), .ref mk, .ref co, .int 0, .int 0, .ref se]))]) [1] rfl
      have hD9 := hD.sub (ws' := [(mo, .inr (4, [.int 0, .int 1, .ref nw, .ref kp, .int 0, .int (-1), .ref mk, .ref co, .int 0, .int 0, .ref se]))]) [1] (by decide) rfl
      have hK9 := hK.sub (tys' := []) [] rfl
      exact W.zret (pc := 107) hx hb hr rfl (fun t ht hW => ⟨⟨_, (), rfl, rfl, by rw [ht]; exact hP9, va_K.moved hW.alike hK9, hD9⟩, hS.F ht⟩) hS.2.2 dM_ref_107
    · refine lv_aload_n (pc := 41) hx hb dM_ref_41 rfl (lv_at hl 2 rfl) ?_
      refine lv_iload (pc := 42) hx hb dM_ref_42 (lv_at hl 6 rfl) ?_
      refine vp_callSi (pc := 44) (W.runV (As := [.int tg]) (rest := []) ⟨hx, hb, hml, hown, hts⟩ (m_isDrawing l dC dI mo nw kp mk co se th mr cN tg) (cwV 1 hts (gV wd_160 wd_161 wd_162 wd_157 wd_159) rfl rfl rfl (by decide +kernel) ⟨Nat.le_of_ble_eq_true rfl, Nat.le_of_ble_eq_true rfl⟩) ⟨pR_blind, va_recv (q := (RM, TM, 11)) (q0 := 0) (ci := 4) hK hP rfl rfl, pR_pre (hP.sub (ws' := [(mo, .inr (4, [.int th, .int mr, .ref nw, .ref kp, .int 0, .int (-1), .ref mk, .ref co, .int 0, .int 0, .ref se])), (nw, .inl (cN, 25240, .inl now0))]) [0, 1] rfl) (hK.sub (tys' := [(cN, .int)]) [0] rfl)⟩ rfl rfl hl.1 rfl (lv_room (Nat.le_of_ble_eq_true rfl)) dM_ref_44 ⟨Nat.le_of_ble_eq_true rfl, Nat.le_of_ble_eq_true rfl⟩) (fun r16 hr17 => ?_)
      obtain rfl : r16 = 0 := hr17
      refine lv_if_eq (pc := 47) (tgt := 56) hx hb dM_ref_47 rfl (fun h18 => ?_) (fun h18 => absurd h18 (by decide))
      refine lv_iconst (pc := 56) (v := 1) hx hb dM_ref_56 (by decide) ?_
      refine lv_goto (pc := 57) (tgt := 61) hx hb dM_ref_57 rfl ?_
      refine lv_istore (pc := 61) hx hb dM_ref_61 hl (by decide) rfl (fun ls hl => ?_)
      have hl : lv_has ls 11 [(8, .int 1), (7, .int 0), (6, .int 1), (0, .ref mo), (1, .int dd), (2, .int pp), (3, .int kk), (4, .int tg), (5, .int vv)] := hl
      refine lv_iload (pc := 63) hx hb dM_ref_63 (lv_at hl 2 rfl) ?_
      refine lv_if_le (pc := 65) (tgt := 73) hx hb dM_ref_65 rfl (fun h19 => absurd h19 (by decide)) (fun h19 => ?_)
      refine lv_iload (pc := 68) hx hb dM_ref_68 (lv_at hl 2 rfl) ?_
      refine lv_goto (pc := 70) (tgt := 95) hx hb dM_ref_70 rfl ?_
      refine lv_istore (pc := 95) hx hb dM_ref_95 hl (by decide) rfl (fun ls hl => ?_)
      have hl : lv_has ls 11 [(9, .int 1), (8, .int 1), (7, .int 0), (6, .int 1), (0, .ref mo), (1, .int dd), (2, .int pp), (3, .int kk), (4, .int tg), (5, .int vv)] := hl
      refine lv_aload_n (pc := 97) hx hb dM_ref_97 rfl (lv_at hl 4 rfl) ?_
      refine lv_iload (pc := 98) hx hb dM_ref_98 (lv_at hl 0 rfl) ?_
      have hPc := hP.sub (ws' := [(mo, .inr (4, [.int th, .int mr, .ref nw, .ref kp, .int 0, .int (-1), .ref mk, .ref co, .int 0, .int 0, .ref se]))]) [0] rfl
      have hDc := hD.sub (ws' := [(mo, .inr (4, [.int th, .int mr, .ref nw, .ref kp, .int 0, .int (-1), .ref mk, .ref co, .int 0, .int 0, .ref se]))]) [0] (by decide) rfl
      have hKc := hK.sub (tys' := []) [] rfl
      have hFc := va_free (wc := [(mo, .inr (4, [.int th, .int mr, .ref nw, .ref kp, .int 0, .int (-1), .ref mk, .ref co, .int 0, .int 0, .ref se]))]) hD hS hA [0] rfl
      refine va_calli (pc := 100) (va_runV (As := [.int 1]) (rest := []) ⟨hx, hb, hml, hown, hts⟩ (m_mayHere l dC dI H.size mo nw kp mk co se th mr 1 (by decide)) (cwV 1 hts (gV wd_189 wd_190 wd_191 wd_157 wd_188) rfl rfl rfl (by decide +kernel) ⟨Nat.le_of_ble_eq_true rfl, Nat.le_of_ble_eq_true rfl⟩) ⟨pW_blind, va_recv (q := (RM, TM, 11)) (q0 := 0) (ci := 4) hK hP rfl rfl, pW_pre hPc hKc hDc⟩ rfl rfl hl.1 rfl (lv_room (Nat.le_of_ble_eq_true rfl)) dM_ref_100 ⟨Nat.le_of_ble_eq_true rfl, Nat.le_of_ble_eq_true rfl⟩) hS (fun q _ h => hFc q h) hFc (fun r20 u t H1 locs ht hvm hr21 hB hz1 hk1 hS => ?_)
      obtain ⟨hP1, hK1, hD1⟩ := hB
      rw [ht] at hP1
      have hK1 := va_K.moved hvm.symm hK1
      obtain ⟨hP, hD⟩ := va_join (wr := [(nw, .inl (cN, 25240, .inl now0))]) (w1 := [(mo, .inr (4, [.int 0, .int 1, .ref nw, .ref kp, .int 0, .int (-1), .ref mk, .ref co, .int 0, .int 0, .ref se]))]) hP hD [0] [1] rfl rfl (by decide) (by decide) hk1 hFc hP1 hD1
      generalize H1 = H at hP hS ⊢
      have hP : va_P (dC, dI) kCl [(nw, .inl (cN, 25240, .inl now0)), (mo, .inr (4, [.int 0, .int 1, .ref nw, .ref kp, .int 0, .int (-1), .ref mk, .ref co, .int 0, .int 0, .ref se]))] H := hP
      have hD : va_D A [(nw, .inl (cN, 25240, .inl now0)), (mo, .inr (4, [.int 0, .int 1, .ref nw, .ref kp, .int 0, .int (-1), .ref mk, .ref co, .int 0, .int 0, .ref se]))] := hD
      refine W.widen (k := 0) (n := 0) (Nat.le_of_ble_eq_true rfl) (Nat.le_of_ble_eq_true rfl) ?_
      obtain rfl : r20 = 0 := hr21
      refine lv_if_ne (pc := 103) (tgt := 108) hx hb dM_ref_103 rfl (fun h23 => absurd h23 (by decide)) (fun h23 => ?_)
      refine lv_iconst (pc := 106) (v := 0) hx hb dM_ref_106 (by decide) ?_
      have hP9 := hP.sub (ws' := [(mo, .inr (4, [.int 0, .int 1, .ref nw, .ref kp, .int 0, .int (-1), .ref mk, .ref co, .int 0, .int 0, .ref se]))]) [1] rfl
      have hD9 := hD.sub (ws' := [(mo, .inr (4, [.int 0, .int 1, .ref nw, .ref kp, .int 0, .int (-1), .ref mk, .ref co, .int 0, .int 0, .ref se]))]) [1] (by decide) rfl
      have hK9 := hK.sub (tys' := []) [] rfl
      exact W.zret (pc := 107) hx hb hr rfl (fun t ht hW => ⟨⟨_, (), rfl, rfl, by rw [ht]; exact hP9, va_K.moved hW.alike hK9, hD9⟩, hS.F ht⟩) hS.2.2 dM_ref_107
set_option maxHeartbeats 4000000 in
set_option maxRecDepth 100000 in
theorem m_drop (l : Launch) (dC : Nat → ClassId) (dI : Nat → Nat → Nat) (sz : Nat) (mo : Nat) (nw : Nat) (kp : Nat) (mk : Nat) (co : Nat) (se : Nat) (th : Int32) (mr : Int32) (cN : ClassId) (dd : Int32) (pp : Int32) (kk : Int32) : Met l yM_drop (.code yM_drop cM_drop 8 (some .boolean) :: aw) ({ frames := 3, cells := 0, slots := 0, locals := 65 }) (pW (dC, dI) sz [(mo, .inr (4, [.int th, .int mr, .ref nw, .ref kp, .int 0, .int (-1), .ref mk, .ref co, .int 0, .int 0, .ref se])), (nw, .inl (cN, 25240, .inl now0))] [(cN, .int)] [.ref mo, .int dd, .int pp, .int kk]) (va_Qi (fun r (_ : Unit) => r = 0) (fun _ t => wW (dC, dI) (va_A [(mo, .inr (4, [.int th, .int mr, .ref nw, .ref kp, .int 0, .int (-1), .ref mk, .ref co, .int 0, .int 0, .ref se])), (nw, .inl (cN, 25240, .inl now0))] sz) [(mo, .inr (4, [.int 0, .int 1, .ref nw, .ref kp, .int 0, .int (-1), .ref mk, .ref co, .int 0, .int 0, .ref se]))] [] t) (va_A [(mo, .inr (4, [.int th, .int mr, .ref nw, .ref kp, .int 0, .int (-1), .ref mk, .ref co, .int 0, .int 0, .ref se])), (nw, .inl (cN, 25240, .inl now0))] sz)) 0 0 (va_A [(mo, .inr (4, [.int th, .int mr, .ref nw, .ref kp, .int 0, .int (-1), .ref mk, .ref co, .int 0, .int 0, .ref se])), (nw, .inl (cN, 25240, .inl now0))] sz) := by
  refine Met.ofW (cc := cM_drop) (maxL := 8) (ret := (some .boolean)) (by decide) rfl ?_
  intro p e s m args below meth c s₁ B hml hv
  obtain ⟨rfl, hv⟩ := hv
  have hx := B.exec
  have hb := B.bytes
  have hr := B.returns
  have hts : ∀ w ∈ aw, w.before _ s = true := fun w h => atoms_spec (ws := (.code yM_drop cM_drop 8 (some .boolean) :: aw)) B.pre w (List.mem_cons_of_mem _ h)
  have hown : s.vm.findClass RM = some m.cls := findClass_of_methodNamed B.named
  have hlocks := B.notSynchronized
  obtain ⟨hsz, hP, hK, hD0⟩ := hv
  subst hsz
  have hD := hD0.self (sz := s.heap.size)
  generalize hAe : va_A [(mo, .inr (4, [.int th, .int mr, .ref nw, .ref kp, .int 0, .int (-1), .ref mk, .ref co, .int 0, .int 0, .ref se])), (nw, .inl (cN, 25240, .inl now0))] s.heap.size = A at hD ⊢
  have hA : ∀ q : Nat, s.heap.size ≤ q → A q := fun q h => by rw [← hAe]; exact Or.inr h
  obtain ⟨H, hH⟩ : ∃ H, H = s.heap := ⟨_, rfl⟩
  have hS : va_S A s.heap H [] := by rw [hH]; exact va_S.rf
  rw [← hH] at hP ⊢
  have hP : va_P (dC, dI) kCl [(mo, .inr (4, [.int th, .int mr, .ref nw, .ref kp, .int 0, .int (-1), .ref mk, .ref co, .int 0, .int 0, .ref se])), (nw, .inl (cN, 25240, .inl now0))] H := hP
  have hl := lv_entry ([.ref mo, .int dd, .int pp, .int kk]) (n := 8) (Nat.le_of_ble_eq_true rfl)
  rw [lg_entry_eq]
  generalize (lg_sl ([.ref mo, .int dd, .int pp, .int kk]) ++ List.replicate (8 - (lg_sl ([.ref mo, .int dd, .int pp, .int kk])).length) Slot.unset).toArray = ls at hl ⊢
  have hl : lv_has ls 8 [(0, .ref mo), (1, .int dd), (2, .int pp), (3, .int kk)] := hl
  refine lv_aload_n (pc := 0) hx hb dM_drop_0 rfl (lv_at hl 0 rfl) ?_
  refine lv_iload_n (pc := 1) hx hb dM_drop_1 rfl (lv_at hl 1 rfl) ?_
  refine lv_iload_n (pc := 2) hx hb dM_drop_2 rfl (lv_at hl 2 rfl) ?_
  refine vp_callSi (pc := 3) (W.runV (As := [.int dd, .int pp]) (rest := []) ⟨hx, hb, hml, hown, hts⟩ (m_whyNot l dC dI mo nw kp mk co se th mr cN dd pp) (cwV 2 hts (gV wd_185 wd_186 wd_187 wd_157 wd_184) rfl rfl rfl (by decide +kernel) ⟨Nat.le_of_ble_eq_true rfl, Nat.le_of_ble_eq_true rfl⟩) ⟨pR_blind, va_recv (q := (RM, TM, 11)) (q0 := 0) (ci := 4) hK hP rfl rfl, pR_pre (hP.sub (ws' := [(mo, .inr (4, [.int th, .int mr, .ref nw, .ref kp, .int 0, .int (-1), .ref mk, .ref co, .int 0, .int 0, .ref se])), (nw, .inl (cN, 25240, .inl now0))]) [0, 1] rfl) (hK.sub (tys' := [(cN, .int)]) [0] rfl)⟩ rfl rfl hl.1 rfl (lv_room (Nat.le_of_ble_eq_true rfl)) dM_drop_3 ⟨Nat.le_of_ble_eq_true rfl, Nat.le_of_ble_eq_true rfl⟩) (fun r1 hr2 => ?_)
  obtain rfl : r1 = 1 := hr2
  refine lv_istore (pc := 6) hx hb dM_drop_6 hl (by decide) rfl (fun ls hl => ?_)
  have hl : lv_has ls 8 [(4, .int 1), (0, .ref mo), (1, .int dd), (2, .int pp), (3, .int kk)] := hl
  refine lv_iload (pc := 8) hx hb dM_drop_8 (lv_at hl 0 rfl) ?_
  refine lv_if_ne (pc := 10) (tgt := 46) hx hb dM_drop_10 rfl (fun h3 => ?_) (fun h3 => absurd h3 (by decide))
  refine lv_iconst (pc := 46) (v := 0) hx hb dM_drop_46 (by decide) ?_
  refine lv_istore (pc := 47) hx hb dM_drop_47 hl (by decide) rfl (fun ls hl => ?_)
  have hl : lv_has ls 8 [(5, .int 0), (4, .int 1), (0, .ref mo), (1, .int dd), (2, .int pp), (3, .int kk)] := hl
  refine lv_aload_n (pc := 49) hx hb dM_drop_49 rfl (lv_at hl 2 rfl) ?_
  refine lv_iload (pc := 50) hx hb dM_drop_50 (lv_at hl 1 rfl) ?_
  refine lv_if_ne (pc := 52) (tgt := 65) hx hb dM_drop_52 rfl (fun h4 => ?_) (fun h4 => absurd h4 (by decide))
  refine lv_iload (pc := 65) hx hb dM_drop_65 (lv_at hl 1 rfl) ?_
  have hPc := hP.sub (ws' := [(mo, .inr (4, [.int th, .int mr, .ref nw, .ref kp, .int 0, .int (-1), .ref mk, .ref co, .int 0, .int 0, .ref se]))]) [0] rfl
  have hDc := hD.sub (ws' := [(mo, .inr (4, [.int th, .int mr, .ref nw, .ref kp, .int 0, .int (-1), .ref mk, .ref co, .int 0, .int 0, .ref se]))]) [0] (by decide) rfl
  have hKc := hK.sub (tys' := []) [] rfl
  have hFc := va_free (wc := [(mo, .inr (4, [.int th, .int mr, .ref nw, .ref kp, .int 0, .int (-1), .ref mk, .ref co, .int 0, .int 0, .ref se]))]) hD hS hA [0] rfl
  refine va_calli (pc := 67) (va_runV (As := [.int 1]) (rest := []) ⟨hx, hb, hml, hown, hts⟩ (m_mayHere l dC dI H.size mo nw kp mk co se th mr 1 (by decide)) (cwV 1 hts (gV wd_189 wd_190 wd_191 wd_157 wd_188) rfl rfl rfl (by decide +kernel) ⟨Nat.le_of_ble_eq_true rfl, Nat.le_of_ble_eq_true rfl⟩) ⟨pW_blind, va_recv (q := (RM, TM, 11)) (q0 := 0) (ci := 4) hK hP rfl rfl, pW_pre hPc hKc hDc⟩ rfl rfl hl.1 rfl (lv_room (Nat.le_of_ble_eq_true rfl)) dM_drop_67 ⟨Nat.le_of_ble_eq_true rfl, Nat.le_of_ble_eq_true rfl⟩) hS (fun q _ h => hFc q h) hFc (fun r5 u t H1 locs ht hvm hr6 hB hz1 hk1 hS => ?_)
  obtain ⟨hP1, hK1, hD1⟩ := hB
  rw [ht] at hP1
  have hK1 := va_K.moved hvm.symm hK1
  obtain ⟨hP, hD⟩ := va_join (wr := [(nw, .inl (cN, 25240, .inl now0))]) (w1 := [(mo, .inr (4, [.int 0, .int 1, .ref nw, .ref kp, .int 0, .int (-1), .ref mk, .ref co, .int 0, .int 0, .ref se]))]) hP hD [0] [1] rfl rfl (by decide) (by decide) hk1 hFc hP1 hD1
  generalize H1 = H at hP hS ⊢
  have hP : va_P (dC, dI) kCl [(nw, .inl (cN, 25240, .inl now0)), (mo, .inr (4, [.int 0, .int 1, .ref nw, .ref kp, .int 0, .int (-1), .ref mk, .ref co, .int 0, .int 0, .ref se]))] H := hP
  have hD : va_D A [(nw, .inl (cN, 25240, .inl now0)), (mo, .inr (4, [.int 0, .int 1, .ref nw, .ref kp, .int 0, .int (-1), .ref mk, .ref co, .int 0, .int 0, .ref se]))] := hD
  refine W.widen (k := 0) (n := 0) (Nat.le_of_ble_eq_true rfl) (Nat.le_of_ble_eq_true rfl) ?_
  obtain rfl : r5 = 0 := hr6
  refine lv_if_ne (pc := 70) (tgt := 75) hx hb dM_drop_70 rfl (fun h8 => absurd h8 (by decide)) (fun h8 => ?_)
  refine lv_iconst (pc := 73) (v := 0) hx hb dM_drop_73 (by decide) ?_
  have hP9 := hP.sub (ws' := [(mo, .inr (4, [.int 0, .int 1, .ref nw, .ref kp, .int 0, .int (-1), .ref mk, .ref co, .int 0, .int 0, .ref se]))]) [1] rfl
  have hD9 := hD.sub (ws' := [(mo, .inr (4, [.int 0, .int 1, .ref nw, .ref kp, .int 0, .int (-1), .ref mk, .ref co, .int 0, .int 0, .ref se]))]) [1] (by decide) rfl
  have hK9 := hK.sub (tys' := []) [] rfl
  exact W.zret (pc := 74) hx hb hr rfl (fun t ht hW => ⟨⟨_, (), rfl, rfl, by rw [ht]; exact hP9, va_K.moved hW.alike hK9, hD9⟩, hS.F ht⟩) hS.2.2 dM_drop_74
set_option maxHeartbeats 4000000 in
set_option maxRecDepth 100000 in
theorem m_checkIn (l : Launch) (dC : Nat → ClassId) (dI : Nat → Nat → Nat) (sz : Nat) (mo : Nat) (nw : Nat) (kp : Nat) (mk : Nat) (co : Nat) (se : Nat) (th : Int32) (mr : Int32) (cN : ClassId) (dd : Int32) (pp : Int32) : Met l yM_checkIn (.code yM_checkIn cM_checkIn 7 (some .int) :: aw) ({ frames := 3, cells := 0, slots := 0, locals := 65 }) (pW (dC, dI) sz [(mo, .inr (4, [.int th, .int mr, .ref nw, .ref kp, .int 0, .int (-1), .ref mk, .ref co, .int 0, .int 0, .ref se])), (nw, .inl (cN, 25240, .inl now0))] [(cN, .int)] [.ref mo, .int dd, .int pp]) (va_Qi (fun r (_ : Unit) => r = (-1)) (fun _ t => wW (dC, dI) (va_A [(mo, .inr (4, [.int th, .int mr, .ref nw, .ref kp, .int 0, .int (-1), .ref mk, .ref co, .int 0, .int 0, .ref se])), (nw, .inl (cN, 25240, .inl now0))] sz) [(mo, .inr (4, [.int 0, .int 1, .ref nw, .ref kp, .int 0, .int (-1), .ref mk, .ref co, .int 0, .int 0, .ref se]))] [] t) (va_A [(mo, .inr (4, [.int th, .int mr, .ref nw, .ref kp, .int 0, .int (-1), .ref mk, .ref co, .int 0, .int 0, .ref se])), (nw, .inl (cN, 25240, .inl now0))] sz)) 0 0 (va_A [(mo, .inr (4, [.int th, .int mr, .ref nw, .ref kp, .int 0, .int (-1), .ref mk, .ref co, .int 0, .int 0, .ref se])), (nw, .inl (cN, 25240, .inl now0))] sz) := by
  refine Met.ofW (cc := cM_checkIn) (maxL := 7) (ret := (some .int)) (by decide) rfl ?_
  intro p e s m args below meth c s₁ B hml hv
  obtain ⟨rfl, hv⟩ := hv
  have hx := B.exec
  have hb := B.bytes
  have hr := B.returns
  have hts : ∀ w ∈ aw, w.before _ s = true := fun w h => atoms_spec (ws := (.code yM_checkIn cM_checkIn 7 (some .int) :: aw)) B.pre w (List.mem_cons_of_mem _ h)
  have hown : s.vm.findClass RM = some m.cls := findClass_of_methodNamed B.named
  have hlocks := B.notSynchronized
  obtain ⟨hsz, hP, hK, hD0⟩ := hv
  subst hsz
  have hD := hD0.self (sz := s.heap.size)
  generalize hAe : va_A [(mo, .inr (4, [.int th, .int mr, .ref nw, .ref kp, .int 0, .int (-1), .ref mk, .ref co, .int 0, .int 0, .ref se])), (nw, .inl (cN, 25240, .inl now0))] s.heap.size = A at hD ⊢
  have hA : ∀ q : Nat, s.heap.size ≤ q → A q := fun q h => by rw [← hAe]; exact Or.inr h
  obtain ⟨H, hH⟩ : ∃ H, H = s.heap := ⟨_, rfl⟩
  have hS : va_S A s.heap H [] := by rw [hH]; exact va_S.rf
  rw [← hH] at hP ⊢
  have hP : va_P (dC, dI) kCl [(mo, .inr (4, [.int th, .int mr, .ref nw, .ref kp, .int 0, .int (-1), .ref mk, .ref co, .int 0, .int 0, .ref se])), (nw, .inl (cN, 25240, .inl now0))] H := hP
  have hl := lv_entry ([.ref mo, .int dd, .int pp]) (n := 7) (Nat.le_of_ble_eq_true rfl)
  rw [lg_entry_eq]
  generalize (lg_sl ([.ref mo, .int dd, .int pp]) ++ List.replicate (7 - (lg_sl ([.ref mo, .int dd, .int pp])).length) Slot.unset).toArray = ls at hl ⊢
  have hl : lv_has ls 7 [(0, .ref mo), (1, .int dd), (2, .int pp)] := hl
  refine lv_aload_n (pc := 0) hx hb dM_checkIn_0 rfl (lv_at hl 0 rfl) ?_
  refine lv_iload_n (pc := 1) hx hb dM_checkIn_1 rfl (lv_at hl 1 rfl) ?_
  refine lv_iload_n (pc := 2) hx hb dM_checkIn_2 rfl (lv_at hl 2 rfl) ?_
  refine vp_callSi (pc := 3) (W.runV (As := [.int dd, .int pp]) (rest := []) ⟨hx, hb, hml, hown, hts⟩ (m_whyNot l dC dI mo nw kp mk co se th mr cN dd pp) (cwV 2 hts (gV wd_185 wd_186 wd_187 wd_157 wd_184) rfl rfl rfl (by decide +kernel) ⟨Nat.le_of_ble_eq_true rfl, Nat.le_of_ble_eq_true rfl⟩) ⟨pR_blind, va_recv (q := (RM, TM, 11)) (q0 := 0) (ci := 4) hK hP rfl rfl, pR_pre (hP.sub (ws' := [(mo, .inr (4, [.int th, .int mr, .ref nw, .ref kp, .int 0, .int (-1), .ref mk, .ref co, .int 0, .int 0, .ref se])), (nw, .inl (cN, 25240, .inl now0))]) [0, 1] rfl) (hK.sub (tys' := [(cN, .int)]) [0] rfl)⟩ rfl rfl hl.1 rfl (lv_room (Nat.le_of_ble_eq_true rfl)) dM_checkIn_3 ⟨Nat.le_of_ble_eq_true rfl, Nat.le_of_ble_eq_true rfl⟩) (fun r1 hr2 => ?_)
  obtain rfl : r1 = 1 := hr2
  refine lv_istore_n (pc := 6) hx hb dM_checkIn_6 rfl hl (by decide) rfl (fun ls hl => ?_)
  have hl : lv_has ls 7 [(3, .int 1), (0, .ref mo), (1, .int dd), (2, .int pp)] := hl
  refine lv_iconst (pc := 7) (v := 2) hx hb dM_checkIn_7 (by decide) ?_
  refine lv_istore (pc := 8) hx hb dM_checkIn_8 hl (by decide) rfl (fun ls hl => ?_)
  have hl : lv_has ls 7 [(4, .int 2), (3, .int 1), (0, .ref mo), (1, .int dd), (2, .int pp)] := hl
  refine lv_iload_n (pc := 10) hx hb dM_checkIn_10 rfl (lv_at hl 1 rfl) ?_
  refine lv_if_ne (pc := 11) (tgt := 83) hx hb dM_checkIn_11 rfl (fun h3 => ?_) (fun h3 => absurd h3 (by decide))
  refine lv_aload_n (pc := 83) hx hb dM_checkIn_83 rfl (lv_at hl 2 rfl) ?_
  refine lv_iload_n (pc := 84) hx hb dM_checkIn_84 rfl (lv_at hl 1 rfl) ?_
  refine lv_iload (pc := 85) hx hb dM_checkIn_85 (lv_at hl 0 rfl) ?_
  have hPc := hP.sub (ws' := [(mo, .inr (4, [.int th, .int mr, .ref nw, .ref kp, .int 0, .int (-1), .ref mk, .ref co, .int 0, .int 0, .ref se])), (nw, .inl (cN, 25240, .inl now0))]) [0, 1] rfl
  have hDc := hD.sub (ws' := [(mo, .inr (4, [.int th, .int mr, .ref nw, .ref kp, .int 0, .int (-1), .ref mk, .ref co, .int 0, .int 0, .ref se])), (nw, .inl (cN, 25240, .inl now0))]) [0, 1] (by decide) rfl
  have hKc := hK.sub (tys' := [(cN, .int)]) [0] rfl
  have hFc := va_free (wc := [(mo, .inr (4, [.int th, .int mr, .ref nw, .ref kp, .int 0, .int (-1), .ref mk, .ref co, .int 0, .int 0, .ref se])), (nw, .inl (cN, 25240, .inl now0))]) hD hS hA [0, 1] rfl
  refine va_calli (pc := 87) (va_runV (As := [.int 1, .int 2]) (rest := []) ⟨hx, hb, hml, hown, hts⟩ (m_may l dC dI H.size mo nw kp mk co se th mr cN 1 2 (by decide) (by decide)) (cwV 2 hts (gV wd_181 wd_182 wd_183 wd_157 wd_180) rfl rfl rfl (by decide +kernel) ⟨Nat.le_of_ble_eq_true rfl, Nat.le_of_ble_eq_true rfl⟩) ⟨pW_blind, va_recv (q := (RM, TM, 11)) (q0 := 0) (ci := 4) hK hP rfl rfl, pW_pre hPc hKc hDc⟩ rfl rfl hl.1 rfl (lv_room (Nat.le_of_ble_eq_true rfl)) dM_checkIn_87 ⟨Nat.le_of_ble_eq_true rfl, Nat.le_of_ble_eq_true rfl⟩) hS (fun q _ h => hFc q h) hFc (fun r4 u t H1 locs ht hvm hr5 hB hz1 hk1 hS => ?_)
  obtain ⟨hP1, hK1, hD1⟩ := hB
  rw [ht] at hP1
  have hK1 := va_K.moved hvm.symm hK1
  obtain ⟨hP, hD⟩ := va_join (wr := []) (w1 := [(mo, .inr (4, [.int 0, .int 1, .ref nw, .ref kp, .int 0, .int (-1), .ref mk, .ref co, .int 0, .int 0, .ref se])), (nw, .inl (cN, 25240, .inl now0))]) hP hD [0, 1] [] rfl rfl (by decide) (by decide) hk1 hFc hP1 hD1
  generalize H1 = H at hP hS ⊢
  have hP : va_P (dC, dI) kCl [(mo, .inr (4, [.int 0, .int 1, .ref nw, .ref kp, .int 0, .int (-1), .ref mk, .ref co, .int 0, .int 0, .ref se])), (nw, .inl (cN, 25240, .inl now0))] H := hP
  have hD : va_D A [(mo, .inr (4, [.int 0, .int 1, .ref nw, .ref kp, .int 0, .int (-1), .ref mk, .ref co, .int 0, .int 0, .ref se])), (nw, .inl (cN, 25240, .inl now0))] := hD
  refine W.widen (k := 0) (n := 0) (Nat.le_of_ble_eq_true rfl) (Nat.le_of_ble_eq_true rfl) ?_
  obtain rfl : r4 = 0 := hr5
  refine lv_if_ne (pc := 90) (tgt := 106) hx hb dM_checkIn_90 rfl (fun h7 => absurd h7 (by decide)) (fun h7 => ?_)
  refine lv_aload_n (pc := 93) hx hb dM_checkIn_93 rfl (lv_at hl 2 rfl) ?_
  refine va_get (D := (dC, dI)) (cl := kCl) (C := RM) (T := TM) (N := 11) (pc := 94) hx hb hts inM hown hK hP 0 rfl rfl 0 (by decide) (hts _ wd_152) (fun _ h9 => h9) rfl dM_checkIn_94 ?_
  refine lv_if_le (pc := 97) (tgt := 104) hx hb dM_checkIn_97 rfl (fun h8 => ?_) (fun h8 => absurd h8 (by decide))
  refine lv_iconst (pc := 104) (v := (-1)) hx hb dM_checkIn_104 (by decide) ?_
  have hP9 := hP.sub (ws' := [(mo, .inr (4, [.int 0, .int 1, .ref nw, .ref kp, .int 0, .int (-1), .ref mk, .ref co, .int 0, .int 0, .ref se]))]) [0] rfl
  have hD9 := hD.sub (ws' := [(mo, .inr (4, [.int 0, .int 1, .ref nw, .ref kp, .int 0, .int (-1), .ref mk, .ref co, .int 0, .int 0, .ref se]))]) [0] (by decide) rfl
  have hK9 := hK.sub (tys' := []) [] rfl
  exact W.iret (pc := 105) hx hb hr (fun t ht hW => ⟨⟨_, (), rfl, rfl, by rw [ht]; exact hP9, va_K.moved hW.alike hK9, hD9⟩, hS.F ht⟩) hS.2.2 dM_checkIn_105
set_option maxHeartbeats 4000000 in
set_option maxRecDepth 100000 in
theorem m_check (l : Launch) (dC : Nat → ClassId) (dI : Nat → Nat → Nat) (sz : Nat) (mo : Nat) (nw : Nat) (kp : Nat) (mk : Nat) (co : Nat) (se : Nat) (th : Int32) (mr : Int32) (cN : ClassId) (dd : Int32) (vv : Int32) (pp : Int32) : Met l yM_check (.code yM_check cM_check 5 (some .boolean) :: aw) ({ frames := 3, cells := 0, slots := 0, locals := 67 }) (pW (dC, dI) sz [(mo, .inr (4, [.int th, .int mr, .ref nw, .ref kp, .int 0, .int (-1), .ref mk, .ref co, .int 0, .int 0, .ref se])), (nw, .inl (cN, 25240, .inl now0))] [(cN, .int)] [.ref mo, .int dd, .int vv, .int pp]) (va_Qi (fun r (_ : Unit) => r = 0) (fun _ t => wW (dC, dI) (va_A [(mo, .inr (4, [.int th, .int mr, .ref nw, .ref kp, .int 0, .int (-1), .ref mk, .ref co, .int 0, .int 0, .ref se])), (nw, .inl (cN, 25240, .inl now0))] sz) [(mo, .inr (4, [.int 0, .int 1, .ref nw, .ref kp, .int 0, .int (-1), .ref mk, .ref co, .int 0, .int 0, .ref se]))] [] t) (va_A [(mo, .inr (4, [.int th, .int mr, .ref nw, .ref kp, .int 0, .int (-1), .ref mk, .ref co, .int 0, .int 0, .ref se])), (nw, .inl (cN, 25240, .inl now0))] sz)) 0 0 (va_A [(mo, .inr (4, [.int th, .int mr, .ref nw, .ref kp, .int 0, .int (-1), .ref mk, .ref co, .int 0, .int 0, .ref se])), (nw, .inl (cN, 25240, .inl now0))] sz) := by
  refine Met.ofW (cc := cM_check) (maxL := 5) (ret := (some .boolean)) (by decide) rfl ?_
  intro p e s m args below meth c s₁ B hml hv
  obtain ⟨rfl, hv⟩ := hv
  have hx := B.exec
  have hb := B.bytes
  have hr := B.returns
  have hts : ∀ w ∈ aw, w.before _ s = true := fun w h => atoms_spec (ws := (.code yM_check cM_check 5 (some .boolean) :: aw)) B.pre w (List.mem_cons_of_mem _ h)
  have hown : s.vm.findClass RM = some m.cls := findClass_of_methodNamed B.named
  have hlocks := B.notSynchronized
  obtain ⟨hsz, hP, hK, hD0⟩ := hv
  subst hsz
  have hD := hD0.self (sz := s.heap.size)
  generalize hAe : va_A [(mo, .inr (4, [.int th, .int mr, .ref nw, .ref kp, .int 0, .int (-1), .ref mk, .ref co, .int 0, .int 0, .ref se])), (nw, .inl (cN, 25240, .inl now0))] s.heap.size = A at hD ⊢
  have hA : ∀ q : Nat, s.heap.size ≤ q → A q := fun q h => by rw [← hAe]; exact Or.inr h
  obtain ⟨H, hH⟩ : ∃ H, H = s.heap := ⟨_, rfl⟩
  have hS : va_S A s.heap H [] := by rw [hH]; exact va_S.rf
  rw [← hH] at hP ⊢
  have hP : va_P (dC, dI) kCl [(mo, .inr (4, [.int th, .int mr, .ref nw, .ref kp, .int 0, .int (-1), .ref mk, .ref co, .int 0, .int 0, .ref se])), (nw, .inl (cN, 25240, .inl now0))] H := hP
  have hl := lv_entry ([.ref mo, .int dd, .int vv, .int pp]) (n := 5) (Nat.le_of_ble_eq_true rfl)
  rw [lg_entry_eq]
  generalize (lg_sl ([.ref mo, .int dd, .int vv, .int pp]) ++ List.replicate (5 - (lg_sl ([.ref mo, .int dd, .int vv, .int pp])).length) Slot.unset).toArray = ls at hl ⊢
  have hl : lv_has ls 5 [(0, .ref mo), (1, .int dd), (2, .int vv), (3, .int pp)] := hl
  refine lv_aload_n (pc := 0) hx hb dM_check_0 rfl (lv_at hl 0 rfl) ?_
  refine lv_iload_n (pc := 1) hx hb dM_check_1 rfl (lv_at hl 1 rfl) ?_
  refine lv_iload_n (pc := 2) hx hb dM_check_2 rfl (lv_at hl 2 rfl) ?_
  refine lv_iload_n (pc := 3) hx hb dM_check_3 rfl (lv_at hl 3 rfl) ?_
  refine lv_iconst (pc := 4) (v := 2) hx hb dM_check_4 (by decide) ?_
  refine vp_callSi (pc := 5) (W.runV (As := [.int dd, .int vv, .int pp, .int 2]) (rest := []) ⟨hx, hb, hml, hown, hts⟩ (m_whyNotRevision l dC dI mo nw kp mk co se th mr cN dd vv pp 2) (cwV 4 hts (gV wd_193 wd_194 wd_195 wd_157 wd_192) rfl rfl rfl (by decide +kernel) ⟨Nat.le_of_ble_eq_true rfl, Nat.le_of_ble_eq_true rfl⟩) ⟨pR_blind, va_recv (q := (RM, TM, 11)) (q0 := 0) (ci := 4) hK hP rfl rfl, pR_pre (hP.sub (ws' := [(mo, .inr (4, [.int th, .int mr, .ref nw, .ref kp, .int 0, .int (-1), .ref mk, .ref co, .int 0, .int 0, .ref se])), (nw, .inl (cN, 25240, .inl now0))]) [0, 1] rfl) (hK.sub (tys' := [(cN, .int)]) [0] rfl)⟩ rfl rfl hl.1 rfl (lv_room (Nat.le_of_ble_eq_true rfl)) dM_check_5 ⟨Nat.le_of_ble_eq_true rfl, Nat.le_of_ble_eq_true rfl⟩) (fun r1 hr2 => ?_)
  obtain rfl : r1 = 1 := hr2
  refine lv_istore (pc := 8) hx hb dM_check_8 hl (by decide) rfl (fun ls hl => ?_)
  have hl : lv_has ls 5 [(4, .int 1), (0, .ref mo), (1, .int dd), (2, .int vv), (3, .int pp)] := hl
  refine lv_aload_n (pc := 10) hx hb dM_check_10 rfl (lv_at hl 1 rfl) ?_
  refine lv_iload_n (pc := 11) hx hb dM_check_11 rfl (lv_at hl 2 rfl) ?_
  refine lv_iload_n (pc := 12) hx hb dM_check_12 rfl (lv_at hl 3 rfl) ?_
  refine vp_callSi (pc := 13) (W.runV (As := [.int dd, .int vv]) (rest := []) ⟨hx, hb, hml, hown, hts⟩ (m_isRevision l dC dI mo nw kp mk co se th mr cN dd vv) (cwV 2 hts (gV wd_173 wd_174 wd_175 wd_157 wd_172) rfl rfl rfl (by decide +kernel) ⟨Nat.le_of_ble_eq_true rfl, Nat.le_of_ble_eq_true rfl⟩) ⟨pR_blind, va_recv (q := (RM, TM, 11)) (q0 := 0) (ci := 4) hK hP rfl rfl, pR_pre (hP.sub (ws' := [(mo, .inr (4, [.int th, .int mr, .ref nw, .ref kp, .int 0, .int (-1), .ref mk, .ref co, .int 0, .int 0, .ref se])), (nw, .inl (cN, 25240, .inl now0))]) [0, 1] rfl) (hK.sub (tys' := [(cN, .int)]) [0] rfl)⟩ rfl rfl hl.1 rfl (lv_room (Nat.le_of_ble_eq_true rfl)) dM_check_13 ⟨Nat.le_of_ble_eq_true rfl, Nat.le_of_ble_eq_true rfl⟩) (fun r3 hr4 => ?_)
  obtain rfl : r3 = 0 := hr4
  refine lv_if_eq (pc := 16) (tgt := 90) hx hb dM_check_16 rfl (fun h5 => ?_) (fun h5 => absurd h5 (by decide))
  refine lv_aload_n (pc := 90) hx hb dM_check_90 rfl (lv_at hl 1 rfl) ?_
  refine lv_iload (pc := 91) hx hb dM_check_91 (lv_at hl 0 rfl) ?_
  refine lv_iconst (pc := 93) (v := 1) hx hb dM_check_93 (by decide) ?_
  have hPc := hP.sub (ws' := [(mo, .inr (4, [.int th, .int mr, .ref nw, .ref kp, .int 0, .int (-1), .ref mk, .ref co, .int 0, .int 0, .ref se])), (nw, .inl (cN, 25240, .inl now0))]) [0, 1] rfl
  have hDc := hD.sub (ws' := [(mo, .inr (4, [.int th, .int mr, .ref nw, .ref kp, .int 0, .int (-1), .ref mk, .ref co, .int 0, .int 0, .ref se])), (nw, .inl (cN, 25240, .inl now0))]) [0, 1] (by decide) rfl
  have hKc := hK.sub (tys' := [(cN, .int)]) [0] rfl
  have hFc := va_free (wc := [(mo, .inr (4, [.int th, .int mr, .ref nw, .ref kp, .int 0, .int (-1), .ref mk, .ref co, .int 0, .int 0, .ref se])), (nw, .inl (cN, 25240, .inl now0))]) hD hS hA [0, 1] rfl
  refine va_calli (pc := 94) (va_runV (As := [.int 1, .int 1]) (rest := []) ⟨hx, hb, hml, hown, hts⟩ (m_may l dC dI H.size mo nw kp mk co se th mr cN 1 1 (by decide) (by decide)) (cwV 2 hts (gV wd_181 wd_182 wd_183 wd_157 wd_180) rfl rfl rfl (by decide +kernel) ⟨Nat.le_of_ble_eq_true rfl, Nat.le_of_ble_eq_true rfl⟩) ⟨pW_blind, va_recv (q := (RM, TM, 11)) (q0 := 0) (ci := 4) hK hP rfl rfl, pW_pre hPc hKc hDc⟩ rfl rfl hl.1 rfl (lv_room (Nat.le_of_ble_eq_true rfl)) dM_check_94 ⟨Nat.le_of_ble_eq_true rfl, Nat.le_of_ble_eq_true rfl⟩) hS (fun q _ h => hFc q h) hFc (fun r6 u t H1 locs ht hvm hr7 hB hz1 hk1 hS => ?_)
  obtain ⟨hP1, hK1, hD1⟩ := hB
  rw [ht] at hP1
  have hK1 := va_K.moved hvm.symm hK1
  obtain ⟨hP, hD⟩ := va_join (wr := []) (w1 := [(mo, .inr (4, [.int 0, .int 1, .ref nw, .ref kp, .int 0, .int (-1), .ref mk, .ref co, .int 0, .int 0, .ref se])), (nw, .inl (cN, 25240, .inl now0))]) hP hD [0, 1] [] rfl rfl (by decide) (by decide) hk1 hFc hP1 hD1
  generalize H1 = H at hP hS ⊢
  have hP : va_P (dC, dI) kCl [(mo, .inr (4, [.int 0, .int 1, .ref nw, .ref kp, .int 0, .int (-1), .ref mk, .ref co, .int 0, .int 0, .ref se])), (nw, .inl (cN, 25240, .inl now0))] H := hP
  have hD : va_D A [(mo, .inr (4, [.int 0, .int 1, .ref nw, .ref kp, .int 0, .int (-1), .ref mk, .ref co, .int 0, .int 0, .ref se])), (nw, .inl (cN, 25240, .inl now0))] := hD
  refine W.widen (k := 0) (n := 0) (Nat.le_of_ble_eq_true rfl) (Nat.le_of_ble_eq_true rfl) ?_
  obtain rfl : r6 = 0 := hr7
  refine lv_if_ne (pc := 97) (tgt := 102) hx hb dM_check_97 rfl (fun h9 => absurd h9 (by decide)) (fun h9 => ?_)
  refine lv_iconst (pc := 100) (v := 0) hx hb dM_check_100 (by decide) ?_
  have hP9 := hP.sub (ws' := [(mo, .inr (4, [.int 0, .int 1, .ref nw, .ref kp, .int 0, .int (-1), .ref mk, .ref co, .int 0, .int 0, .ref se]))]) [0] rfl
  have hD9 := hD.sub (ws' := [(mo, .inr (4, [.int 0, .int 1, .ref nw, .ref kp, .int 0, .int (-1), .ref mk, .ref co, .int 0, .int 0, .ref se]))]) [0] (by decide) rfl
  have hK9 := hK.sub (tys' := []) [] rfl
  exact W.zret (pc := 101) hx hb hr rfl (fun t ht hW => ⟨⟨_, (), rfl, rfl, by rw [ht]; exact hP9, va_K.moved hW.alike hK9, hD9⟩, hS.F ht⟩) hS.2.2 dM_check_101
set_option maxHeartbeats 4000000 in
set_option maxRecDepth 100000 in
theorem m_release (l : Launch) (dC : Nat → ClassId) (dI : Nat → Nat → Nat) (sz : Nat) (mo : Nat) (nw : Nat) (kp : Nat) (mk : Nat) (co : Nat) (se : Nat) (th : Int32) (mr : Int32) (cN : ClassId) (dd : Int32) (vv : Int32) (pp : Int32) : Met l yM_release (.code yM_release cM_release 5 (some .boolean) :: aw) ({ frames := 3, cells := 0, slots := 0, locals := 67 }) (pW (dC, dI) sz [(mo, .inr (4, [.int th, .int mr, .ref nw, .ref kp, .int 0, .int (-1), .ref mk, .ref co, .int 0, .int 0, .ref se])), (nw, .inl (cN, 25240, .inl now0))] [(cN, .int)] [.ref mo, .int dd, .int vv, .int pp]) (va_Qi (fun r (_ : Unit) => r = 0) (fun _ t => wW (dC, dI) (va_A [(mo, .inr (4, [.int th, .int mr, .ref nw, .ref kp, .int 0, .int (-1), .ref mk, .ref co, .int 0, .int 0, .ref se])), (nw, .inl (cN, 25240, .inl now0))] sz) [(mo, .inr (4, [.int 0, .int 1, .ref nw, .ref kp, .int 0, .int (-1), .ref mk, .ref co, .int 0, .int 0, .ref se]))] [] t) (va_A [(mo, .inr (4, [.int th, .int mr, .ref nw, .ref kp, .int 0, .int (-1), .ref mk, .ref co, .int 0, .int 0, .ref se])), (nw, .inl (cN, 25240, .inl now0))] sz)) 0 0 (va_A [(mo, .inr (4, [.int th, .int mr, .ref nw, .ref kp, .int 0, .int (-1), .ref mk, .ref co, .int 0, .int 0, .ref se])), (nw, .inl (cN, 25240, .inl now0))] sz) := by
  refine Met.ofW (cc := cM_release) (maxL := 5) (ret := (some .boolean)) (by decide) rfl ?_
  intro p e s m args below meth c s₁ B hml hv
  obtain ⟨rfl, hv⟩ := hv
  have hx := B.exec
  have hb := B.bytes
  have hr := B.returns
  have hts : ∀ w ∈ aw, w.before _ s = true := fun w h => atoms_spec (ws := (.code yM_release cM_release 5 (some .boolean) :: aw)) B.pre w (List.mem_cons_of_mem _ h)
  have hown : s.vm.findClass RM = some m.cls := findClass_of_methodNamed B.named
  have hlocks := B.notSynchronized
  obtain ⟨hsz, hP, hK, hD0⟩ := hv
  subst hsz
  have hD := hD0.self (sz := s.heap.size)
  generalize hAe : va_A [(mo, .inr (4, [.int th, .int mr, .ref nw, .ref kp, .int 0, .int (-1), .ref mk, .ref co, .int 0, .int 0, .ref se])), (nw, .inl (cN, 25240, .inl now0))] s.heap.size = A at hD ⊢
  have hA : ∀ q : Nat, s.heap.size ≤ q → A q := fun q h => by rw [← hAe]; exact Or.inr h
  obtain ⟨H, hH⟩ : ∃ H, H = s.heap := ⟨_, rfl⟩
  have hS : va_S A s.heap H [] := by rw [hH]; exact va_S.rf
  rw [← hH] at hP ⊢
  have hP : va_P (dC, dI) kCl [(mo, .inr (4, [.int th, .int mr, .ref nw, .ref kp, .int 0, .int (-1), .ref mk, .ref co, .int 0, .int 0, .ref se])), (nw, .inl (cN, 25240, .inl now0))] H := hP
  have hl := lv_entry ([.ref mo, .int dd, .int vv, .int pp]) (n := 5) (Nat.le_of_ble_eq_true rfl)
  rw [lg_entry_eq]
  generalize (lg_sl ([.ref mo, .int dd, .int vv, .int pp]) ++ List.replicate (5 - (lg_sl ([.ref mo, .int dd, .int vv, .int pp])).length) Slot.unset).toArray = ls at hl ⊢
  have hl : lv_has ls 5 [(0, .ref mo), (1, .int dd), (2, .int vv), (3, .int pp)] := hl
  refine lv_aload_n (pc := 0) hx hb dM_release_0 rfl (lv_at hl 0 rfl) ?_
  refine lv_iload_n (pc := 1) hx hb dM_release_1 rfl (lv_at hl 1 rfl) ?_
  refine lv_iload_n (pc := 2) hx hb dM_release_2 rfl (lv_at hl 2 rfl) ?_
  refine lv_iload_n (pc := 3) hx hb dM_release_3 rfl (lv_at hl 3 rfl) ?_
  refine lv_iconst (pc := 4) (v := 4) hx hb dM_release_4 (by decide) ?_
  refine vp_callSi (pc := 5) (W.runV (As := [.int dd, .int vv, .int pp, .int 4]) (rest := []) ⟨hx, hb, hml, hown, hts⟩ (m_whyNotRevision l dC dI mo nw kp mk co se th mr cN dd vv pp 4) (cwV 4 hts (gV wd_193 wd_194 wd_195 wd_157 wd_192) rfl rfl rfl (by decide +kernel) ⟨Nat.le_of_ble_eq_true rfl, Nat.le_of_ble_eq_true rfl⟩) ⟨pR_blind, va_recv (q := (RM, TM, 11)) (q0 := 0) (ci := 4) hK hP rfl rfl, pR_pre (hP.sub (ws' := [(mo, .inr (4, [.int th, .int mr, .ref nw, .ref kp, .int 0, .int (-1), .ref mk, .ref co, .int 0, .int 0, .ref se])), (nw, .inl (cN, 25240, .inl now0))]) [0, 1] rfl) (hK.sub (tys' := [(cN, .int)]) [0] rfl)⟩ rfl rfl hl.1 rfl (lv_room (Nat.le_of_ble_eq_true rfl)) dM_release_5 ⟨Nat.le_of_ble_eq_true rfl, Nat.le_of_ble_eq_true rfl⟩) (fun r1 hr2 => ?_)
  obtain rfl : r1 = 1 := hr2
  refine lv_istore (pc := 8) hx hb dM_release_8 hl (by decide) rfl (fun ls hl => ?_)
  have hl : lv_has ls 5 [(4, .int 1), (0, .ref mo), (1, .int dd), (2, .int vv), (3, .int pp)] := hl
  refine lv_aload_n (pc := 10) hx hb dM_release_10 rfl (lv_at hl 1 rfl) ?_
  refine lv_iload_n (pc := 11) hx hb dM_release_11 rfl (lv_at hl 2 rfl) ?_
  refine lv_iload_n (pc := 12) hx hb dM_release_12 rfl (lv_at hl 3 rfl) ?_
  refine vp_callSi (pc := 13) (W.runV (As := [.int dd, .int vv]) (rest := []) ⟨hx, hb, hml, hown, hts⟩ (m_isRevision l dC dI mo nw kp mk co se th mr cN dd vv) (cwV 2 hts (gV wd_173 wd_174 wd_175 wd_157 wd_172) rfl rfl rfl (by decide +kernel) ⟨Nat.le_of_ble_eq_true rfl, Nat.le_of_ble_eq_true rfl⟩) ⟨pR_blind, va_recv (q := (RM, TM, 11)) (q0 := 0) (ci := 4) hK hP rfl rfl, pR_pre (hP.sub (ws' := [(mo, .inr (4, [.int th, .int mr, .ref nw, .ref kp, .int 0, .int (-1), .ref mk, .ref co, .int 0, .int 0, .ref se])), (nw, .inl (cN, 25240, .inl now0))]) [0, 1] rfl) (hK.sub (tys' := [(cN, .int)]) [0] rfl)⟩ rfl rfl hl.1 rfl (lv_room (Nat.le_of_ble_eq_true rfl)) dM_release_13 ⟨Nat.le_of_ble_eq_true rfl, Nat.le_of_ble_eq_true rfl⟩) (fun r3 hr4 => ?_)
  obtain rfl : r3 = 0 := hr4
  refine lv_if_eq (pc := 16) (tgt := 60) hx hb dM_release_16 rfl (fun h5 => ?_) (fun h5 => absurd h5 (by decide))
  refine lv_aload_n (pc := 60) hx hb dM_release_60 rfl (lv_at hl 1 rfl) ?_
  refine lv_iload (pc := 61) hx hb dM_release_61 (lv_at hl 0 rfl) ?_
  refine lv_iconst (pc := 63) (v := 1) hx hb dM_release_63 (by decide) ?_
  have hPc := hP.sub (ws' := [(mo, .inr (4, [.int th, .int mr, .ref nw, .ref kp, .int 0, .int (-1), .ref mk, .ref co, .int 0, .int 0, .ref se])), (nw, .inl (cN, 25240, .inl now0))]) [0, 1] rfl
  have hDc := hD.sub (ws' := [(mo, .inr (4, [.int th, .int mr, .ref nw, .ref kp, .int 0, .int (-1), .ref mk, .ref co, .int 0, .int 0, .ref se])), (nw, .inl (cN, 25240, .inl now0))]) [0, 1] (by decide) rfl
  have hKc := hK.sub (tys' := [(cN, .int)]) [0] rfl
  have hFc := va_free (wc := [(mo, .inr (4, [.int th, .int mr, .ref nw, .ref kp, .int 0, .int (-1), .ref mk, .ref co, .int 0, .int 0, .ref se])), (nw, .inl (cN, 25240, .inl now0))]) hD hS hA [0, 1] rfl
  refine va_calli (pc := 64) (va_runV (As := [.int 1, .int 1]) (rest := []) ⟨hx, hb, hml, hown, hts⟩ (m_may l dC dI H.size mo nw kp mk co se th mr cN 1 1 (by decide) (by decide)) (cwV 2 hts (gV wd_181 wd_182 wd_183 wd_157 wd_180) rfl rfl rfl (by decide +kernel) ⟨Nat.le_of_ble_eq_true rfl, Nat.le_of_ble_eq_true rfl⟩) ⟨pW_blind, va_recv (q := (RM, TM, 11)) (q0 := 0) (ci := 4) hK hP rfl rfl, pW_pre hPc hKc hDc⟩ rfl rfl hl.1 rfl (lv_room (Nat.le_of_ble_eq_true rfl)) dM_release_64 ⟨Nat.le_of_ble_eq_true rfl, Nat.le_of_ble_eq_true rfl⟩) hS (fun q _ h => hFc q h) hFc (fun r6 u t H1 locs ht hvm hr7 hB hz1 hk1 hS => ?_)
  obtain ⟨hP1, hK1, hD1⟩ := hB
  rw [ht] at hP1
  have hK1 := va_K.moved hvm.symm hK1
  obtain ⟨hP, hD⟩ := va_join (wr := []) (w1 := [(mo, .inr (4, [.int 0, .int 1, .ref nw, .ref kp, .int 0, .int (-1), .ref mk, .ref co, .int 0, .int 0, .ref se])), (nw, .inl (cN, 25240, .inl now0))]) hP hD [0, 1] [] rfl rfl (by decide) (by decide) hk1 hFc hP1 hD1
  generalize H1 = H at hP hS ⊢
  have hP : va_P (dC, dI) kCl [(mo, .inr (4, [.int 0, .int 1, .ref nw, .ref kp, .int 0, .int (-1), .ref mk, .ref co, .int 0, .int 0, .ref se])), (nw, .inl (cN, 25240, .inl now0))] H := hP
  have hD : va_D A [(mo, .inr (4, [.int 0, .int 1, .ref nw, .ref kp, .int 0, .int (-1), .ref mk, .ref co, .int 0, .int 0, .ref se])), (nw, .inl (cN, 25240, .inl now0))] := hD
  refine W.widen (k := 0) (n := 0) (Nat.le_of_ble_eq_true rfl) (Nat.le_of_ble_eq_true rfl) ?_
  obtain rfl : r6 = 0 := hr7
  refine lv_if_ne (pc := 67) (tgt := 72) hx hb dM_release_67 rfl (fun h9 => absurd h9 (by decide)) (fun h9 => ?_)
  refine lv_iconst (pc := 70) (v := 0) hx hb dM_release_70 (by decide) ?_
  have hP9 := hP.sub (ws' := [(mo, .inr (4, [.int 0, .int 1, .ref nw, .ref kp, .int 0, .int (-1), .ref mk, .ref co, .int 0, .int 0, .ref se]))]) [0] rfl
  have hD9 := hD.sub (ws' := [(mo, .inr (4, [.int 0, .int 1, .ref nw, .ref kp, .int 0, .int (-1), .ref mk, .ref co, .int 0, .int 0, .ref se]))]) [0] (by decide) rfl
  have hK9 := hK.sub (tys' := []) [] rfl
  exact W.zret (pc := 71) hx hb hr rfl (fun t ht hW => ⟨⟨_, (), rfl, rfl, by rw [ht]; exact hP9, va_K.moved hW.alike hK9, hD9⟩, hS.F ht⟩) hS.2.2 dM_release_71
set_option maxHeartbeats 4000000 in
set_option maxRecDepth 100000 in
theorem m_withdraw (l : Launch) (dC : Nat → ClassId) (dI : Nat → Nat → Nat) (sz : Nat) (mo : Nat) (nw : Nat) (kp : Nat) (mk : Nat) (co : Nat) (se : Nat) (th : Int32) (mr : Int32) (cN : ClassId) (dd : Int32) (vv : Int32) (pp : Int32) : Met l yM_withdraw (.code yM_withdraw cM_withdraw 5 (some .boolean) :: aw) ({ frames := 3, cells := 0, slots := 0, locals := 67 }) (pW (dC, dI) sz [(mo, .inr (4, [.int th, .int mr, .ref nw, .ref kp, .int 0, .int (-1), .ref mk, .ref co, .int 0, .int 0, .ref se])), (nw, .inl (cN, 25240, .inl now0))] [(cN, .int)] [.ref mo, .int dd, .int vv, .int pp]) (va_Qi (fun r (_ : Unit) => r = 0) (fun _ t => wW (dC, dI) (va_A [(mo, .inr (4, [.int th, .int mr, .ref nw, .ref kp, .int 0, .int (-1), .ref mk, .ref co, .int 0, .int 0, .ref se])), (nw, .inl (cN, 25240, .inl now0))] sz) [(mo, .inr (4, [.int 0, .int 1, .ref nw, .ref kp, .int 0, .int (-1), .ref mk, .ref co, .int 0, .int 0, .ref se]))] [] t) (va_A [(mo, .inr (4, [.int th, .int mr, .ref nw, .ref kp, .int 0, .int (-1), .ref mk, .ref co, .int 0, .int 0, .ref se])), (nw, .inl (cN, 25240, .inl now0))] sz)) 0 0 (va_A [(mo, .inr (4, [.int th, .int mr, .ref nw, .ref kp, .int 0, .int (-1), .ref mk, .ref co, .int 0, .int 0, .ref se])), (nw, .inl (cN, 25240, .inl now0))] sz) := by
  refine Met.ofW (cc := cM_withdraw) (maxL := 5) (ret := (some .boolean)) (by decide) rfl ?_
  intro p e s m args below meth c s₁ B hml hv
  obtain ⟨rfl, hv⟩ := hv
  have hx := B.exec
  have hb := B.bytes
  have hr := B.returns
  have hts : ∀ w ∈ aw, w.before _ s = true := fun w h => atoms_spec (ws := (.code yM_withdraw cM_withdraw 5 (some .boolean) :: aw)) B.pre w (List.mem_cons_of_mem _ h)
  have hown : s.vm.findClass RM = some m.cls := findClass_of_methodNamed B.named
  have hlocks := B.notSynchronized
  obtain ⟨hsz, hP, hK, hD0⟩ := hv
  subst hsz
  have hD := hD0.self (sz := s.heap.size)
  generalize hAe : va_A [(mo, .inr (4, [.int th, .int mr, .ref nw, .ref kp, .int 0, .int (-1), .ref mk, .ref co, .int 0, .int 0, .ref se])), (nw, .inl (cN, 25240, .inl now0))] s.heap.size = A at hD ⊢
  have hA : ∀ q : Nat, s.heap.size ≤ q → A q := fun q h => by rw [← hAe]; exact Or.inr h
  obtain ⟨H, hH⟩ : ∃ H, H = s.heap := ⟨_, rfl⟩
  have hS : va_S A s.heap H [] := by rw [hH]; exact va_S.rf
  rw [← hH] at hP ⊢
  have hP : va_P (dC, dI) kCl [(mo, .inr (4, [.int th, .int mr, .ref nw, .ref kp, .int 0, .int (-1), .ref mk, .ref co, .int 0, .int 0, .ref se])), (nw, .inl (cN, 25240, .inl now0))] H := hP
  have hl := lv_entry ([.ref mo, .int dd, .int vv, .int pp]) (n := 5) (Nat.le_of_ble_eq_true rfl)
  rw [lg_entry_eq]
  generalize (lg_sl ([.ref mo, .int dd, .int vv, .int pp]) ++ List.replicate (5 - (lg_sl ([.ref mo, .int dd, .int vv, .int pp])).length) Slot.unset).toArray = ls at hl ⊢
  have hl : lv_has ls 5 [(0, .ref mo), (1, .int dd), (2, .int vv), (3, .int pp)] := hl
  refine lv_aload_n (pc := 0) hx hb dM_withdraw_0 rfl (lv_at hl 0 rfl) ?_
  refine lv_iload_n (pc := 1) hx hb dM_withdraw_1 rfl (lv_at hl 1 rfl) ?_
  refine lv_iload_n (pc := 2) hx hb dM_withdraw_2 rfl (lv_at hl 2 rfl) ?_
  refine lv_iload_n (pc := 3) hx hb dM_withdraw_3 rfl (lv_at hl 3 rfl) ?_
  refine lv_iconst (pc := 4) (v := 4) hx hb dM_withdraw_4 (by decide) ?_
  refine vp_callSi (pc := 5) (W.runV (As := [.int dd, .int vv, .int pp, .int 4]) (rest := []) ⟨hx, hb, hml, hown, hts⟩ (m_whyNotRevision l dC dI mo nw kp mk co se th mr cN dd vv pp 4) (cwV 4 hts (gV wd_193 wd_194 wd_195 wd_157 wd_192) rfl rfl rfl (by decide +kernel) ⟨Nat.le_of_ble_eq_true rfl, Nat.le_of_ble_eq_true rfl⟩) ⟨pR_blind, va_recv (q := (RM, TM, 11)) (q0 := 0) (ci := 4) hK hP rfl rfl, pR_pre (hP.sub (ws' := [(mo, .inr (4, [.int th, .int mr, .ref nw, .ref kp, .int 0, .int (-1), .ref mk, .ref co, .int 0, .int 0, .ref se])), (nw, .inl (cN, 25240, .inl now0))]) [0, 1] rfl) (hK.sub (tys' := [(cN, .int)]) [0] rfl)⟩ rfl rfl hl.1 rfl (lv_room (Nat.le_of_ble_eq_true rfl)) dM_withdraw_5 ⟨Nat.le_of_ble_eq_true rfl, Nat.le_of_ble_eq_true rfl⟩) (fun r1 hr2 => ?_)
  obtain rfl : r1 = 1 := hr2
  refine lv_istore (pc := 8) hx hb dM_withdraw_8 hl (by decide) rfl (fun ls hl => ?_)
  have hl : lv_has ls 5 [(4, .int 1), (0, .ref mo), (1, .int dd), (2, .int vv), (3, .int pp)] := hl
  refine lv_aload_n (pc := 10) hx hb dM_withdraw_10 rfl (lv_at hl 1 rfl) ?_
  refine lv_iload_n (pc := 11) hx hb dM_withdraw_11 rfl (lv_at hl 2 rfl) ?_
  refine lv_iload_n (pc := 12) hx hb dM_withdraw_12 rfl (lv_at hl 3 rfl) ?_
  refine vp_callSi (pc := 13) (W.runV (As := [.int dd, .int vv]) (rest := []) ⟨hx, hb, hml, hown, hts⟩ (m_isRevision l dC dI mo nw kp mk co se th mr cN dd vv) (cwV 2 hts (gV wd_173 wd_174 wd_175 wd_157 wd_172) rfl rfl rfl (by decide +kernel) ⟨Nat.le_of_ble_eq_true rfl, Nat.le_of_ble_eq_true rfl⟩) ⟨pR_blind, va_recv (q := (RM, TM, 11)) (q0 := 0) (ci := 4) hK hP rfl rfl, pR_pre (hP.sub (ws' := [(mo, .inr (4, [.int th, .int mr, .ref nw, .ref kp, .int 0, .int (-1), .ref mk, .ref co, .int 0, .int 0, .ref se])), (nw, .inl (cN, 25240, .inl now0))]) [0, 1] rfl) (hK.sub (tys' := [(cN, .int)]) [0] rfl)⟩ rfl rfl hl.1 rfl (lv_room (Nat.le_of_ble_eq_true rfl)) dM_withdraw_13 ⟨Nat.le_of_ble_eq_true rfl, Nat.le_of_ble_eq_true rfl⟩) (fun r3 hr4 => ?_)
  obtain rfl : r3 = 0 := hr4
  refine lv_if_eq (pc := 16) (tgt := 56) hx hb dM_withdraw_16 rfl (fun h5 => ?_) (fun h5 => absurd h5 (by decide))
  refine lv_aload_n (pc := 56) hx hb dM_withdraw_56 rfl (lv_at hl 1 rfl) ?_
  refine lv_iload (pc := 57) hx hb dM_withdraw_57 (lv_at hl 0 rfl) ?_
  refine lv_iconst (pc := 59) (v := 1) hx hb dM_withdraw_59 (by decide) ?_
  have hPc := hP.sub (ws' := [(mo, .inr (4, [.int th, .int mr, .ref nw, .ref kp, .int 0, .int (-1), .ref mk, .ref co, .int 0, .int 0, .ref se])), (nw, .inl (cN, 25240, .inl now0))]) [0, 1] rfl
  have hDc := hD.sub (ws' := [(mo, .inr (4, [.int th, .int mr, .ref nw, .ref kp, .int 0, .int (-1), .ref mk, .ref co, .int 0, .int 0, .ref se])), (nw, .inl (cN, 25240, .inl now0))]) [0, 1] (by decide) rfl
  have hKc := hK.sub (tys' := [(cN, .int)]) [0] rfl
  have hFc := va_free (wc := [(mo, .inr (4, [.int th, .int mr, .ref nw, .ref kp, .int 0, .int (-1), .ref mk, .ref co, .int 0, .int 0, .ref se])), (nw, .inl (cN, 25240, .inl now0))]) hD hS hA [0, 1] rfl
  refine va_calli (pc := 60) (va_runV (As := [.int 1, .int 1]) (rest := []) ⟨hx, hb, hml, hown, hts⟩ (m_may l dC dI H.size mo nw kp mk co se th mr cN 1 1 (by decide) (by decide)) (cwV 2 hts (gV wd_181 wd_182 wd_183 wd_157 wd_180) rfl rfl rfl (by decide +kernel) ⟨Nat.le_of_ble_eq_true rfl, Nat.le_of_ble_eq_true rfl⟩) ⟨pW_blind, va_recv (q := (RM, TM, 11)) (q0 := 0) (ci := 4) hK hP rfl rfl, pW_pre hPc hKc hDc⟩ rfl rfl hl.1 rfl (lv_room (Nat.le_of_ble_eq_true rfl)) dM_withdraw_60 ⟨Nat.le_of_ble_eq_true rfl, Nat.le_of_ble_eq_true rfl⟩) hS (fun q _ h => hFc q h) hFc (fun r6 u t H1 locs ht hvm hr7 hB hz1 hk1 hS => ?_)
  obtain ⟨hP1, hK1, hD1⟩ := hB
  rw [ht] at hP1
  have hK1 := va_K.moved hvm.symm hK1
  obtain ⟨hP, hD⟩ := va_join (wr := []) (w1 := [(mo, .inr (4, [.int 0, .int 1, .ref nw, .ref kp, .int 0, .int (-1), .ref mk, .ref co, .int 0, .int 0, .ref se])), (nw, .inl (cN, 25240, .inl now0))]) hP hD [0, 1] [] rfl rfl (by decide) (by decide) hk1 hFc hP1 hD1
  generalize H1 = H at hP hS ⊢
  have hP : va_P (dC, dI) kCl [(mo, .inr (4, [.int 0, .int 1, .ref nw, .ref kp, .int 0, .int (-1), .ref mk, .ref co, .int 0, .int 0, .ref se])), (nw, .inl (cN, 25240, .inl now0))] H := hP
  have hD : va_D A [(mo, .inr (4, [.int 0, .int 1, .ref nw, .ref kp, .int 0, .int (-1), .ref mk, .ref co, .int 0, .int 0, .ref se])), (nw, .inl (cN, 25240, .inl now0))] := hD
  refine W.widen (k := 0) (n := 0) (Nat.le_of_ble_eq_true rfl) (Nat.le_of_ble_eq_true rfl) ?_
  obtain rfl : r6 = 0 := hr7
  refine lv_if_ne (pc := 63) (tgt := 68) hx hb dM_withdraw_63 rfl (fun h9 => absurd h9 (by decide)) (fun h9 => ?_)
  refine lv_iconst (pc := 66) (v := 0) hx hb dM_withdraw_66 (by decide) ?_
  have hP9 := hP.sub (ws' := [(mo, .inr (4, [.int 0, .int 1, .ref nw, .ref kp, .int 0, .int (-1), .ref mk, .ref co, .int 0, .int 0, .ref se]))]) [0] rfl
  have hD9 := hD.sub (ws' := [(mo, .inr (4, [.int 0, .int 1, .ref nw, .ref kp, .int 0, .int (-1), .ref mk, .ref co, .int 0, .int 0, .ref se]))]) [0] (by decide) rfl
  have hK9 := hK.sub (tys' := []) [] rfl
  exact W.zret (pc := 67) hx hb hr rfl (fun t ht hW => ⟨⟨_, (), rfl, rfl, by rw [ht]; exact hP9, va_K.moved hW.alike hK9, hD9⟩, hS.F ht⟩) hS.2.2 dM_withdraw_67
set_option maxHeartbeats 4000000 in
set_option maxRecDepth 100000 in
theorem m_why (l : Launch) (dC : Nat → ClassId) (dI : Nat → Nat → Nat) (sz : Nat) (mo : Nat) (nw : Nat) (kp : Nat) (mk : Nat) (co : Nat) (se : Nat) (th : Int32) (mr : Int32) (cN : ClassId) : Met l yM_why (.code yM_why cM_why 1 (some .int) :: aw) ({ frames := 0, cells := 0, slots := 0, locals := 0 }) (pW (dC, dI) sz [(mo, .inr (4, [.int th, .int mr, .ref nw, .ref kp, .int 0, .int (-1), .ref mk, .ref co, .int 0, .int 0, .ref se])), (nw, .inl (cN, 25240, .inl now0))] [(cN, .int)] [.ref mo]) (va_Qi (fun r (_ : Unit) => r = mr) (fun _ t => wW (dC, dI) (va_A [(mo, .inr (4, [.int th, .int mr, .ref nw, .ref kp, .int 0, .int (-1), .ref mk, .ref co, .int 0, .int 0, .ref se])), (nw, .inl (cN, 25240, .inl now0))] sz) [(mo, .inr (4, [.int 0, .int mr, .ref nw, .ref kp, .int 0, .int (-1), .ref mk, .ref co, .int 0, .int 0, .ref se]))] [] t) (va_A [(mo, .inr (4, [.int th, .int mr, .ref nw, .ref kp, .int 0, .int (-1), .ref mk, .ref co, .int 0, .int 0, .ref se])), (nw, .inl (cN, 25240, .inl now0))] sz)) 0 0 (va_A [(mo, .inr (4, [.int th, .int mr, .ref nw, .ref kp, .int 0, .int (-1), .ref mk, .ref co, .int 0, .int 0, .ref se])), (nw, .inl (cN, 25240, .inl now0))] sz) := by
  refine Met.ofW (cc := cM_why) (maxL := 1) (ret := (some .int)) (by decide) rfl ?_
  intro p e s m args below meth c s₁ B hml hv
  obtain ⟨rfl, hv⟩ := hv
  have hx := B.exec
  have hb := B.bytes
  have hr := B.returns
  have hts : ∀ w ∈ aw, w.before _ s = true := fun w h => atoms_spec (ws := (.code yM_why cM_why 1 (some .int) :: aw)) B.pre w (List.mem_cons_of_mem _ h)
  have hown : s.vm.findClass RM = some m.cls := findClass_of_methodNamed B.named
  have hlocks := B.notSynchronized
  obtain ⟨hsz, hP, hK, hD0⟩ := hv
  subst hsz
  have hD := hD0.self (sz := s.heap.size)
  generalize hAe : va_A [(mo, .inr (4, [.int th, .int mr, .ref nw, .ref kp, .int 0, .int (-1), .ref mk, .ref co, .int 0, .int 0, .ref se])), (nw, .inl (cN, 25240, .inl now0))] s.heap.size = A at hD ⊢
  have hA : ∀ q : Nat, s.heap.size ≤ q → A q := fun q h => by rw [← hAe]; exact Or.inr h
  obtain ⟨H, hH⟩ : ∃ H, H = s.heap := ⟨_, rfl⟩
  have hS : va_S A s.heap H [] := by rw [hH]; exact va_S.rf
  rw [← hH] at hP ⊢
  have hP : va_P (dC, dI) kCl [(mo, .inr (4, [.int th, .int mr, .ref nw, .ref kp, .int 0, .int (-1), .ref mk, .ref co, .int 0, .int 0, .ref se])), (nw, .inl (cN, 25240, .inl now0))] H := hP
  have hl := lv_entry ([.ref mo]) (n := 1) (Nat.le_of_ble_eq_true rfl)
  rw [lg_entry_eq]
  generalize (lg_sl ([.ref mo]) ++ List.replicate (1 - (lg_sl ([.ref mo])).length) Slot.unset).toArray = ls at hl ⊢
  have hl : lv_has ls 1 [(0, .ref mo)] := hl
  refine lv_aload_n (pc := 0) hx hb dM_why_0 rfl (lv_at hl 0 rfl) ?_
  refine lv_iconst (pc := 1) (v := 0) hx hb dM_why_1 (by decide) ?_
  refine va_put (D := (dC, dI)) (cl := kCl) (ci := 4) (v := .int 0) (ty := .int) (C := RM) (T := TM) (N := 11) (pc := 2) hx hb hts inM tyM tyM_ok nmM hown hK hP hD hS 0 rfl rfl 0 (by decide) (hts _ wd_152) (fun _ h9 => h9) rfl (by decide +kernel) rfl rfl (Nat.le_of_ble_eq_true rfl) dM_why_2 (fun H locs hP hD hS => ?_)
  have hP : va_P (dC, dI) kCl [(mo, .inr (4, [.int 0, .int mr, .ref nw, .ref kp, .int 0, .int (-1), .ref mk, .ref co, .int 0, .int 0, .ref se])), (nw, .inl (cN, 25240, .inl now0))] H := hP
  have hD : va_D A [(mo, .inr (4, [.int 0, .int mr, .ref nw, .ref kp, .int 0, .int (-1), .ref mk, .ref co, .int 0, .int 0, .ref se])), (nw, .inl (cN, 25240, .inl now0))] := hD
  refine lv_aload_n (pc := 5) hx hb dM_why_5 rfl (lv_at hl 0 rfl) ?_
  refine va_get (D := (dC, dI)) (cl := kCl) (C := RM) (T := TM) (N := 11) (pc := 6) hx hb hts inM hown hK hP 0 rfl rfl 1 (by decide) (hts _ wd_164) (fun _ h9 => h9) rfl dM_why_6 ?_
  have hP9 := hP.sub (ws' := [(mo, .inr (4, [.int 0, .int mr, .ref nw, .ref kp, .int 0, .int (-1), .ref mk, .ref co, .int 0, .int 0, .ref se]))]) [0] rfl
  have hD9 := hD.sub (ws' := [(mo, .inr (4, [.int 0, .int mr, .ref nw, .ref kp, .int 0, .int (-1), .ref mk, .ref co, .int 0, .int 0, .ref se]))]) [0] (by decide) rfl
  have hK9 := hK.sub (tys' := []) [] rfl
  exact W.iret (pc := 9) hx hb hr (fun t ht hW => ⟨⟨_, (), rfl, rfl, by rw [ht]; exact hP9, va_K.moved hW.alike hK9, hD9⟩, hS.F ht⟩) hS.2.2 dM_why_9
set_option maxHeartbeats 4000000 in
set_option maxRecDepth 100000 in
theorem m_look (l : Launch) (dC : Nat → ClassId) (dI : Nat → Nat → Nat) (sz : Nat) (mo : Nat) (nw : Nat) (kp : Nat) (mk : Nat) (co : Nat) (se : Nat) (th : Int32) (mr : Int32) (cN : ClassId) (dd : Int32) (vv : Int32) (ww : Int32) : Met l yM_look (.code yM_look cM_look 6 (some .int) :: aw) ({ frames := 2, cells := 0, slots := 0, locals := 43 }) (pW (dC, dI) sz [(mo, .inr (4, [.int th, .int mr, .ref nw, .ref kp, .int 0, .int (-1), .ref mk, .ref co, .int 0, .int 0, .ref se])), (nw, .inl (cN, 25240, .inl now0))] [(cN, .int)] [.ref mo, .int dd, .int vv, .int ww]) (va_Qi (fun r (_ : Unit) => r = 0) (fun _ t => wW (dC, dI) (va_A [(mo, .inr (4, [.int th, .int mr, .ref nw, .ref kp, .int 0, .int (-1), .ref mk, .ref co, .int 0, .int 0, .ref se])), (nw, .inl (cN, 25240, .inl now0))] sz) [(mo, .inr (4, [.int 1, .int mr, .ref nw, .ref kp, .int 0, .int (-1), .ref mk, .ref co, .int 0, .int 0, .ref se]))] [] t) (va_A [(mo, .inr (4, [.int th, .int mr, .ref nw, .ref kp, .int 0, .int (-1), .ref mk, .ref co, .int 0, .int 0, .ref se])), (nw, .inl (cN, 25240, .inl now0))] sz)) 0 0 (va_A [(mo, .inr (4, [.int th, .int mr, .ref nw, .ref kp, .int 0, .int (-1), .ref mk, .ref co, .int 0, .int 0, .ref se])), (nw, .inl (cN, 25240, .inl now0))] sz) := by
  refine Met.ofW (cc := cM_look) (maxL := 6) (ret := (some .int)) (by decide) rfl ?_
  intro p e s m args below meth c s₁ B hml hv
  obtain ⟨rfl, hv⟩ := hv
  have hx := B.exec
  have hb := B.bytes
  have hr := B.returns
  have hts : ∀ w ∈ aw, w.before _ s = true := fun w h => atoms_spec (ws := (.code yM_look cM_look 6 (some .int) :: aw)) B.pre w (List.mem_cons_of_mem _ h)
  have hown : s.vm.findClass RM = some m.cls := findClass_of_methodNamed B.named
  have hlocks := B.notSynchronized
  obtain ⟨hsz, hP, hK, hD0⟩ := hv
  subst hsz
  have hD := hD0.self (sz := s.heap.size)
  generalize hAe : va_A [(mo, .inr (4, [.int th, .int mr, .ref nw, .ref kp, .int 0, .int (-1), .ref mk, .ref co, .int 0, .int 0, .ref se])), (nw, .inl (cN, 25240, .inl now0))] s.heap.size = A at hD ⊢
  have hA : ∀ q : Nat, s.heap.size ≤ q → A q := fun q h => by rw [← hAe]; exact Or.inr h
  obtain ⟨H, hH⟩ : ∃ H, H = s.heap := ⟨_, rfl⟩
  have hS : va_S A s.heap H [] := by rw [hH]; exact va_S.rf
  rw [← hH] at hP ⊢
  have hP : va_P (dC, dI) kCl [(mo, .inr (4, [.int th, .int mr, .ref nw, .ref kp, .int 0, .int (-1), .ref mk, .ref co, .int 0, .int 0, .ref se])), (nw, .inl (cN, 25240, .inl now0))] H := hP
  have hl := lv_entry ([.ref mo, .int dd, .int vv, .int ww]) (n := 6) (Nat.le_of_ble_eq_true rfl)
  rw [lg_entry_eq]
  generalize (lg_sl ([.ref mo, .int dd, .int vv, .int ww]) ++ List.replicate (6 - (lg_sl ([.ref mo, .int dd, .int vv, .int ww])).length) Slot.unset).toArray = ls at hl ⊢
  have hl : lv_has ls 6 [(0, .ref mo), (1, .int dd), (2, .int vv), (3, .int ww)] := hl
  refine lv_aload_n (pc := 0) hx hb dM_look_0 rfl (lv_at hl 0 rfl) ?_
  refine lv_iload_n (pc := 1) hx hb dM_look_1 rfl (lv_at hl 1 rfl) ?_
  refine lv_iload_n (pc := 2) hx hb dM_look_2 rfl (lv_at hl 2 rfl) ?_
  refine vp_callSi (pc := 3) (W.runV (As := [.int dd, .int vv]) (rest := []) ⟨hx, hb, hml, hown, hts⟩ (m_isRevision l dC dI mo nw kp mk co se th mr cN dd vv) (cwV 2 hts (gV wd_173 wd_174 wd_175 wd_157 wd_172) rfl rfl rfl (by decide +kernel) ⟨Nat.le_of_ble_eq_true rfl, Nat.le_of_ble_eq_true rfl⟩) ⟨pR_blind, va_recv (q := (RM, TM, 11)) (q0 := 0) (ci := 4) hK hP rfl rfl, pR_pre (hP.sub (ws' := [(mo, .inr (4, [.int th, .int mr, .ref nw, .ref kp, .int 0, .int (-1), .ref mk, .ref co, .int 0, .int 0, .ref se])), (nw, .inl (cN, 25240, .inl now0))]) [0, 1] rfl) (hK.sub (tys' := [(cN, .int)]) [0] rfl)⟩ rfl rfl hl.1 rfl (lv_room (Nat.le_of_ble_eq_true rfl)) dM_look_3 ⟨Nat.le_of_ble_eq_true rfl, Nat.le_of_ble_eq_true rfl⟩) (fun r1 hr2 => ?_)
  obtain rfl : r1 = 0 := hr2
  refine lv_istore (pc := 6) hx hb dM_look_6 hl (by decide) rfl (fun ls hl => ?_)
  have hl : lv_has ls 6 [(4, .int 0), (0, .ref mo), (1, .int dd), (2, .int vv), (3, .int ww)] := hl
  refine lv_iload (pc := 8) hx hb dM_look_8 (lv_at hl 0 rfl) ?_
  refine lv_if_eq (pc := 10) (tgt := 22) hx hb dM_look_10 rfl (fun h3 => ?_) (fun h3 => absurd h3 (by decide))
  refine lv_sipush (pc := 22) (v := 1940) hx hb dM_look_22 (by decide) ?_
  refine lv_istore (pc := 25) hx hb dM_look_25 hl (by decide) rfl (fun ls hl => ?_)
  have hl : lv_has ls 6 [(5, .int 1940), (4, .int 0), (0, .ref mo), (1, .int dd), (2, .int vv), (3, .int ww)] := hl
  refine lv_aload_n (pc := 27) hx hb dM_look_27 rfl (lv_at hl 2 rfl) ?_
  refine lv_iload (pc := 28) hx hb dM_look_28 (lv_at hl 1 rfl) ?_
  refine lv_if_eq (pc := 30) (tgt := 68) hx hb dM_look_30 rfl (fun h4 => ?_) (fun h4 => absurd h4 (by decide))
  refine lv_iconst (pc := 68) (v := 1) hx hb dM_look_68 (by decide) ?_
  refine va_put (D := (dC, dI)) (cl := kCl) (ci := 4) (v := .int 1) (ty := .int) (C := RM) (T := TM) (N := 11) (pc := 69) hx hb hts inM tyM tyM_ok nmM hown hK hP hD hS 0 rfl rfl 0 (by decide) (hts _ wd_152) (fun _ h9 => h9) rfl (by decide +kernel) rfl rfl (Nat.le_of_ble_eq_true rfl) dM_look_69 (fun H locs hP hD hS => ?_)
  have hP : va_P (dC, dI) kCl [(mo, .inr (4, [.int 1, .int mr, .ref nw, .ref kp, .int 0, .int (-1), .ref mk, .ref co, .int 0, .int 0, .ref se])), (nw, .inl (cN, 25240, .inl now0))] H := hP
  have hD : va_D A [(mo, .inr (4, [.int 1, .int mr, .ref nw, .ref kp, .int 0, .int (-1), .ref mk, .ref co, .int 0, .int 0, .ref se])), (nw, .inl (cN, 25240, .inl now0))] := hD
  refine lv_aload_n (pc := 72) hx hb dM_look_72 rfl (lv_at hl 2 rfl) ?_
  refine va_get (D := (dC, dI)) (cl := kCl) (C := RM) (T := TM) (N := 11) (pc := 73) hx hb hts inM hown hK hP 0 rfl rfl 0 (by decide) (hts _ wd_152) (fun _ h9 => h9) rfl dM_look_73 ?_
  refine lv_if_le (pc := 76) (tgt := 81) hx hb dM_look_76 rfl (fun h5 => absurd h5 (by decide)) (fun h5 => ?_)
  refine lv_iconst (pc := 79) (v := 0) hx hb dM_look_79 (by decide) ?_
  have hP9 := hP.sub (ws' := [(mo, .inr (4, [.int 1, .int mr, .ref nw, .ref kp, .int 0, .int (-1), .ref mk, .ref co, .int 0, .int 0, .ref se]))]) [0] rfl
  have hD9 := hD.sub (ws' := [(mo, .inr (4, [.int 1, .int mr, .ref nw, .ref kp, .int 0, .int (-1), .ref mk, .ref co, .int 0, .int 0, .ref se]))]) [0] (by decide) rfl
  have hK9 := hK.sub (tys' := []) [] rfl
  exact W.iret (pc := 80) hx hb hr (fun t ht hW => ⟨⟨_, (), rfl, rfl, by rw [ht]; exact hP9, va_K.moved hW.alike hK9, hD9⟩, hS.F ht⟩) hS.2.2 dM_look_80
set_option maxHeartbeats 4000000 in
set_option maxRecDepth 100000 in
theorem m_reference (l : Launch) (dC : Nat → ClassId) (dI : Nat → Nat → Nat) (sz : Nat) (mo : Nat) (nw : Nat) (kp : Nat) (mk : Nat) (co : Nat) (se : Nat) (th : Int32) (mr : Int32) (cN : ClassId) (dd : Int32) (vv : Int32) (kk : Int32) (ww : Int32) : Met l yM_reference (.code yM_reference cM_reference 7 (some .int) :: aw) ({ frames := 2, cells := 0, slots := 0, locals := 43 }) (pW (dC, dI) sz [(mo, .inr (4, [.int th, .int mr, .ref nw, .ref kp, .int 0, .int (-1), .ref mk, .ref co, .int 0, .int 0, .ref se])), (nw, .inl (cN, 25240, .inl now0))] [(cN, .int)] [.ref mo, .int dd, .int vv, .int kk, .int ww]) (va_Qi (fun r (_ : Unit) => r = 0) (fun _ t => wW (dC, dI) (va_A [(mo, .inr (4, [.int th, .int mr, .ref nw, .ref kp, .int 0, .int (-1), .ref mk, .ref co, .int 0, .int 0, .ref se])), (nw, .inl (cN, 25240, .inl now0))] sz) [(mo, .inr (4, [.int 1, .int mr, .ref nw, .ref kp, .int 0, .int (-1), .ref mk, .ref co, .int 0, .int 0, .ref se]))] [] t) (va_A [(mo, .inr (4, [.int th, .int mr, .ref nw, .ref kp, .int 0, .int (-1), .ref mk, .ref co, .int 0, .int 0, .ref se])), (nw, .inl (cN, 25240, .inl now0))] sz)) 0 0 (va_A [(mo, .inr (4, [.int th, .int mr, .ref nw, .ref kp, .int 0, .int (-1), .ref mk, .ref co, .int 0, .int 0, .ref se])), (nw, .inl (cN, 25240, .inl now0))] sz) := by
  refine Met.ofW (cc := cM_reference) (maxL := 7) (ret := (some .int)) (by decide) rfl ?_
  intro p e s m args below meth c s₁ B hml hv
  obtain ⟨rfl, hv⟩ := hv
  have hx := B.exec
  have hb := B.bytes
  have hr := B.returns
  have hts : ∀ w ∈ aw, w.before _ s = true := fun w h => atoms_spec (ws := (.code yM_reference cM_reference 7 (some .int) :: aw)) B.pre w (List.mem_cons_of_mem _ h)
  have hown : s.vm.findClass RM = some m.cls := findClass_of_methodNamed B.named
  have hlocks := B.notSynchronized
  obtain ⟨hsz, hP, hK, hD0⟩ := hv
  subst hsz
  have hD := hD0.self (sz := s.heap.size)
  generalize hAe : va_A [(mo, .inr (4, [.int th, .int mr, .ref nw, .ref kp, .int 0, .int (-1), .ref mk, .ref co, .int 0, .int 0, .ref se])), (nw, .inl (cN, 25240, .inl now0))] s.heap.size = A at hD ⊢
  have hA : ∀ q : Nat, s.heap.size ≤ q → A q := fun q h => by rw [← hAe]; exact Or.inr h
  obtain ⟨H, hH⟩ : ∃ H, H = s.heap := ⟨_, rfl⟩
  have hS : va_S A s.heap H [] := by rw [hH]; exact va_S.rf
  rw [← hH] at hP ⊢
  have hP : va_P (dC, dI) kCl [(mo, .inr (4, [.int th, .int mr, .ref nw, .ref kp, .int 0, .int (-1), .ref mk, .ref co, .int 0, .int 0, .ref se])), (nw, .inl (cN, 25240, .inl now0))] H := hP
  have hl := lv_entry ([.ref mo, .int dd, .int vv, .int kk, .int ww]) (n := 7) (Nat.le_of_ble_eq_true rfl)
  rw [lg_entry_eq]
  generalize (lg_sl ([.ref mo, .int dd, .int vv, .int kk, .int ww]) ++ List.replicate (7 - (lg_sl ([.ref mo, .int dd, .int vv, .int kk, .int ww])).length) Slot.unset).toArray = ls at hl ⊢
  have hl : lv_has ls 7 [(0, .ref mo), (1, .int dd), (2, .int vv), (3, .int kk), (4, .int ww)] := hl
  refine lv_aload_n (pc := 0) hx hb dM_reference_0 rfl (lv_at hl 0 rfl) ?_
  refine lv_iload_n (pc := 1) hx hb dM_reference_1 rfl (lv_at hl 1 rfl) ?_
  refine lv_iload_n (pc := 2) hx hb dM_reference_2 rfl (lv_at hl 2 rfl) ?_
  refine vp_callSi (pc := 3) (W.runV (As := [.int dd, .int vv]) (rest := []) ⟨hx, hb, hml, hown, hts⟩ (m_isRevision l dC dI mo nw kp mk co se th mr cN dd vv) (cwV 2 hts (gV wd_173 wd_174 wd_175 wd_157 wd_172) rfl rfl rfl (by decide +kernel) ⟨Nat.le_of_ble_eq_true rfl, Nat.le_of_ble_eq_true rfl⟩) ⟨pR_blind, va_recv (q := (RM, TM, 11)) (q0 := 0) (ci := 4) hK hP rfl rfl, pR_pre (hP.sub (ws' := [(mo, .inr (4, [.int th, .int mr, .ref nw, .ref kp, .int 0, .int (-1), .ref mk, .ref co, .int 0, .int 0, .ref se])), (nw, .inl (cN, 25240, .inl now0))]) [0, 1] rfl) (hK.sub (tys' := [(cN, .int)]) [0] rfl)⟩ rfl rfl hl.1 rfl (lv_room (Nat.le_of_ble_eq_true rfl)) dM_reference_3 ⟨Nat.le_of_ble_eq_true rfl, Nat.le_of_ble_eq_true rfl⟩) (fun r1 hr2 => ?_)
  obtain rfl : r1 = 0 := hr2
  refine lv_istore (pc := 6) hx hb dM_reference_6 hl (by decide) rfl (fun ls hl => ?_)
  have hl : lv_has ls 7 [(5, .int 0), (0, .ref mo), (1, .int dd), (2, .int vv), (3, .int kk), (4, .int ww)] := hl
  refine lv_iload (pc := 8) hx hb dM_reference_8 (lv_at hl 0 rfl) ?_
  refine lv_if_eq (pc := 10) (tgt := 22) hx hb dM_reference_10 rfl (fun h3 => ?_) (fun h3 => absurd h3 (by decide))
  refine lv_sipush (pc := 22) (v := 1940) hx hb dM_reference_22 (by decide) ?_
  refine lv_istore (pc := 25) hx hb dM_reference_25 hl (by decide) rfl (fun ls hl => ?_)
  have hl : lv_has ls 7 [(6, .int 1940), (5, .int 0), (0, .ref mo), (1, .int dd), (2, .int vv), (3, .int kk), (4, .int ww)] := hl
  refine lv_aload_n (pc := 27) hx hb dM_reference_27 rfl (lv_at hl 2 rfl) ?_
  refine lv_iload (pc := 28) hx hb dM_reference_28 (lv_at hl 1 rfl) ?_
  refine lv_if_eq (pc := 30) (tgt := 65) hx hb dM_reference_30 rfl (fun h4 => ?_) (fun h4 => absurd h4 (by decide))
  refine lv_iconst (pc := 65) (v := 1) hx hb dM_reference_65 (by decide) ?_
  refine va_put (D := (dC, dI)) (cl := kCl) (ci := 4) (v := .int 1) (ty := .int) (C := RM) (T := TM) (N := 11) (pc := 66) hx hb hts inM tyM tyM_ok nmM hown hK hP hD hS 0 rfl rfl 0 (by decide) (hts _ wd_152) (fun _ h9 => h9) rfl (by decide +kernel) rfl rfl (Nat.le_of_ble_eq_true rfl) dM_reference_66 (fun H locs hP hD hS => ?_)
  have hP : va_P (dC, dI) kCl [(mo, .inr (4, [.int 1, .int mr, .ref nw, .ref kp, .int 0, .int (-1), .ref mk, .ref co, .int 0, .int 0, .ref se])), (nw, .inl (cN, 25240, .inl now0))] H := hP
  have hD : va_D A [(mo, .inr (4, [.int 1, .int mr, .ref nw, .ref kp, .int 0, .int (-1), .ref mk, .ref co, .int 0, .int 0, .ref se])), (nw, .inl (cN, 25240, .inl now0))] := hD
  refine lv_aload_n (pc := 69) hx hb dM_reference_69 rfl (lv_at hl 2 rfl) ?_
  refine va_get (D := (dC, dI)) (cl := kCl) (C := RM) (T := TM) (N := 11) (pc := 70) hx hb hts inM hown hK hP 0 rfl rfl 0 (by decide) (hts _ wd_152) (fun _ h9 => h9) rfl dM_reference_70 ?_
  refine lv_if_le (pc := 73) (tgt := 78) hx hb dM_reference_73 rfl (fun h5 => absurd h5 (by decide)) (fun h5 => ?_)
  refine lv_iconst (pc := 76) (v := 0) hx hb dM_reference_76 (by decide) ?_
  have hP9 := hP.sub (ws' := [(mo, .inr (4, [.int 1, .int mr, .ref nw, .ref kp, .int 0, .int (-1), .ref mk, .ref co, .int 0, .int 0, .ref se]))]) [0] rfl
  have hD9 := hD.sub (ws' := [(mo, .inr (4, [.int 1, .int mr, .ref nw, .ref kp, .int 0, .int (-1), .ref mk, .ref co, .int 0, .int 0, .ref se]))]) [0] (by decide) rfl
  have hK9 := hK.sub (tys' := []) [] rfl
  exact W.iret (pc := 77) hx hb hr (fun t ht hW => ⟨⟨_, (), rfl, rfl, by rw [ht]; exact hP9, va_K.moved hW.alike hK9, hD9⟩, hS.F ht⟩) hS.2.2 dM_reference_77
set_option maxHeartbeats 4000000 in
set_option maxRecDepth 100000 in
theorem m_about (l : Launch) (dC : Nat → ClassId) (dI : Nat → Nat → Nat) (sz : Nat) (mo : Nat) (nw : Nat) (kp : Nat) (mk : Nat) (co : Nat) (se : Nat) (th : Int32) (mr : Int32) (cN : ClassId) (dd : Int32) (ww : Int32) : Met l yM_about (.code yM_about cM_about 7 (some .int) :: aw) ({ frames := 1, cells := 0, slots := 0, locals := 21 }) (pW (dC, dI) sz [(mo, .inr (4, [.int th, .int mr, .ref nw, .ref kp, .int 0, .int (-1), .ref mk, .ref co, .int 0, .int 0, .ref se])), (nw, .inl (cN, 25240, .inl now0))] [(cN, .int)] [.ref mo, .int dd, .int ww]) (va_Qi (fun r (_ : Unit) => r = 0) (fun _ t => wW (dC, dI) (va_A [(mo, .inr (4, [.int th, .int mr, .ref nw, .ref kp, .int 0, .int (-1), .ref mk, .ref co, .int 0, .int 0, .ref se])), (nw, .inl (cN, 25240, .inl now0))] sz) [(mo, .inr (4, [.int 1, .int mr, .ref nw, .ref kp, .int 0, .int (-1), .ref mk, .ref co, .int 0, .int 0, .ref se]))] [] t) (va_A [(mo, .inr (4, [.int th, .int mr, .ref nw, .ref kp, .int 0, .int (-1), .ref mk, .ref co, .int 0, .int 0, .ref se])), (nw, .inl (cN, 25240, .inl now0))] sz)) 0 0 (va_A [(mo, .inr (4, [.int th, .int mr, .ref nw, .ref kp, .int 0, .int (-1), .ref mk, .ref co, .int 0, .int 0, .ref se])), (nw, .inl (cN, 25240, .inl now0))] sz) := by
  refine Met.ofW (cc := cM_about) (maxL := 7) (ret := (some .int)) (by decide) rfl ?_
  intro p e s m args below meth c s₁ B hml hv
  obtain ⟨rfl, hv⟩ := hv
  have hx := B.exec
  have hb := B.bytes
  have hr := B.returns
  have hts : ∀ w ∈ aw, w.before _ s = true := fun w h => atoms_spec (ws := (.code yM_about cM_about 7 (some .int) :: aw)) B.pre w (List.mem_cons_of_mem _ h)
  have hown : s.vm.findClass RM = some m.cls := findClass_of_methodNamed B.named
  have hlocks := B.notSynchronized
  obtain ⟨hsz, hP, hK, hD0⟩ := hv
  subst hsz
  have hD := hD0.self (sz := s.heap.size)
  generalize hAe : va_A [(mo, .inr (4, [.int th, .int mr, .ref nw, .ref kp, .int 0, .int (-1), .ref mk, .ref co, .int 0, .int 0, .ref se])), (nw, .inl (cN, 25240, .inl now0))] s.heap.size = A at hD ⊢
  have hA : ∀ q : Nat, s.heap.size ≤ q → A q := fun q h => by rw [← hAe]; exact Or.inr h
  obtain ⟨H, hH⟩ : ∃ H, H = s.heap := ⟨_, rfl⟩
  have hS : va_S A s.heap H [] := by rw [hH]; exact va_S.rf
  rw [← hH] at hP ⊢
  have hP : va_P (dC, dI) kCl [(mo, .inr (4, [.int th, .int mr, .ref nw, .ref kp, .int 0, .int (-1), .ref mk, .ref co, .int 0, .int 0, .ref se])), (nw, .inl (cN, 25240, .inl now0))] H := hP
  have hl := lv_entry ([.ref mo, .int dd, .int ww]) (n := 7) (Nat.le_of_ble_eq_true rfl)
  rw [lg_entry_eq]
  generalize (lg_sl ([.ref mo, .int dd, .int ww]) ++ List.replicate (7 - (lg_sl ([.ref mo, .int dd, .int ww])).length) Slot.unset).toArray = ls at hl ⊢
  have hl : lv_has ls 7 [(0, .ref mo), (1, .int dd), (2, .int ww)] := hl
  refine lv_aload_n (pc := 0) hx hb dM_about_0 rfl (lv_at hl 0 rfl) ?_
  refine lv_iload_n (pc := 1) hx hb dM_about_1 rfl (lv_at hl 1 rfl) ?_
  refine vp_callSi (pc := 2) (W.runV (As := [.int dd]) (rest := []) ⟨hx, hb, hml, hown, hts⟩ (m_isDrawing l dC dI mo nw kp mk co se th mr cN dd) (cwV 1 hts (gV wd_160 wd_161 wd_162 wd_157 wd_159) rfl rfl rfl (by decide +kernel) ⟨Nat.le_of_ble_eq_true rfl, Nat.le_of_ble_eq_true rfl⟩) ⟨pR_blind, va_recv (q := (RM, TM, 11)) (q0 := 0) (ci := 4) hK hP rfl rfl, pR_pre (hP.sub (ws' := [(mo, .inr (4, [.int th, .int mr, .ref nw, .ref kp, .int 0, .int (-1), .ref mk, .ref co, .int 0, .int 0, .ref se])), (nw, .inl (cN, 25240, .inl now0))]) [0, 1] rfl) (hK.sub (tys' := [(cN, .int)]) [0] rfl)⟩ rfl rfl hl.1 rfl (lv_room (Nat.le_of_ble_eq_true rfl)) dM_about_2 ⟨Nat.le_of_ble_eq_true rfl, Nat.le_of_ble_eq_true rfl⟩) (fun r1 hr2 => ?_)
  obtain rfl : r1 = 0 := hr2
  refine lv_istore_n (pc := 5) hx hb dM_about_5 rfl hl (by decide) rfl (fun ls hl => ?_)
  have hl : lv_has ls 7 [(3, .int 0), (0, .ref mo), (1, .int dd), (2, .int ww)] := hl
  refine lv_iload_n (pc := 6) hx hb dM_about_6 rfl (lv_at hl 0 rfl) ?_
  refine lv_if_eq (pc := 7) (tgt := 18) hx hb dM_about_7 rfl (fun h3 => ?_) (fun h3 => absurd h3 (by decide))
  refine lv_bipush (pc := 18) (v := 20) hx hb dM_about_18 (by decide) ?_
  refine lv_istore (pc := 20) hx hb dM_about_20 hl (by decide) rfl (fun ls hl => ?_)
  have hl : lv_has ls 7 [(4, .int 20), (3, .int 0), (0, .ref mo), (1, .int dd), (2, .int ww)] := hl
  refine lv_iload_n (pc := 22) hx hb dM_about_22 rfl (lv_at hl 1 rfl) ?_
  refine lv_if_eq (pc := 23) (tgt := 38) hx hb dM_about_23 rfl (fun h4 => ?_) (fun h4 => absurd h4 (by decide))
  refine lv_iconst (pc := 38) (v := 0) hx hb dM_about_38 (by decide) ?_
  refine lv_istore (pc := 39) hx hb dM_about_39 hl (by decide) rfl (fun ls hl => ?_)
  have hl : lv_has ls 7 [(5, .int 0), (4, .int 20), (3, .int 0), (0, .ref mo), (1, .int dd), (2, .int ww)] := hl
  refine lv_iload_n (pc := 41) hx hb dM_about_41 rfl (lv_at hl 2 rfl) ?_
  refine lv_if_eq (pc := 42) (tgt := 54) hx hb dM_about_42 rfl (fun h5 => ?_) (fun h5 => absurd h5 (by decide))
  refine lv_iload (pc := 54) hx hb dM_about_54 (lv_at hl 0 rfl) ?_
  refine lv_if_eq (pc := 56) (tgt := 81) hx hb dM_about_56 rfl (fun h6 => ?_) (fun h6 => absurd h6 (by decide))
  refine lv_iload (pc := 81) hx hb dM_about_81 (lv_at hl 0 rfl) ?_
  refine lv_if_eq (pc := 83) (tgt := 116) hx hb dM_about_83 rfl (fun h7 => ?_) (fun h7 => absurd h7 (by decide))
  refine lv_iconst (pc := 116) (v := 0) hx hb dM_about_116 (by decide) ?_
  refine lv_istore (pc := 117) hx hb dM_about_117 hl (by decide) rfl (fun ls hl => ?_)
  have hl : lv_has ls 7 [(6, .int 0), (5, .int 0), (4, .int 20), (3, .int 0), (0, .ref mo), (1, .int dd), (2, .int ww)] := hl
  refine lv_aload_n (pc := 119) hx hb dM_about_119 rfl (lv_at hl 4 rfl) ?_
  refine lv_iload (pc := 120) hx hb dM_about_120 (lv_at hl 0 rfl) ?_
  refine lv_if_eq (pc := 122) (tgt := 129) hx hb dM_about_122 rfl (fun h8 => ?_) (fun h8 => absurd h8 (by decide))
  refine lv_iconst (pc := 129) (v := 1) hx hb dM_about_129 (by decide) ?_
  refine va_put (D := (dC, dI)) (cl := kCl) (ci := 4) (v := .int 1) (ty := .int) (C := RM) (T := TM) (N := 11) (pc := 130) hx hb hts inM tyM tyM_ok nmM hown hK hP hD hS 0 rfl rfl 0 (by decide) (hts _ wd_152) (fun _ h9 => h9) rfl (by decide +kernel) rfl rfl (Nat.le_of_ble_eq_true rfl) dM_about_130 (fun H locs hP hD hS => ?_)
  have hP : va_P (dC, dI) kCl [(mo, .inr (4, [.int 1, .int mr, .ref nw, .ref kp, .int 0, .int (-1), .ref mk, .ref co, .int 0, .int 0, .ref se])), (nw, .inl (cN, 25240, .inl now0))] H := hP
  have hD : va_D A [(mo, .inr (4, [.int 1, .int mr, .ref nw, .ref kp, .int 0, .int (-1), .ref mk, .ref co, .int 0, .int 0, .ref se])), (nw, .inl (cN, 25240, .inl now0))] := hD
  refine lv_iload (pc := 133) hx hb dM_about_133 (lv_at hl 0 rfl) ?_
  refine lv_if_ne (pc := 135) (tgt := 140) hx hb dM_about_135 rfl (fun h9 => absurd h9 (by decide)) (fun h9 => ?_)
  refine lv_iconst (pc := 138) (v := 0) hx hb dM_about_138 (by decide) ?_
  have hP9 := hP.sub (ws' := [(mo, .inr (4, [.int 1, .int mr, .ref nw, .ref kp, .int 0, .int (-1), .ref mk, .ref co, .int 0, .int 0, .ref se]))]) [0] rfl
  have hD9 := hD.sub (ws' := [(mo, .inr (4, [.int 1, .int mr, .ref nw, .ref kp, .int 0, .int (-1), .ref mk, .ref co, .int 0, .int 0, .ref se]))]) [0] (by decide) rfl
  have hK9 := hK.sub (tys' := []) [] rfl
  exact W.iret (pc := 139) hx hb hr (fun t ht hW => ⟨⟨_, (), rfl, rfl, by rw [ht]; exact hP9, va_K.moved hW.alike hK9, hD9⟩, hS.F ht⟩) hS.2.2 dM_about_139
set_option maxHeartbeats 4000000 in
set_option maxRecDepth 100000 in
theorem m_inBaseline (l : Launch) (dC : Nat → ClassId) (dI : Nat → Nat → Nat) (sz : Nat) (mo : Nat) (nw : Nat) (kp : Nat) (mk : Nat) (co : Nat) (se : Nat) (th : Int32) (mr : Int32) (cN : ClassId) (nn : Int32) (kk : Int32) (ww : Int32) : Met l yM_inBaseline (.code yM_inBaseline cM_inBaseline 9 (some .int) :: aw) ({ frames := 1, cells := 0, slots := 0, locals := 21 }) (pW (dC, dI) sz [(mo, .inr (4, [.int th, .int mr, .ref nw, .ref kp, .int 0, .int (-1), .ref mk, .ref co, .int 0, .int 0, .ref se])), (nw, .inl (cN, 25240, .inl now0))] [(cN, .int)] [.ref mo, .int nn, .int kk, .int ww]) (va_Qi (fun r (_ : Unit) => r = 0) (fun _ t => wW (dC, dI) (va_A [(mo, .inr (4, [.int th, .int mr, .ref nw, .ref kp, .int 0, .int (-1), .ref mk, .ref co, .int 0, .int 0, .ref se])), (nw, .inl (cN, 25240, .inl now0))] sz) [(mo, .inr (4, [.int 1, .int mr, .ref nw, .ref kp, .int 0, .int (-1), .ref mk, .ref co, .int 0, .int 0, .ref se]))] [] t) (va_A [(mo, .inr (4, [.int th, .int mr, .ref nw, .ref kp, .int 0, .int (-1), .ref mk, .ref co, .int 0, .int 0, .ref se])), (nw, .inl (cN, 25240, .inl now0))] sz)) 0 0 (va_A [(mo, .inr (4, [.int th, .int mr, .ref nw, .ref kp, .int 0, .int (-1), .ref mk, .ref co, .int 0, .int 0, .ref se])), (nw, .inl (cN, 25240, .inl now0))] sz) := by
  refine Met.ofW (cc := cM_inBaseline) (maxL := 9) (ret := (some .int)) (by decide) rfl ?_
  intro p e s m args below meth c s₁ B hml hv
  obtain ⟨rfl, hv⟩ := hv
  have hx := B.exec
  have hb := B.bytes
  have hr := B.returns
  have hts : ∀ w ∈ aw, w.before _ s = true := fun w h => atoms_spec (ws := (.code yM_inBaseline cM_inBaseline 9 (some .int) :: aw)) B.pre w (List.mem_cons_of_mem _ h)
  have hown : s.vm.findClass RM = some m.cls := findClass_of_methodNamed B.named
  have hlocks := B.notSynchronized
  obtain ⟨hsz, hP, hK, hD0⟩ := hv
  subst hsz
  have hD := hD0.self (sz := s.heap.size)
  generalize hAe : va_A [(mo, .inr (4, [.int th, .int mr, .ref nw, .ref kp, .int 0, .int (-1), .ref mk, .ref co, .int 0, .int 0, .ref se])), (nw, .inl (cN, 25240, .inl now0))] s.heap.size = A at hD ⊢
  have hA : ∀ q : Nat, s.heap.size ≤ q → A q := fun q h => by rw [← hAe]; exact Or.inr h
  obtain ⟨H, hH⟩ : ∃ H, H = s.heap := ⟨_, rfl⟩
  have hS : va_S A s.heap H [] := by rw [hH]; exact va_S.rf
  rw [← hH] at hP ⊢
  have hP : va_P (dC, dI) kCl [(mo, .inr (4, [.int th, .int mr, .ref nw, .ref kp, .int 0, .int (-1), .ref mk, .ref co, .int 0, .int 0, .ref se])), (nw, .inl (cN, 25240, .inl now0))] H := hP
  have hl := lv_entry ([.ref mo, .int nn, .int kk, .int ww]) (n := 9) (Nat.le_of_ble_eq_true rfl)
  rw [lg_entry_eq]
  generalize (lg_sl ([.ref mo, .int nn, .int kk, .int ww]) ++ List.replicate (9 - (lg_sl ([.ref mo, .int nn, .int kk, .int ww])).length) Slot.unset).toArray = ls at hl ⊢
  have hl : lv_has ls 9 [(0, .ref mo), (1, .int nn), (2, .int kk), (3, .int ww)] := hl
  refine lv_iload_n (pc := 0) hx hb dM_inBaseline_0 rfl (lv_at hl 1 rfl) ?_
  refine lv_if_lt (pc := 1) (tgt := 41) hx hb dM_inBaseline_1 rfl (fun h1 => ?_) (fun h1 => ?_)
  · refine lv_iconst (pc := 41) (v := 0) hx hb dM_inBaseline_41 (by decide) ?_
    refine lv_istore (pc := 42) hx hb dM_inBaseline_42 hl (by decide) rfl (fun ls hl => ?_)
    have hl : lv_has ls 9 [(4, .int 0), (0, .ref mo), (1, .int nn), (2, .int kk), (3, .int ww)] := hl
    refine lv_iload (pc := 44) hx hb dM_inBaseline_44 (lv_at hl 0 rfl) ?_
    refine lv_if_eq (pc := 46) (tgt := 57) hx hb dM_inBaseline_46 rfl (fun h2 => ?_) (fun h2 => absurd h2 (by decide))
    refine lv_sipush (pc := 57) (v := 24980) hx hb dM_inBaseline_57 (by decide) ?_
    refine lv_istore (pc := 60) hx hb dM_inBaseline_60 hl (by decide) rfl (fun ls hl => ?_)
    have hl : lv_has ls 9 [(5, .int 24980), (4, .int 0), (0, .ref mo), (1, .int nn), (2, .int kk), (3, .int ww)] := hl
    refine lv_iload (pc := 62) hx hb dM_inBaseline_62 (lv_at hl 1 rfl) ?_
    refine lv_if_eq (pc := 64) (tgt := 109) hx hb dM_inBaseline_64 rfl (fun h3 => ?_) (fun h3 => absurd h3 (by decide))
    refine lv_iconst (pc := 109) (v := 0) hx hb dM_inBaseline_109 (by decide) ?_
    refine lv_istore (pc := 110) hx hb dM_inBaseline_110 hl (by decide) rfl (fun ls hl => ?_)
    have hl : lv_has ls 9 [(6, .int 0), (5, .int 24980), (4, .int 0), (0, .ref mo), (1, .int nn), (2, .int kk), (3, .int ww)] := hl
    refine lv_aload_n (pc := 112) hx hb dM_inBaseline_112 rfl (lv_at hl 3 rfl) ?_
    refine lv_iload (pc := 113) hx hb dM_inBaseline_113 (lv_at hl 0 rfl) ?_
    refine lv_if_eq (pc := 115) (tgt := 122) hx hb dM_inBaseline_115 rfl (fun h4 => ?_) (fun h4 => absurd h4 (by decide))
    refine lv_iconst (pc := 122) (v := 1) hx hb dM_inBaseline_122 (by decide) ?_
    refine va_put (D := (dC, dI)) (cl := kCl) (ci := 4) (v := .int 1) (ty := .int) (C := RM) (T := TM) (N := 11) (pc := 123) hx hb hts inM tyM tyM_ok nmM hown hK hP hD hS 0 rfl rfl 0 (by decide) (hts _ wd_152) (fun _ h9 => h9) rfl (by decide +kernel) rfl rfl (Nat.le_of_ble_eq_true rfl) dM_inBaseline_123 (fun H locs hP hD hS => ?_)
    have hP : va_P (dC, dI) kCl [(mo, .inr (4, [.int 1, .int mr, .ref nw, .ref kp, .int 0, .int (-1), .ref mk, .ref co, .int 0, .int 0, .ref se])), (nw, .inl (cN, 25240, .inl now0))] H := hP
    have hD : va_D A [(mo, .inr (4, [.int 1, .int mr, .ref nw, .ref kp, .int 0, .int (-1), .ref mk, .ref co, .int 0, .int 0, .ref se])), (nw, .inl (cN, 25240, .inl now0))] := hD
    refine lv_iload (pc := 126) hx hb dM_inBaseline_126 (lv_at hl 0 rfl) ?_
    refine lv_if_ne (pc := 128) (tgt := 133) hx hb dM_inBaseline_128 rfl (fun h5 => absurd h5 (by decide)) (fun h5 => ?_)
    refine lv_iconst (pc := 131) (v := 0) hx hb dM_inBaseline_131 (by decide) ?_
    have hP9 := hP.sub (ws' := [(mo, .inr (4, [.int 1, .int mr, .ref nw, .ref kp, .int 0, .int (-1), .ref mk, .ref co, .int 0, .int 0, .ref se]))]) [0] rfl
    have hD9 := hD.sub (ws' := [(mo, .inr (4, [.int 1, .int mr, .ref nw, .ref kp, .int 0, .int (-1), .ref mk, .ref co, .int 0, .int 0, .ref se]))]) [0] (by decide) rfl
    have hK9 := hK.sub (tys' := []) [] rfl
    exact W.iret (pc := 132) hx hb hr (fun t ht hW => ⟨⟨_, (), rfl, rfl, by rw [ht]; exact hP9, va_K.moved hW.alike hK9, hD9⟩, hS.F ht⟩) hS.2.2 dM_inBaseline_132
  · refine lv_iload_n (pc := 4) hx hb dM_inBaseline_4 rfl (lv_at hl 1 rfl) ?_
    refine lv_bipush (pc := 5) (v := 10) hx hb dM_inBaseline_5 (by decide) ?_
    refine lv_icmp_ge (pc := 7) (tgt := 41) hx hb dM_inBaseline_7 rfl (fun h6 => ?_) (fun h6 => ?_)
    · refine lv_iconst (pc := 41) (v := 0) hx hb dM_inBaseline_41 (by decide) ?_
      refine lv_istore (pc := 42) hx hb dM_inBaseline_42 hl (by decide) rfl (fun ls hl => ?_)
      have hl : lv_has ls 9 [(4, .int 0), (0, .ref mo), (1, .int nn), (2, .int kk), (3, .int ww)] := hl
      refine lv_iload (pc := 44) hx hb dM_inBaseline_44 (lv_at hl 0 rfl) ?_
      refine lv_if_eq (pc := 46) (tgt := 57) hx hb dM_inBaseline_46 rfl (fun h7 => ?_) (fun h7 => absurd h7 (by decide))
      refine lv_sipush (pc := 57) (v := 24980) hx hb dM_inBaseline_57 (by decide) ?_
      refine lv_istore (pc := 60) hx hb dM_inBaseline_60 hl (by decide) rfl (fun ls hl => ?_)
      have hl : lv_has ls 9 [(5, .int 24980), (4, .int 0), (0, .ref mo), (1, .int nn), (2, .int kk), (3, .int ww)] := hl
      refine lv_iload (pc := 62) hx hb dM_inBaseline_62 (lv_at hl 1 rfl) ?_
      refine lv_if_eq (pc := 64) (tgt := 109) hx hb dM_inBaseline_64 rfl (fun h8 => ?_) (fun h8 => absurd h8 (by decide))
      refine lv_iconst (pc := 109) (v := 0) hx hb dM_inBaseline_109 (by decide) ?_
      refine lv_istore (pc := 110) hx hb dM_inBaseline_110 hl (by decide) rfl (fun ls hl => ?_)
      have hl : lv_has ls 9 [(6, .int 0), (5, .int 24980), (4, .int 0), (0, .ref mo), (1, .int nn), (2, .int kk), (3, .int ww)] := hl
      refine lv_aload_n (pc := 112) hx hb dM_inBaseline_112 rfl (lv_at hl 3 rfl) ?_
      refine lv_iload (pc := 113) hx hb dM_inBaseline_113 (lv_at hl 0 rfl) ?_
      refine lv_if_eq (pc := 115) (tgt := 122) hx hb dM_inBaseline_115 rfl (fun h9 => ?_) (fun h9 => absurd h9 (by decide))
      refine lv_iconst (pc := 122) (v := 1) hx hb dM_inBaseline_122 (by decide) ?_
      refine va_put (D := (dC, dI)) (cl := kCl) (ci := 4) (v := .int 1) (ty := .int) (C := RM) (T := TM) (N := 11) (pc := 123) hx hb hts inM tyM tyM_ok nmM hown hK hP hD hS 0 rfl rfl 0 (by decide) (hts _ wd_152) (fun _ h9 => h9) rfl (by decide +kernel) rfl rfl (Nat.le_of_ble_eq_true rfl) dM_inBaseline_123 (fun H locs hP hD hS => ?_)
      have hP : va_P (dC, dI) kCl [(mo, .inr (4, [.int 1, .int mr, .ref nw, .ref kp, .int 0, .int (-1), .ref mk, .ref co, .int 0, .int 0, .ref se])), (nw, .inl (cN, 25240, .inl now0))] H := hP
      have hD : va_D A [(mo, .inr (4, [.int 1, .int mr, .ref nw, .ref kp, .int 0, .int (-1), .ref mk, .ref co, .int 0, .int 0, .ref se])), (nw, .inl (cN, 25240, .inl now0))] := hD
      refine lv_iload (pc := 126) hx hb dM_inBaseline_126 (lv_at hl 0 rfl) ?_
      refine lv_if_ne (pc := 128) (tgt := 133) hx hb dM_inBaseline_128 rfl (fun h10 => absurd h10 (by decide)) (fun h10 => ?_)
      refine lv_iconst (pc := 131) (v := 0) hx hb dM_inBaseline_131 (by decide) ?_
      have hP9 := hP.sub (ws' := [(mo, .inr (4, [.int 1, .int mr, .ref nw, .ref kp, .int 0, .int (-1), .ref mk, .ref co, .int 0, .int 0, .ref se]))]) [0] rfl
      have hD9 := hD.sub (ws' := [(mo, .inr (4, [.int 1, .int mr, .ref nw, .ref kp, .int 0, .int (-1), .ref mk, .ref co, .int 0, .int 0, .ref se]))]) [0] (by decide) rfl
      have hK9 := hK.sub (tys' := []) [] rfl
      exact W.iret (pc := 132) hx hb hr (fun t ht hW => ⟨⟨_, (), rfl, rfl, by rw [ht]; exact hP9, va_K.moved hW.alike hK9, hD9⟩, hS.F ht⟩) hS.2.2 dM_inBaseline_132
    · refine lv_aload_n (pc := 10) hx hb dM_inBaseline_10 rfl (lv_at hl 0 rfl) ?_
      refine va_get (D := (dC, dI)) (cl := kCl) (C := RM) (T := TM) (N := 11) (pc := 11) hx hb hts inM hown hK hP 0 rfl rfl 2 (by decide) (hts _ wd_158) (fun _ h9 => h9) rfl dM_inBaseline_11 ?_
      refine lv_aload_n (pc := 14) hx hb dM_inBaseline_14 rfl (lv_at hl 0 rfl) ?_
      refine lv_iload_n (pc := 15) hx hb dM_inBaseline_15 rfl (lv_at hl 1 rfl) ?_
      refine lv_if_lt (pc := 16) (tgt := 29) hx hb dM_inBaseline_16 rfl (fun h11 => ?_) (fun h11 => ?_)
      · refine lv_iconst (pc := 29) (v := 0) hx hb dM_inBaseline_29 (by decide) ?_
        refine vp_callSi (pc := 30) (W.runV (As := [.int 0]) (rest := [.ref nw]) ⟨hx, hb, hml, hown, hts⟩ (m_baselineAt l dC dI mo nw kp mk co se th mr 0) (cwV 1 hts (gV wd_197 wd_198 wd_199 wd_157 wd_196) rfl rfl rfl (by decide +kernel) ⟨Nat.le_of_ble_eq_true rfl, Nat.le_of_ble_eq_true rfl⟩) ⟨pR_blind, va_recv (q := (RM, TM, 11)) (q0 := 0) (ci := 4) hK hP rfl rfl, pR_pre (hP.sub (ws' := [(mo, .inr (4, [.int th, .int mr, .ref nw, .ref kp, .int 0, .int (-1), .ref mk, .ref co, .int 0, .int 0, .ref se]))]) [0] rfl) (hK.sub (tys' := []) [] rfl)⟩ rfl rfl hl.1 rfl (lv_room (Nat.le_of_ble_eq_true rfl)) dM_inBaseline_30 ⟨Nat.le_of_ble_eq_true rfl, Nat.le_of_ble_eq_true rfl⟩) (fun r12 hr13 => ?_)
        obtain rfl : r12 = 24980 := Eq.trans (hr13) (by decide)
        refine va_iald (D := (dC, dI)) (cl := kCl) (pc := 33) hx hb hK hP 1 0 rfl rfl (vp_in_lit 24980 25240 (by decide)) dM_inBaseline_33 ?_
        refine W.eq (g2 := F0 m 34 ls [.int 0]) rfl ?_
        refine lv_if_le (pc := 34) (tgt := 41) hx hb dM_inBaseline_34 rfl (fun h14 => ?_) (fun h14 => absurd h14 (by decide))
        refine lv_iconst (pc := 41) (v := 0) hx hb dM_inBaseline_41 (by decide) ?_
        refine lv_istore (pc := 42) hx hb dM_inBaseline_42 hl (by decide) rfl (fun ls hl => ?_)
        have hl : lv_has ls 9 [(4, .int 0), (0, .ref mo), (1, .int nn), (2, .int kk), (3, .int ww)] := hl
        refine lv_iload (pc := 44) hx hb dM_inBaseline_44 (lv_at hl 0 rfl) ?_
        refine lv_if_eq (pc := 46) (tgt := 57) hx hb dM_inBaseline_46 rfl (fun h15 => ?_) (fun h15 => absurd h15 (by decide))
        refine lv_sipush (pc := 57) (v := 24980) hx hb dM_inBaseline_57 (by decide) ?_
        refine lv_istore (pc := 60) hx hb dM_inBaseline_60 hl (by decide) rfl (fun ls hl => ?_)
        have hl : lv_has ls 9 [(5, .int 24980), (4, .int 0), (0, .ref mo), (1, .int nn), (2, .int kk), (3, .int ww)] := hl
        refine lv_iload (pc := 62) hx hb dM_inBaseline_62 (lv_at hl 1 rfl) ?_
        refine lv_if_eq (pc := 64) (tgt := 109) hx hb dM_inBaseline_64 rfl (fun h16 => ?_) (fun h16 => absurd h16 (by decide))
        refine lv_iconst (pc := 109) (v := 0) hx hb dM_inBaseline_109 (by decide) ?_
        refine lv_istore (pc := 110) hx hb dM_inBaseline_110 hl (by decide) rfl (fun ls hl => ?_)
        have hl : lv_has ls 9 [(6, .int 0), (5, .int 24980), (4, .int 0), (0, .ref mo), (1, .int nn), (2, .int kk), (3, .int ww)] := hl
        refine lv_aload_n (pc := 112) hx hb dM_inBaseline_112 rfl (lv_at hl 3 rfl) ?_
        refine lv_iload (pc := 113) hx hb dM_inBaseline_113 (lv_at hl 0 rfl) ?_
        refine lv_if_eq (pc := 115) (tgt := 122) hx hb dM_inBaseline_115 rfl (fun h17 => ?_) (fun h17 => absurd h17 (by decide))
        refine lv_iconst (pc := 122) (v := 1) hx hb dM_inBaseline_122 (by decide) ?_
        refine va_put (D := (dC, dI)) (cl := kCl) (ci := 4) (v := .int 1) (ty := .int) (C := RM) (T := TM) (N := 11) (pc := 123) hx hb hts inM tyM tyM_ok nmM hown hK hP hD hS 0 rfl rfl 0 (by decide) (hts _ wd_152) (fun _ h9 => h9) rfl (by decide +kernel) rfl rfl (Nat.le_of_ble_eq_true rfl) dM_inBaseline_123 (fun H locs hP hD hS => ?_)
        have hP : va_P (dC, dI) kCl [(mo, .inr (4, [.int 1, .int mr, .ref nw, .ref kp, .int 0, .int (-1), .ref mk, .ref co, .int 0, .int 0, .ref se])), (nw, .inl (cN, 25240, .inl now0))] H := hP
        have hD : va_D A [(mo, .inr (4, [.int 1, .int mr, .ref nw, .ref kp, .int 0, .int (-1), .ref mk, .ref co, .int 0, .int 0, .ref se])), (nw, .inl (cN, 25240, .inl now0))] := hD
        refine lv_iload (pc := 126) hx hb dM_inBaseline_126 (lv_at hl 0 rfl) ?_
        refine lv_if_ne (pc := 128) (tgt := 133) hx hb dM_inBaseline_128 rfl (fun h18 => absurd h18 (by decide)) (fun h18 => ?_)
        refine lv_iconst (pc := 131) (v := 0) hx hb dM_inBaseline_131 (by decide) ?_
        have hP9 := hP.sub (ws' := [(mo, .inr (4, [.int 1, .int mr, .ref nw, .ref kp, .int 0, .int (-1), .ref mk, .ref co, .int 0, .int 0, .ref se]))]) [0] rfl
        have hD9 := hD.sub (ws' := [(mo, .inr (4, [.int 1, .int mr, .ref nw, .ref kp, .int 0, .int (-1), .ref mk, .ref co, .int 0, .int 0, .ref se]))]) [0] (by decide) rfl
        have hK9 := hK.sub (tys' := []) [] rfl
        exact W.iret (pc := 132) hx hb hr (fun t ht hW => ⟨⟨_, (), rfl, rfl, by rw [ht]; exact hP9, va_K.moved hW.alike hK9, hD9⟩, hS.F ht⟩) hS.2.2 dM_inBaseline_132
      · refine lv_iload_n (pc := 19) hx hb dM_inBaseline_19 rfl (lv_at hl 1 rfl) ?_
        refine lv_bipush (pc := 20) (v := 10) hx hb dM_inBaseline_20 (by decide) ?_
        refine lv_icmp_ge (pc := 22) (tgt := 29) hx hb dM_inBaseline_22 rfl (fun h19 => ?_) (fun h19 => ?_)
        · refine lv_iconst (pc := 29) (v := 0) hx hb dM_inBaseline_29 (by decide) ?_
          refine vp_callSi (pc := 30) (W.runV (As := [.int 0]) (rest := [.ref nw]) ⟨hx, hb, hml, hown, hts⟩ (m_baselineAt l dC dI mo nw kp mk co se th mr 0) (cwV 1 hts (gV wd_197 wd_198 wd_199 wd_157 wd_196) rfl rfl rfl (by decide +kernel) ⟨Nat.le_of_ble_eq_true rfl, Nat.le_of_ble_eq_true rfl⟩) ⟨pR_blind, va_recv (q := (RM, TM, 11)) (q0 := 0) (ci := 4) hK hP rfl rfl, pR_pre (hP.sub (ws' := [(mo, .inr (4, [.int th, .int mr, .ref nw, .ref kp, .int 0, .int (-1), .ref mk, .ref co, .int 0, .int 0, .ref se]))]) [0] rfl) (hK.sub (tys' := []) [] rfl)⟩ rfl rfl hl.1 rfl (lv_room (Nat.le_of_ble_eq_true rfl)) dM_inBaseline_30 ⟨Nat.le_of_ble_eq_true rfl, Nat.le_of_ble_eq_true rfl⟩) (fun r20 hr21 => ?_)
          obtain rfl : r20 = 24980 := Eq.trans (hr21) (by decide)
          refine va_iald (D := (dC, dI)) (cl := kCl) (pc := 33) hx hb hK hP 1 0 rfl rfl (vp_in_lit 24980 25240 (by decide)) dM_inBaseline_33 ?_
          refine W.eq (g2 := F0 m 34 ls [.int 0]) rfl ?_
          refine lv_if_le (pc := 34) (tgt := 41) hx hb dM_inBaseline_34 rfl (fun h22 => ?_) (fun h22 => absurd h22 (by decide))
          refine lv_iconst (pc := 41) (v := 0) hx hb dM_inBaseline_41 (by decide) ?_
          refine lv_istore (pc := 42) hx hb dM_inBaseline_42 hl (by decide) rfl (fun ls hl => ?_)
          have hl : lv_has ls 9 [(4, .int 0), (0, .ref mo), (1, .int nn), (2, .int kk), (3, .int ww)] := hl
          refine lv_iload (pc := 44) hx hb dM_inBaseline_44 (lv_at hl 0 rfl) ?_
          refine lv_if_eq (pc := 46) (tgt := 57) hx hb dM_inBaseline_46 rfl (fun h23 => ?_) (fun h23 => absurd h23 (by decide))
          refine lv_sipush (pc := 57) (v := 24980) hx hb dM_inBaseline_57 (by decide) ?_
          refine lv_istore (pc := 60) hx hb dM_inBaseline_60 hl (by decide) rfl (fun ls hl => ?_)
          have hl : lv_has ls 9 [(5, .int 24980), (4, .int 0), (0, .ref mo), (1, .int nn), (2, .int kk), (3, .int ww)] := hl
          refine lv_iload (pc := 62) hx hb dM_inBaseline_62 (lv_at hl 1 rfl) ?_
          refine lv_if_eq (pc := 64) (tgt := 109) hx hb dM_inBaseline_64 rfl (fun h24 => ?_) (fun h24 => absurd h24 (by decide))
          refine lv_iconst (pc := 109) (v := 0) hx hb dM_inBaseline_109 (by decide) ?_
          refine lv_istore (pc := 110) hx hb dM_inBaseline_110 hl (by decide) rfl (fun ls hl => ?_)
          have hl : lv_has ls 9 [(6, .int 0), (5, .int 24980), (4, .int 0), (0, .ref mo), (1, .int nn), (2, .int kk), (3, .int ww)] := hl
          refine lv_aload_n (pc := 112) hx hb dM_inBaseline_112 rfl (lv_at hl 3 rfl) ?_
          refine lv_iload (pc := 113) hx hb dM_inBaseline_113 (lv_at hl 0 rfl) ?_
          refine lv_if_eq (pc := 115) (tgt := 122) hx hb dM_inBaseline_115 rfl (fun h25 => ?_) (fun h25 => absurd h25 (by decide))
          refine lv_iconst (pc := 122) (v := 1) hx hb dM_inBaseline_122 (by decide) ?_
          refine va_put (D := (dC, dI)) (cl := kCl) (ci := 4) (v := .int 1) (ty := .int) (C := RM) (T := TM) (N := 11) (pc := 123) hx hb hts inM tyM tyM_ok nmM hown hK hP hD hS 0 rfl rfl 0 (by decide) (hts _ wd_152) (fun _ h9 => h9) rfl (by decide +kernel) rfl rfl (Nat.le_of_ble_eq_true rfl) dM_inBaseline_123 (fun H locs hP hD hS => ?_)
          have hP : va_P (dC, dI) kCl [(mo, .inr (4, [.int 1, .int mr, .ref nw, .ref kp, .int 0, .int (-1), .ref mk, .ref co, .int 0, .int 0, .ref se])), (nw, .inl (cN, 25240, .inl now0))] H := hP
          have hD : va_D A [(mo, .inr (4, [.int 1, .int mr, .ref nw, .ref kp, .int 0, .int (-1), .ref mk, .ref co, .int 0, .int 0, .ref se])), (nw, .inl (cN, 25240, .inl now0))] := hD
          refine lv_iload (pc := 126) hx hb dM_inBaseline_126 (lv_at hl 0 rfl) ?_
          refine lv_if_ne (pc := 128) (tgt := 133) hx hb dM_inBaseline_128 rfl (fun h26 => absurd h26 (by decide)) (fun h26 => ?_)
          refine lv_iconst (pc := 131) (v := 0) hx hb dM_inBaseline_131 (by decide) ?_
          have hP9 := hP.sub (ws' := [(mo, .inr (4, [.int 1, .int mr, .ref nw, .ref kp, .int 0, .int (-1), .ref mk, .ref co, .int 0, .int 0, .ref se]))]) [0] rfl
          have hD9 := hD.sub (ws' := [(mo, .inr (4, [.int 1, .int mr, .ref nw, .ref kp, .int 0, .int (-1), .ref mk, .ref co, .int 0, .int 0, .ref se]))]) [0] (by decide) rfl
          have hK9 := hK.sub (tys' := []) [] rfl
          exact W.iret (pc := 132) hx hb hr (fun t ht hW => ⟨⟨_, (), rfl, rfl, by rw [ht]; exact hP9, va_K.moved hW.alike hK9, hD9⟩, hS.F ht⟩) hS.2.2 dM_inBaseline_132
        · refine lv_iload_n (pc := 25) hx hb dM_inBaseline_25 rfl (lv_at hl 1 rfl) ?_
          refine lv_goto (pc := 26) (tgt := 30) hx hb dM_inBaseline_26 rfl ?_
          refine vp_callSi (pc := 30) (W.runV (As := [.int nn]) (rest := [.ref nw]) ⟨hx, hb, hml, hown, hts⟩ (m_baselineAt l dC dI mo nw kp mk co se th mr nn) (cwV 1 hts (gV wd_197 wd_198 wd_199 wd_157 wd_196) rfl rfl rfl (by decide +kernel) ⟨Nat.le_of_ble_eq_true rfl, Nat.le_of_ble_eq_true rfl⟩) ⟨pR_blind, va_recv (q := (RM, TM, 11)) (q0 := 0) (ci := 4) hK hP rfl rfl, pR_pre (hP.sub (ws' := [(mo, .inr (4, [.int th, .int mr, .ref nw, .ref kp, .int 0, .int (-1), .ref mk, .ref co, .int 0, .int 0, .ref se]))]) [0] rfl) (hK.sub (tys' := []) [] rfl)⟩ rfl rfl hl.1 rfl (lv_room (Nat.le_of_ble_eq_true rfl)) dM_inBaseline_30 ⟨Nat.le_of_ble_eq_true rfl, Nat.le_of_ble_eq_true rfl⟩) (fun r27 hr28 => ?_)
          obtain rfl : r27 = (24980 + 26 * nn) := hr28
          refine va_iald (D := (dC, dI)) (cl := kCl) (pc := 33) hx hb hK hP 1 0 rfl rfl ((bl_ix h1 h6).1) dM_inBaseline_33 ?_
          refine W.eq (g2 := F0 m 34 ls [.int (now0 ((24980 + 26 * nn) : Int32).toNatClampNeg)]) rfl ?_
          refine lv_topi (fun z29 hz30 => ?_)
          obtain rfl : z29 = 0 := hz30.trans ((bl_ix h1 h6).2)
          refine lv_if_le (pc := 34) (tgt := 41) hx hb dM_inBaseline_34 rfl (fun h31 => ?_) (fun h31 => absurd h31 (by decide))
          refine lv_iconst (pc := 41) (v := 0) hx hb dM_inBaseline_41 (by decide) ?_
          refine lv_istore (pc := 42) hx hb dM_inBaseline_42 hl (by decide) rfl (fun ls hl => ?_)
          have hl : lv_has ls 9 [(4, .int 0), (0, .ref mo), (1, .int nn), (2, .int kk), (3, .int ww)] := hl
          refine lv_iload (pc := 44) hx hb dM_inBaseline_44 (lv_at hl 0 rfl) ?_
          refine lv_if_eq (pc := 46) (tgt := 57) hx hb dM_inBaseline_46 rfl (fun h32 => ?_) (fun h32 => absurd h32 (by decide))
          refine lv_sipush (pc := 57) (v := 24980) hx hb dM_inBaseline_57 (by decide) ?_
          refine lv_istore (pc := 60) hx hb dM_inBaseline_60 hl (by decide) rfl (fun ls hl => ?_)
          have hl : lv_has ls 9 [(5, .int 24980), (4, .int 0), (0, .ref mo), (1, .int nn), (2, .int kk), (3, .int ww)] := hl
          refine lv_iload (pc := 62) hx hb dM_inBaseline_62 (lv_at hl 1 rfl) ?_
          refine lv_if_eq (pc := 64) (tgt := 109) hx hb dM_inBaseline_64 rfl (fun h33 => ?_) (fun h33 => absurd h33 (by decide))
          refine lv_iconst (pc := 109) (v := 0) hx hb dM_inBaseline_109 (by decide) ?_
          refine lv_istore (pc := 110) hx hb dM_inBaseline_110 hl (by decide) rfl (fun ls hl => ?_)
          have hl : lv_has ls 9 [(6, .int 0), (5, .int 24980), (4, .int 0), (0, .ref mo), (1, .int nn), (2, .int kk), (3, .int ww)] := hl
          refine lv_aload_n (pc := 112) hx hb dM_inBaseline_112 rfl (lv_at hl 3 rfl) ?_
          refine lv_iload (pc := 113) hx hb dM_inBaseline_113 (lv_at hl 0 rfl) ?_
          refine lv_if_eq (pc := 115) (tgt := 122) hx hb dM_inBaseline_115 rfl (fun h34 => ?_) (fun h34 => absurd h34 (by decide))
          refine lv_iconst (pc := 122) (v := 1) hx hb dM_inBaseline_122 (by decide) ?_
          refine va_put (D := (dC, dI)) (cl := kCl) (ci := 4) (v := .int 1) (ty := .int) (C := RM) (T := TM) (N := 11) (pc := 123) hx hb hts inM tyM tyM_ok nmM hown hK hP hD hS 0 rfl rfl 0 (by decide) (hts _ wd_152) (fun _ h9 => h9) rfl (by decide +kernel) rfl rfl (Nat.le_of_ble_eq_true rfl) dM_inBaseline_123 (fun H locs hP hD hS => ?_)
          have hP : va_P (dC, dI) kCl [(mo, .inr (4, [.int 1, .int mr, .ref nw, .ref kp, .int 0, .int (-1), .ref mk, .ref co, .int 0, .int 0, .ref se])), (nw, .inl (cN, 25240, .inl now0))] H := hP
          have hD : va_D A [(mo, .inr (4, [.int 1, .int mr, .ref nw, .ref kp, .int 0, .int (-1), .ref mk, .ref co, .int 0, .int 0, .ref se])), (nw, .inl (cN, 25240, .inl now0))] := hD
          refine lv_iload (pc := 126) hx hb dM_inBaseline_126 (lv_at hl 0 rfl) ?_
          refine lv_if_ne (pc := 128) (tgt := 133) hx hb dM_inBaseline_128 rfl (fun h35 => absurd h35 (by decide)) (fun h35 => ?_)
          refine lv_iconst (pc := 131) (v := 0) hx hb dM_inBaseline_131 (by decide) ?_
          have hP9 := hP.sub (ws' := [(mo, .inr (4, [.int 1, .int mr, .ref nw, .ref kp, .int 0, .int (-1), .ref mk, .ref co, .int 0, .int 0, .ref se]))]) [0] rfl
          have hD9 := hD.sub (ws' := [(mo, .inr (4, [.int 1, .int mr, .ref nw, .ref kp, .int 0, .int (-1), .ref mk, .ref co, .int 0, .int 0, .ref se]))]) [0] (by decide) rfl
          have hK9 := hK.sub (tys' := []) [] rfl
          exact W.iret (pc := 132) hx hb hr (fun t ht hW => ⟨⟨_, (), rfl, rfl, by rw [ht]; exact hP9, va_K.moved hW.alike hK9, hD9⟩, hS.F ht⟩) hS.2.2 dM_inBaseline_132
set_option maxHeartbeats 4000000 in
set_option maxRecDepth 100000 in
theorem m_difference (l : Launch) (dC : Nat → ClassId) (dI : Nat → Nat → Nat) (sz : Nat) (mo : Nat) (nw : Nat) (kp : Nat) (mk : Nat) (co : Nat) (se : Nat) (th : Int32) (mr : Int32) (cN : ClassId) (dd : Int32) (vv : Int32) (ov : Int32) (kk : Int32) : Met l yM_difference (.code yM_difference cM_difference 12 (some .int) :: aw) ({ frames := 2, cells := 0, slots := 0, locals := 43 }) (pW (dC, dI) sz [(mo, .inr (4, [.int th, .int mr, .ref nw, .ref kp, .int 0, .int (-1), .ref mk, .ref co, .int 0, .int 0, .ref se])), (nw, .inl (cN, 25240, .inl now0))] [(cN, .int)] [.ref mo, .int dd, .int vv, .int ov, .int kk]) (va_Qi (fun r (_ : Unit) => r = 0) (fun _ t => wW (dC, dI) (va_A [(mo, .inr (4, [.int th, .int mr, .ref nw, .ref kp, .int 0, .int (-1), .ref mk, .ref co, .int 0, .int 0, .ref se])), (nw, .inl (cN, 25240, .inl now0))] sz) [(mo, .inr (4, [.int 1, .int mr, .ref nw, .ref kp, .int 0, .int (-1), .ref mk, .ref co, .int 0, .int 0, .ref se]))] [] t) (va_A [(mo, .inr (4, [.int th, .int mr, .ref nw, .ref kp, .int 0, .int (-1), .ref mk, .ref co, .int 0, .int 0, .ref se])), (nw, .inl (cN, 25240, .inl now0))] sz)) 0 0 (va_A [(mo, .inr (4, [.int th, .int mr, .ref nw, .ref kp, .int 0, .int (-1), .ref mk, .ref co, .int 0, .int 0, .ref se])), (nw, .inl (cN, 25240, .inl now0))] sz) := by
  refine Met.ofW (cc := cM_difference) (maxL := 12) (ret := (some .int)) (by decide) rfl ?_
  intro p e s m args below meth c s₁ B hml hv
  obtain ⟨rfl, hv⟩ := hv
  have hx := B.exec
  have hb := B.bytes
  have hr := B.returns
  have hts : ∀ w ∈ aw, w.before _ s = true := fun w h => atoms_spec (ws := (.code yM_difference cM_difference 12 (some .int) :: aw)) B.pre w (List.mem_cons_of_mem _ h)
  have hown : s.vm.findClass RM = some m.cls := findClass_of_methodNamed B.named
  have hlocks := B.notSynchronized
  obtain ⟨hsz, hP, hK, hD0⟩ := hv
  subst hsz
  have hD := hD0.self (sz := s.heap.size)
  generalize hAe : va_A [(mo, .inr (4, [.int th, .int mr, .ref nw, .ref kp, .int 0, .int (-1), .ref mk, .ref co, .int 0, .int 0, .ref se])), (nw, .inl (cN, 25240, .inl now0))] s.heap.size = A at hD ⊢
  have hA : ∀ q : Nat, s.heap.size ≤ q → A q := fun q h => by rw [← hAe]; exact Or.inr h
  obtain ⟨H, hH⟩ : ∃ H, H = s.heap := ⟨_, rfl⟩
  have hS : va_S A s.heap H [] := by rw [hH]; exact va_S.rf
  rw [← hH] at hP ⊢
  have hP : va_P (dC, dI) kCl [(mo, .inr (4, [.int th, .int mr, .ref nw, .ref kp, .int 0, .int (-1), .ref mk, .ref co, .int 0, .int 0, .ref se])), (nw, .inl (cN, 25240, .inl now0))] H := hP
  have hl := lv_entry ([.ref mo, .int dd, .int vv, .int ov, .int kk]) (n := 12) (Nat.le_of_ble_eq_true rfl)
  rw [lg_entry_eq]
  generalize (lg_sl ([.ref mo, .int dd, .int vv, .int ov, .int kk]) ++ List.replicate (12 - (lg_sl ([.ref mo, .int dd, .int vv, .int ov, .int kk])).length) Slot.unset).toArray = ls at hl ⊢
  have hl : lv_has ls 12 [(0, .ref mo), (1, .int dd), (2, .int vv), (3, .int ov), (4, .int kk)] := hl
  refine lv_aload_n (pc := 0) hx hb dM_difference_0 rfl (lv_at hl 0 rfl) ?_
  refine lv_iload_n (pc := 1) hx hb dM_difference_1 rfl (lv_at hl 1 rfl) ?_
  refine lv_iload_n (pc := 2) hx hb dM_difference_2 rfl (lv_at hl 2 rfl) ?_
  refine vp_callSi (pc := 3) (W.runV (As := [.int dd, .int vv]) (rest := []) ⟨hx, hb, hml, hown, hts⟩ (m_isRevision l dC dI mo nw kp mk co se th mr cN dd vv) (cwV 2 hts (gV wd_173 wd_174 wd_175 wd_157 wd_172) rfl rfl rfl (by decide +kernel) ⟨Nat.le_of_ble_eq_true rfl, Nat.le_of_ble_eq_true rfl⟩) ⟨pR_blind, va_recv (q := (RM, TM, 11)) (q0 := 0) (ci := 4) hK hP rfl rfl, pR_pre (hP.sub (ws' := [(mo, .inr (4, [.int th, .int mr, .ref nw, .ref kp, .int 0, .int (-1), .ref mk, .ref co, .int 0, .int 0, .ref se])), (nw, .inl (cN, 25240, .inl now0))]) [0, 1] rfl) (hK.sub (tys' := [(cN, .int)]) [0] rfl)⟩ rfl rfl hl.1 rfl (lv_room (Nat.le_of_ble_eq_true rfl)) dM_difference_3 ⟨Nat.le_of_ble_eq_true rfl, Nat.le_of_ble_eq_true rfl⟩) (fun r1 hr2 => ?_)
  obtain rfl : r1 = 0 := hr2
  refine lv_if_eq (pc := 6) (tgt := 22) hx hb dM_difference_6 rfl (fun h3 => ?_) (fun h3 => absurd h3 (by decide))
  refine lv_iconst (pc := 22) (v := 0) hx hb dM_difference_22 (by decide) ?_
  refine lv_istore (pc := 23) hx hb dM_difference_23 hl (by decide) rfl (fun ls hl => ?_)
  have hl : lv_has ls 12 [(5, .int 0), (0, .ref mo), (1, .int dd), (2, .int vv), (3, .int ov), (4, .int kk)] := hl
  refine lv_aload_n (pc := 25) hx hb dM_difference_25 rfl (lv_at hl 1 rfl) ?_
  refine lv_iload (pc := 26) hx hb dM_difference_26 (lv_at hl 0 rfl) ?_
  refine lv_if_eq (pc := 28) (tgt := 35) hx hb dM_difference_28 rfl (fun h4 => ?_) (fun h4 => absurd h4 (by decide))
  refine lv_iconst (pc := 35) (v := 1) hx hb dM_difference_35 (by decide) ?_
  refine va_put (D := (dC, dI)) (cl := kCl) (ci := 4) (v := .int 1) (ty := .int) (C := RM) (T := TM) (N := 11) (pc := 36) hx hb hts inM tyM tyM_ok nmM hown hK hP hD hS 0 rfl rfl 0 (by decide) (hts _ wd_152) (fun _ h9 => h9) rfl (by decide +kernel) rfl rfl (Nat.le_of_ble_eq_true rfl) dM_difference_36 (fun H locs hP hD hS => ?_)
  have hP : va_P (dC, dI) kCl [(mo, .inr (4, [.int 1, .int mr, .ref nw, .ref kp, .int 0, .int (-1), .ref mk, .ref co, .int 0, .int 0, .ref se])), (nw, .inl (cN, 25240, .inl now0))] H := hP
  have hD : va_D A [(mo, .inr (4, [.int 1, .int mr, .ref nw, .ref kp, .int 0, .int (-1), .ref mk, .ref co, .int 0, .int 0, .ref se])), (nw, .inl (cN, 25240, .inl now0))] := hD
  refine lv_iload (pc := 39) hx hb dM_difference_39 (lv_at hl 0 rfl) ?_
  refine lv_if_ne (pc := 41) (tgt := 46) hx hb dM_difference_41 rfl (fun h5 => absurd h5 (by decide)) (fun h5 => ?_)
  refine lv_iconst (pc := 44) (v := 0) hx hb dM_difference_44 (by decide) ?_
  have hP9 := hP.sub (ws' := [(mo, .inr (4, [.int 1, .int mr, .ref nw, .ref kp, .int 0, .int (-1), .ref mk, .ref co, .int 0, .int 0, .ref se]))]) [0] rfl
  have hD9 := hD.sub (ws' := [(mo, .inr (4, [.int 1, .int mr, .ref nw, .ref kp, .int 0, .int (-1), .ref mk, .ref co, .int 0, .int 0, .ref se]))]) [0] (by decide) rfl
  have hK9 := hK.sub (tys' := []) [] rfl
  exact W.iret (pc := 45) hx hb hr (fun t ht hW => ⟨⟨_, (), rfl, rfl, by rw [ht]; exact hP9, va_K.moved hW.alike hK9, hD9⟩, hS.F ht⟩) hS.2.2 dM_difference_45
set_option maxHeartbeats 4000000 in
set_option maxRecDepth 100000 in
theorem m_user (l : Launch) (dC : Nat → ClassId) (dI : Nat → Nat → Nat) (sz : Nat) (mo : Nat) (nw : Nat) (kp : Nat) (mk : Nat) (co : Nat) (se : Nat) (th : Int32) (mr : Int32) (cN : ClassId) (dd : Int32) (al : Int32) (kk : Int32) : Met l yM_user (.code yM_user cM_user 9 (some .int) :: aw) ({ frames := 1, cells := 0, slots := 0, locals := 21 }) (pW (dC, dI) sz [(mo, .inr (4, [.int th, .int mr, .ref nw, .ref kp, .int 0, .int (-1), .ref mk, .ref co, .int 0, .int 0, .ref se])), (nw, .inl (cN, 25240, .inl now0))] [(cN, .int)] [.ref mo, .int dd, .int al, .int kk]) (va_Qi (fun r (_ : Unit) => r = (-1)) (fun _ t => wW (dC, dI) (va_A [(mo, .inr (4, [.int th, .int mr, .ref nw, .ref kp, .int 0, .int (-1), .ref mk, .ref co, .int 0, .int 0, .ref se])), (nw, .inl (cN, 25240, .inl now0))] sz) [(mo, .inr (4, [.int 0, .int mr, .ref nw, .ref kp, .int 0, .int (-1), .ref mk, .ref co, .int 0, .int 0, .ref se]))] [] t) (va_A [(mo, .inr (4, [.int th, .int mr, .ref nw, .ref kp, .int 0, .int (-1), .ref mk, .ref co, .int 0, .int 0, .ref se])), (nw, .inl (cN, 25240, .inl now0))] sz)) 0 0 (va_A [(mo, .inr (4, [.int th, .int mr, .ref nw, .ref kp, .int 0, .int (-1), .ref mk, .ref co, .int 0, .int 0, .ref se])), (nw, .inl (cN, 25240, .inl now0))] sz) := by
  refine Met.ofW (cc := cM_user) (maxL := 9) (ret := (some .int)) (by decide) rfl ?_
  intro p e s m args below meth c s₁ B hml hv
  obtain ⟨rfl, hv⟩ := hv
  have hx := B.exec
  have hb := B.bytes
  have hr := B.returns
  have hts : ∀ w ∈ aw, w.before _ s = true := fun w h => atoms_spec (ws := (.code yM_user cM_user 9 (some .int) :: aw)) B.pre w (List.mem_cons_of_mem _ h)
  have hown : s.vm.findClass RM = some m.cls := findClass_of_methodNamed B.named
  have hlocks := B.notSynchronized
  obtain ⟨hsz, hP, hK, hD0⟩ := hv
  subst hsz
  have hD := hD0.self (sz := s.heap.size)
  generalize hAe : va_A [(mo, .inr (4, [.int th, .int mr, .ref nw, .ref kp, .int 0, .int (-1), .ref mk, .ref co, .int 0, .int 0, .ref se])), (nw, .inl (cN, 25240, .inl now0))] s.heap.size = A at hD ⊢
  have hA : ∀ q : Nat, s.heap.size ≤ q → A q := fun q h => by rw [← hAe]; exact Or.inr h
  obtain ⟨H, hH⟩ : ∃ H, H = s.heap := ⟨_, rfl⟩
  have hS : va_S A s.heap H [] := by rw [hH]; exact va_S.rf
  rw [← hH] at hP ⊢
  have hP : va_P (dC, dI) kCl [(mo, .inr (4, [.int th, .int mr, .ref nw, .ref kp, .int 0, .int (-1), .ref mk, .ref co, .int 0, .int 0, .ref se])), (nw, .inl (cN, 25240, .inl now0))] H := hP
  have hl := lv_entry ([.ref mo, .int dd, .int al, .int kk]) (n := 9) (Nat.le_of_ble_eq_true rfl)
  rw [lg_entry_eq]
  generalize (lg_sl ([.ref mo, .int dd, .int al, .int kk]) ++ List.replicate (9 - (lg_sl ([.ref mo, .int dd, .int al, .int kk])).length) Slot.unset).toArray = ls at hl ⊢
  have hl : lv_has ls 9 [(0, .ref mo), (1, .int dd), (2, .int al), (3, .int kk)] := hl
  refine lv_aload_n (pc := 0) hx hb dM_user_0 rfl (lv_at hl 0 rfl) ?_
  refine lv_iconst (pc := 1) (v := 0) hx hb dM_user_1 (by decide) ?_
  refine va_put (D := (dC, dI)) (cl := kCl) (ci := 4) (v := .int 0) (ty := .int) (C := RM) (T := TM) (N := 11) (pc := 2) hx hb hts inM tyM tyM_ok nmM hown hK hP hD hS 0 rfl rfl 0 (by decide) (hts _ wd_152) (fun _ h9 => h9) rfl (by decide +kernel) rfl rfl (Nat.le_of_ble_eq_true rfl) dM_user_2 (fun H locs hP hD hS => ?_)
  have hP : va_P (dC, dI) kCl [(mo, .inr (4, [.int 0, .int mr, .ref nw, .ref kp, .int 0, .int (-1), .ref mk, .ref co, .int 0, .int 0, .ref se])), (nw, .inl (cN, 25240, .inl now0))] H := hP
  have hD : va_D A [(mo, .inr (4, [.int 0, .int mr, .ref nw, .ref kp, .int 0, .int (-1), .ref mk, .ref co, .int 0, .int 0, .ref se])), (nw, .inl (cN, 25240, .inl now0))] := hD
  refine lv_aload_n (pc := 5) hx hb dM_user_5 rfl (lv_at hl 0 rfl) ?_
  refine lv_iload_n (pc := 6) hx hb dM_user_6 rfl (lv_at hl 1 rfl) ?_
  refine vp_callSi (pc := 7) (W.runV (As := [.int dd]) (rest := []) ⟨hx, hb, hml, hown, hts⟩ (m_isDrawing l dC dI mo nw kp mk co se 0 mr cN dd) (cwV 1 hts (gV wd_160 wd_161 wd_162 wd_157 wd_159) rfl rfl rfl (by decide +kernel) ⟨Nat.le_of_ble_eq_true rfl, Nat.le_of_ble_eq_true rfl⟩) ⟨pR_blind, va_recv (q := (RM, TM, 11)) (q0 := 0) (ci := 4) hK hP rfl rfl, pR_pre (hP.sub (ws' := [(mo, .inr (4, [.int 0, .int mr, .ref nw, .ref kp, .int 0, .int (-1), .ref mk, .ref co, .int 0, .int 0, .ref se])), (nw, .inl (cN, 25240, .inl now0))]) [0, 1] rfl) (hK.sub (tys' := [(cN, .int)]) [0] rfl)⟩ rfl rfl hl.1 rfl (lv_room (Nat.le_of_ble_eq_true rfl)) dM_user_7 ⟨Nat.le_of_ble_eq_true rfl, Nat.le_of_ble_eq_true rfl⟩) (fun r1 hr2 => ?_)
  obtain rfl : r1 = 0 := hr2
  refine lv_if_eq (pc := 10) (tgt := 17) hx hb dM_user_10 rfl (fun h3 => ?_) (fun h3 => absurd h3 (by decide))
  refine lv_iconst (pc := 17) (v := (-1)) hx hb dM_user_17 (by decide) ?_
  have hP9 := hP.sub (ws' := [(mo, .inr (4, [.int 0, .int mr, .ref nw, .ref kp, .int 0, .int (-1), .ref mk, .ref co, .int 0, .int 0, .ref se]))]) [0] rfl
  have hD9 := hD.sub (ws' := [(mo, .inr (4, [.int 0, .int mr, .ref nw, .ref kp, .int 0, .int (-1), .ref mk, .ref co, .int 0, .int 0, .ref se]))]) [0] (by decide) rfl
  have hK9 := hK.sub (tys' := []) [] rfl
  exact W.iret (pc := 18) hx hb hr (fun t ht hW => ⟨⟨_, (), rfl, rfl, by rw [ht]; exact hP9, va_K.moved hW.alike hK9, hD9⟩, hS.F ht⟩) hS.2.2 dM_user_18
set_option maxHeartbeats 4000000 in
set_option maxRecDepth 100000 in
theorem m_baseline (l : Launch) (dC : Nat → ClassId) (dI : Nat → Nat → Nat) (sz : Nat) (mo : Nat) (nw : Nat) (kp : Nat) (mk : Nat) (co : Nat) (se : Nat) (th : Int32) (mr : Int32) (cN : ClassId) (nn : Int32) (dd : Int32) : Met l yM_baseline (.code yM_baseline cM_baseline 8 (some .int) :: aw) ({ frames := 1, cells := 0, slots := 0, locals := 23 }) (pW (dC, dI) sz [(mo, .inr (4, [.int th, .int mr, .ref nw, .ref kp, .int 0, .int (-1), .ref mk, .ref co, .int 0, .int 0, .ref se])), (nw, .inl (cN, 25240, .inl now0))] [(cN, .int)] [.ref mo, .int nn, .int dd]) (va_Qi (fun r (_ : Unit) => r = (-1)) (fun _ t => wW (dC, dI) (va_A [(mo, .inr (4, [.int th, .int mr, .ref nw, .ref kp, .int 0, .int (-1), .ref mk, .ref co, .int 0, .int 0, .ref se])), (nw, .inl (cN, 25240, .inl now0))] sz) [(mo, .inr (4, [.int 0, .int 7, .ref nw, .ref kp, .int 0, .int (-1), .ref mk, .ref co, .int 0, .int 0, .ref se]))] [] t) (va_A [(mo, .inr (4, [.int th, .int mr, .ref nw, .ref kp, .int 0, .int (-1), .ref mk, .ref co, .int 0, .int 0, .ref se])), (nw, .inl (cN, 25240, .inl now0))] sz)) 0 0 (va_A [(mo, .inr (4, [.int th, .int mr, .ref nw, .ref kp, .int 0, .int (-1), .ref mk, .ref co, .int 0, .int 0, .ref se])), (nw, .inl (cN, 25240, .inl now0))] sz) := by
  refine Met.ofW (cc := cM_baseline) (maxL := 8) (ret := (some .int)) (by decide) rfl ?_
  intro p e s m args below meth c s₁ B hml hv
  obtain ⟨rfl, hv⟩ := hv
  have hx := B.exec
  have hb := B.bytes
  have hr := B.returns
  have hts : ∀ w ∈ aw, w.before _ s = true := fun w h => atoms_spec (ws := (.code yM_baseline cM_baseline 8 (some .int) :: aw)) B.pre w (List.mem_cons_of_mem _ h)
  have hown : s.vm.findClass RM = some m.cls := findClass_of_methodNamed B.named
  have hlocks := B.notSynchronized
  obtain ⟨hsz, hP, hK, hD0⟩ := hv
  subst hsz
  have hD := hD0.self (sz := s.heap.size)
  generalize hAe : va_A [(mo, .inr (4, [.int th, .int mr, .ref nw, .ref kp, .int 0, .int (-1), .ref mk, .ref co, .int 0, .int 0, .ref se])), (nw, .inl (cN, 25240, .inl now0))] s.heap.size = A at hD ⊢
  have hA : ∀ q : Nat, s.heap.size ≤ q → A q := fun q h => by rw [← hAe]; exact Or.inr h
  obtain ⟨H, hH⟩ : ∃ H, H = s.heap := ⟨_, rfl⟩
  have hS : va_S A s.heap H [] := by rw [hH]; exact va_S.rf
  rw [← hH] at hP ⊢
  have hP : va_P (dC, dI) kCl [(mo, .inr (4, [.int th, .int mr, .ref nw, .ref kp, .int 0, .int (-1), .ref mk, .ref co, .int 0, .int 0, .ref se])), (nw, .inl (cN, 25240, .inl now0))] H := hP
  have hl := lv_entry ([.ref mo, .int nn, .int dd]) (n := 8) (Nat.le_of_ble_eq_true rfl)
  rw [lg_entry_eq]
  generalize (lg_sl ([.ref mo, .int nn, .int dd]) ++ List.replicate (8 - (lg_sl ([.ref mo, .int nn, .int dd])).length) Slot.unset).toArray = ls at hl ⊢
  have hl : lv_has ls 8 [(0, .ref mo), (1, .int nn), (2, .int dd)] := hl
  refine lv_iload_n (pc := 0) hx hb dM_baseline_0 rfl (lv_at hl 1 rfl) ?_
  refine lv_if_lt (pc := 1) (tgt := 14) hx hb dM_baseline_1 rfl (fun h1 => ?_) (fun h1 => ?_)
  · refine lv_iconst (pc := 14) (v := 0) hx hb dM_baseline_14 (by decide) ?_
    refine lv_istore_n (pc := 15) hx hb dM_baseline_15 rfl hl (by decide) rfl (fun ls hl => ?_)
    have hl : lv_has ls 8 [(3, .int 0), (0, .ref mo), (1, .int nn), (2, .int dd)] := hl
    refine lv_iload_n (pc := 16) hx hb dM_baseline_16 rfl (lv_at hl 0 rfl) ?_
    refine lv_if_eq (pc := 17) (tgt := 28) hx hb dM_baseline_17 rfl (fun h2 => ?_) (fun h2 => absurd h2 (by decide))
    refine lv_iconst (pc := 28) (v := 1) hx hb dM_baseline_28 (by decide) ?_
    refine lv_goto (pc := 29) (tgt := 33) hx hb dM_baseline_29 rfl ?_
    refine lv_bipush (pc := 33) (v := 7) hx hb dM_baseline_33 (by decide) ?_
    refine lv_iconst (pc := 35) (v := 0) hx hb dM_baseline_35 (by decide) ?_
    refine vp_callSi (pc := 36) (W.runS (As := [.int 1, .int 7, .int 0]) (rest := []) ⟨hx, hb, hml, hown, hts⟩ (m_least l dC dI 1 7 0) (cwS 3 hts (gS wd_170 wd_171 wd_157 wd_169) rfl rfl rfl (by decide +kernel) ⟨Nat.le_of_ble_eq_true rfl, Nat.le_of_ble_eq_true rfl⟩) ⟨pR_blind, pR_pre (hP.sub (ws' := []) [] rfl) (hK.sub (tys' := []) [] rfl)⟩ rfl rfl hl.1 rfl (lv_room (Nat.le_of_ble_eq_true rfl)) dM_baseline_36 ⟨Nat.le_of_ble_eq_true rfl, Nat.le_of_ble_eq_true rfl⟩) (fun r3 hr4 => ?_)
    obtain rfl : r3 = 7 := Eq.trans (hr4) (by decide)
    refine lv_istore (pc := 39) hx hb dM_baseline_39 hl (by decide) rfl (fun ls hl => ?_)
    have hl : lv_has ls 8 [(4, .int 7), (3, .int 0), (0, .ref mo), (1, .int nn), (2, .int dd)] := hl
    refine lv_iload_n (pc := 41) hx hb dM_baseline_41 rfl (lv_at hl 1 rfl) ?_
    refine lv_if_eq (pc := 42) (tgt := 70) hx hb dM_baseline_42 rfl (fun h5 => ?_) (fun h5 => absurd h5 (by decide))
    refine lv_iconst (pc := 70) (v := 0) hx hb dM_baseline_70 (by decide) ?_
    refine lv_iconst (pc := 71) (v := 2) hx hb dM_baseline_71 (by decide) ?_
    refine lv_iload (pc := 72) hx hb dM_baseline_72 (lv_at hl 0 rfl) ?_
    refine vp_callSi (pc := 74) (W.runS (As := [.int 0, .int 2, .int 7]) (rest := []) ⟨hx, hb, hml, hown, hts⟩ (m_least l dC dI 0 2 7) (cwS 3 hts (gS wd_170 wd_171 wd_157 wd_169) rfl rfl rfl (by decide +kernel) ⟨Nat.le_of_ble_eq_true rfl, Nat.le_of_ble_eq_true rfl⟩) ⟨pR_blind, pR_pre (hP.sub (ws' := []) [] rfl) (hK.sub (tys' := []) [] rfl)⟩ rfl rfl hl.1 rfl (lv_room (Nat.le_of_ble_eq_true rfl)) dM_baseline_74 ⟨Nat.le_of_ble_eq_true rfl, Nat.le_of_ble_eq_true rfl⟩) (fun r6 hr7 => ?_)
    obtain rfl : r6 = 7 := Eq.trans (hr7) (by decide)
    refine lv_istore (pc := 77) hx hb dM_baseline_77 hl (by decide) rfl (fun ls hl => ?_)
    have hl : lv_has ls 8 [(4, .int 7), (3, .int 0), (0, .ref mo), (1, .int nn), (2, .int dd)] := hl
    refine lv_iconst (pc := 79) (v := 0) hx hb dM_baseline_79 (by decide) ?_
    refine lv_istore (pc := 80) hx hb dM_baseline_80 hl (by decide) rfl (fun ls hl => ?_)
    have hl : lv_has ls 8 [(5, .int 0), (4, .int 7), (3, .int 0), (0, .ref mo), (1, .int nn), (2, .int dd)] := hl
    refine lv_aload_n (pc := 82) hx hb dM_baseline_82 rfl (lv_at hl 3 rfl) ?_
    refine lv_iload_n (pc := 83) hx hb dM_baseline_83 rfl (lv_at hl 5 rfl) ?_
    refine vp_callSi (pc := 84) (W.runV (As := [.int dd]) (rest := []) ⟨hx, hb, hml, hown, hts⟩ (m_isDrawing l dC dI mo nw kp mk co se th mr cN dd) (cwV 1 hts (gV wd_160 wd_161 wd_162 wd_157 wd_159) rfl rfl rfl (by decide +kernel) ⟨Nat.le_of_ble_eq_true rfl, Nat.le_of_ble_eq_true rfl⟩) ⟨pR_blind, va_recv (q := (RM, TM, 11)) (q0 := 0) (ci := 4) hK hP rfl rfl, pR_pre (hP.sub (ws' := [(mo, .inr (4, [.int th, .int mr, .ref nw, .ref kp, .int 0, .int (-1), .ref mk, .ref co, .int 0, .int 0, .ref se])), (nw, .inl (cN, 25240, .inl now0))]) [0, 1] rfl) (hK.sub (tys' := [(cN, .int)]) [0] rfl)⟩ rfl rfl hl.1 rfl (lv_room (Nat.le_of_ble_eq_true rfl)) dM_baseline_84 ⟨Nat.le_of_ble_eq_true rfl, Nat.le_of_ble_eq_true rfl⟩) (fun r8 hr9 => ?_)
    obtain rfl : r8 = 0 := hr9
    refine lv_if_eq (pc := 87) (tgt := 189) hx hb dM_baseline_87 rfl (fun h10 => ?_) (fun h10 => absurd h10 (by decide))
    refine lv_aload_n (pc := 189) hx hb dM_baseline_189 rfl (lv_at hl 3 rfl) ?_
    refine lv_iload (pc := 190) hx hb dM_baseline_190 (lv_at hl 1 rfl) ?_
    refine lv_iconst (pc := 192) (v := 1) hx hb dM_baseline_192 (by decide) ?_
    refine lv_iload (pc := 193) hx hb dM_baseline_193 (lv_at hl 0 rfl) ?_
    refine vp_callSi (pc := 195) (W.runS (As := [.int 0]) (rest := [.int 1, .int 7, .ref mo]) ⟨hx, hb, hml, hown, hts⟩ (m_parts l dC dI) (cwS 1 hts (gS wd_201 wd_202 wd_157 wd_200) rfl rfl rfl (by decide +kernel) ⟨Nat.le_of_ble_eq_true rfl, Nat.le_of_ble_eq_true rfl⟩) ⟨pR_blind, pR_pre (hP.sub (ws' := []) [] rfl) (hK.sub (tys' := []) [] rfl)⟩ rfl rfl hl.1 rfl (lv_room (Nat.le_of_ble_eq_true rfl)) dM_baseline_195 ⟨Nat.le_of_ble_eq_true rfl, Nat.le_of_ble_eq_true rfl⟩) (fun r11 hr12 => ?_)
    obtain rfl : r11 = 0 := hr12
    refine lv_iadd (pc := 198) hx hb dM_baseline_198 ?_
    refine lv_topi (fun z13 hz14 => ?_)
    obtain rfl : z13 = 1 := hz14.trans (by decide)
    have hPc := hP.sub (ws' := [(mo, .inr (4, [.int th, .int mr, .ref nw, .ref kp, .int 0, .int (-1), .ref mk, .ref co, .int 0, .int 0, .ref se])), (nw, .inl (cN, 25240, .inl now0))]) [0, 1] rfl
    have hDc := hD.sub (ws' := [(mo, .inr (4, [.int th, .int mr, .ref nw, .ref kp, .int 0, .int (-1), .ref mk, .ref co, .int 0, .int 0, .ref se])), (nw, .inl (cN, 25240, .inl now0))]) [0, 1] (by decide) rfl
    have hKc := hK.sub (tys' := [(cN, .int)]) [0] rfl
    have hFc := va_free (wc := [(mo, .inr (4, [.int th, .int mr, .ref nw, .ref kp, .int 0, .int (-1), .ref mk, .ref co, .int 0, .int 0, .ref se])), (nw, .inl (cN, 25240, .inl now0))]) hD hS hA [0, 1] rfl
    refine va_calli (pc := 199) (va_runV (As := [.int 7, .int 1]) (rest := []) ⟨hx, hb, hml, hown, hts⟩ (m_may l dC dI H.size mo nw kp mk co se th mr cN 7 1 (by decide) (by decide)) (cwV 2 hts (gV wd_181 wd_182 wd_183 wd_157 wd_180) rfl rfl rfl (by decide +kernel) ⟨Nat.le_of_ble_eq_true rfl, Nat.le_of_ble_eq_true rfl⟩) ⟨pW_blind, va_recv (q := (RM, TM, 11)) (q0 := 0) (ci := 4) hK hP rfl rfl, pW_pre hPc hKc hDc⟩ rfl rfl hl.1 rfl (lv_room (Nat.le_of_ble_eq_true rfl)) dM_baseline_199 ⟨Nat.le_of_ble_eq_true rfl, Nat.le_of_ble_eq_true rfl⟩) hS (fun q _ h => hFc q h) hFc (fun r15 u t H1 locs ht hvm hr16 hB hz1 hk1 hS => ?_)
    obtain ⟨hP1, hK1, hD1⟩ := hB
    rw [ht] at hP1
    have hK1 := va_K.moved hvm.symm hK1
    obtain ⟨hP, hD⟩ := va_join (wr := []) (w1 := [(mo, .inr (4, [.int 0, .int 7, .ref nw, .ref kp, .int 0, .int (-1), .ref mk, .ref co, .int 0, .int 0, .ref se])), (nw, .inl (cN, 25240, .inl now0))]) hP hD [0, 1] [] rfl rfl (by decide) (by decide) hk1 hFc hP1 hD1
    generalize H1 = H at hP hS ⊢
    have hP : va_P (dC, dI) kCl [(mo, .inr (4, [.int 0, .int 7, .ref nw, .ref kp, .int 0, .int (-1), .ref mk, .ref co, .int 0, .int 0, .ref se])), (nw, .inl (cN, 25240, .inl now0))] H := hP
    have hD : va_D A [(mo, .inr (4, [.int 0, .int 7, .ref nw, .ref kp, .int 0, .int (-1), .ref mk, .ref co, .int 0, .int 0, .ref se])), (nw, .inl (cN, 25240, .inl now0))] := hD
    refine W.widen (k := 0) (n := 0) (Nat.le_of_ble_eq_true rfl) (Nat.le_of_ble_eq_true rfl) ?_
    obtain rfl : r15 = 0 := hr16
    refine lv_if_ne (pc := 202) (tgt := 218) hx hb dM_baseline_202 rfl (fun h18 => absurd h18 (by decide)) (fun h18 => ?_)
    refine lv_aload_n (pc := 205) hx hb dM_baseline_205 rfl (lv_at hl 3 rfl) ?_
    refine va_get (D := (dC, dI)) (cl := kCl) (C := RM) (T := TM) (N := 11) (pc := 206) hx hb hts inM hown hK hP 0 rfl rfl 0 (by decide) (hts _ wd_152) (fun _ h9 => h9) rfl dM_baseline_206 ?_
    refine lv_if_le (pc := 209) (tgt := 216) hx hb dM_baseline_209 rfl (fun h19 => ?_) (fun h19 => absurd h19 (by decide))
    refine lv_iconst (pc := 216) (v := (-1)) hx hb dM_baseline_216 (by decide) ?_
    have hP9 := hP.sub (ws' := [(mo, .inr (4, [.int 0, .int 7, .ref nw, .ref kp, .int 0, .int (-1), .ref mk, .ref co, .int 0, .int 0, .ref se]))]) [0] rfl
    have hD9 := hD.sub (ws' := [(mo, .inr (4, [.int 0, .int 7, .ref nw, .ref kp, .int 0, .int (-1), .ref mk, .ref co, .int 0, .int 0, .ref se]))]) [0] (by decide) rfl
    have hK9 := hK.sub (tys' := []) [] rfl
    exact W.iret (pc := 217) hx hb hr (fun t ht hW => ⟨⟨_, (), rfl, rfl, by rw [ht]; exact hP9, va_K.moved hW.alike hK9, hD9⟩, hS.F ht⟩) hS.2.2 dM_baseline_217
  · refine lv_iload_n (pc := 4) hx hb dM_baseline_4 rfl (lv_at hl 1 rfl) ?_
    refine lv_bipush (pc := 5) (v := 10) hx hb dM_baseline_5 (by decide) ?_
    refine lv_icmp_ge (pc := 7) (tgt := 14) hx hb dM_baseline_7 rfl (fun h20 => ?_) (fun h20 => ?_)
    · refine lv_iconst (pc := 14) (v := 0) hx hb dM_baseline_14 (by decide) ?_
      refine lv_istore_n (pc := 15) hx hb dM_baseline_15 rfl hl (by decide) rfl (fun ls hl => ?_)
      have hl : lv_has ls 8 [(3, .int 0), (0, .ref mo), (1, .int nn), (2, .int dd)] := hl
      refine lv_iload_n (pc := 16) hx hb dM_baseline_16 rfl (lv_at hl 0 rfl) ?_
      refine lv_if_eq (pc := 17) (tgt := 28) hx hb dM_baseline_17 rfl (fun h21 => ?_) (fun h21 => absurd h21 (by decide))
      refine lv_iconst (pc := 28) (v := 1) hx hb dM_baseline_28 (by decide) ?_
      refine lv_goto (pc := 29) (tgt := 33) hx hb dM_baseline_29 rfl ?_
      refine lv_bipush (pc := 33) (v := 7) hx hb dM_baseline_33 (by decide) ?_
      refine lv_iconst (pc := 35) (v := 0) hx hb dM_baseline_35 (by decide) ?_
      refine vp_callSi (pc := 36) (W.runS (As := [.int 1, .int 7, .int 0]) (rest := []) ⟨hx, hb, hml, hown, hts⟩ (m_least l dC dI 1 7 0) (cwS 3 hts (gS wd_170 wd_171 wd_157 wd_169) rfl rfl rfl (by decide +kernel) ⟨Nat.le_of_ble_eq_true rfl, Nat.le_of_ble_eq_true rfl⟩) ⟨pR_blind, pR_pre (hP.sub (ws' := []) [] rfl) (hK.sub (tys' := []) [] rfl)⟩ rfl rfl hl.1 rfl (lv_room (Nat.le_of_ble_eq_true rfl)) dM_baseline_36 ⟨Nat.le_of_ble_eq_true rfl, Nat.le_of_ble_eq_true rfl⟩) (fun r22 hr23 => ?_)
      obtain rfl : r22 = 7 := Eq.trans (hr23) (by decide)
      refine lv_istore (pc := 39) hx hb dM_baseline_39 hl (by decide) rfl (fun ls hl => ?_)
      have hl : lv_has ls 8 [(4, .int 7), (3, .int 0), (0, .ref mo), (1, .int nn), (2, .int dd)] := hl
      refine lv_iload_n (pc := 41) hx hb dM_baseline_41 rfl (lv_at hl 1 rfl) ?_
      refine lv_if_eq (pc := 42) (tgt := 70) hx hb dM_baseline_42 rfl (fun h24 => ?_) (fun h24 => absurd h24 (by decide))
      refine lv_iconst (pc := 70) (v := 0) hx hb dM_baseline_70 (by decide) ?_
      refine lv_iconst (pc := 71) (v := 2) hx hb dM_baseline_71 (by decide) ?_
      refine lv_iload (pc := 72) hx hb dM_baseline_72 (lv_at hl 0 rfl) ?_
      refine vp_callSi (pc := 74) (W.runS (As := [.int 0, .int 2, .int 7]) (rest := []) ⟨hx, hb, hml, hown, hts⟩ (m_least l dC dI 0 2 7) (cwS 3 hts (gS wd_170 wd_171 wd_157 wd_169) rfl rfl rfl (by decide +kernel) ⟨Nat.le_of_ble_eq_true rfl, Nat.le_of_ble_eq_true rfl⟩) ⟨pR_blind, pR_pre (hP.sub (ws' := []) [] rfl) (hK.sub (tys' := []) [] rfl)⟩ rfl rfl hl.1 rfl (lv_room (Nat.le_of_ble_eq_true rfl)) dM_baseline_74 ⟨Nat.le_of_ble_eq_true rfl, Nat.le_of_ble_eq_true rfl⟩) (fun r25 hr26 => ?_)
      obtain rfl : r25 = 7 := Eq.trans (hr26) (by decide)
      refine lv_istore (pc := 77) hx hb dM_baseline_77 hl (by decide) rfl (fun ls hl => ?_)
      have hl : lv_has ls 8 [(4, .int 7), (3, .int 0), (0, .ref mo), (1, .int nn), (2, .int dd)] := hl
      refine lv_iconst (pc := 79) (v := 0) hx hb dM_baseline_79 (by decide) ?_
      refine lv_istore (pc := 80) hx hb dM_baseline_80 hl (by decide) rfl (fun ls hl => ?_)
      have hl : lv_has ls 8 [(5, .int 0), (4, .int 7), (3, .int 0), (0, .ref mo), (1, .int nn), (2, .int dd)] := hl
      refine lv_aload_n (pc := 82) hx hb dM_baseline_82 rfl (lv_at hl 3 rfl) ?_
      refine lv_iload_n (pc := 83) hx hb dM_baseline_83 rfl (lv_at hl 5 rfl) ?_
      refine vp_callSi (pc := 84) (W.runV (As := [.int dd]) (rest := []) ⟨hx, hb, hml, hown, hts⟩ (m_isDrawing l dC dI mo nw kp mk co se th mr cN dd) (cwV 1 hts (gV wd_160 wd_161 wd_162 wd_157 wd_159) rfl rfl rfl (by decide +kernel) ⟨Nat.le_of_ble_eq_true rfl, Nat.le_of_ble_eq_true rfl⟩) ⟨pR_blind, va_recv (q := (RM, TM, 11)) (q0 := 0) (ci := 4) hK hP rfl rfl, pR_pre (hP.sub (ws' := [(mo, .inr (4, [.int th, .int mr, .ref nw, .ref kp, .int 0, .int (-1), .ref mk, .ref co, .int 0, .int 0, .ref se])), (nw, .inl (cN, 25240, .inl now0))]) [0, 1] rfl) (hK.sub (tys' := [(cN, .int)]) [0] rfl)⟩ rfl rfl hl.1 rfl (lv_room (Nat.le_of_ble_eq_true rfl)) dM_baseline_84 ⟨Nat.le_of_ble_eq_true rfl, Nat.le_of_ble_eq_true rfl⟩) (fun r27 hr28 => ?_)
      obtain rfl : r27 = 0 := hr28
      refine lv_if_eq (pc := 87) (tgt := 189) hx hb dM_baseline_87 rfl (fun h29 => ?_) (fun h29 => absurd h29 (by decide))
      refine lv_aload_n (pc := 189) hx hb dM_baseline_189 rfl (lv_at hl 3 rfl) ?_
      refine lv_iload (pc := 190) hx hb dM_baseline_190 (lv_at hl 1 rfl) ?_
      refine lv_iconst (pc := 192) (v := 1) hx hb dM_baseline_192 (by decide) ?_
      refine lv_iload (pc := 193) hx hb dM_baseline_193 (lv_at hl 0 rfl) ?_
      refine vp_callSi (pc := 195) (W.runS (As := [.int 0]) (rest := [.int 1, .int 7, .ref mo]) ⟨hx, hb, hml, hown, hts⟩ (m_parts l dC dI) (cwS 1 hts (gS wd_201 wd_202 wd_157 wd_200) rfl rfl rfl (by decide +kernel) ⟨Nat.le_of_ble_eq_true rfl, Nat.le_of_ble_eq_true rfl⟩) ⟨pR_blind, pR_pre (hP.sub (ws' := []) [] rfl) (hK.sub (tys' := []) [] rfl)⟩ rfl rfl hl.1 rfl (lv_room (Nat.le_of_ble_eq_true rfl)) dM_baseline_195 ⟨Nat.le_of_ble_eq_true rfl, Nat.le_of_ble_eq_true rfl⟩) (fun r30 hr31 => ?_)
      obtain rfl : r30 = 0 := hr31
      refine lv_iadd (pc := 198) hx hb dM_baseline_198 ?_
      refine lv_topi (fun z32 hz33 => ?_)
      obtain rfl : z32 = 1 := hz33.trans (by decide)
      have hPc := hP.sub (ws' := [(mo, .inr (4, [.int th, .int mr, .ref nw, .ref kp, .int 0, .int (-1), .ref mk, .ref co, .int 0, .int 0, .ref se])), (nw, .inl (cN, 25240, .inl now0))]) [0, 1] rfl
      have hDc := hD.sub (ws' := [(mo, .inr (4, [.int th, .int mr, .ref nw, .ref kp, .int 0, .int (-1), .ref mk, .ref co, .int 0, .int 0, .ref se])), (nw, .inl (cN, 25240, .inl now0))]) [0, 1] (by decide) rfl
      have hKc := hK.sub (tys' := [(cN, .int)]) [0] rfl
      have hFc := va_free (wc := [(mo, .inr (4, [.int th, .int mr, .ref nw, .ref kp, .int 0, .int (-1), .ref mk, .ref co, .int 0, .int 0, .ref se])), (nw, .inl (cN, 25240, .inl now0))]) hD hS hA [0, 1] rfl
      refine va_calli (pc := 199) (va_runV (As := [.int 7, .int 1]) (rest := []) ⟨hx, hb, hml, hown, hts⟩ (m_may l dC dI H.size mo nw kp mk co se th mr cN 7 1 (by decide) (by decide)) (cwV 2 hts (gV wd_181 wd_182 wd_183 wd_157 wd_180) rfl rfl rfl (by decide +kernel) ⟨Nat.le_of_ble_eq_true rfl, Nat.le_of_ble_eq_true rfl⟩) ⟨pW_blind, va_recv (q := (RM, TM, 11)) (q0 := 0) (ci := 4) hK hP rfl rfl, pW_pre hPc hKc hDc⟩ rfl rfl hl.1 rfl (lv_room (Nat.le_of_ble_eq_true rfl)) dM_baseline_199 ⟨Nat.le_of_ble_eq_true rfl, Nat.le_of_ble_eq_true rfl⟩) hS (fun q _ h => hFc q h) hFc (fun r34 u t H1 locs ht hvm hr35 hB hz1 hk1 hS => ?_)
      obtain ⟨hP1, hK1, hD1⟩ := hB
      rw [ht] at hP1
      have hK1 := va_K.moved hvm.symm hK1
      obtain ⟨hP, hD⟩ := va_join (wr := []) (w1 := [(mo, .inr (4, [.int 0, .int 7, .ref nw, .ref kp, .int 0, .int (-1), .ref mk, .ref co, .int 0, .int 0, .ref se])), (nw, .inl (cN, 25240, .inl now0))]) hP hD [0, 1] [] rfl rfl (by decide) (by decide) hk1 hFc hP1 hD1
      generalize H1 = H at hP hS ⊢
      have hP : va_P (dC, dI) kCl [(mo, .inr (4, [.int 0, .int 7, .ref nw, .ref kp, .int 0, .int (-1), .ref mk, .ref co, .int 0, .int 0, .ref se])), (nw, .inl (cN, 25240, .inl now0))] H := hP
      have hD : va_D A [(mo, .inr (4, [.int 0, .int 7, .ref nw, .ref kp, .int 0, .int (-1), .ref mk, .ref co, .int 0, .int 0, .ref se])), (nw, .inl (cN, 25240, .inl now0))] := hD
      refine W.widen (k := 0) (n := 0) (Nat.le_of_ble_eq_true rfl) (Nat.le_of_ble_eq_true rfl) ?_
      obtain rfl : r34 = 0 := hr35
      refine lv_if_ne (pc := 202) (tgt := 218) hx hb dM_baseline_202 rfl (fun h37 => absurd h37 (by decide)) (fun h37 => ?_)
      refine lv_aload_n (pc := 205) hx hb dM_baseline_205 rfl (lv_at hl 3 rfl) ?_
      refine va_get (D := (dC, dI)) (cl := kCl) (C := RM) (T := TM) (N := 11) (pc := 206) hx hb hts inM hown hK hP 0 rfl rfl 0 (by decide) (hts _ wd_152) (fun _ h9 => h9) rfl dM_baseline_206 ?_
      refine lv_if_le (pc := 209) (tgt := 216) hx hb dM_baseline_209 rfl (fun h38 => ?_) (fun h38 => absurd h38 (by decide))
      refine lv_iconst (pc := 216) (v := (-1)) hx hb dM_baseline_216 (by decide) ?_
      have hP9 := hP.sub (ws' := [(mo, .inr (4, [.int 0, .int 7, .ref nw, .ref kp, .int 0, .int (-1), .ref mk, .ref co, .int 0, .int 0, .ref se]))]) [0] rfl
      have hD9 := hD.sub (ws' := [(mo, .inr (4, [.int 0, .int 7, .ref nw, .ref kp, .int 0, .int (-1), .ref mk, .ref co, .int 0, .int 0, .ref se]))]) [0] (by decide) rfl
      have hK9 := hK.sub (tys' := []) [] rfl
      exact W.iret (pc := 217) hx hb hr (fun t ht hW => ⟨⟨_, (), rfl, rfl, by rw [ht]; exact hP9, va_K.moved hW.alike hK9, hD9⟩, hS.F ht⟩) hS.2.2 dM_baseline_217
    · refine lv_iconst (pc := 10) (v := 1) hx hb dM_baseline_10 (by decide) ?_
      refine lv_goto (pc := 11) (tgt := 15) hx hb dM_baseline_11 rfl ?_
      refine lv_istore_n (pc := 15) hx hb dM_baseline_15 rfl hl (by decide) rfl (fun ls hl => ?_)
      have hl : lv_has ls 8 [(3, .int 1), (0, .ref mo), (1, .int nn), (2, .int dd)] := hl
      refine lv_iload_n (pc := 16) hx hb dM_baseline_16 rfl (lv_at hl 0 rfl) ?_
      refine lv_if_eq (pc := 17) (tgt := 28) hx hb dM_baseline_17 rfl (fun h39 => absurd h39 (by decide)) (fun h39 => ?_)
      refine lv_aload_n (pc := 20) hx hb dM_baseline_20 rfl (lv_at hl 1 rfl) ?_
      refine lv_iload_n (pc := 21) hx hb dM_baseline_21 rfl (lv_at hl 3 rfl) ?_
      refine vp_callSi (pc := 22) (W.runV (As := [.int dd]) (rest := []) ⟨hx, hb, hml, hown, hts⟩ (m_isDrawing l dC dI mo nw kp mk co se th mr cN dd) (cwV 1 hts (gV wd_160 wd_161 wd_162 wd_157 wd_159) rfl rfl rfl (by decide +kernel) ⟨Nat.le_of_ble_eq_true rfl, Nat.le_of_ble_eq_true rfl⟩) ⟨pR_blind, va_recv (q := (RM, TM, 11)) (q0 := 0) (ci := 4) hK hP rfl rfl, pR_pre (hP.sub (ws' := [(mo, .inr (4, [.int th, .int mr, .ref nw, .ref kp, .int 0, .int (-1), .ref mk, .ref co, .int 0, .int 0, .ref se])), (nw, .inl (cN, 25240, .inl now0))]) [0, 1] rfl) (hK.sub (tys' := [(cN, .int)]) [0] rfl)⟩ rfl rfl hl.1 rfl (lv_room (Nat.le_of_ble_eq_true rfl)) dM_baseline_22 ⟨Nat.le_of_ble_eq_true rfl, Nat.le_of_ble_eq_true rfl⟩) (fun r40 hr41 => ?_)
      obtain rfl : r40 = 0 := hr41
      refine lv_if_ne (pc := 25) (tgt := 32) hx hb dM_baseline_25 rfl (fun h42 => absurd h42 (by decide)) (fun h42 => ?_)
      refine lv_iconst (pc := 28) (v := 1) hx hb dM_baseline_28 (by decide) ?_
      refine lv_goto (pc := 29) (tgt := 33) hx hb dM_baseline_29 rfl ?_
      refine lv_bipush (pc := 33) (v := 7) hx hb dM_baseline_33 (by decide) ?_
      refine lv_iconst (pc := 35) (v := 0) hx hb dM_baseline_35 (by decide) ?_
      refine vp_callSi (pc := 36) (W.runS (As := [.int 1, .int 7, .int 0]) (rest := []) ⟨hx, hb, hml, hown, hts⟩ (m_least l dC dI 1 7 0) (cwS 3 hts (gS wd_170 wd_171 wd_157 wd_169) rfl rfl rfl (by decide +kernel) ⟨Nat.le_of_ble_eq_true rfl, Nat.le_of_ble_eq_true rfl⟩) ⟨pR_blind, pR_pre (hP.sub (ws' := []) [] rfl) (hK.sub (tys' := []) [] rfl)⟩ rfl rfl hl.1 rfl (lv_room (Nat.le_of_ble_eq_true rfl)) dM_baseline_36 ⟨Nat.le_of_ble_eq_true rfl, Nat.le_of_ble_eq_true rfl⟩) (fun r43 hr44 => ?_)
      obtain rfl : r43 = 7 := Eq.trans (hr44) (by decide)
      refine lv_istore (pc := 39) hx hb dM_baseline_39 hl (by decide) rfl (fun ls hl => ?_)
      have hl : lv_has ls 8 [(4, .int 7), (3, .int 1), (0, .ref mo), (1, .int nn), (2, .int dd)] := hl
      refine lv_iload_n (pc := 41) hx hb dM_baseline_41 rfl (lv_at hl 1 rfl) ?_
      refine lv_if_eq (pc := 42) (tgt := 70) hx hb dM_baseline_42 rfl (fun h45 => absurd h45 (by decide)) (fun h45 => ?_)
      refine lv_aload_n (pc := 45) hx hb dM_baseline_45 rfl (lv_at hl 2 rfl) ?_
      refine va_get (D := (dC, dI)) (cl := kCl) (C := RM) (T := TM) (N := 11) (pc := 46) hx hb hts inM hown hK hP 0 rfl rfl 2 (by decide) (hts _ wd_158) (fun _ h9 => h9) rfl dM_baseline_46 ?_
      refine lv_aload_n (pc := 49) hx hb dM_baseline_49 rfl (lv_at hl 2 rfl) ?_
      refine lv_iload_n (pc := 50) hx hb dM_baseline_50 rfl (lv_at hl 1 rfl) ?_
      refine lv_if_eq (pc := 51) (tgt := 58) hx hb dM_baseline_51 rfl (fun h46 => absurd h46 (by decide)) (fun h46 => ?_)
      refine lv_iload_n (pc := 54) hx hb dM_baseline_54 rfl (lv_at hl 3 rfl) ?_
      refine lv_goto (pc := 55) (tgt := 59) hx hb dM_baseline_55 rfl ?_
      refine vp_callSi (pc := 59) (W.runV (As := [.int nn]) (rest := [.ref nw]) ⟨hx, hb, hml, hown, hts⟩ (m_baselineAt l dC dI mo nw kp mk co se th mr nn) (cwV 1 hts (gV wd_197 wd_198 wd_199 wd_157 wd_196) rfl rfl rfl (by decide +kernel) ⟨Nat.le_of_ble_eq_true rfl, Nat.le_of_ble_eq_true rfl⟩) ⟨pR_blind, va_recv (q := (RM, TM, 11)) (q0 := 0) (ci := 4) hK hP rfl rfl, pR_pre (hP.sub (ws' := [(mo, .inr (4, [.int th, .int mr, .ref nw, .ref kp, .int 0, .int (-1), .ref mk, .ref co, .int 0, .int 0, .ref se]))]) [0] rfl) (hK.sub (tys' := []) [] rfl)⟩ rfl rfl hl.1 rfl (lv_room (Nat.le_of_ble_eq_true rfl)) dM_baseline_59 ⟨Nat.le_of_ble_eq_true rfl, Nat.le_of_ble_eq_true rfl⟩) (fun r47 hr48 => ?_)
      obtain rfl : r47 = (24980 + 26 * nn) := hr48
      refine va_iald (D := (dC, dI)) (cl := kCl) (pc := 62) hx hb hK hP 1 0 rfl rfl ((bl_ix h1 h20).1) dM_baseline_62 ?_
      refine W.eq (g2 := F0 m 63 ls [.int (now0 ((24980 + 26 * nn) : Int32).toNatClampNeg)]) rfl ?_
      refine lv_topi (fun z49 hz50 => ?_)
      obtain rfl : z49 = 0 := hz50.trans ((bl_ix h1 h20).2)
      refine lv_if_le (pc := 63) (tgt := 70) hx hb dM_baseline_63 rfl (fun h51 => ?_) (fun h51 => absurd h51 (by decide))
      refine lv_iconst (pc := 70) (v := 0) hx hb dM_baseline_70 (by decide) ?_
      refine lv_iconst (pc := 71) (v := 2) hx hb dM_baseline_71 (by decide) ?_
      refine lv_iload (pc := 72) hx hb dM_baseline_72 (lv_at hl 0 rfl) ?_
      refine vp_callSi (pc := 74) (W.runS (As := [.int 0, .int 2, .int 7]) (rest := []) ⟨hx, hb, hml, hown, hts⟩ (m_least l dC dI 0 2 7) (cwS 3 hts (gS wd_170 wd_171 wd_157 wd_169) rfl rfl rfl (by decide +kernel) ⟨Nat.le_of_ble_eq_true rfl, Nat.le_of_ble_eq_true rfl⟩) ⟨pR_blind, pR_pre (hP.sub (ws' := []) [] rfl) (hK.sub (tys' := []) [] rfl)⟩ rfl rfl hl.1 rfl (lv_room (Nat.le_of_ble_eq_true rfl)) dM_baseline_74 ⟨Nat.le_of_ble_eq_true rfl, Nat.le_of_ble_eq_true rfl⟩) (fun r52 hr53 => ?_)
      obtain rfl : r52 = 7 := Eq.trans (hr53) (by decide)
      refine lv_istore (pc := 77) hx hb dM_baseline_77 hl (by decide) rfl (fun ls hl => ?_)
      have hl : lv_has ls 8 [(4, .int 7), (3, .int 1), (0, .ref mo), (1, .int nn), (2, .int dd)] := hl
      refine lv_iconst (pc := 79) (v := 0) hx hb dM_baseline_79 (by decide) ?_
      refine lv_istore (pc := 80) hx hb dM_baseline_80 hl (by decide) rfl (fun ls hl => ?_)
      have hl : lv_has ls 8 [(5, .int 0), (4, .int 7), (3, .int 1), (0, .ref mo), (1, .int nn), (2, .int dd)] := hl
      refine lv_aload_n (pc := 82) hx hb dM_baseline_82 rfl (lv_at hl 3 rfl) ?_
      refine lv_iload_n (pc := 83) hx hb dM_baseline_83 rfl (lv_at hl 5 rfl) ?_
      refine vp_callSi (pc := 84) (W.runV (As := [.int dd]) (rest := []) ⟨hx, hb, hml, hown, hts⟩ (m_isDrawing l dC dI mo nw kp mk co se th mr cN dd) (cwV 1 hts (gV wd_160 wd_161 wd_162 wd_157 wd_159) rfl rfl rfl (by decide +kernel) ⟨Nat.le_of_ble_eq_true rfl, Nat.le_of_ble_eq_true rfl⟩) ⟨pR_blind, va_recv (q := (RM, TM, 11)) (q0 := 0) (ci := 4) hK hP rfl rfl, pR_pre (hP.sub (ws' := [(mo, .inr (4, [.int th, .int mr, .ref nw, .ref kp, .int 0, .int (-1), .ref mk, .ref co, .int 0, .int 0, .ref se])), (nw, .inl (cN, 25240, .inl now0))]) [0, 1] rfl) (hK.sub (tys' := [(cN, .int)]) [0] rfl)⟩ rfl rfl hl.1 rfl (lv_room (Nat.le_of_ble_eq_true rfl)) dM_baseline_84 ⟨Nat.le_of_ble_eq_true rfl, Nat.le_of_ble_eq_true rfl⟩) (fun r54 hr55 => ?_)
      obtain rfl : r54 = 0 := hr55
      refine lv_if_eq (pc := 87) (tgt := 189) hx hb dM_baseline_87 rfl (fun h56 => ?_) (fun h56 => absurd h56 (by decide))
      refine lv_aload_n (pc := 189) hx hb dM_baseline_189 rfl (lv_at hl 3 rfl) ?_
      refine lv_iload (pc := 190) hx hb dM_baseline_190 (lv_at hl 1 rfl) ?_
      refine lv_iconst (pc := 192) (v := 1) hx hb dM_baseline_192 (by decide) ?_
      refine lv_iload (pc := 193) hx hb dM_baseline_193 (lv_at hl 0 rfl) ?_
      refine vp_callSi (pc := 195) (W.runS (As := [.int 0]) (rest := [.int 1, .int 7, .ref mo]) ⟨hx, hb, hml, hown, hts⟩ (m_parts l dC dI) (cwS 1 hts (gS wd_201 wd_202 wd_157 wd_200) rfl rfl rfl (by decide +kernel) ⟨Nat.le_of_ble_eq_true rfl, Nat.le_of_ble_eq_true rfl⟩) ⟨pR_blind, pR_pre (hP.sub (ws' := []) [] rfl) (hK.sub (tys' := []) [] rfl)⟩ rfl rfl hl.1 rfl (lv_room (Nat.le_of_ble_eq_true rfl)) dM_baseline_195 ⟨Nat.le_of_ble_eq_true rfl, Nat.le_of_ble_eq_true rfl⟩) (fun r57 hr58 => ?_)
      obtain rfl : r57 = 0 := hr58
      refine lv_iadd (pc := 198) hx hb dM_baseline_198 ?_
      refine lv_topi (fun z59 hz60 => ?_)
      obtain rfl : z59 = 1 := hz60.trans (by decide)
      have hPc := hP.sub (ws' := [(mo, .inr (4, [.int th, .int mr, .ref nw, .ref kp, .int 0, .int (-1), .ref mk, .ref co, .int 0, .int 0, .ref se])), (nw, .inl (cN, 25240, .inl now0))]) [0, 1] rfl
      have hDc := hD.sub (ws' := [(mo, .inr (4, [.int th, .int mr, .ref nw, .ref kp, .int 0, .int (-1), .ref mk, .ref co, .int 0, .int 0, .ref se])), (nw, .inl (cN, 25240, .inl now0))]) [0, 1] (by decide) rfl
      have hKc := hK.sub (tys' := [(cN, .int)]) [0] rfl
      have hFc := va_free (wc := [(mo, .inr (4, [.int th, .int mr, .ref nw, .ref kp, .int 0, .int (-1), .ref mk, .ref co, .int 0, .int 0, .ref se])), (nw, .inl (cN, 25240, .inl now0))]) hD hS hA [0, 1] rfl
      refine va_calli (pc := 199) (va_runV (As := [.int 7, .int 1]) (rest := []) ⟨hx, hb, hml, hown, hts⟩ (m_may l dC dI H.size mo nw kp mk co se th mr cN 7 1 (by decide) (by decide)) (cwV 2 hts (gV wd_181 wd_182 wd_183 wd_157 wd_180) rfl rfl rfl (by decide +kernel) ⟨Nat.le_of_ble_eq_true rfl, Nat.le_of_ble_eq_true rfl⟩) ⟨pW_blind, va_recv (q := (RM, TM, 11)) (q0 := 0) (ci := 4) hK hP rfl rfl, pW_pre hPc hKc hDc⟩ rfl rfl hl.1 rfl (lv_room (Nat.le_of_ble_eq_true rfl)) dM_baseline_199 ⟨Nat.le_of_ble_eq_true rfl, Nat.le_of_ble_eq_true rfl⟩) hS (fun q _ h => hFc q h) hFc (fun r61 u t H1 locs ht hvm hr62 hB hz1 hk1 hS => ?_)
      obtain ⟨hP1, hK1, hD1⟩ := hB
      rw [ht] at hP1
      have hK1 := va_K.moved hvm.symm hK1
      obtain ⟨hP, hD⟩ := va_join (wr := []) (w1 := [(mo, .inr (4, [.int 0, .int 7, .ref nw, .ref kp, .int 0, .int (-1), .ref mk, .ref co, .int 0, .int 0, .ref se])), (nw, .inl (cN, 25240, .inl now0))]) hP hD [0, 1] [] rfl rfl (by decide) (by decide) hk1 hFc hP1 hD1
      generalize H1 = H at hP hS ⊢
      have hP : va_P (dC, dI) kCl [(mo, .inr (4, [.int 0, .int 7, .ref nw, .ref kp, .int 0, .int (-1), .ref mk, .ref co, .int 0, .int 0, .ref se])), (nw, .inl (cN, 25240, .inl now0))] H := hP
      have hD : va_D A [(mo, .inr (4, [.int 0, .int 7, .ref nw, .ref kp, .int 0, .int (-1), .ref mk, .ref co, .int 0, .int 0, .ref se])), (nw, .inl (cN, 25240, .inl now0))] := hD
      refine W.widen (k := 0) (n := 0) (Nat.le_of_ble_eq_true rfl) (Nat.le_of_ble_eq_true rfl) ?_
      obtain rfl : r61 = 0 := hr62
      refine lv_if_ne (pc := 202) (tgt := 218) hx hb dM_baseline_202 rfl (fun h64 => absurd h64 (by decide)) (fun h64 => ?_)
      refine lv_aload_n (pc := 205) hx hb dM_baseline_205 rfl (lv_at hl 3 rfl) ?_
      refine va_get (D := (dC, dI)) (cl := kCl) (C := RM) (T := TM) (N := 11) (pc := 206) hx hb hts inM hown hK hP 0 rfl rfl 0 (by decide) (hts _ wd_152) (fun _ h9 => h9) rfl dM_baseline_206 ?_
      refine lv_if_le (pc := 209) (tgt := 216) hx hb dM_baseline_209 rfl (fun h65 => ?_) (fun h65 => absurd h65 (by decide))
      refine lv_iconst (pc := 216) (v := (-1)) hx hb dM_baseline_216 (by decide) ?_
      have hP9 := hP.sub (ws' := [(mo, .inr (4, [.int 0, .int 7, .ref nw, .ref kp, .int 0, .int (-1), .ref mk, .ref co, .int 0, .int 0, .ref se]))]) [0] rfl
      have hD9 := hD.sub (ws' := [(mo, .inr (4, [.int 0, .int 7, .ref nw, .ref kp, .int 0, .int (-1), .ref mk, .ref co, .int 0, .int 0, .ref se]))]) [0] (by decide) rfl
      have hK9 := hK.sub (tys' := []) [] rfl
      exact W.iret (pc := 217) hx hb hr (fun t ht hW => ⟨⟨_, (), rfl, rfl, by rw [ht]; exact hP9, va_K.moved hW.alike hK9, hD9⟩, hS.F ht⟩) hS.2.2 dM_baseline_217
set_option maxHeartbeats 4000000 in
set_option maxRecDepth 100000 in
theorem m_failAfter (l : Launch) (dC : Nat → ClassId) (dI : Nat → Nat → Nat) (sz : Nat) (mo : Nat) (nw : Nat) (kp : Nat) (mk : Nat) (co : Nat) (se : Nat) (th : Int32) (mr : Int32) (nn : Int32) : Met l yM_failAfter (.code yM_failAfter cM_failAfter 2 (some .boolean) :: aw) ({ frames := 0, cells := 0, slots := 0, locals := 0 }) (pW (dC, dI) sz [(mo, .inr (4, [.int th, .int mr, .ref nw, .ref kp, .int 0, .int (-1), .ref mk, .ref co, .int 0, .int 0, .ref se]))] [] [.ref mo, .int nn]) (va_Qi (fun r (u9 : Int32) => (r = 1 ∧ u9 = nn ∧ (¬ nn < 0)) ∨ (r = 0 ∧ u9 = (-1) ∧ (nn < 0))) (fun u9 t => wW (dC, dI) (va_A [(mo, .inr (4, [.int th, .int mr, .ref nw, .ref kp, .int 0, .int (-1), .ref mk, .ref co, .int 0, .int 0, .ref se]))] sz) [(mo, .inr (4, [.int 0, .int mr, .ref nw, .ref kp, .int 0, .int u9, .ref mk, .ref co, .int 0, .int 0, .ref se]))] [] t) (va_A [(mo, .inr (4, [.int th, .int mr, .ref nw, .ref kp, .int 0, .int (-1), .ref mk, .ref co, .int 0, .int 0, .ref se]))] sz)) 0 0 (va_A [(mo, .inr (4, [.int th, .int mr, .ref nw, .ref kp, .int 0, .int (-1), .ref mk, .ref co, .int 0, .int 0, .ref se]))] sz) := by
  refine Met.ofW (cc := cM_failAfter) (maxL := 2) (ret := (some .boolean)) (by decide) rfl ?_
  intro p e s m args below meth c s₁ B hml hv
  obtain ⟨rfl, hv⟩ := hv
  have hx := B.exec
  have hb := B.bytes
  have hr := B.returns
  have hts : ∀ w ∈ aw, w.before _ s = true := fun w h => atoms_spec (ws := (.code yM_failAfter cM_failAfter 2 (some .boolean) :: aw)) B.pre w (List.mem_cons_of_mem _ h)
  have hown : s.vm.findClass RM = some m.cls := findClass_of_methodNamed B.named
  have hlocks := B.notSynchronized
  obtain ⟨hsz, hP, hK, hD0⟩ := hv
  subst hsz
  have hD := hD0.self (sz := s.heap.size)
  generalize hAe : va_A [(mo, .inr (4, [.int th, .int mr, .ref nw, .ref kp, .int 0, .int (-1), .ref mk, .ref co, .int 0, .int 0, .ref se]))] s.heap.size = A at hD ⊢
  have hA : ∀ q : Nat, s.heap.size ≤ q → A q := fun q h => by rw [← hAe]; exact Or.inr h
  obtain ⟨H, hH⟩ : ∃ H, H = s.heap := ⟨_, rfl⟩
  have hS : va_S A s.heap H [] := by rw [hH]; exact va_S.rf
  rw [← hH] at hP ⊢
  have hP : va_P (dC, dI) kCl [(mo, .inr (4, [.int th, .int mr, .ref nw, .ref kp, .int 0, .int (-1), .ref mk, .ref co, .int 0, .int 0, .ref se]))] H := hP
  have hl := lv_entry ([.ref mo, .int nn]) (n := 2) (Nat.le_of_ble_eq_true rfl)
  rw [lg_entry_eq]
  generalize (lg_sl ([.ref mo, .int nn]) ++ List.replicate (2 - (lg_sl ([.ref mo, .int nn])).length) Slot.unset).toArray = ls at hl ⊢
  have hl : lv_has ls 2 [(0, .ref mo), (1, .int nn)] := hl
  refine lv_aload_n (pc := 0) hx hb dM_failAfter_0 rfl (lv_at hl 0 rfl) ?_
  refine lv_iconst (pc := 1) (v := 0) hx hb dM_failAfter_1 (by decide) ?_
  refine va_put (D := (dC, dI)) (cl := kCl) (ci := 4) (v := .int 0) (ty := .int) (C := RM) (T := TM) (N := 11) (pc := 2) hx hb hts inM tyM tyM_ok nmM hown hK hP hD hS 0 rfl rfl 0 (by decide) (hts _ wd_152) (fun _ h9 => h9) rfl (by decide +kernel) rfl rfl (Nat.le_of_ble_eq_true rfl) dM_failAfter_2 (fun H locs hP hD hS => ?_)
  have hP : va_P (dC, dI) kCl [(mo, .inr (4, [.int 0, .int mr, .ref nw, .ref kp, .int 0, .int (-1), .ref mk, .ref co, .int 0, .int 0, .ref se]))] H := hP
  have hD : va_D A [(mo, .inr (4, [.int 0, .int mr, .ref nw, .ref kp, .int 0, .int (-1), .ref mk, .ref co, .int 0, .int 0, .ref se]))] := hD
  refine lv_iload_n (pc := 5) hx hb dM_failAfter_5 rfl (lv_at hl 1 rfl) ?_
  refine lv_if_lt (pc := 6) (tgt := 16) hx hb dM_failAfter_6 rfl (fun h1 => ?_) (fun h1 => ?_)
  · refine lv_iconst (pc := 16) (v := 0) hx hb dM_failAfter_16 (by decide) ?_
    have hP9 := hP.sub (ws' := [(mo, .inr (4, [.int 0, .int mr, .ref nw, .ref kp, .int 0, .int (-1), .ref mk, .ref co, .int 0, .int 0, .ref se]))]) [0] rfl
    have hD9 := hD.sub (ws' := [(mo, .inr (4, [.int 0, .int mr, .ref nw, .ref kp, .int 0, .int (-1), .ref mk, .ref co, .int 0, .int 0, .ref se]))]) [0] (by decide) rfl
    have hK9 := hK.sub (tys' := []) [] rfl
    exact W.zret (pc := 17) hx hb hr rfl (fun t ht hW => ⟨⟨_, (-1), rfl, (Or.inr ⟨rfl, rfl, by first | assumption | exact ⟨by assumption, by assumption⟩ | exact Or.inl (by assumption) | exact Or.inr (by assumption) | exact Or.inr (Or.inl (by assumption)) | exact Or.inr (Or.inr (by assumption)) | simp_all⟩), by rw [ht]; exact hP9, va_K.moved hW.alike hK9, hD9⟩, hS.F ht⟩) hS.2.2 dM_failAfter_17
  · refine lv_aload_n (pc := 9) hx hb dM_failAfter_9 rfl (lv_at hl 0 rfl) ?_
    refine va_get (D := (dC, dI)) (cl := kCl) (C := RM) (T := TM) (N := 11) (pc := 10) hx hb hts inM hown hK hP 0 rfl rfl 4 (by decide) (hts _ wd_163) (fun _ h9 => h9) rfl dM_failAfter_10 ?_
    refine lv_if_eq (pc := 13) (tgt := 18) hx hb dM_failAfter_13 rfl (fun h2 => ?_) (fun h2 => absurd h2 (by decide))
    refine lv_aload_n (pc := 18) hx hb dM_failAfter_18 rfl (lv_at hl 0 rfl) ?_
    refine lv_iload_n (pc := 19) hx hb dM_failAfter_19 rfl (lv_at hl 1 rfl) ?_
    refine va_put (D := (dC, dI)) (cl := kCl) (ci := 4) (v := .int nn) (ty := .int) (C := RM) (T := TM) (N := 11) (pc := 20) hx hb hts inM tyM tyM_ok nmM hown hK hP hD hS 0 rfl rfl 5 (by decide) (hts _ wd_203) (fun _ h9 => h9) rfl (by decide +kernel) rfl rfl (Nat.le_of_ble_eq_true rfl) dM_failAfter_20 (fun H locs hP hD hS => ?_)
    have hP : va_P (dC, dI) kCl [(mo, .inr (4, [.int 0, .int mr, .ref nw, .ref kp, .int 0, .int nn, .ref mk, .ref co, .int 0, .int 0, .ref se]))] H := hP
    have hD : va_D A [(mo, .inr (4, [.int 0, .int mr, .ref nw, .ref kp, .int 0, .int nn, .ref mk, .ref co, .int 0, .int 0, .ref se]))] := hD
    refine lv_iconst (pc := 23) (v := 1) hx hb dM_failAfter_23 (by decide) ?_
    have hP9 := hP.sub (ws' := [(mo, .inr (4, [.int 0, .int mr, .ref nw, .ref kp, .int 0, .int nn, .ref mk, .ref co, .int 0, .int 0, .ref se]))]) [0] rfl
    have hD9 := hD.sub (ws' := [(mo, .inr (4, [.int 0, .int mr, .ref nw, .ref kp, .int 0, .int nn, .ref mk, .ref co, .int 0, .int 0, .ref se]))]) [0] (by decide) rfl
    have hK9 := hK.sub (tys' := []) [] rfl
    exact W.zret (pc := 24) hx hb hr rfl (fun t ht hW => ⟨⟨_, nn, rfl, (Or.inl ⟨rfl, rfl, by first | assumption | exact ⟨by assumption, by assumption⟩ | exact Or.inl (by assumption) | exact Or.inr (by assumption) | exact Or.inr (Or.inl (by assumption)) | exact Or.inr (Or.inr (by assumption)) | simp_all⟩), by rw [ht]; exact hP9, va_K.moved hW.alike hK9, hD9⟩, hS.F ht⟩) hS.2.2 dM_failAfter_24
end
section
theorem dM_may_4 : decode cM_may 4 = .ok (.aload_n 0, 1) := by decide +kernel
theorem dM_may_5 : decode cM_may 5 = .ok (.getfield 7, 3) := by decide +kernel
theorem dM_may_8 : decode cM_may 8 = .ok (.bipush 17, 2) := by decide +kernel
theorem dM_may_10 : decode cM_may 10 = .ok (.iaload, 1) := by decide +kernel
theorem dM_may_11 : decode cM_may 11 = .ok (.iload_n 2, 1) := by decide +kernel
theorem dM_may_12 : decode cM_may 12 = .ok (.if_icmp .ge 8, 3) := by decide +kernel
theorem dM_may_51 : decode cM_may 51 = .ok (.aload_n 0, 1) := by decide +kernel
theorem dM_may_52 : decode cM_may 52 = .ok (.getfield 16, 3) := by decide +kernel
theorem dM_may_55 : decode cM_may 55 = .ok (.iconst (-1), 1) := by decide +kernel
theorem dM_may_56 : decode cM_may 56 = .ok (.if_icmp .eq 23, 3) := by decide +kernel
theorem dM_may_90 : decode cM_may 90 = .ok (.aload_n 0, 1) := by decide +kernel
theorem dM_may_91 : decode cM_may 91 = .ok (.aload_n 0, 1) := by decide +kernel
theorem dM_may_92 : decode cM_may 92 = .ok (.getfield 16, 3) := by decide +kernel
theorem dM_may_95 : decode cM_may 95 = .ok (.iconst (-1), 1) := by decide +kernel
theorem dM_may_96 : decode cM_may 96 = .ok (.if_icmp .ne 7, 3) := by decide +kernel
theorem dM_may_99 : decode cM_may 99 = .ok (.iconst (-1), 1) := by decide +kernel
theorem dM_may_100 : decode cM_may 100 = .ok (.goto 9, 3) := by decide +kernel
theorem dM_may_109 : decode cM_may 109 = .ok (.putfield 16, 3) := by decide +kernel
theorem dM_may_112 : decode cM_may 112 = .ok (.aload_n 0, 1) := by decide +kernel
theorem dM_may_113 : decode cM_may 113 = .ok (.getfield 7, 3) := by decide +kernel
theorem dM_may_116 : decode cM_may 116 = .ok (.bipush 17, 2) := by decide +kernel
theorem dM_may_118 : decode cM_may 118 = .ok (.dup2, 1) := by decide +kernel
theorem dM_may_119 : decode cM_may 119 = .ok (.iaload, 1) := by decide +kernel
theorem dM_may_120 : decode cM_may 120 = .ok (.iload_n 2, 1) := by decide +kernel
theorem dM_may_121 : decode cM_may 121 = .ok (.isub, 1) := by decide +kernel
theorem dM_may_122 : decode cM_may 122 = .ok (.iastore, 1) := by decide +kernel
theorem dM_may_123 : decode cM_may 123 = .ok (.aload_n 0, 1) := by decide +kernel
theorem dM_may_124 : decode cM_may 124 = .ok (.getfield 7, 3) := by decide +kernel
theorem dM_may_127 : decode cM_may 127 = .ok (.bipush 18, 2) := by decide +kernel
theorem dM_may_129 : decode cM_may 129 = .ok (.dup2, 1) := by decide +kernel
theorem dM_may_130 : decode cM_may 130 = .ok (.iaload, 1) := by decide +kernel
theorem dM_may_131 : decode cM_may 131 = .ok (.iconst 1, 1) := by decide +kernel
theorem dM_may_132 : decode cM_may 132 = .ok (.iadd, 1) := by decide +kernel
theorem dM_may_133 : decode cM_may 133 = .ok (.iastore, 1) := by decide +kernel
theorem dM_may_134 : decode cM_may 134 = .ok (.iconst 1, 1) := by decide +kernel
theorem dM_may_135 : decode cM_may 135 = .ok (.ireturn, 1) := by decide +kernel
abbrev cM_keep : ByteArray := prog_9_method_3_code
abbrev yM_keep : MethodName := ⟨"DrawingVaultModel", "keep", "()V"⟩
theorem dM_keep_0 : decode cM_keep 0 = .ok (.iconst 0, 1) := by decide +kernel
theorem dM_keep_1 : decode cM_keep 1 = .ok (.istore_n 1, 1) := by decide +kernel
theorem dM_keep_2 : decode cM_keep 2 = .ok (.iload_n 1, 1) := by decide +kernel
theorem dM_keep_3 : decode cM_keep 3 = .ok (.sipush 25240, 3) := by decide +kernel
theorem dM_keep_6 : decode cM_keep 6 = .ok (.if_icmp .ge 21, 3) := by decide +kernel
theorem dM_keep_9 : decode cM_keep 9 = .ok (.aload_n 0, 1) := by decide +kernel
theorem dM_keep_10 : decode cM_keep 10 = .ok (.getfield 13, 3) := by decide +kernel
theorem dM_keep_13 : decode cM_keep 13 = .ok (.iload_n 1, 1) := by decide +kernel
theorem dM_keep_14 : decode cM_keep 14 = .ok (.aload_n 0, 1) := by decide +kernel
theorem dM_keep_15 : decode cM_keep 15 = .ok (.getfield 7, 3) := by decide +kernel
theorem dM_keep_18 : decode cM_keep 18 = .ok (.iload_n 1, 1) := by decide +kernel
theorem dM_keep_19 : decode cM_keep 19 = .ok (.iaload, 1) := by decide +kernel
theorem dM_keep_20 : decode cM_keep 20 = .ok (.iastore, 1) := by decide +kernel
theorem dM_keep_21 : decode cM_keep 21 = .ok (.iinc 1 1, 3) := by decide +kernel
theorem dM_keep_24 : decode cM_keep 24 = .ok (.goto (-22), 3) := by decide +kernel
theorem dM_keep_27 : decode cM_keep 27 = .ok (.return_, 1) := by decide +kernel
abbrev cM_close : ByteArray := prog_9_method_30_code
abbrev yM_close : MethodName := ⟨"DrawingVaultModel", "close", "()V"⟩
theorem dM_close_0 : decode cM_close 0 = .ok (.aload_n 0, 1) := by decide +kernel
theorem dM_close_1 : decode cM_close 1 = .ok (.getfield 7, 3) := by decide +kernel
theorem dM_close_4 : decode cM_close 4 = .ok (.bipush 17, 2) := by decide +kernel
theorem dM_close_6 : decode cM_close 6 = .ok (.iaload, 1) := by decide +kernel
theorem dM_close_7 : decode cM_close 7 = .ok (.bipush 40, 2) := by decide +kernel
theorem dM_close_9 : decode cM_close 9 = .ok (.if_icmp .ge 37, 3) := by decide +kernel
theorem dM_close_46 : decode cM_close 46 = .ok (.aload_n 0, 1) := by decide +kernel
theorem dM_close_47 : decode cM_close 47 = .ok (.invokevirtual 30, 3) := by decide +kernel
theorem dM_close_50 : decode cM_close 50 = .ok (.return_, 1) := by decide +kernel
abbrev cM_person : ByteArray := prog_9_method_31_code
abbrev yM_person : MethodName := ⟨"DrawingVaultModel", "person", "(II)Z"⟩
theorem dM_person_0 : decode cM_person 0 = .ok (.aload_n 0, 1) := by decide +kernel
theorem dM_person_1 : decode cM_person 1 = .ok (.iload_n 1, 1) := by decide +kernel
theorem dM_person_2 : decode cM_person 2 = .ok (.invokevirtual 36, 3) := by decide +kernel
theorem dM_person_5 : decode cM_person 5 = .ok (.ifCond .eq 17, 3) := by decide +kernel
theorem dM_person_8 : decode cM_person 8 = .ok (.iload_n 2, 1) := by decide +kernel
theorem dM_person_9 : decode cM_person 9 = .ok (.ifCond .lt 13, 3) := by decide +kernel
theorem dM_person_12 : decode cM_person 12 = .ok (.iload_n 2, 1) := by decide +kernel
theorem dM_person_13 : decode cM_person 13 = .ok (.bipush 8, 2) := by decide +kernel
theorem dM_person_15 : decode cM_person 15 = .ok (.if_icmp .ge 7, 3) := by decide +kernel
theorem dM_person_18 : decode cM_person 18 = .ok (.iconst 0, 1) := by decide +kernel
theorem dM_person_19 : decode cM_person 19 = .ok (.goto 5, 3) := by decide +kernel
theorem dM_person_22 : decode cM_person 22 = .ok (.bipush 7, 2) := by decide +kernel
theorem dM_person_24 : decode cM_person 24 = .ok (.istore_n 3, 1) := by decide +kernel
theorem dM_person_25 : decode cM_person 25 = .ok (.aload_n 0, 1) := by decide +kernel
theorem dM_person_26 : decode cM_person 26 = .ok (.iload_n 3, 1) := by decide +kernel
theorem dM_person_27 : decode cM_person 27 = .ok (.iconst 1, 1) := by decide +kernel
theorem dM_person_28 : decode cM_person 28 = .ok (.invokevirtual 112, 3) := by decide +kernel
theorem dM_person_31 : decode cM_person 31 = .ok (.ifCond .ne 5, 3) := by decide +kernel
theorem dM_person_34 : decode cM_person 34 = .ok (.iconst 0, 1) := by decide +kernel
theorem dM_person_35 : decode cM_person 35 = .ok (.ireturn, 1) := by decide +kernel
theorem dM_person_36 : decode cM_person 36 = .ok (.aload_n 0, 1) := by decide +kernel
theorem dM_person_37 : decode cM_person 37 = .ok (.getfield 7, 3) := by decide +kernel
theorem dM_person_40 : decode cM_person 40 = .ok (.iload_n 1, 1) := by decide +kernel
theorem dM_person_41 : decode cM_person 41 = .ok (.iload_n 2, 1) := by decide +kernel
theorem dM_person_42 : decode cM_person 42 = .ok (.iastore, 1) := by decide +kernel
theorem dM_person_43 : decode cM_person 43 = .ok (.aload_n 0, 1) := by decide +kernel
theorem dM_person_44 : decode cM_person 44 = .ok (.invokevirtual 115, 3) := by decide +kernel
theorem dM_person_47 : decode cM_person 47 = .ok (.iconst 1, 1) := by decide +kernel
theorem dM_person_48 : decode cM_person 48 = .ok (.ireturn, 1) := by decide +kernel
abbrev cM_start : ByteArray := prog_9_method_66_code
abbrev yM_start : MethodName := ⟨"DrawingVaultModel", "start", "()I"⟩
theorem dM_start_0 : decode cM_start 0 = .ok (.aload_n 0, 1) := by decide +kernel
theorem dM_start_1 : decode cM_start 1 = .ok (.iconst 0, 1) := by decide +kernel
theorem dM_start_2 : decode cM_start 2 = .ok (.putfield 33, 3) := by decide +kernel
theorem dM_start_5 : decode cM_start 5 = .ok (.aload_n 0, 1) := by decide +kernel
theorem dM_start_6 : decode cM_start 6 = .ok (.iconst 0, 1) := by decide +kernel
theorem dM_start_7 : decode cM_start 7 = .ok (.putfield 102, 3) := by decide +kernel
theorem dM_start_10 : decode cM_start 10 = .ok (.aload_n 0, 1) := by decide +kernel
theorem dM_start_11 : decode cM_start 11 = .ok (.iconst (-1), 1) := by decide +kernel
theorem dM_start_12 : decode cM_start 12 = .ok (.putfield 16, 3) := by decide +kernel
theorem dM_start_15 : decode cM_start 15 = .ok (.iconst 0, 1) := by decide +kernel
theorem dM_start_16 : decode cM_start 16 = .ok (.istore_n 1, 1) := by decide +kernel
theorem dM_start_17 : decode cM_start 17 = .ok (.iconst 0, 1) := by decide +kernel
theorem dM_start_18 : decode cM_start 18 = .ok (.istore_n 2, 1) := by decide +kernel
theorem dM_start_19 : decode cM_start 19 = .ok (.iload_n 2, 1) := by decide +kernel
theorem dM_start_20 : decode cM_start 20 = .ok (.sipush 25240, 3) := by decide +kernel
theorem dM_start_23 : decode cM_start 23 = .ok (.if_icmp .ge 21, 3) := by decide +kernel
theorem dM_start_26 : decode cM_start 26 = .ok (.aload_n 0, 1) := by decide +kernel
theorem dM_start_27 : decode cM_start 27 = .ok (.getfield 7, 3) := by decide +kernel
theorem dM_start_30 : decode cM_start 30 = .ok (.iload_n 2, 1) := by decide +kernel
theorem dM_start_31 : decode cM_start 31 = .ok (.aload_n 0, 1) := by decide +kernel
theorem dM_start_32 : decode cM_start 32 = .ok (.getfield 13, 3) := by decide +kernel
theorem dM_start_35 : decode cM_start 35 = .ok (.iload_n 2, 1) := by decide +kernel
theorem dM_start_36 : decode cM_start 36 = .ok (.iaload, 1) := by decide +kernel
theorem dM_start_37 : decode cM_start 37 = .ok (.iastore, 1) := by decide +kernel
theorem dM_start_38 : decode cM_start 38 = .ok (.iinc 2 1, 3) := by decide +kernel
theorem dM_start_41 : decode cM_start 41 = .ok (.goto (-22), 3) := by decide +kernel
theorem dM_start_44 : decode cM_start 44 = .ok (.iconst 0, 1) := by decide +kernel
theorem dM_start_45 : decode cM_start 45 = .ok (.istore_n 2, 1) := by decide +kernel
theorem dM_start_46 : decode cM_start 46 = .ok (.iload_n 2, 1) := by decide +kernel
theorem dM_start_47 : decode cM_start 47 = .ok (.aload_n 0, 1) := by decide +kernel
theorem dM_start_48 : decode cM_start 48 = .ok (.getfield 7, 3) := by decide +kernel
theorem dM_start_51 : decode cM_start 51 = .ok (.bipush 16, 2) := by decide +kernel
theorem dM_start_53 : decode cM_start 53 = .ok (.iaload, 1) := by decide +kernel
theorem dM_start_54 : decode cM_start 54 = .ok (.if_icmp .ge 25, 3) := by decide +kernel
theorem dM_start_79 : decode cM_start 79 = .ok (.iload_n 1, 1) := by decide +kernel
theorem dM_start_80 : decode cM_start 80 = .ok (.ireturn, 1) := by decide +kernel
abbrev cM_contentAt : ByteArray := prog_9_method_23_code
abbrev yM_contentAt : MethodName := ⟨"DrawingVaultModel", "contentAt", "(I)I"⟩
theorem dM_contentAt_0 : decode cM_contentAt 0 = .ok (.iload_n 1, 1) := by decide +kernel
theorem dM_contentAt_1 : decode cM_contentAt 1 = .ok (.bipush 24, 2) := by decide +kernel
theorem dM_contentAt_3 : decode cM_contentAt 3 = .ok (.if_icmp .ge 29, 3) := by decide +kernel
theorem dM_contentAt_6 : decode cM_contentAt 6 = .ok (.aload_n 0, 1) := by decide +kernel
theorem dM_contentAt_7 : decode cM_contentAt 7 = .ok (.iload_n 1, 1) := by decide +kernel
theorem dM_contentAt_8 : decode cM_contentAt 8 = .ok (.invokevirtual 44, 3) := by decide +kernel
theorem dM_contentAt_11 : decode cM_contentAt 11 = .ok (.ifCond .eq 19, 3) := by decide +kernel
theorem dM_contentAt_30 : decode cM_contentAt 30 = .ok (.iconst (-1), 1) := by decide +kernel
theorem dM_contentAt_31 : decode cM_contentAt 31 = .ok (.ireturn, 1) := by decide +kernel
theorem dM_contentAt_32 : decode cM_contentAt 32 = .ok (.iload_n 1, 1) := by decide +kernel
theorem dM_contentAt_33 : decode cM_contentAt 33 = .ok (.bipush 24, 2) := by decide +kernel
theorem dM_contentAt_35 : decode cM_contentAt 35 = .ok (.isub, 1) := by decide +kernel
theorem dM_contentAt_36 : decode cM_contentAt 36 = .ok (.istore_n 2, 1) := by decide +kernel
theorem dM_contentAt_37 : decode cM_contentAt 37 = .ok (.aload_n 0, 1) := by decide +kernel
theorem dM_contentAt_38 : decode cM_contentAt 38 = .ok (.iload_n 2, 1) := by decide +kernel
theorem dM_contentAt_39 : decode cM_contentAt 39 = .ok (.bipush 12, 2) := by decide +kernel
theorem dM_contentAt_41 : decode cM_contentAt 41 = .ok (.idiv, 1) := by decide +kernel
theorem dM_contentAt_42 : decode cM_contentAt 42 = .ok (.iload_n 2, 1) := by decide +kernel
theorem dM_contentAt_43 : decode cM_contentAt 43 = .ok (.bipush 12, 2) := by decide +kernel
theorem dM_contentAt_45 : decode cM_contentAt 45 = .ok (.irem, 1) := by decide +kernel
theorem dM_contentAt_46 : decode cM_contentAt 46 = .ok (.invokevirtual 79, 3) := by decide +kernel
theorem dM_contentAt_49 : decode cM_contentAt 49 = .ok (.ifCond .eq 18, 3) := by decide +kernel
theorem dM_contentAt_67 : decode cM_contentAt 67 = .ok (.iconst (-1), 1) := by decide +kernel
theorem dM_contentAt_68 : decode cM_contentAt 68 = .ok (.ireturn, 1) := by decide +kernel
abbrev cM_chunks : ByteArray := prog_9_method_25_code
abbrev yM_chunks : MethodName := ⟨"DrawingVaultModel", "chunks", "(I)I"⟩
theorem dM_chunks_0 : decode cM_chunks 0 = .ok (.iconst 0, 1) := by decide +kernel
theorem dM_chunks_1 : decode cM_chunks 1 = .ok (.istore_n 2, 1) := by decide +kernel
theorem dM_chunks_2 : decode cM_chunks 2 = .ok (.iload_n 1, 1) := by decide +kernel
theorem dM_chunks_3 : decode cM_chunks 3 = .ok (.istore_n 3, 1) := by decide +kernel
theorem dM_chunks_4 : decode cM_chunks 4 = .ok (.iload_n 3, 1) := by decide +kernel
theorem dM_chunks_5 : decode cM_chunks 5 = .ok (.sipush 312, 3) := by decide +kernel
theorem dM_chunks_8 : decode cM_chunks 8 = .ok (.if_icmp .ge 157, 3) := by decide +kernel
theorem dM_chunks_11 : decode cM_chunks 11 = .ok (.aload_n 0, 1) := by decide +kernel
theorem dM_chunks_12 : decode cM_chunks 12 = .ok (.iload_n 3, 1) := by decide +kernel
theorem dM_chunks_13 : decode cM_chunks 13 = .ok (.invokevirtual 89, 3) := by decide +kernel
theorem dM_chunks_16 : decode cM_chunks 16 = .ok (.istore 4, 2) := by decide +kernel
theorem dM_chunks_18 : decode cM_chunks 18 = .ok (.iconst 0, 1) := by decide +kernel
theorem dM_chunks_19 : decode cM_chunks 19 = .ok (.istore 5, 2) := by decide +kernel
theorem dM_chunks_21 : decode cM_chunks 21 = .ok (.iload 4, 2) := by decide +kernel
theorem dM_chunks_23 : decode cM_chunks 23 = .ok (.ifCond .lt 136, 3) := by decide +kernel
theorem dM_chunks_159 : decode cM_chunks 159 = .ok (.iinc 3 1, 3) := by decide +kernel
theorem dM_chunks_162 : decode cM_chunks 162 = .ok (.goto (-158), 3) := by decide +kernel
theorem dM_chunks_165 : decode cM_chunks 165 = .ok (.iload_n 2, 1) := by decide +kernel
theorem dM_chunks_166 : decode cM_chunks 166 = .ok (.ireturn, 1) := by decide +kernel
abbrev cM_count : ByteArray := prog_9_method_67_code
abbrev yM_count : MethodName := ⟨"DrawingVaultModel", "count", "(I)I"⟩
theorem dM_count_0 : decode cM_count 0 = .ok (.aload_n 0, 1) := by decide +kernel
theorem dM_count_1 : decode cM_count 1 = .ok (.iconst 0, 1) := by decide +kernel
theorem dM_count_2 : decode cM_count 2 = .ok (.putfield 33, 3) := by decide +kernel
theorem dM_count_5 : decode cM_count 5 = .ok (.iconst 0, 1) := by decide +kernel
theorem dM_count_6 : decode cM_count 6 = .ok (.istore_n 2, 1) := by decide +kernel
theorem dM_count_7 : decode cM_count 7 = .ok (.iconst 0, 1) := by decide +kernel
theorem dM_count_8 : decode cM_count 8 = .ok (.istore_n 3, 1) := by decide +kernel
theorem dM_count_9 : decode cM_count 9 = .ok (.iload_n 3, 1) := by decide +kernel
theorem dM_count_10 : decode cM_count 10 = .ok (.bipush 10, 2) := by decide +kernel
theorem dM_count_12 : decode cM_count 12 = .ok (.if_icmp .ge 22, 3) := by decide +kernel
theorem dM_count_15 : decode cM_count 15 = .ok (.iload_n 2, 1) := by decide +kernel
theorem dM_count_16 : decode cM_count 16 = .ok (.aload_n 0, 1) := by decide +kernel
theorem dM_count_17 : decode cM_count 17 = .ok (.getfield 7, 3) := by decide +kernel
theorem dM_count_20 : decode cM_count 20 = .ok (.aload_n 0, 1) := by decide +kernel
theorem dM_count_21 : decode cM_count 21 = .ok (.iload_n 3, 1) := by decide +kernel
theorem dM_count_22 : decode cM_count 22 = .ok (.invokevirtual 99, 3) := by decide +kernel
theorem dM_count_25 : decode cM_count 25 = .ok (.iaload, 1) := by decide +kernel
theorem dM_count_26 : decode cM_count 26 = .ok (.iadd, 1) := by decide +kernel
theorem dM_count_27 : decode cM_count 27 = .ok (.istore_n 2, 1) := by decide +kernel
theorem dM_count_28 : decode cM_count 28 = .ok (.iinc 3 1, 3) := by decide +kernel
theorem dM_count_31 : decode cM_count 31 = .ok (.goto (-22), 3) := by decide +kernel
theorem dM_count_34 : decode cM_count 34 = .ok (.iload_n 1, 1) := by decide +kernel
theorem dM_count_35 : decode cM_count 35 = .ok (.tableswitch 103 0 7 #[45, 53, 58, 64, 72, 80, 88, 90], 45) := by decide +kernel
theorem dM_count_80 : decode cM_count 80 = .ok (.aload_n 0, 1) := by decide +kernel
theorem dM_count_81 : decode cM_count 81 = .ok (.getfield 7, 3) := by decide +kernel
theorem dM_count_84 : decode cM_count 84 = .ok (.bipush 16, 2) := by decide +kernel
theorem dM_count_86 : decode cM_count 86 = .ok (.iaload, 1) := by decide +kernel
theorem dM_count_87 : decode cM_count 87 = .ok (.ireturn, 1) := by decide +kernel
theorem dM_count_88 : decode cM_count 88 = .ok (.aload_n 0, 1) := by decide +kernel
theorem dM_count_89 : decode cM_count 89 = .ok (.invokevirtual 92, 3) := by decide +kernel
theorem dM_count_92 : decode cM_count 92 = .ok (.ireturn, 1) := by decide +kernel
theorem dM_count_93 : decode cM_count 93 = .ok (.aload_n 0, 1) := by decide +kernel
theorem dM_count_94 : decode cM_count 94 = .ok (.iconst 0, 1) := by decide +kernel
theorem dM_count_95 : decode cM_count 95 = .ok (.invokevirtual 96, 3) := by decide +kernel
theorem dM_count_98 : decode cM_count 98 = .ok (.ireturn, 1) := by decide +kernel
theorem dM_count_99 : decode cM_count 99 = .ok (.aload_n 0, 1) := by decide +kernel
theorem dM_count_100 : decode cM_count 100 = .ok (.getfield 7, 3) := by decide +kernel
theorem dM_count_103 : decode cM_count 103 = .ok (.bipush 17, 2) := by decide +kernel
theorem dM_count_105 : decode cM_count 105 = .ok (.iaload, 1) := by decide +kernel
theorem dM_count_106 : decode cM_count 106 = .ok (.ireturn, 1) := by decide +kernel
theorem dM_count_107 : decode cM_count 107 = .ok (.aload_n 0, 1) := by decide +kernel
theorem dM_count_108 : decode cM_count 108 = .ok (.getfield 7, 3) := by decide +kernel
theorem dM_count_111 : decode cM_count 111 = .ok (.bipush 18, 2) := by decide +kernel
theorem dM_count_113 : decode cM_count 113 = .ok (.iaload, 1) := by decide +kernel
theorem dM_count_114 : decode cM_count 114 = .ok (.ireturn, 1) := by decide +kernel
theorem dM_count_115 : decode cM_count 115 = .ok (.aload_n 0, 1) := by decide +kernel
theorem dM_count_116 : decode cM_count 116 = .ok (.getfield 7, 3) := by decide +kernel
theorem dM_count_119 : decode cM_count 119 = .ok (.bipush 19, 2) := by decide +kernel
theorem dM_count_121 : decode cM_count 121 = .ok (.iaload, 1) := by decide +kernel
theorem dM_count_122 : decode cM_count 122 = .ok (.ireturn, 1) := by decide +kernel
theorem dM_count_123 : decode cM_count 123 = .ok (.iload_n 2, 1) := by decide +kernel
theorem dM_count_124 : decode cM_count 124 = .ok (.ireturn, 1) := by decide +kernel
theorem dM_count_125 : decode cM_count 125 = .ok (.aload_n 0, 1) := by decide +kernel
theorem dM_count_126 : decode cM_count 126 = .ok (.getfield 102, 3) := by decide +kernel
theorem dM_count_129 : decode cM_count 129 = .ok (.ifCond .eq 7, 3) := by decide +kernel
theorem dM_count_136 : decode cM_count 136 = .ok (.iconst 0, 1) := by decide +kernel
theorem dM_count_137 : decode cM_count 137 = .ok (.ireturn, 1) := by decide +kernel
theorem dM_count_138 : decode cM_count 138 = .ok (.iconst (-1), 1) := by decide +kernel
theorem dM_count_139 : decode cM_count 139 = .ok (.ireturn, 1) := by decide +kernel
theorem wd_204 : (.fieldLink "DrawingVaultModel" 13 "DrawingVaultModel" "kept" "[I" : Cond) ∈ aw := aw_in (tb_4 (List.mem_of_getElem? (i := 33) rfl)) rfl
theorem wd_205 : (.code ⟨"DrawingVaultModel", "keep", "()V"⟩ prog_9_method_3_code 2 (Option.none : Option Jvm.ClassFile.FieldType) : Cond) ∈ aw := aw_in (tb_4 (List.mem_of_getElem? (i := 29) rfl)) rfl
theorem wd_206 : (.methodLink "DrawingVaultModel" 30 ⟨"DrawingVaultModel", "keep", "()V"⟩ : Cond) ∈ aw := aw_in (tb_4 (List.mem_of_getElem? (i := 26) rfl)) rfl
theorem wd_207 : (.instanceMethod ⟨"DrawingVaultModel", "keep", "()V"⟩ : Cond) ∈ aw := aw_in (tb_4 (List.mem_of_getElem? (i := 28) rfl)) rfl
theorem wd_208 : (.selects "DrawingVaultModel" ⟨"DrawingVaultModel", "keep", "()V"⟩ ⟨"DrawingVaultModel", "keep", "()V"⟩ : Cond) ∈ aw := aw_in (tb_s (q := (⟨"DrawingVaultModel", "keep", "()V"⟩, _)) (List.mem_append_right _ (List.mem_append_right _ (List.mem_append_left _ (List.mem_of_getElem? (i := 3) rfl))))) rfl
theorem wd_209 : (.code ⟨"DrawingVaultModel", "close", "()V"⟩ prog_9_method_30_code 2 (Option.none : Option Jvm.ClassFile.FieldType) : Cond) ∈ aw := aw_in (tb_4 (List.mem_of_getElem? (i := 84) rfl)) rfl
theorem wd_210 : (.methodLink "DrawingVaultModel" 115 ⟨"DrawingVaultModel", "close", "()V"⟩ : Cond) ∈ aw := aw_in (tb_4 (List.mem_of_getElem? (i := 81) rfl)) rfl
theorem wd_211 : (.instanceMethod ⟨"DrawingVaultModel", "close", "()V"⟩ : Cond) ∈ aw := aw_in (tb_4 (List.mem_of_getElem? (i := 83) rfl)) rfl
theorem wd_212 : (.selects "DrawingVaultModel" ⟨"DrawingVaultModel", "close", "()V"⟩ ⟨"DrawingVaultModel", "close", "()V"⟩ : Cond) ∈ aw := aw_in (tb_s (q := (⟨"DrawingVaultModel", "close", "()V"⟩, _)) (List.mem_append_right _ (List.mem_append_right _ (List.mem_append_left _ (List.mem_of_getElem? (i := 6) rfl))))) rfl
theorem wd_213 : (.code ⟨"DrawingVaultModel", "contentAt", "(I)I"⟩ prog_9_method_23_code 3 (Option.some .int) : Cond) ∈ aw := aw_in (tb_4 (List.mem_of_getElem? (i := 108) rfl)) rfl
theorem wd_214 : (.methodLink "DrawingVaultModel" 89 ⟨"DrawingVaultModel", "contentAt", "(I)I"⟩ : Cond) ∈ aw := aw_in (tb_4 (List.mem_of_getElem? (i := 105) rfl)) rfl
theorem wd_215 : (.instanceMethod ⟨"DrawingVaultModel", "contentAt", "(I)I"⟩ : Cond) ∈ aw := aw_in (tb_4 (List.mem_of_getElem? (i := 107) rfl)) rfl
theorem wd_216 : (.selects "DrawingVaultModel" ⟨"DrawingVaultModel", "contentAt", "(I)I"⟩ ⟨"DrawingVaultModel", "contentAt", "(I)I"⟩ : Cond) ∈ aw := aw_in (tb_s (q := (⟨"DrawingVaultModel", "contentAt", "(I)I"⟩, _)) (List.mem_append_right _ (List.mem_append_right _ (List.mem_append_left _ (List.mem_of_getElem? (i := 12) rfl))))) rfl
theorem wd_217 : (.code ⟨"DrawingVaultModel", "chunks", "(I)I"⟩ prog_9_method_25_code 9 (Option.some .int) : Cond) ∈ aw := aw_in (tb_4 (List.mem_of_getElem? (i := 104) rfl)) rfl
theorem wd_218 : (.methodLink "DrawingVaultModel" 96 ⟨"DrawingVaultModel", "chunks", "(I)I"⟩ : Cond) ∈ aw := aw_in (tb_4 (List.mem_of_getElem? (i := 101) rfl)) rfl
theorem wd_219 : (.instanceMethod ⟨"DrawingVaultModel", "chunks", "(I)I"⟩ : Cond) ∈ aw := aw_in (tb_4 (List.mem_of_getElem? (i := 103) rfl)) rfl
theorem wd_220 : (.selects "DrawingVaultModel" ⟨"DrawingVaultModel", "chunks", "(I)I"⟩ ⟨"DrawingVaultModel", "chunks", "(I)I"⟩ : Cond) ∈ aw := aw_in (tb_s (q := (⟨"DrawingVaultModel", "chunks", "(I)I"⟩, _)) (List.mem_append_right _ (List.mem_append_right _ (List.mem_append_left _ (List.mem_of_getElem? (i := 11) rfl))))) rfl

theorem keep_step {g f : Nat → Int32} {i : Nat} (hi : i < 25240) (h : 16 < i → g 16 = f 16) : 16 < i + 1 → upd g (nI i).toNatClampNeg (f (nI i).toNatClampNeg) 16 = f 16 := by
  intro h1
  rw [nI_clamp (by omega)]
  by_cases e : i = 16
  · subst e; exact pk_us
  · rw [pk_un (Ne.symm e)]; exact h (by omega)
theorem start_step {g f : Nat → Int32} {i : Nat} (hi : i < 25240) (hf : f 16 = 0) (h : g 16 = 0) : upd g (nI i).toNatClampNeg (f (nI i).toNatClampNeg) 16 = 0 := by
  rw [nI_clamp (by omega)]
  by_cases e : i = 16
  · subst e; rw [pk_us]; exact hf
  · rw [pk_un (Ne.symm e)]; exact h
theorem per_17 {f : Nat → Int32} {i : Int32} {v x : Int32} (h : vp_in i 16) (hf : f 17 = x) : upd f i.toNatClampNeg v 17 = x := by
  have h1 : i.toNatClampNeg < 16 := Nat.not_le.mp fun q => h (Or.inr q)
  rw [pk_un (by omega)]; exact hf

set_option maxHeartbeats 4000000 in
set_option maxRecDepth 100000 in
theorem m_keep (l : Launch) (dC : Nat → ClassId) (dI : Nat → Nat → Nat) (sz : Nat) (mo : Nat) (nw : Nat) (kp : Nat) (mk : Nat) (co : Nat) (se : Nat) (th : Int32) (mr : Int32) (cN : ClassId) (fw : Nat → Int32) (cK : ClassId) (fk : Nat → Int32) : Met l yM_keep (.code yM_keep cM_keep 2 none :: aw) ({ frames := 0, cells := 0, slots := 0, locals := 0 }) (pW (dC, dI) sz [(mo, .inr (4, [.int th, .int mr, .ref nw, .ref kp, .int 0, .int (-1), .ref mk, .ref co, .int 0, .int 0, .ref se])), (nw, .inl (cN, 25240, .inl fw)), (kp, .inl (cK, 25240, .inl fk))] [(cN, .int), (cK, .int)] [.ref mo]) (va_Qv (fun (u9 : Nat → Int32) => (u9 16 = fw 16)) (fun u9 t => wW (dC, dI) (va_A [(mo, .inr (4, [.int th, .int mr, .ref nw, .ref kp, .int 0, .int (-1), .ref mk, .ref co, .int 0, .int 0, .ref se])), (nw, .inl (cN, 25240, .inl fw)), (kp, .inl (cK, 25240, .inl fk))] sz) [(mo, .inr (4, [.int th, .int mr, .ref nw, .ref kp, .int 0, .int (-1), .ref mk, .ref co, .int 0, .int 0, .ref se])), (nw, .inl (cN, 25240, .inl fw)), (kp, .inl (cK, 25240, .inl u9))] [(cN, .int), (cK, .int)] t) (va_A [(mo, .inr (4, [.int th, .int mr, .ref nw, .ref kp, .int 0, .int (-1), .ref mk, .ref co, .int 0, .int 0, .ref se])), (nw, .inl (cN, 25240, .inl fw)), (kp, .inl (cK, 25240, .inl fk))] sz)) 0 0 (va_A [(mo, .inr (4, [.int th, .int mr, .ref nw, .ref kp, .int 0, .int (-1), .ref mk, .ref co, .int 0, .int 0, .ref se])), (nw, .inl (cN, 25240, .inl fw)), (kp, .inl (cK, 25240, .inl fk))] sz) := by
  refine Met.ofW (cc := cM_keep) (maxL := 2) (ret := none) (by decide) rfl ?_
  intro p e s m args below meth c s₁ B hml hv
  obtain ⟨rfl, hv⟩ := hv
  have hx := B.exec
  have hb := B.bytes
  have hr := B.returns
  have hts : ∀ w ∈ aw, w.before _ s = true := fun w h => atoms_spec (ws := (.code yM_keep cM_keep 2 none :: aw)) B.pre w (List.mem_cons_of_mem _ h)
  have hown : s.vm.findClass RM = some m.cls := findClass_of_methodNamed B.named
  have hlocks := B.notSynchronized
  obtain ⟨hsz, hP, hK, hD0⟩ := hv
  subst hsz
  have hD := hD0.self (sz := s.heap.size)
  generalize hAe : va_A [(mo, .inr (4, [.int th, .int mr, .ref nw, .ref kp, .int 0, .int (-1), .ref mk, .ref co, .int 0, .int 0, .ref se])), (nw, .inl (cN, 25240, .inl fw)), (kp, .inl (cK, 25240, .inl fk))] s.heap.size = A at hD ⊢
  have hA : ∀ q : Nat, s.heap.size ≤ q → A q := fun q h => by rw [← hAe]; exact Or.inr h
  obtain ⟨H, hH⟩ : ∃ H, H = s.heap := ⟨_, rfl⟩
  have hS : va_S A s.heap H [] := by rw [hH]; exact va_S.rf
  rw [← hH] at hP ⊢
  have hP : va_P (dC, dI) kCl [(mo, .inr (4, [.int th, .int mr, .ref nw, .ref kp, .int 0, .int (-1), .ref mk, .ref co, .int 0, .int 0, .ref se])), (nw, .inl (cN, 25240, .inl fw)), (kp, .inl (cK, 25240, .inl fk))] H := hP
  have hl := lv_entry ([.ref mo]) (n := 2) (Nat.le_of_ble_eq_true rfl)
  rw [lg_entry_eq]
  generalize (lg_sl ([.ref mo]) ++ List.replicate (2 - (lg_sl ([.ref mo])).length) Slot.unset).toArray = ls at hl ⊢
  have hl : lv_has ls 2 [(0, .ref mo)] := hl
  refine lv_iconst (pc := 0) (v := 0) hx hb dM_keep_0 (by decide) ?_
  refine lv_istore_n (pc := 1) hx hb dM_keep_1 rfl hl (by decide) rfl (fun ls hl => ?_)
  have hl : lv_has ls 2 [(1, .int 0), (0, .ref mo)] := hl
  refine lpN (σ := (Nat → Int32) × (Heap) × (List Loc) × (Array Slot)) (fun z => W p l e _ s m _ below meth c z.2.1 z.2.2.1 0 0 _ (F0 m 2 z.2.2.2 [])) (fun i z => va_P (dC, dI) kCl [(mo, .inr (4, [.int th, .int mr, .ref nw, .ref kp, .int 0, .int (-1), .ref mk, .ref co, .int 0, .int 0, .ref se])), (nw, .inl (cN, 25240, .inl fw)), (kp, .inl (cK, 25240, .inl z.1))] z.2.1 ∧ va_D A [(mo, .inr (4, [.int th, .int mr, .ref nw, .ref kp, .int 0, .int (-1), .ref mk, .ref co, .int 0, .int 0, .ref se])), (nw, .inl (cN, 25240, .inl fw)), (kp, .inl (cK, 25240, .inl z.1))] ∧ va_S A s.heap z.2.1 z.2.2.1 ∧ lv_has z.2.2.2 2 [(1, .int (nI i)), (0, .ref mo)] ∧ (16 < i → z.1 16 = fw 16)) 25240 ?_ ?_ 25240 0 (fk, H, _, ls) rfl ⟨hP, hD, hS, hl, (fun h => absurd h (by decide))⟩
  · rintro ⟨g1, H, locs, ls⟩ ⟨hP, hD, hS, hl, hI⟩
    try dsimp only at hP hD hS hl hI ⊢
    have hP : va_P (dC, dI) kCl [(mo, .inr (4, [.int th, .int mr, .ref nw, .ref kp, .int 0, .int (-1), .ref mk, .ref co, .int 0, .int 0, .ref se])), (nw, .inl (cN, 25240, .inl fw)), (kp, .inl (cK, 25240, .inl g1))] H := hP
    have hD : va_D A [(mo, .inr (4, [.int th, .int mr, .ref nw, .ref kp, .int 0, .int (-1), .ref mk, .ref co, .int 0, .int 0, .ref se])), (nw, .inl (cN, 25240, .inl fw)), (kp, .inl (cK, 25240, .inl g1))] := hD
    have hl : lv_has ls 2 [(1, .int (nI 25240)), (0, .ref mo)] := hl
    refine lv_iload_n (pc := 2) hx hb dM_keep_2 rfl (lv_at hl 0 rfl) ?_
    refine lv_sipush (pc := 3) (v := 25240) hx hb dM_keep_3 (by decide) ?_
    refine lv_icmp_ge (pc := 6) (tgt := 27) hx hb dM_keep_6 rfl (fun h1 => ?_) (fun h1 => absurd (show (25240 : Int32) ≤ nI 25240 by decide) h1)
    have hP9 := hP.sub (ws' := [(mo, .inr (4, [.int th, .int mr, .ref nw, .ref kp, .int 0, .int (-1), .ref mk, .ref co, .int 0, .int 0, .ref se])), (nw, .inl (cN, 25240, .inl fw)), (kp, .inl (cK, 25240, .inl g1))]) [0, 1, 2] rfl
    have hD9 := hD.sub (ws' := [(mo, .inr (4, [.int th, .int mr, .ref nw, .ref kp, .int 0, .int (-1), .ref mk, .ref co, .int 0, .int 0, .ref se])), (nw, .inl (cN, 25240, .inl fw)), (kp, .inl (cK, 25240, .inl g1))]) [0, 1, 2] (by decide) rfl
    have hK9 := hK.sub (tys' := [(cN, .int), (cK, .int)]) [0, 1] rfl
    exact W.vret (pc := 27) hx hb hr (fun t ht hW => ⟨⟨g1, rfl, hI (by decide), by rw [ht]; exact hP9, va_K.moved hW.alike hK9, hD9⟩, hS.F ht⟩) hS.2.2 dM_keep_27
  · rintro i ⟨g1, H, locs, ls⟩ hi ⟨hP, hD, hS, hl, hI⟩ ih
    try dsimp only at hP hD hS hl hI ⊢
    have hP : va_P (dC, dI) kCl [(mo, .inr (4, [.int th, .int mr, .ref nw, .ref kp, .int 0, .int (-1), .ref mk, .ref co, .int 0, .int 0, .ref se])), (nw, .inl (cN, 25240, .inl fw)), (kp, .inl (cK, 25240, .inl g1))] H := hP
    have hD : va_D A [(mo, .inr (4, [.int th, .int mr, .ref nw, .ref kp, .int 0, .int (-1), .ref mk, .ref co, .int 0, .int 0, .ref se])), (nw, .inl (cN, 25240, .inl fw)), (kp, .inl (cK, 25240, .inl g1))] := hD
    have hl : lv_has ls 2 [(1, .int (nI i)), (0, .ref mo)] := hl
    refine lv_iload_n (pc := 2) hx hb dM_keep_2 rfl (lv_at hl 0 rfl) ?_
    refine lv_sipush (pc := 3) (v := 25240) hx hb dM_keep_3 (by decide) ?_
    refine lv_icmp_ge (pc := 6) (tgt := 27) hx hb dM_keep_6 rfl (fun h2 => absurd h2 (nI_ge (a := i) (b := 25240) hi (by decide))) (fun h2 => ?_)
    refine lv_aload_n (pc := 9) hx hb dM_keep_9 rfl (lv_at hl 1 rfl) ?_
    refine va_get (D := (dC, dI)) (cl := kCl) (C := RM) (T := TM) (N := 11) (pc := 10) hx hb hts inM hown hK hP 0 rfl rfl 3 (by decide) (hts _ wd_204) (fun _ h9 => h9) rfl dM_keep_10 ?_
    refine lv_iload_n (pc := 13) hx hb dM_keep_13 rfl (lv_at hl 0 rfl) ?_
    refine lv_aload_n (pc := 14) hx hb dM_keep_14 rfl (lv_at hl 1 rfl) ?_
    refine va_get (D := (dC, dI)) (cl := kCl) (C := RM) (T := TM) (N := 11) (pc := 15) hx hb hts inM hown hK hP 0 rfl rfl 2 (by decide) (hts _ wd_158) (fun _ h9 => h9) rfl dM_keep_15 ?_
    refine lv_iload_n (pc := 18) hx hb dM_keep_18 rfl (lv_at hl 0 rfl) ?_
    refine va_iald (D := (dC, dI)) (cl := kCl) (pc := 19) hx hb hK hP 1 0 rfl rfl (vp_in_nI (show i < 25240 by omega) (by decide)) dM_keep_19 ?_
    refine W.eq (g2 := F0 m 20 ls [.int (fw ((nI i) : Int32).toNatClampNeg), .int (nI i), .ref kp]) rfl ?_
    refine va_iast (D := (dC, dI)) (cl := kCl) (pc := 20) hx hb hK hP hD hS 2 1 rfl rfl (vp_in_nI (show i < 25240 by omega) (by decide)) dM_keep_20 (fun H locs hP hD hS => ?_)
    have hP : va_P (dC, dI) kCl [(mo, .inr (4, [.int th, .int mr, .ref nw, .ref kp, .int 0, .int (-1), .ref mk, .ref co, .int 0, .int 0, .ref se])), (nw, .inl (cN, 25240, .inl fw)), (kp, .inl (cK, 25240, .inl (upd g1 ((nI i) : Int32).toNatClampNeg (fw ((nI i) : Int32).toNatClampNeg))))] H := hP
    have hD : va_D A [(mo, .inr (4, [.int th, .int mr, .ref nw, .ref kp, .int 0, .int (-1), .ref mk, .ref co, .int 0, .int 0, .ref se])), (nw, .inl (cN, 25240, .inl fw)), (kp, .inl (cK, 25240, .inl (upd g1 ((nI i) : Int32).toNatClampNeg (fw ((nI i) : Int32).toNatClampNeg))))] := hD
    refine lv_iinc (pc := 21) (v := (nI (i + 1))) hx hb dM_keep_21 hl (k := 0) rfl (nI_1 _) (by decide) rfl (fun ls hl => ?_)
    have hl : lv_has ls 2 [(1, .int (nI (i + 1))), (0, .ref mo)] := hl
    refine lv_goto (pc := 24) (tgt := 2) hx hb dM_keep_24 rfl ?_
    have hl := lv_sub hl (l' := [(1, .int (nI (i + 1))), (0, .ref mo)]) [0, 1] rfl
    exact ih (_, H, _, ls) ⟨hP, hD, hS, hl, keep_step hi hI⟩
set_option maxHeartbeats 4000000 in
set_option maxRecDepth 100000 in
theorem m_close (l : Launch) (dC : Nat → ClassId) (dI : Nat → Nat → Nat) (sz : Nat) (mo : Nat) (nw : Nat) (kp : Nat) (mk : Nat) (co : Nat) (se : Nat) (th : Int32) (mr : Int32) (cN : ClassId) (fw : Nat → Int32) (cK : ClassId) (fk : Nat → Int32) (h17 : fw 17 = 399) : Met l yM_close (.code yM_close cM_close 2 none :: aw) ({ frames := 1, cells := 0, slots := 0, locals := 21 }) (pW (dC, dI) sz [(mo, .inr (4, [.int th, .int mr, .ref nw, .ref kp, .int 0, .int (-1), .ref mk, .ref co, .int 0, .int 0, .ref se])), (nw, .inl (cN, 25240, .inl fw)), (kp, .inl (cK, 25240, .inl fk))] [(cN, .int), (cK, .int)] [.ref mo]) (va_Qv (fun (_ : Unit) => True) (fun _ t => wW (dC, dI) (va_A [(mo, .inr (4, [.int th, .int mr, .ref nw, .ref kp, .int 0, .int (-1), .ref mk, .ref co, .int 0, .int 0, .ref se])), (nw, .inl (cN, 25240, .inl fw)), (kp, .inl (cK, 25240, .inl fk))] sz) [(mo, .inr (4, [.int th, .int mr, .ref nw, .ref kp, .int 0, .int (-1), .ref mk, .ref co, .int 0, .int 0, .ref se]))] [] t) (va_A [(mo, .inr (4, [.int th, .int mr, .ref nw, .ref kp, .int 0, .int (-1), .ref mk, .ref co, .int 0, .int 0, .ref se])), (nw, .inl (cN, 25240, .inl fw)), (kp, .inl (cK, 25240, .inl fk))] sz)) 0 0 (va_A [(mo, .inr (4, [.int th, .int mr, .ref nw, .ref kp, .int 0, .int (-1), .ref mk, .ref co, .int 0, .int 0, .ref se])), (nw, .inl (cN, 25240, .inl fw)), (kp, .inl (cK, 25240, .inl fk))] sz) := by
  refine Met.ofW (cc := cM_close) (maxL := 2) (ret := none) (by decide) rfl ?_
  intro p e s m args below meth c s₁ B hml hv
  obtain ⟨rfl, hv⟩ := hv
  have hx := B.exec
  have hb := B.bytes
  have hr := B.returns
  have hts : ∀ w ∈ aw, w.before _ s = true := fun w h => atoms_spec (ws := (.code yM_close cM_close 2 none :: aw)) B.pre w (List.mem_cons_of_mem _ h)
  have hown : s.vm.findClass RM = some m.cls := findClass_of_methodNamed B.named
  have hlocks := B.notSynchronized
  obtain ⟨hsz, hP, hK, hD0⟩ := hv
  subst hsz
  have hD := hD0.self (sz := s.heap.size)
  generalize hAe : va_A [(mo, .inr (4, [.int th, .int mr, .ref nw, .ref kp, .int 0, .int (-1), .ref mk, .ref co, .int 0, .int 0, .ref se])), (nw, .inl (cN, 25240, .inl fw)), (kp, .inl (cK, 25240, .inl fk))] s.heap.size = A at hD ⊢
  have hA : ∀ q : Nat, s.heap.size ≤ q → A q := fun q h => by rw [← hAe]; exact Or.inr h
  obtain ⟨H, hH⟩ : ∃ H, H = s.heap := ⟨_, rfl⟩
  have hS : va_S A s.heap H [] := by rw [hH]; exact va_S.rf
  rw [← hH] at hP ⊢
  have hP : va_P (dC, dI) kCl [(mo, .inr (4, [.int th, .int mr, .ref nw, .ref kp, .int 0, .int (-1), .ref mk, .ref co, .int 0, .int 0, .ref se])), (nw, .inl (cN, 25240, .inl fw)), (kp, .inl (cK, 25240, .inl fk))] H := hP
  have hl := lv_entry ([.ref mo]) (n := 2) (Nat.le_of_ble_eq_true rfl)
  rw [lg_entry_eq]
  generalize (lg_sl ([.ref mo]) ++ List.replicate (2 - (lg_sl ([.ref mo])).length) Slot.unset).toArray = ls at hl ⊢
  have hl : lv_has ls 2 [(0, .ref mo)] := hl
  refine lv_aload_n (pc := 0) hx hb dM_close_0 rfl (lv_at hl 0 rfl) ?_
  refine va_get (D := (dC, dI)) (cl := kCl) (C := RM) (T := TM) (N := 11) (pc := 1) hx hb hts inM hown hK hP 0 rfl rfl 2 (by decide) (hts _ wd_158) (fun _ h9 => h9) rfl dM_close_1 ?_
  refine lv_bipush (pc := 4) (v := 17) hx hb dM_close_4 (by decide) ?_
  refine va_iald (D := (dC, dI)) (cl := kCl) (pc := 6) hx hb hK hP 1 0 rfl rfl (vp_in_lit 17 25240 (by decide)) dM_close_6 ?_
  refine W.eq (g2 := F0 m 7 ls [.int (fw (17 : Int32).toNatClampNeg)]) rfl ?_
  refine lv_topi (fun z1 hz2 => ?_)
  obtain rfl : z1 = 399 := hz2.trans (h17)
  refine lv_bipush (pc := 7) (v := 40) hx hb dM_close_7 (by decide) ?_
  refine lv_icmp_ge (pc := 9) (tgt := 46) hx hb dM_close_9 rfl (fun h3 => ?_) (fun h3 => absurd h3 (by decide))
  refine lv_aload_n (pc := 46) hx hb dM_close_46 rfl (lv_at hl 0 rfl) ?_
  have hPc := hP.sub (ws' := [(mo, .inr (4, [.int th, .int mr, .ref nw, .ref kp, .int 0, .int (-1), .ref mk, .ref co, .int 0, .int 0, .ref se])), (nw, .inl (cN, 25240, .inl fw)), (kp, .inl (cK, 25240, .inl fk))]) [0, 1, 2] rfl
  have hDc := hD.sub (ws' := [(mo, .inr (4, [.int th, .int mr, .ref nw, .ref kp, .int 0, .int (-1), .ref mk, .ref co, .int 0, .int 0, .ref se])), (nw, .inl (cN, 25240, .inl fw)), (kp, .inl (cK, 25240, .inl fk))]) [0, 1, 2] (by decide) rfl
  have hKc := hK.sub (tys' := [(cN, .int), (cK, .int)]) [0, 1] rfl
  have hFc := va_free (wc := [(mo, .inr (4, [.int th, .int mr, .ref nw, .ref kp, .int 0, .int (-1), .ref mk, .ref co, .int 0, .int 0, .ref se])), (nw, .inl (cN, 25240, .inl fw)), (kp, .inl (cK, 25240, .inl fk))]) hD hS hA [0, 1, 2] rfl
  refine va_callv (pc := 47) (va_runV (As := []) (rest := []) ⟨hx, hb, hml, hown, hts⟩ (m_keep l dC dI H.size mo nw kp mk co se th mr cN fw cK fk) (cwV 0 hts (gV wd_206 wd_207 wd_208 wd_157 wd_205) rfl rfl rfl (by decide +kernel) ⟨Nat.le_of_ble_eq_true rfl, Nat.le_of_ble_eq_true rfl⟩) ⟨pW_blind, va_recv (q := (RM, TM, 11)) (q0 := 0) (ci := 4) hK hP rfl rfl, pW_pre hPc hKc hDc⟩ rfl rfl hl.1 rfl (lv_room (Nat.le_of_ble_eq_true rfl)) dM_close_47 ⟨Nat.le_of_ble_eq_true rfl, Nat.le_of_ble_eq_true rfl⟩) hS (fun q _ h => hFc q h) hFc (fun u6 t H1 locs ht hvm hr5 hB hz1 hk1 hS => ?_)
  obtain ⟨hP1, hK1, hD1⟩ := hB
  rw [ht] at hP1
  have hK1 := va_K.moved hvm.symm hK1
  obtain ⟨hP, hD⟩ := va_join (wr := []) (w1 := [(mo, .inr (4, [.int th, .int mr, .ref nw, .ref kp, .int 0, .int (-1), .ref mk, .ref co, .int 0, .int 0, .ref se])), (nw, .inl (cN, 25240, .inl fw)), (kp, .inl (cK, 25240, .inl u6))]) hP hD [0, 1, 2] [] rfl rfl (by decide) (by decide) hk1 hFc hP1 hD1
  generalize H1 = H at hP hS ⊢
  have hP : va_P (dC, dI) kCl [(mo, .inr (4, [.int th, .int mr, .ref nw, .ref kp, .int 0, .int (-1), .ref mk, .ref co, .int 0, .int 0, .ref se])), (nw, .inl (cN, 25240, .inl fw)), (kp, .inl (cK, 25240, .inl u6))] H := hP
  have hD : va_D A [(mo, .inr (4, [.int th, .int mr, .ref nw, .ref kp, .int 0, .int (-1), .ref mk, .ref co, .int 0, .int 0, .ref se])), (nw, .inl (cN, 25240, .inl fw)), (kp, .inl (cK, 25240, .inl u6))] := hD
  refine W.widen (k := 0) (n := 0) (Nat.le_of_ble_eq_true rfl) (Nat.le_of_ble_eq_true rfl) ?_
  have h8 : u6 16 = fw 16 := hr5
  have hP9 := hP.sub (ws' := [(mo, .inr (4, [.int th, .int mr, .ref nw, .ref kp, .int 0, .int (-1), .ref mk, .ref co, .int 0, .int 0, .ref se]))]) [0] rfl
  have hD9 := hD.sub (ws' := [(mo, .inr (4, [.int th, .int mr, .ref nw, .ref kp, .int 0, .int (-1), .ref mk, .ref co, .int 0, .int 0, .ref se]))]) [0] (by decide) rfl
  have hK9 := hK.sub (tys' := []) [] rfl
  exact W.vret (pc := 50) hx hb hr (fun t ht hW => ⟨⟨(), rfl, trivial, by rw [ht]; exact hP9, va_K.moved hW.alike hK9, hD9⟩, hS.F ht⟩) hS.2.2 dM_close_50
set_option maxHeartbeats 4000000 in
set_option maxRecDepth 100000 in
theorem m_may1 (l : Launch) (dC : Nat → ClassId) (dI : Nat → Nat → Nat) (sz : Nat) (mo : Nat) (nw : Nat) (kp : Nat) (mk : Nat) (co : Nat) (se : Nat) (th : Int32) (mr : Int32) (cN : ClassId) : Met l yM_may (.code yM_may cM_may 4 (some .boolean) :: aw) ({ frames := 0, cells := 0, slots := 0, locals := 0 }) (pW (dC, dI) sz [(mo, .inr (4, [.int th, .int mr, .ref nw, .ref kp, .int 0, .int (-1), .ref mk, .ref co, .int 0, .int 0, .ref se])), (nw, .inl (cN, 25240, .inl now0))] [(cN, .int)] [.ref mo, .int 0, .int 1]) (va_Qi (fun r (_ : Unit) => r = 1) (fun _ t => wW (dC, dI) (va_A [(mo, .inr (4, [.int th, .int mr, .ref nw, .ref kp, .int 0, .int (-1), .ref mk, .ref co, .int 0, .int 0, .ref se])), (nw, .inl (cN, 25240, .inl now0))] sz) [(mo, .inr (4, [.int 0, .int 0, .ref nw, .ref kp, .int 0, .int (-1), .ref mk, .ref co, .int 0, .int 0, .ref se])), (nw, .inl (cN, 25240, .inl (upd (upd now0 (17 : Int32).toNatClampNeg 399) (18 : Int32).toNatClampNeg 1)))] [(cN, .int)] t) (va_A [(mo, .inr (4, [.int th, .int mr, .ref nw, .ref kp, .int 0, .int (-1), .ref mk, .ref co, .int 0, .int 0, .ref se])), (nw, .inl (cN, 25240, .inl now0))] sz)) 0 0 (va_A [(mo, .inr (4, [.int th, .int mr, .ref nw, .ref kp, .int 0, .int (-1), .ref mk, .ref co, .int 0, .int 0, .ref se])), (nw, .inl (cN, 25240, .inl now0))] sz) := by
  refine Met.ofW (cc := cM_may) (maxL := 4) (ret := (some .boolean)) (by decide) rfl ?_
  intro p e s m args below meth c s₁ B hml hv
  obtain ⟨rfl, hv⟩ := hv
  have hx := B.exec
  have hb := B.bytes
  have hr := B.returns
  have hts : ∀ w ∈ aw, w.before _ s = true := fun w h => atoms_spec (ws := (.code yM_may cM_may 4 (some .boolean) :: aw)) B.pre w (List.mem_cons_of_mem _ h)
  have hown : s.vm.findClass RM = some m.cls := findClass_of_methodNamed B.named
  have hlocks := B.notSynchronized
  obtain ⟨hsz, hP, hK, hD0⟩ := hv
  subst hsz
  have hD := hD0.self (sz := s.heap.size)
  generalize hAe : va_A [(mo, .inr (4, [.int th, .int mr, .ref nw, .ref kp, .int 0, .int (-1), .ref mk, .ref co, .int 0, .int 0, .ref se])), (nw, .inl (cN, 25240, .inl now0))] s.heap.size = A at hD ⊢
  have hA : ∀ q : Nat, s.heap.size ≤ q → A q := fun q h => by rw [← hAe]; exact Or.inr h
  obtain ⟨H, hH⟩ : ∃ H, H = s.heap := ⟨_, rfl⟩
  have hS : va_S A s.heap H [] := by rw [hH]; exact va_S.rf
  rw [← hH] at hP ⊢
  have hP : va_P (dC, dI) kCl [(mo, .inr (4, [.int th, .int mr, .ref nw, .ref kp, .int 0, .int (-1), .ref mk, .ref co, .int 0, .int 0, .ref se])), (nw, .inl (cN, 25240, .inl now0))] H := hP
  have hl := lv_entry ([.ref mo, .int 0, .int 1]) (n := 4) (Nat.le_of_ble_eq_true rfl)
  rw [lg_entry_eq]
  generalize (lg_sl ([.ref mo, .int 0, .int 1]) ++ List.replicate (4 - (lg_sl ([.ref mo, .int 0, .int 1])).length) Slot.unset).toArray = ls at hl ⊢
  have hl : lv_has ls 4 [(0, .ref mo), (1, .int 0), (2, .int 1)] := hl
  refine lv_iload_n (pc := 0) hx hb dM_may_0 rfl (lv_at hl 1 rfl) ?_
  refine lv_if_ne (pc := 1) (tgt := 20) hx hb dM_may_1 rfl (fun h1 => absurd h1 (by decide)) (fun h1 => ?_)
  refine lv_aload_n (pc := 4) hx hb dM_may_4 rfl (lv_at hl 0 rfl) ?_
  refine va_get (D := (dC, dI)) (cl := kCl) (C := RM) (T := TM) (N := 11) (pc := 5) hx hb hts inM hown hK hP 0 rfl rfl 2 (by decide) (hts _ wd_158) (fun _ h9 => h9) rfl dM_may_5 ?_
  refine lv_bipush (pc := 8) (v := 17) hx hb dM_may_8 (by decide) ?_
  refine va_iald (D := (dC, dI)) (cl := kCl) (pc := 10) hx hb hK hP 1 0 rfl rfl (vp_in_lit 17 25240 (by decide)) dM_may_10 ?_
  refine W.eq (g2 := F0 m 11 ls [.int 400]) rfl ?_
  refine lv_iload_n (pc := 11) hx hb dM_may_11 rfl (lv_at hl 2 rfl) ?_
  refine lv_icmp_ge (pc := 12) (tgt := 20) hx hb dM_may_12 rfl (fun h2 => ?_) (fun h2 => absurd h2 (by decide))
  refine lv_iload_n (pc := 20) hx hb dM_may_20 rfl (lv_at hl 1 rfl) ?_
  refine lv_istore_n (pc := 21) hx hb dM_may_21 rfl hl (by decide) rfl (fun ls hl => ?_)
  have hl : lv_has ls 4 [(3, .int 0), (0, .ref mo), (1, .int 0), (2, .int 1)] := hl
  refine lv_aload_n (pc := 22) hx hb dM_may_22 rfl (lv_at hl 1 rfl) ?_
  refine lv_aload_n (pc := 23) hx hb dM_may_23 rfl (lv_at hl 1 rfl) ?_
  refine va_get (D := (dC, dI)) (cl := kCl) (C := RM) (T := TM) (N := 11) (pc := 24) hx hb hts inM hown hK hP 0 rfl rfl 4 (by decide) (hts _ wd_163) (fun _ h9 => h9) rfl dM_may_24 ?_
  refine lv_if_eq (pc := 27) (tgt := 34) hx hb dM_may_27 rfl (fun h3 => ?_) (fun h3 => absurd h3 (by decide))
  refine lv_iconst (pc := 34) (v := 0) hx hb dM_may_34 (by decide) ?_
  refine va_put (D := (dC, dI)) (cl := kCl) (ci := 4) (v := .int 0) (ty := .int) (C := RM) (T := TM) (N := 11) (pc := 35) hx hb hts inM tyM tyM_ok nmM hown hK hP hD hS 0 rfl rfl 0 (by decide) (hts _ wd_152) (fun _ h9 => h9) rfl (by decide +kernel) rfl rfl (Nat.le_of_ble_eq_true rfl) dM_may_35 (fun H locs hP hD hS => ?_)
  have hP : va_P (dC, dI) kCl [(mo, .inr (4, [.int 0, .int mr, .ref nw, .ref kp, .int 0, .int (-1), .ref mk, .ref co, .int 0, .int 0, .ref se])), (nw, .inl (cN, 25240, .inl now0))] H := hP
  have hD : va_D A [(mo, .inr (4, [.int 0, .int mr, .ref nw, .ref kp, .int 0, .int (-1), .ref mk, .ref co, .int 0, .int 0, .ref se])), (nw, .inl (cN, 25240, .inl now0))] := hD
  refine lv_aload_n (pc := 38) hx hb dM_may_38 rfl (lv_at hl 1 rfl) ?_
  refine va_get (D := (dC, dI)) (cl := kCl) (C := RM) (T := TM) (N := 11) (pc := 39) hx hb hts inM hown hK hP 0 rfl rfl 4 (by decide) (hts _ wd_163) (fun _ h9 => h9) rfl dM_may_39 ?_
  refine lv_if_eq (pc := 42) (tgt := 47) hx hb dM_may_42 rfl (fun h4 => ?_) (fun h4 => absurd h4 (by decide))
  refine lv_iload_n (pc := 47) hx hb dM_may_47 rfl (lv_at hl 0 rfl) ?_
  refine lv_if_ne (pc := 48) (tgt := 79) hx hb dM_may_48 rfl (fun h5 => absurd h5 (by decide)) (fun h5 => ?_)
  refine lv_aload_n (pc := 51) hx hb dM_may_51 rfl (lv_at hl 1 rfl) ?_
  refine va_get (D := (dC, dI)) (cl := kCl) (C := RM) (T := TM) (N := 11) (pc := 52) hx hb hts inM hown hK hP 0 rfl rfl 5 (by decide) (hts _ wd_203) (fun _ h9 => h9) rfl dM_may_52 ?_
  refine lv_iconst (pc := 55) (v := (-1)) hx hb dM_may_55 (by decide) ?_
  refine lv_icmp_eq (pc := 56) (tgt := 79) hx hb dM_may_56 rfl (fun h6 => ?_) (fun h6 => absurd h6 (by decide))
  refine lv_aload_n (pc := 79) hx hb dM_may_79 rfl (lv_at hl 1 rfl) ?_
  refine lv_iload_n (pc := 80) hx hb dM_may_80 rfl (lv_at hl 0 rfl) ?_
  refine va_put (D := (dC, dI)) (cl := kCl) (ci := 4) (v := .int 0) (ty := .int) (C := RM) (T := TM) (N := 11) (pc := 81) hx hb hts inM tyM tyM_ok nmM hown hK hP hD hS 0 rfl rfl 1 (by decide) (hts _ wd_164) (fun _ h9 => h9) rfl (by decide +kernel) rfl rfl (Nat.le_of_ble_eq_true rfl) dM_may_81 (fun H locs hP hD hS => ?_)
  have hP : va_P (dC, dI) kCl [(mo, .inr (4, [.int 0, .int 0, .ref nw, .ref kp, .int 0, .int (-1), .ref mk, .ref co, .int 0, .int 0, .ref se])), (nw, .inl (cN, 25240, .inl now0))] H := hP
  have hD : va_D A [(mo, .inr (4, [.int 0, .int 0, .ref nw, .ref kp, .int 0, .int (-1), .ref mk, .ref co, .int 0, .int 0, .ref se])), (nw, .inl (cN, 25240, .inl now0))] := hD
  refine lv_iload_n (pc := 84) hx hb dM_may_84 rfl (lv_at hl 0 rfl) ?_
  refine lv_if_le (pc := 85) (tgt := 90) hx hb dM_may_85 rfl (fun h7 => ?_) (fun h7 => absurd h7 (by decide))
  refine lv_aload_n (pc := 90) hx hb dM_may_90 rfl (lv_at hl 1 rfl) ?_
  refine lv_aload_n (pc := 91) hx hb dM_may_91 rfl (lv_at hl 1 rfl) ?_
  refine va_get (D := (dC, dI)) (cl := kCl) (C := RM) (T := TM) (N := 11) (pc := 92) hx hb hts inM hown hK hP 0 rfl rfl 5 (by decide) (hts _ wd_203) (fun _ h9 => h9) rfl dM_may_92 ?_
  refine lv_iconst (pc := 95) (v := (-1)) hx hb dM_may_95 (by decide) ?_
  refine lv_icmp_ne (pc := 96) (tgt := 103) hx hb dM_may_96 rfl (fun h8 => absurd h8 (by decide)) (fun h8 => ?_)
  refine lv_iconst (pc := 99) (v := (-1)) hx hb dM_may_99 (by decide) ?_
  refine lv_goto (pc := 100) (tgt := 109) hx hb dM_may_100 rfl ?_
  refine va_put (D := (dC, dI)) (cl := kCl) (ci := 4) (v := .int (-1)) (ty := .int) (C := RM) (T := TM) (N := 11) (pc := 109) hx hb hts inM tyM tyM_ok nmM hown hK hP hD hS 0 rfl rfl 5 (by decide) (hts _ wd_203) (fun _ h9 => h9) rfl (by decide +kernel) rfl rfl (Nat.le_of_ble_eq_true rfl) dM_may_109 (fun H locs hP hD hS => ?_)
  have hP : va_P (dC, dI) kCl [(mo, .inr (4, [.int 0, .int 0, .ref nw, .ref kp, .int 0, .int (-1), .ref mk, .ref co, .int 0, .int 0, .ref se])), (nw, .inl (cN, 25240, .inl now0))] H := hP
  have hD : va_D A [(mo, .inr (4, [.int 0, .int 0, .ref nw, .ref kp, .int 0, .int (-1), .ref mk, .ref co, .int 0, .int 0, .ref se])), (nw, .inl (cN, 25240, .inl now0))] := hD
  refine lv_aload_n (pc := 112) hx hb dM_may_112 rfl (lv_at hl 1 rfl) ?_
  refine va_get (D := (dC, dI)) (cl := kCl) (C := RM) (T := TM) (N := 11) (pc := 113) hx hb hts inM hown hK hP 0 rfl rfl 2 (by decide) (hts _ wd_158) (fun _ h9 => h9) rfl dM_may_113 ?_
  refine lv_bipush (pc := 116) (v := 17) hx hb dM_may_116 (by decide) ?_
  refine lv_dup2_11 (pc := 118) hx hb dM_may_118 rfl rfl ?_
  refine va_iald (D := (dC, dI)) (cl := kCl) (pc := 119) hx hb hK hP 1 0 rfl rfl (vp_in_lit 17 25240 (by decide)) dM_may_119 ?_
  refine W.eq (g2 := F0 m 120 ls [.int 400, .int 17, .ref nw]) rfl ?_
  refine lv_iload_n (pc := 120) hx hb dM_may_120 rfl (lv_at hl 3 rfl) ?_
  refine lv_isub (pc := 121) hx hb dM_may_121 ?_
  refine lv_topi (fun z9 hz10 => ?_)
  obtain rfl : z9 = 399 := hz10.trans (by decide)
  refine va_iast (D := (dC, dI)) (cl := kCl) (pc := 122) hx hb hK hP hD hS 1 0 rfl rfl (vp_in_lit 17 25240 (by decide)) dM_may_122 (fun H locs hP hD hS => ?_)
  have hP : va_P (dC, dI) kCl [(mo, .inr (4, [.int 0, .int 0, .ref nw, .ref kp, .int 0, .int (-1), .ref mk, .ref co, .int 0, .int 0, .ref se])), (nw, .inl (cN, 25240, .inl (upd now0 (17 : Int32).toNatClampNeg 399)))] H := hP
  have hD : va_D A [(mo, .inr (4, [.int 0, .int 0, .ref nw, .ref kp, .int 0, .int (-1), .ref mk, .ref co, .int 0, .int 0, .ref se])), (nw, .inl (cN, 25240, .inl (upd now0 (17 : Int32).toNatClampNeg 399)))] := hD
  refine lv_aload_n (pc := 123) hx hb dM_may_123 rfl (lv_at hl 1 rfl) ?_
  refine va_get (D := (dC, dI)) (cl := kCl) (C := RM) (T := TM) (N := 11) (pc := 124) hx hb hts inM hown hK hP 0 rfl rfl 2 (by decide) (hts _ wd_158) (fun _ h9 => h9) rfl dM_may_124 ?_
  refine lv_bipush (pc := 127) (v := 18) hx hb dM_may_127 (by decide) ?_
  refine lv_dup2_11 (pc := 129) hx hb dM_may_129 rfl rfl ?_
  refine va_iald (D := (dC, dI)) (cl := kCl) (pc := 130) hx hb hK hP 1 0 rfl rfl (vp_in_lit 18 25240 (by decide)) dM_may_130 ?_
  refine W.eq (g2 := F0 m 131 ls [.int 0, .int 18, .ref nw]) rfl ?_
  refine lv_iconst (pc := 131) (v := 1) hx hb dM_may_131 (by decide) ?_
  refine lv_iadd (pc := 132) hx hb dM_may_132 ?_
  refine lv_topi (fun z11 hz12 => ?_)
  obtain rfl : z11 = 1 := hz12.trans (by decide)
  refine va_iast (D := (dC, dI)) (cl := kCl) (pc := 133) hx hb hK hP hD hS 1 0 rfl rfl (vp_in_lit 18 25240 (by decide)) dM_may_133 (fun H locs hP hD hS => ?_)
  have hP : va_P (dC, dI) kCl [(mo, .inr (4, [.int 0, .int 0, .ref nw, .ref kp, .int 0, .int (-1), .ref mk, .ref co, .int 0, .int 0, .ref se])), (nw, .inl (cN, 25240, .inl (upd (upd now0 (17 : Int32).toNatClampNeg 399) (18 : Int32).toNatClampNeg 1)))] H := hP
  have hD : va_D A [(mo, .inr (4, [.int 0, .int 0, .ref nw, .ref kp, .int 0, .int (-1), .ref mk, .ref co, .int 0, .int 0, .ref se])), (nw, .inl (cN, 25240, .inl (upd (upd now0 (17 : Int32).toNatClampNeg 399) (18 : Int32).toNatClampNeg 1)))] := hD
  refine lv_iconst (pc := 134) (v := 1) hx hb dM_may_134 (by decide) ?_
  have hP9 := hP.sub (ws' := [(mo, .inr (4, [.int 0, .int 0, .ref nw, .ref kp, .int 0, .int (-1), .ref mk, .ref co, .int 0, .int 0, .ref se])), (nw, .inl (cN, 25240, .inl (upd (upd now0 (17 : Int32).toNatClampNeg 399) (18 : Int32).toNatClampNeg 1)))]) [0, 1] rfl
  have hD9 := hD.sub (ws' := [(mo, .inr (4, [.int 0, .int 0, .ref nw, .ref kp, .int 0, .int (-1), .ref mk, .ref co, .int 0, .int 0, .ref se])), (nw, .inl (cN, 25240, .inl (upd (upd now0 (17 : Int32).toNatClampNeg 399) (18 : Int32).toNatClampNeg 1)))]) [0, 1] (by decide) rfl
  have hK9 := hK.sub (tys' := [(cN, .int)]) [0] rfl
  exact W.zret (pc := 135) hx hb hr rfl (fun t ht hW => ⟨⟨_, (), rfl, rfl, by rw [ht]; exact hP9, va_K.moved hW.alike hK9, hD9⟩, hS.F ht⟩) hS.2.2 dM_may_135
set_option maxHeartbeats 4000000 in
set_option maxRecDepth 100000 in
theorem m_person (l : Launch) (dC : Nat → ClassId) (dI : Nat → Nat → Nat) (sz : Nat) (mo : Nat) (nw : Nat) (kp : Nat) (mk : Nat) (co : Nat) (se : Nat) (th : Int32) (mr : Int32) (cN : ClassId) (cK : ClassId) (fk : Nat → Int32) (pp : Int32) (ri : Int32) : Met l yM_person (.code yM_person cM_person 4 (some .boolean) :: aw) ({ frames := 2, cells := 0, slots := 0, locals := 42 }) (pW (dC, dI) sz [(mo, .inr (4, [.int th, .int mr, .ref nw, .ref kp, .int 0, .int (-1), .ref mk, .ref co, .int 0, .int 0, .ref se])), (nw, .inl (cN, 25240, .inl now0)), (kp, .inl (cK, 25240, .inl fk))] [(cN, .int), (cK, .int)] [.ref mo, .int pp, .int ri]) (va_Qi (fun r (u9 : Int32) => (r = 1 ∧ u9 = 0 ∧ (¬ pp < 0 ∧ ¬ (16 : Int32) ≤ pp ∧ ¬ ri < 0 ∧ ¬ (8 : Int32) ≤ ri)) ∨ (r = 0 ∧ u9 = 7 ∧ (pp < 0 ∨ (16 : Int32) ≤ pp ∨ ri < 0 ∨ (8 : Int32) ≤ ri))) (fun u9 t => wW (dC, dI) (va_A [(mo, .inr (4, [.int th, .int mr, .ref nw, .ref kp, .int 0, .int (-1), .ref mk, .ref co, .int 0, .int 0, .ref se])), (nw, .inl (cN, 25240, .inl now0)), (kp, .inl (cK, 25240, .inl fk))] sz) [(mo, .inr (4, [.int 0, .int u9, .ref nw, .ref kp, .int 0, .int (-1), .ref mk, .ref co, .int 0, .int 0, .ref se]))] [] t) (va_A [(mo, .inr (4, [.int th, .int mr, .ref nw, .ref kp, .int 0, .int (-1), .ref mk, .ref co, .int 0, .int 0, .ref se])), (nw, .inl (cN, 25240, .inl now0)), (kp, .inl (cK, 25240, .inl fk))] sz)) 0 0 (va_A [(mo, .inr (4, [.int th, .int mr, .ref nw, .ref kp, .int 0, .int (-1), .ref mk, .ref co, .int 0, .int 0, .ref se])), (nw, .inl (cN, 25240, .inl now0)), (kp, .inl (cK, 25240, .inl fk))] sz) := by
  refine Met.ofW (cc := cM_person) (maxL := 4) (ret := (some .boolean)) (by decide) rfl ?_
  intro p e s m args below meth c s₁ B hml hv
  obtain ⟨rfl, hv⟩ := hv
  have hx := B.exec
  have hb := B.bytes
  have hr := B.returns
  have hts : ∀ w ∈ aw, w.before _ s = true := fun w h => atoms_spec (ws := (.code yM_person cM_person 4 (some .boolean) :: aw)) B.pre w (List.mem_cons_of_mem _ h)
  have hown : s.vm.findClass RM = some m.cls := findClass_of_methodNamed B.named
  have hlocks := B.notSynchronized
  obtain ⟨hsz, hP, hK, hD0⟩ := hv
  subst hsz
  have hD := hD0.self (sz := s.heap.size)
  generalize hAe : va_A [(mo, .inr (4, [.int th, .int mr, .ref nw, .ref kp, .int 0, .int (-1), .ref mk, .ref co, .int 0, .int 0, .ref se])), (nw, .inl (cN, 25240, .inl now0)), (kp, .inl (cK, 25240, .inl fk))] s.heap.size = A at hD ⊢
  have hA : ∀ q : Nat, s.heap.size ≤ q → A q := fun q h => by rw [← hAe]; exact Or.inr h
  obtain ⟨H, hH⟩ : ∃ H, H = s.heap := ⟨_, rfl⟩
  have hS : va_S A s.heap H [] := by rw [hH]; exact va_S.rf
  rw [← hH] at hP ⊢
  have hP : va_P (dC, dI) kCl [(mo, .inr (4, [.int th, .int mr, .ref nw, .ref kp, .int 0, .int (-1), .ref mk, .ref co, .int 0, .int 0, .ref se])), (nw, .inl (cN, 25240, .inl now0)), (kp, .inl (cK, 25240, .inl fk))] H := hP
  have hl := lv_entry ([.ref mo, .int pp, .int ri]) (n := 4) (Nat.le_of_ble_eq_true rfl)
  rw [lg_entry_eq]
  generalize (lg_sl ([.ref mo, .int pp, .int ri]) ++ List.replicate (4 - (lg_sl ([.ref mo, .int pp, .int ri])).length) Slot.unset).toArray = ls at hl ⊢
  have hl : lv_has ls 4 [(0, .ref mo), (1, .int pp), (2, .int ri)] := hl
  refine lv_aload_n (pc := 0) hx hb dM_person_0 rfl (lv_at hl 0 rfl) ?_
  refine lv_iload_n (pc := 1) hx hb dM_person_1 rfl (lv_at hl 1 rfl) ?_
  refine vp_callSi (pc := 2) (W.runV (As := [.int pp]) (rest := []) ⟨hx, hb, hml, hown, hts⟩ (m_isPerson l dC dI mo nw kp mk co se th mr pp) (cwV 1 hts (gV wd_154 wd_155 wd_156 wd_157 wd_153) rfl rfl rfl (by decide +kernel) ⟨Nat.le_of_ble_eq_true rfl, Nat.le_of_ble_eq_true rfl⟩) ⟨pR_blind, va_recv (q := (RM, TM, 11)) (q0 := 0) (ci := 4) hK hP rfl rfl, pR_pre (hP.sub (ws' := [(mo, .inr (4, [.int th, .int mr, .ref nw, .ref kp, .int 0, .int (-1), .ref mk, .ref co, .int 0, .int 0, .ref se]))]) [0] rfl) (hK.sub (tys' := []) [] rfl)⟩ rfl rfl hl.1 rfl (lv_room (Nat.le_of_ble_eq_true rfl)) dM_person_2 ⟨Nat.le_of_ble_eq_true rfl, Nat.le_of_ble_eq_true rfl⟩) (fun r1 hr2 => ?_)
  obtain ⟨rfl, h3⟩ | ⟨rfl, h3⟩ : (r1 = 1 ∧ (¬ pp < 0 ∧ ¬ (16 : Int32) ≤ pp)) ∨ (r1 = 0 ∧ (pp < 0 ∨ (16 : Int32) ≤ pp)) := hr2
  · refine lv_if_eq (pc := 5) (tgt := 22) hx hb dM_person_5 rfl (fun h4 => absurd h4 (by decide)) (fun h4 => ?_)
    refine lv_iload_n (pc := 8) hx hb dM_person_8 rfl (lv_at hl 2 rfl) ?_
    refine lv_if_lt (pc := 9) (tgt := 22) hx hb dM_person_9 rfl (fun h5 => ?_) (fun h5 => ?_)
    · refine lv_bipush (pc := 22) (v := 7) hx hb dM_person_22 (by decide) ?_
      refine lv_istore_n (pc := 24) hx hb dM_person_24 rfl hl (by decide) rfl (fun ls hl => ?_)
      have hl : lv_has ls 4 [(3, .int 7), (0, .ref mo), (1, .int pp), (2, .int ri)] := hl
      refine lv_aload_n (pc := 25) hx hb dM_person_25 rfl (lv_at hl 1 rfl) ?_
      refine lv_iload_n (pc := 26) hx hb dM_person_26 rfl (lv_at hl 0 rfl) ?_
      refine lv_iconst (pc := 27) (v := 1) hx hb dM_person_27 (by decide) ?_
      have hPc := hP.sub (ws' := [(mo, .inr (4, [.int th, .int mr, .ref nw, .ref kp, .int 0, .int (-1), .ref mk, .ref co, .int 0, .int 0, .ref se])), (nw, .inl (cN, 25240, .inl now0))]) [0, 1] rfl
      have hDc := hD.sub (ws' := [(mo, .inr (4, [.int th, .int mr, .ref nw, .ref kp, .int 0, .int (-1), .ref mk, .ref co, .int 0, .int 0, .ref se])), (nw, .inl (cN, 25240, .inl now0))]) [0, 1] (by decide) rfl
      have hKc := hK.sub (tys' := [(cN, .int)]) [0] rfl
      have hFc := va_free (wc := [(mo, .inr (4, [.int th, .int mr, .ref nw, .ref kp, .int 0, .int (-1), .ref mk, .ref co, .int 0, .int 0, .ref se])), (nw, .inl (cN, 25240, .inl now0))]) hD hS hA [0, 1] rfl
      refine va_calli (pc := 28) (va_runV (As := [.int 7, .int 1]) (rest := []) ⟨hx, hb, hml, hown, hts⟩ (m_may l dC dI H.size mo nw kp mk co se th mr cN 7 1 (by decide) (by decide)) (cwV 2 hts (gV wd_181 wd_182 wd_183 wd_157 wd_180) rfl rfl rfl (by decide +kernel) ⟨Nat.le_of_ble_eq_true rfl, Nat.le_of_ble_eq_true rfl⟩) ⟨pW_blind, va_recv (q := (RM, TM, 11)) (q0 := 0) (ci := 4) hK hP rfl rfl, pW_pre hPc hKc hDc⟩ rfl rfl hl.1 rfl (lv_room (Nat.le_of_ble_eq_true rfl)) dM_person_28 ⟨Nat.le_of_ble_eq_true rfl, Nat.le_of_ble_eq_true rfl⟩) hS (fun q _ h => hFc q h) hFc (fun r6 u t H1 locs ht hvm hr7 hB hz1 hk1 hS => ?_)
      obtain ⟨hP1, hK1, hD1⟩ := hB
      rw [ht] at hP1
      have hK1 := va_K.moved hvm.symm hK1
      obtain ⟨hP, hD⟩ := va_join (wr := [(kp, .inl (cK, 25240, .inl fk))]) (w1 := [(mo, .inr (4, [.int 0, .int 7, .ref nw, .ref kp, .int 0, .int (-1), .ref mk, .ref co, .int 0, .int 0, .ref se])), (nw, .inl (cN, 25240, .inl now0))]) hP hD [0, 1] [2] rfl rfl (by decide) (by decide) hk1 hFc hP1 hD1
      generalize H1 = H at hP hS ⊢
      have hP : va_P (dC, dI) kCl [(kp, .inl (cK, 25240, .inl fk)), (mo, .inr (4, [.int 0, .int 7, .ref nw, .ref kp, .int 0, .int (-1), .ref mk, .ref co, .int 0, .int 0, .ref se])), (nw, .inl (cN, 25240, .inl now0))] H := hP
      have hD : va_D A [(kp, .inl (cK, 25240, .inl fk)), (mo, .inr (4, [.int 0, .int 7, .ref nw, .ref kp, .int 0, .int (-1), .ref mk, .ref co, .int 0, .int 0, .ref se])), (nw, .inl (cN, 25240, .inl now0))] := hD
      refine W.widen (k := 0) (n := 0) (Nat.le_of_ble_eq_true rfl) (Nat.le_of_ble_eq_true rfl) ?_
      obtain rfl : r6 = 0 := hr7
      refine lv_if_ne (pc := 31) (tgt := 36) hx hb dM_person_31 rfl (fun h9 => absurd h9 (by decide)) (fun h9 => ?_)
      refine lv_iconst (pc := 34) (v := 0) hx hb dM_person_34 (by decide) ?_
      have hP9 := hP.sub (ws' := [(mo, .inr (4, [.int 0, .int 7, .ref nw, .ref kp, .int 0, .int (-1), .ref mk, .ref co, .int 0, .int 0, .ref se]))]) [1] rfl
      have hD9 := hD.sub (ws' := [(mo, .inr (4, [.int 0, .int 7, .ref nw, .ref kp, .int 0, .int (-1), .ref mk, .ref co, .int 0, .int 0, .ref se]))]) [1] (by decide) rfl
      have hK9 := hK.sub (tys' := []) [] rfl
      exact W.zret (pc := 35) hx hb hr rfl (fun t ht hW => ⟨⟨_, 7, rfl, (Or.inr ⟨rfl, rfl, Or.inr (Or.inr (Or.inl h5))⟩), by rw [ht]; exact hP9, va_K.moved hW.alike hK9, hD9⟩, hS.F ht⟩) hS.2.2 dM_person_35
    · refine lv_iload_n (pc := 12) hx hb dM_person_12 rfl (lv_at hl 2 rfl) ?_
      refine lv_bipush (pc := 13) (v := 8) hx hb dM_person_13 (by decide) ?_
      refine lv_icmp_ge (pc := 15) (tgt := 22) hx hb dM_person_15 rfl (fun h10 => ?_) (fun h10 => ?_)
      · refine lv_bipush (pc := 22) (v := 7) hx hb dM_person_22 (by decide) ?_
        refine lv_istore_n (pc := 24) hx hb dM_person_24 rfl hl (by decide) rfl (fun ls hl => ?_)
        have hl : lv_has ls 4 [(3, .int 7), (0, .ref mo), (1, .int pp), (2, .int ri)] := hl
        refine lv_aload_n (pc := 25) hx hb dM_person_25 rfl (lv_at hl 1 rfl) ?_
        refine lv_iload_n (pc := 26) hx hb dM_person_26 rfl (lv_at hl 0 rfl) ?_
        refine lv_iconst (pc := 27) (v := 1) hx hb dM_person_27 (by decide) ?_
        have hPc := hP.sub (ws' := [(mo, .inr (4, [.int th, .int mr, .ref nw, .ref kp, .int 0, .int (-1), .ref mk, .ref co, .int 0, .int 0, .ref se])), (nw, .inl (cN, 25240, .inl now0))]) [0, 1] rfl
        have hDc := hD.sub (ws' := [(mo, .inr (4, [.int th, .int mr, .ref nw, .ref kp, .int 0, .int (-1), .ref mk, .ref co, .int 0, .int 0, .ref se])), (nw, .inl (cN, 25240, .inl now0))]) [0, 1] (by decide) rfl
        have hKc := hK.sub (tys' := [(cN, .int)]) [0] rfl
        have hFc := va_free (wc := [(mo, .inr (4, [.int th, .int mr, .ref nw, .ref kp, .int 0, .int (-1), .ref mk, .ref co, .int 0, .int 0, .ref se])), (nw, .inl (cN, 25240, .inl now0))]) hD hS hA [0, 1] rfl
        refine va_calli (pc := 28) (va_runV (As := [.int 7, .int 1]) (rest := []) ⟨hx, hb, hml, hown, hts⟩ (m_may l dC dI H.size mo nw kp mk co se th mr cN 7 1 (by decide) (by decide)) (cwV 2 hts (gV wd_181 wd_182 wd_183 wd_157 wd_180) rfl rfl rfl (by decide +kernel) ⟨Nat.le_of_ble_eq_true rfl, Nat.le_of_ble_eq_true rfl⟩) ⟨pW_blind, va_recv (q := (RM, TM, 11)) (q0 := 0) (ci := 4) hK hP rfl rfl, pW_pre hPc hKc hDc⟩ rfl rfl hl.1 rfl (lv_room (Nat.le_of_ble_eq_true rfl)) dM_person_28 ⟨Nat.le_of_ble_eq_true rfl, Nat.le_of_ble_eq_true rfl⟩) hS (fun q _ h => hFc q h) hFc (fun r11 u t H1 locs ht hvm hr12 hB hz1 hk1 hS => ?_)
        obtain ⟨hP1, hK1, hD1⟩ := hB
        rw [ht] at hP1
        have hK1 := va_K.moved hvm.symm hK1
        obtain ⟨hP, hD⟩ := va_join (wr := [(kp, .inl (cK, 25240, .inl fk))]) (w1 := [(mo, .inr (4, [.int 0, .int 7, .ref nw, .ref kp, .int 0, .int (-1), .ref mk, .ref co, .int 0, .int 0, .ref se])), (nw, .inl (cN, 25240, .inl now0))]) hP hD [0, 1] [2] rfl rfl (by decide) (by decide) hk1 hFc hP1 hD1
        generalize H1 = H at hP hS ⊢
        have hP : va_P (dC, dI) kCl [(kp, .inl (cK, 25240, .inl fk)), (mo, .inr (4, [.int 0, .int 7, .ref nw, .ref kp, .int 0, .int (-1), .ref mk, .ref co, .int 0, .int 0, .ref se])), (nw, .inl (cN, 25240, .inl now0))] H := hP
        have hD : va_D A [(kp, .inl (cK, 25240, .inl fk)), (mo, .inr (4, [.int 0, .int 7, .ref nw, .ref kp, .int 0, .int (-1), .ref mk, .ref co, .int 0, .int 0, .ref se])), (nw, .inl (cN, 25240, .inl now0))] := hD
        refine W.widen (k := 0) (n := 0) (Nat.le_of_ble_eq_true rfl) (Nat.le_of_ble_eq_true rfl) ?_
        obtain rfl : r11 = 0 := hr12
        refine lv_if_ne (pc := 31) (tgt := 36) hx hb dM_person_31 rfl (fun h14 => absurd h14 (by decide)) (fun h14 => ?_)
        refine lv_iconst (pc := 34) (v := 0) hx hb dM_person_34 (by decide) ?_
        have hP9 := hP.sub (ws' := [(mo, .inr (4, [.int 0, .int 7, .ref nw, .ref kp, .int 0, .int (-1), .ref mk, .ref co, .int 0, .int 0, .ref se]))]) [1] rfl
        have hD9 := hD.sub (ws' := [(mo, .inr (4, [.int 0, .int 7, .ref nw, .ref kp, .int 0, .int (-1), .ref mk, .ref co, .int 0, .int 0, .ref se]))]) [1] (by decide) rfl
        have hK9 := hK.sub (tys' := []) [] rfl
        exact W.zret (pc := 35) hx hb hr rfl (fun t ht hW => ⟨⟨_, 7, rfl, (Or.inr ⟨rfl, rfl, Or.inr (Or.inr (Or.inr h10))⟩), by rw [ht]; exact hP9, va_K.moved hW.alike hK9, hD9⟩, hS.F ht⟩) hS.2.2 dM_person_35
      · refine lv_iconst (pc := 18) (v := 0) hx hb dM_person_18 (by decide) ?_
        refine lv_goto (pc := 19) (tgt := 24) hx hb dM_person_19 rfl ?_
        refine lv_istore_n (pc := 24) hx hb dM_person_24 rfl hl (by decide) rfl (fun ls hl => ?_)
        have hl : lv_has ls 4 [(3, .int 0), (0, .ref mo), (1, .int pp), (2, .int ri)] := hl
        refine lv_aload_n (pc := 25) hx hb dM_person_25 rfl (lv_at hl 1 rfl) ?_
        refine lv_iload_n (pc := 26) hx hb dM_person_26 rfl (lv_at hl 0 rfl) ?_
        refine lv_iconst (pc := 27) (v := 1) hx hb dM_person_27 (by decide) ?_
        have hPc := hP.sub (ws' := [(mo, .inr (4, [.int th, .int mr, .ref nw, .ref kp, .int 0, .int (-1), .ref mk, .ref co, .int 0, .int 0, .ref se])), (nw, .inl (cN, 25240, .inl now0))]) [0, 1] rfl
        have hDc := hD.sub (ws' := [(mo, .inr (4, [.int th, .int mr, .ref nw, .ref kp, .int 0, .int (-1), .ref mk, .ref co, .int 0, .int 0, .ref se])), (nw, .inl (cN, 25240, .inl now0))]) [0, 1] (by decide) rfl
        have hKc := hK.sub (tys' := [(cN, .int)]) [0] rfl
        have hFc := va_free (wc := [(mo, .inr (4, [.int th, .int mr, .ref nw, .ref kp, .int 0, .int (-1), .ref mk, .ref co, .int 0, .int 0, .ref se])), (nw, .inl (cN, 25240, .inl now0))]) hD hS hA [0, 1] rfl
        refine va_calli (pc := 28) (va_runV (As := [.int 0, .int 1]) (rest := []) ⟨hx, hb, hml, hown, hts⟩ (m_may1 l dC dI H.size mo nw kp mk co se th mr cN) (cwV 2 hts (gV wd_181 wd_182 wd_183 wd_157 wd_180) rfl rfl rfl (by decide +kernel) ⟨Nat.le_of_ble_eq_true rfl, Nat.le_of_ble_eq_true rfl⟩) ⟨pW_blind, va_recv (q := (RM, TM, 11)) (q0 := 0) (ci := 4) hK hP rfl rfl, pW_pre hPc hKc hDc⟩ rfl rfl hl.1 rfl (lv_room (Nat.le_of_ble_eq_true rfl)) dM_person_28 ⟨Nat.le_of_ble_eq_true rfl, Nat.le_of_ble_eq_true rfl⟩) hS (fun q _ h => hFc q h) hFc (fun r15 u t H1 locs ht hvm hr16 hB hz1 hk1 hS => ?_)
        obtain ⟨hP1, hK1, hD1⟩ := hB
        rw [ht] at hP1
        have hK1 := va_K.moved hvm.symm hK1
        obtain ⟨hP, hD⟩ := va_join (wr := [(kp, .inl (cK, 25240, .inl fk))]) (w1 := [(mo, .inr (4, [.int 0, .int 0, .ref nw, .ref kp, .int 0, .int (-1), .ref mk, .ref co, .int 0, .int 0, .ref se])), (nw, .inl (cN, 25240, .inl (upd (upd now0 (17 : Int32).toNatClampNeg 399) (18 : Int32).toNatClampNeg 1)))]) hP hD [0, 1] [2] rfl rfl (by decide) (by decide) hk1 hFc hP1 hD1
        generalize H1 = H at hP hS ⊢
        have hP : va_P (dC, dI) kCl [(kp, .inl (cK, 25240, .inl fk)), (mo, .inr (4, [.int 0, .int 0, .ref nw, .ref kp, .int 0, .int (-1), .ref mk, .ref co, .int 0, .int 0, .ref se])), (nw, .inl (cN, 25240, .inl (upd (upd now0 (17 : Int32).toNatClampNeg 399) (18 : Int32).toNatClampNeg 1)))] H := hP
        have hD : va_D A [(kp, .inl (cK, 25240, .inl fk)), (mo, .inr (4, [.int 0, .int 0, .ref nw, .ref kp, .int 0, .int (-1), .ref mk, .ref co, .int 0, .int 0, .ref se])), (nw, .inl (cN, 25240, .inl (upd (upd now0 (17 : Int32).toNatClampNeg 399) (18 : Int32).toNatClampNeg 1)))] := hD
        refine W.widen (k := 0) (n := 0) (Nat.le_of_ble_eq_true rfl) (Nat.le_of_ble_eq_true rfl) ?_
        obtain rfl : r15 = 1 := hr16
        refine lv_if_ne (pc := 31) (tgt := 36) hx hb dM_person_31 rfl (fun h18 => ?_) (fun h18 => absurd h18 (by decide))
        refine lv_aload_n (pc := 36) hx hb dM_person_36 rfl (lv_at hl 1 rfl) ?_
        refine va_get (D := (dC, dI)) (cl := kCl) (C := RM) (T := TM) (N := 11) (pc := 37) hx hb hts inM hown hK hP 1 rfl rfl 2 (by decide) (hts _ wd_158) (fun _ h9 => h9) rfl dM_person_37 ?_
        refine lv_iload_n (pc := 40) hx hb dM_person_40 rfl (lv_at hl 2 rfl) ?_
        refine lv_iload_n (pc := 41) hx hb dM_person_41 rfl (lv_at hl 3 rfl) ?_
        refine va_iast (D := (dC, dI)) (cl := kCl) (pc := 42) hx hb hK hP hD hS 2 0 rfl rfl (vin_le (vin_of (n := 16) (k := 16) (by decide) h3.1 h3.2) (by decide)) dM_person_42 (fun H locs hP hD hS => ?_)
        have hP : va_P (dC, dI) kCl [(kp, .inl (cK, 25240, .inl fk)), (mo, .inr (4, [.int 0, .int 0, .ref nw, .ref kp, .int 0, .int (-1), .ref mk, .ref co, .int 0, .int 0, .ref se])), (nw, .inl (cN, 25240, .inl (upd (upd (upd now0 (17 : Int32).toNatClampNeg 399) (18 : Int32).toNatClampNeg 1) (pp : Int32).toNatClampNeg ri)))] H := hP
        have hD : va_D A [(kp, .inl (cK, 25240, .inl fk)), (mo, .inr (4, [.int 0, .int 0, .ref nw, .ref kp, .int 0, .int (-1), .ref mk, .ref co, .int 0, .int 0, .ref se])), (nw, .inl (cN, 25240, .inl (upd (upd (upd now0 (17 : Int32).toNatClampNeg 399) (18 : Int32).toNatClampNeg 1) (pp : Int32).toNatClampNeg ri)))] := hD
        refine lv_aload_n (pc := 43) hx hb dM_person_43 rfl (lv_at hl 1 rfl) ?_
        have hPc := hP.sub (ws' := [(mo, .inr (4, [.int 0, .int 0, .ref nw, .ref kp, .int 0, .int (-1), .ref mk, .ref co, .int 0, .int 0, .ref se])), (nw, .inl (cN, 25240, .inl (upd (upd (upd now0 (17 : Int32).toNatClampNeg 399) (18 : Int32).toNatClampNeg 1) (pp : Int32).toNatClampNeg ri))), (kp, .inl (cK, 25240, .inl fk))]) [1, 2, 0] rfl
        have hDc := hD.sub (ws' := [(mo, .inr (4, [.int 0, .int 0, .ref nw, .ref kp, .int 0, .int (-1), .ref mk, .ref co, .int 0, .int 0, .ref se])), (nw, .inl (cN, 25240, .inl (upd (upd (upd now0 (17 : Int32).toNatClampNeg 399) (18 : Int32).toNatClampNeg 1) (pp : Int32).toNatClampNeg ri))), (kp, .inl (cK, 25240, .inl fk))]) [1, 2, 0] (by decide) rfl
        have hKc := hK.sub (tys' := [(cN, .int), (cK, .int)]) [0, 1] rfl
        have hFc := va_free (wc := [(mo, .inr (4, [.int 0, .int 0, .ref nw, .ref kp, .int 0, .int (-1), .ref mk, .ref co, .int 0, .int 0, .ref se])), (nw, .inl (cN, 25240, .inl (upd (upd (upd now0 (17 : Int32).toNatClampNeg 399) (18 : Int32).toNatClampNeg 1) (pp : Int32).toNatClampNeg ri))), (kp, .inl (cK, 25240, .inl fk))]) hD hS hA [1, 2, 0] rfl
        refine va_callv (pc := 44) (va_runV (As := []) (rest := []) ⟨hx, hb, hml, hown, hts⟩ (m_close l dC dI H.size mo nw kp mk co se 0 0 cN (upd (upd (upd now0 (17 : Int32).toNatClampNeg 399) (18 : Int32).toNatClampNeg 1) (pp : Int32).toNatClampNeg ri) cK fk (per_17 (vin_of (k := 16) (by decide) h3.1 h3.2) (by decide))) (cwV 0 hts (gV wd_210 wd_211 wd_212 wd_157 wd_209) rfl rfl rfl (by decide +kernel) ⟨Nat.le_of_ble_eq_true rfl, Nat.le_of_ble_eq_true rfl⟩) ⟨pW_blind, va_recv (q := (RM, TM, 11)) (q0 := 1) (ci := 4) hK hP rfl rfl, pW_pre hPc hKc hDc⟩ rfl rfl hl.1 rfl (lv_room (Nat.le_of_ble_eq_true rfl)) dM_person_44 ⟨Nat.le_of_ble_eq_true rfl, Nat.le_of_ble_eq_true rfl⟩) hS (fun q _ h => hFc q h) hFc (fun u t H1 locs ht hvm hr20 hB hz1 hk1 hS => ?_)
        obtain ⟨hP1, hK1, hD1⟩ := hB
        rw [ht] at hP1
        have hK1 := va_K.moved hvm.symm hK1
        obtain ⟨hP, hD⟩ := va_join (wr := []) (w1 := [(mo, .inr (4, [.int 0, .int 0, .ref nw, .ref kp, .int 0, .int (-1), .ref mk, .ref co, .int 0, .int 0, .ref se]))]) hP hD [1, 2, 0] [] rfl rfl (by decide) (by decide) hk1 hFc hP1 hD1
        generalize H1 = H at hP hS ⊢
        have hP : va_P (dC, dI) kCl [(mo, .inr (4, [.int 0, .int 0, .ref nw, .ref kp, .int 0, .int (-1), .ref mk, .ref co, .int 0, .int 0, .ref se]))] H := hP
        have hD : va_D A [(mo, .inr (4, [.int 0, .int 0, .ref nw, .ref kp, .int 0, .int (-1), .ref mk, .ref co, .int 0, .int 0, .ref se]))] := hD
        refine W.widen (k := 0) (n := 0) (Nat.le_of_ble_eq_true rfl) (Nat.le_of_ble_eq_true rfl) ?_
        refine lv_iconst (pc := 47) (v := 1) hx hb dM_person_47 (by decide) ?_
        have hP9 := hP.sub (ws' := [(mo, .inr (4, [.int 0, .int 0, .ref nw, .ref kp, .int 0, .int (-1), .ref mk, .ref co, .int 0, .int 0, .ref se]))]) [0] rfl
        have hD9 := hD.sub (ws' := [(mo, .inr (4, [.int 0, .int 0, .ref nw, .ref kp, .int 0, .int (-1), .ref mk, .ref co, .int 0, .int 0, .ref se]))]) [0] (by decide) rfl
        have hK9 := hK.sub (tys' := []) [] rfl
        exact W.zret (pc := 48) hx hb hr rfl (fun t ht hW => ⟨⟨_, 0, rfl, (Or.inl ⟨rfl, rfl, h3.1, h3.2, h5, h10⟩), by rw [ht]; exact hP9, va_K.moved hW.alike hK9, hD9⟩, hS.F ht⟩) hS.2.2 dM_person_48
  · refine lv_if_eq (pc := 5) (tgt := 22) hx hb dM_person_5 rfl (fun h22 => ?_) (fun h22 => absurd h22 (by decide))
    refine lv_bipush (pc := 22) (v := 7) hx hb dM_person_22 (by decide) ?_
    refine lv_istore_n (pc := 24) hx hb dM_person_24 rfl hl (by decide) rfl (fun ls hl => ?_)
    have hl : lv_has ls 4 [(3, .int 7), (0, .ref mo), (1, .int pp), (2, .int ri)] := hl
    refine lv_aload_n (pc := 25) hx hb dM_person_25 rfl (lv_at hl 1 rfl) ?_
    refine lv_iload_n (pc := 26) hx hb dM_person_26 rfl (lv_at hl 0 rfl) ?_
    refine lv_iconst (pc := 27) (v := 1) hx hb dM_person_27 (by decide) ?_
    have hPc := hP.sub (ws' := [(mo, .inr (4, [.int th, .int mr, .ref nw, .ref kp, .int 0, .int (-1), .ref mk, .ref co, .int 0, .int 0, .ref se])), (nw, .inl (cN, 25240, .inl now0))]) [0, 1] rfl
    have hDc := hD.sub (ws' := [(mo, .inr (4, [.int th, .int mr, .ref nw, .ref kp, .int 0, .int (-1), .ref mk, .ref co, .int 0, .int 0, .ref se])), (nw, .inl (cN, 25240, .inl now0))]) [0, 1] (by decide) rfl
    have hKc := hK.sub (tys' := [(cN, .int)]) [0] rfl
    have hFc := va_free (wc := [(mo, .inr (4, [.int th, .int mr, .ref nw, .ref kp, .int 0, .int (-1), .ref mk, .ref co, .int 0, .int 0, .ref se])), (nw, .inl (cN, 25240, .inl now0))]) hD hS hA [0, 1] rfl
    refine va_calli (pc := 28) (va_runV (As := [.int 7, .int 1]) (rest := []) ⟨hx, hb, hml, hown, hts⟩ (m_may l dC dI H.size mo nw kp mk co se th mr cN 7 1 (by decide) (by decide)) (cwV 2 hts (gV wd_181 wd_182 wd_183 wd_157 wd_180) rfl rfl rfl (by decide +kernel) ⟨Nat.le_of_ble_eq_true rfl, Nat.le_of_ble_eq_true rfl⟩) ⟨pW_blind, va_recv (q := (RM, TM, 11)) (q0 := 0) (ci := 4) hK hP rfl rfl, pW_pre hPc hKc hDc⟩ rfl rfl hl.1 rfl (lv_room (Nat.le_of_ble_eq_true rfl)) dM_person_28 ⟨Nat.le_of_ble_eq_true rfl, Nat.le_of_ble_eq_true rfl⟩) hS (fun q _ h => hFc q h) hFc (fun r23 u t H1 locs ht hvm hr24 hB hz1 hk1 hS => ?_)
    obtain ⟨hP1, hK1, hD1⟩ := hB
    rw [ht] at hP1
    have hK1 := va_K.moved hvm.symm hK1
    obtain ⟨hP, hD⟩ := va_join (wr := [(kp, .inl (cK, 25240, .inl fk))]) (w1 := [(mo, .inr (4, [.int 0, .int 7, .ref nw, .ref kp, .int 0, .int (-1), .ref mk, .ref co, .int 0, .int 0, .ref se])), (nw, .inl (cN, 25240, .inl now0))]) hP hD [0, 1] [2] rfl rfl (by decide) (by decide) hk1 hFc hP1 hD1
    generalize H1 = H at hP hS ⊢
    have hP : va_P (dC, dI) kCl [(kp, .inl (cK, 25240, .inl fk)), (mo, .inr (4, [.int 0, .int 7, .ref nw, .ref kp, .int 0, .int (-1), .ref mk, .ref co, .int 0, .int 0, .ref se])), (nw, .inl (cN, 25240, .inl now0))] H := hP
    have hD : va_D A [(kp, .inl (cK, 25240, .inl fk)), (mo, .inr (4, [.int 0, .int 7, .ref nw, .ref kp, .int 0, .int (-1), .ref mk, .ref co, .int 0, .int 0, .ref se])), (nw, .inl (cN, 25240, .inl now0))] := hD
    refine W.widen (k := 0) (n := 0) (Nat.le_of_ble_eq_true rfl) (Nat.le_of_ble_eq_true rfl) ?_
    obtain rfl : r23 = 0 := hr24
    refine lv_if_ne (pc := 31) (tgt := 36) hx hb dM_person_31 rfl (fun h26 => absurd h26 (by decide)) (fun h26 => ?_)
    refine lv_iconst (pc := 34) (v := 0) hx hb dM_person_34 (by decide) ?_
    have hP9 := hP.sub (ws' := [(mo, .inr (4, [.int 0, .int 7, .ref nw, .ref kp, .int 0, .int (-1), .ref mk, .ref co, .int 0, .int 0, .ref se]))]) [1] rfl
    have hD9 := hD.sub (ws' := [(mo, .inr (4, [.int 0, .int 7, .ref nw, .ref kp, .int 0, .int (-1), .ref mk, .ref co, .int 0, .int 0, .ref se]))]) [1] (by decide) rfl
    have hK9 := hK.sub (tys' := []) [] rfl
    exact W.zret (pc := 35) hx hb hr rfl (fun t ht hW => ⟨⟨_, 7, rfl, (Or.inr ⟨rfl, rfl, h3.elim Or.inl (fun q => Or.inr (Or.inl q))⟩), by rw [ht]; exact hP9, va_K.moved hW.alike hK9, hD9⟩, hS.F ht⟩) hS.2.2 dM_person_35
set_option maxHeartbeats 4000000 in
set_option maxRecDepth 100000 in
theorem m_start (l : Launch) (dC : Nat → ClassId) (dI : Nat → Nat → Nat) (sz : Nat) (mo : Nat) (nw : Nat) (kp : Nat) (mk : Nat) (co : Nat) (se : Nat) (th : Int32) (mr : Int32) (cN : ClassId) (cK : ClassId) (fk : Nat → Int32) (hk : fk 16 = 0) : Met l yM_start (.code yM_start cM_start 3 (some .int) :: aw) ({ frames := 0, cells := 0, slots := 0, locals := 0 }) (pW (dC, dI) sz [(mo, .inr (4, [.int th, .int mr, .ref nw, .ref kp, .int 0, .int (-1), .ref mk, .ref co, .int 0, .int 0, .ref se])), (nw, .inl (cN, 25240, .inl now0)), (kp, .inl (cK, 25240, .inl fk))] [(cN, .int), (cK, .int)] [.ref mo]) (va_Qi (fun r (_ : Unit) => r = 0) (fun _ t => wW (dC, dI) (va_A [(mo, .inr (4, [.int th, .int mr, .ref nw, .ref kp, .int 0, .int (-1), .ref mk, .ref co, .int 0, .int 0, .ref se])), (nw, .inl (cN, 25240, .inl now0)), (kp, .inl (cK, 25240, .inl fk))] sz) [(mo, .inr (4, [.int 0, .int mr, .ref nw, .ref kp, .int 0, .int (-1), .ref mk, .ref co, .int 0, .int 0, .ref se]))] [] t) (va_A [(mo, .inr (4, [.int th, .int mr, .ref nw, .ref kp, .int 0, .int (-1), .ref mk, .ref co, .int 0, .int 0, .ref se])), (nw, .inl (cN, 25240, .inl now0)), (kp, .inl (cK, 25240, .inl fk))] sz)) 0 0 (va_A [(mo, .inr (4, [.int th, .int mr, .ref nw, .ref kp, .int 0, .int (-1), .ref mk, .ref co, .int 0, .int 0, .ref se])), (nw, .inl (cN, 25240, .inl now0)), (kp, .inl (cK, 25240, .inl fk))] sz) := by
  refine Met.ofW (cc := cM_start) (maxL := 3) (ret := (some .int)) (by decide) rfl ?_
  intro p e s m args below meth c s₁ B hml hv
  obtain ⟨rfl, hv⟩ := hv
  have hx := B.exec
  have hb := B.bytes
  have hr := B.returns
  have hts : ∀ w ∈ aw, w.before _ s = true := fun w h => atoms_spec (ws := (.code yM_start cM_start 3 (some .int) :: aw)) B.pre w (List.mem_cons_of_mem _ h)
  have hown : s.vm.findClass RM = some m.cls := findClass_of_methodNamed B.named
  have hlocks := B.notSynchronized
  obtain ⟨hsz, hP, hK, hD0⟩ := hv
  subst hsz
  have hD := hD0.self (sz := s.heap.size)
  generalize hAe : va_A [(mo, .inr (4, [.int th, .int mr, .ref nw, .ref kp, .int 0, .int (-1), .ref mk, .ref co, .int 0, .int 0, .ref se])), (nw, .inl (cN, 25240, .inl now0)), (kp, .inl (cK, 25240, .inl fk))] s.heap.size = A at hD ⊢
  have hA : ∀ q : Nat, s.heap.size ≤ q → A q := fun q h => by rw [← hAe]; exact Or.inr h
  obtain ⟨H, hH⟩ : ∃ H, H = s.heap := ⟨_, rfl⟩
  have hS : va_S A s.heap H [] := by rw [hH]; exact va_S.rf
  rw [← hH] at hP ⊢
  have hP : va_P (dC, dI) kCl [(mo, .inr (4, [.int th, .int mr, .ref nw, .ref kp, .int 0, .int (-1), .ref mk, .ref co, .int 0, .int 0, .ref se])), (nw, .inl (cN, 25240, .inl now0)), (kp, .inl (cK, 25240, .inl fk))] H := hP
  have hl := lv_entry ([.ref mo]) (n := 3) (Nat.le_of_ble_eq_true rfl)
  rw [lg_entry_eq]
  generalize (lg_sl ([.ref mo]) ++ List.replicate (3 - (lg_sl ([.ref mo])).length) Slot.unset).toArray = ls at hl ⊢
  have hl : lv_has ls 3 [(0, .ref mo)] := hl
  refine lv_aload_n (pc := 0) hx hb dM_start_0 rfl (lv_at hl 0 rfl) ?_
  refine lv_iconst (pc := 1) (v := 0) hx hb dM_start_1 (by decide) ?_
  refine va_put (D := (dC, dI)) (cl := kCl) (ci := 4) (v := .int 0) (ty := .int) (C := RM) (T := TM) (N := 11) (pc := 2) hx hb hts inM tyM tyM_ok nmM hown hK hP hD hS 0 rfl rfl 0 (by decide) (hts _ wd_152) (fun _ h9 => h9) rfl (by decide +kernel) rfl rfl (Nat.le_of_ble_eq_true rfl) dM_start_2 (fun H locs hP hD hS => ?_)
  have hP : va_P (dC, dI) kCl [(mo, .inr (4, [.int 0, .int mr, .ref nw, .ref kp, .int 0, .int (-1), .ref mk, .ref co, .int 0, .int 0, .ref se])), (nw, .inl (cN, 25240, .inl now0)), (kp, .inl (cK, 25240, .inl fk))] H := hP
  have hD : va_D A [(mo, .inr (4, [.int 0, .int mr, .ref nw, .ref kp, .int 0, .int (-1), .ref mk, .ref co, .int 0, .int 0, .ref se])), (nw, .inl (cN, 25240, .inl now0)), (kp, .inl (cK, 25240, .inl fk))] := hD
  refine lv_aload_n (pc := 5) hx hb dM_start_5 rfl (lv_at hl 0 rfl) ?_
  refine lv_iconst (pc := 6) (v := 0) hx hb dM_start_6 (by decide) ?_
  refine va_put (D := (dC, dI)) (cl := kCl) (ci := 4) (v := .int 0) (ty := .boolean) (C := RM) (T := TM) (N := 11) (pc := 7) hx hb hts inM tyM tyM_ok nmM hown hK hP hD hS 0 rfl rfl 4 (by decide) (hts _ wd_163) (fun _ h9 => h9) rfl (by decide +kernel) rfl rfl (Nat.le_of_ble_eq_true rfl) dM_start_7 (fun H locs hP hD hS => ?_)
  have hP : va_P (dC, dI) kCl [(mo, .inr (4, [.int 0, .int mr, .ref nw, .ref kp, .int 0, .int (-1), .ref mk, .ref co, .int 0, .int 0, .ref se])), (nw, .inl (cN, 25240, .inl now0)), (kp, .inl (cK, 25240, .inl fk))] H := hP
  have hD : va_D A [(mo, .inr (4, [.int 0, .int mr, .ref nw, .ref kp, .int 0, .int (-1), .ref mk, .ref co, .int 0, .int 0, .ref se])), (nw, .inl (cN, 25240, .inl now0)), (kp, .inl (cK, 25240, .inl fk))] := hD
  refine lv_aload_n (pc := 10) hx hb dM_start_10 rfl (lv_at hl 0 rfl) ?_
  refine lv_iconst (pc := 11) (v := (-1)) hx hb dM_start_11 (by decide) ?_
  refine va_put (D := (dC, dI)) (cl := kCl) (ci := 4) (v := .int (-1)) (ty := .int) (C := RM) (T := TM) (N := 11) (pc := 12) hx hb hts inM tyM tyM_ok nmM hown hK hP hD hS 0 rfl rfl 5 (by decide) (hts _ wd_203) (fun _ h9 => h9) rfl (by decide +kernel) rfl rfl (Nat.le_of_ble_eq_true rfl) dM_start_12 (fun H locs hP hD hS => ?_)
  have hP : va_P (dC, dI) kCl [(mo, .inr (4, [.int 0, .int mr, .ref nw, .ref kp, .int 0, .int (-1), .ref mk, .ref co, .int 0, .int 0, .ref se])), (nw, .inl (cN, 25240, .inl now0)), (kp, .inl (cK, 25240, .inl fk))] H := hP
  have hD : va_D A [(mo, .inr (4, [.int 0, .int mr, .ref nw, .ref kp, .int 0, .int (-1), .ref mk, .ref co, .int 0, .int 0, .ref se])), (nw, .inl (cN, 25240, .inl now0)), (kp, .inl (cK, 25240, .inl fk))] := hD
  refine lv_iconst (pc := 15) (v := 0) hx hb dM_start_15 (by decide) ?_
  refine lv_istore_n (pc := 16) hx hb dM_start_16 rfl hl (by decide) rfl (fun ls hl => ?_)
  have hl : lv_has ls 3 [(1, .int 0), (0, .ref mo)] := hl
  refine lv_iconst (pc := 17) (v := 0) hx hb dM_start_17 (by decide) ?_
  refine lv_istore_n (pc := 18) hx hb dM_start_18 rfl hl (by decide) rfl (fun ls hl => ?_)
  have hl : lv_has ls 3 [(2, .int 0), (1, .int 0), (0, .ref mo)] := hl
  refine lpN (σ := (Nat → Int32) × (Heap) × (List Loc) × (Array Slot)) (fun z => W p l e _ s m _ below meth c z.2.1 z.2.2.1 0 0 _ (F0 m 19 z.2.2.2 [])) (fun i z => va_P (dC, dI) kCl [(mo, .inr (4, [.int 0, .int mr, .ref nw, .ref kp, .int 0, .int (-1), .ref mk, .ref co, .int 0, .int 0, .ref se])), (nw, .inl (cN, 25240, .inl z.1)), (kp, .inl (cK, 25240, .inl fk))] z.2.1 ∧ va_D A [(mo, .inr (4, [.int 0, .int mr, .ref nw, .ref kp, .int 0, .int (-1), .ref mk, .ref co, .int 0, .int 0, .ref se])), (nw, .inl (cN, 25240, .inl z.1)), (kp, .inl (cK, 25240, .inl fk))] ∧ va_S A s.heap z.2.1 z.2.2.1 ∧ lv_has z.2.2.2 3 [(2, .int (nI i)), (1, .int 0), (0, .ref mo)] ∧ (z.1 16 = 0)) 25240 ?_ ?_ 25240 0 (now0, H, _, ls) rfl ⟨hP, hD, hS, hl, (show now0 16 = 0 by decide)⟩
  · rintro ⟨g1, H, locs, ls⟩ ⟨hP, hD, hS, hl, hI⟩
    try dsimp only at hP hD hS hl hI ⊢
    have hP : va_P (dC, dI) kCl [(mo, .inr (4, [.int 0, .int mr, .ref nw, .ref kp, .int 0, .int (-1), .ref mk, .ref co, .int 0, .int 0, .ref se])), (nw, .inl (cN, 25240, .inl g1)), (kp, .inl (cK, 25240, .inl fk))] H := hP
    have hD : va_D A [(mo, .inr (4, [.int 0, .int mr, .ref nw, .ref kp, .int 0, .int (-1), .ref mk, .ref co, .int 0, .int 0, .ref se])), (nw, .inl (cN, 25240, .inl g1)), (kp, .inl (cK, 25240, .inl fk))] := hD
    have hl : lv_has ls 3 [(2, .int (nI 25240)), (1, .int 0), (0, .ref mo)] := hl
    refine lv_iload_n (pc := 19) hx hb dM_start_19 rfl (lv_at hl 0 rfl) ?_
    refine lv_sipush (pc := 20) (v := 25240) hx hb dM_start_20 (by decide) ?_
    refine lv_icmp_ge (pc := 23) (tgt := 44) hx hb dM_start_23 rfl (fun h1 => ?_) (fun h1 => absurd (show (25240 : Int32) ≤ nI 25240 by decide) h1)
    refine lv_iconst (pc := 44) (v := 0) hx hb dM_start_44 (by decide) ?_
    refine lv_istore_n (pc := 45) hx hb dM_start_45 rfl hl (by decide) rfl (fun ls hl => ?_)
    have hl : lv_has ls 3 [(2, .int 0), (1, .int 0), (0, .ref mo)] := hl
    refine lv_iload_n (pc := 46) hx hb dM_start_46 rfl (lv_at hl 0 rfl) ?_
    refine lv_aload_n (pc := 47) hx hb dM_start_47 rfl (lv_at hl 2 rfl) ?_
    refine va_get (D := (dC, dI)) (cl := kCl) (C := RM) (T := TM) (N := 11) (pc := 48) hx hb hts inM hown hK hP 0 rfl rfl 2 (by decide) (hts _ wd_158) (fun _ h9 => h9) rfl dM_start_48 ?_
    refine lv_bipush (pc := 51) (v := 16) hx hb dM_start_51 (by decide) ?_
    refine va_iald (D := (dC, dI)) (cl := kCl) (pc := 53) hx hb hK hP 1 0 rfl rfl (vp_in_lit 16 25240 (by decide)) dM_start_53 ?_
    refine W.eq (g2 := F0 m 54 ls [.int (g1 (16 : Int32).toNatClampNeg), .int 0]) rfl ?_
    refine lv_topi (fun z2 hz3 => ?_)
    obtain rfl : z2 = 0 := hz3.trans (hI)
    refine lv_icmp_ge (pc := 54) (tgt := 79) hx hb dM_start_54 rfl (fun h4 => ?_) (fun h4 => absurd h4 (by decide))
    refine lv_iload_n (pc := 79) hx hb dM_start_79 rfl (lv_at hl 1 rfl) ?_
    have hP9 := hP.sub (ws' := [(mo, .inr (4, [.int 0, .int mr, .ref nw, .ref kp, .int 0, .int (-1), .ref mk, .ref co, .int 0, .int 0, .ref se]))]) [0] rfl
    have hD9 := hD.sub (ws' := [(mo, .inr (4, [.int 0, .int mr, .ref nw, .ref kp, .int 0, .int (-1), .ref mk, .ref co, .int 0, .int 0, .ref se]))]) [0] (by decide) rfl
    have hK9 := hK.sub (tys' := []) [] rfl
    exact W.iret (pc := 80) hx hb hr (fun t ht hW => ⟨⟨_, (), rfl, rfl, by rw [ht]; exact hP9, va_K.moved hW.alike hK9, hD9⟩, hS.F ht⟩) hS.2.2 dM_start_80
  · rintro i ⟨g1, H, locs, ls⟩ hi ⟨hP, hD, hS, hl, hI⟩ ih
    try dsimp only at hP hD hS hl hI ⊢
    have hP : va_P (dC, dI) kCl [(mo, .inr (4, [.int 0, .int mr, .ref nw, .ref kp, .int 0, .int (-1), .ref mk, .ref co, .int 0, .int 0, .ref se])), (nw, .inl (cN, 25240, .inl g1)), (kp, .inl (cK, 25240, .inl fk))] H := hP
    have hD : va_D A [(mo, .inr (4, [.int 0, .int mr, .ref nw, .ref kp, .int 0, .int (-1), .ref mk, .ref co, .int 0, .int 0, .ref se])), (nw, .inl (cN, 25240, .inl g1)), (kp, .inl (cK, 25240, .inl fk))] := hD
    have hl : lv_has ls 3 [(2, .int (nI i)), (1, .int 0), (0, .ref mo)] := hl
    refine lv_iload_n (pc := 19) hx hb dM_start_19 rfl (lv_at hl 0 rfl) ?_
    refine lv_sipush (pc := 20) (v := 25240) hx hb dM_start_20 (by decide) ?_
    refine lv_icmp_ge (pc := 23) (tgt := 44) hx hb dM_start_23 rfl (fun h5 => absurd h5 (nI_ge (a := i) (b := 25240) hi (by decide))) (fun h5 => ?_)
    refine lv_aload_n (pc := 26) hx hb dM_start_26 rfl (lv_at hl 2 rfl) ?_
    refine va_get (D := (dC, dI)) (cl := kCl) (C := RM) (T := TM) (N := 11) (pc := 27) hx hb hts inM hown hK hP 0 rfl rfl 2 (by decide) (hts _ wd_158) (fun _ h9 => h9) rfl dM_start_27 ?_
    refine lv_iload_n (pc := 30) hx hb dM_start_30 rfl (lv_at hl 0 rfl) ?_
    refine lv_aload_n (pc := 31) hx hb dM_start_31 rfl (lv_at hl 2 rfl) ?_
    refine va_get (D := (dC, dI)) (cl := kCl) (C := RM) (T := TM) (N := 11) (pc := 32) hx hb hts inM hown hK hP 0 rfl rfl 3 (by decide) (hts _ wd_204) (fun _ h9 => h9) rfl dM_start_32 ?_
    refine lv_iload_n (pc := 35) hx hb dM_start_35 rfl (lv_at hl 0 rfl) ?_
    refine va_iald (D := (dC, dI)) (cl := kCl) (pc := 36) hx hb hK hP 2 1 rfl rfl (vp_in_nI (show i < 25240 by omega) (by decide)) dM_start_36 ?_
    refine W.eq (g2 := F0 m 37 ls [.int (fk ((nI i) : Int32).toNatClampNeg), .int (nI i), .ref nw]) rfl ?_
    refine va_iast (D := (dC, dI)) (cl := kCl) (pc := 37) hx hb hK hP hD hS 1 0 rfl rfl (vp_in_nI (show i < 25240 by omega) (by decide)) dM_start_37 (fun H locs hP hD hS => ?_)
    have hP : va_P (dC, dI) kCl [(mo, .inr (4, [.int 0, .int mr, .ref nw, .ref kp, .int 0, .int (-1), .ref mk, .ref co, .int 0, .int 0, .ref se])), (nw, .inl (cN, 25240, .inl (upd g1 ((nI i) : Int32).toNatClampNeg (fk ((nI i) : Int32).toNatClampNeg)))), (kp, .inl (cK, 25240, .inl fk))] H := hP
    have hD : va_D A [(mo, .inr (4, [.int 0, .int mr, .ref nw, .ref kp, .int 0, .int (-1), .ref mk, .ref co, .int 0, .int 0, .ref se])), (nw, .inl (cN, 25240, .inl (upd g1 ((nI i) : Int32).toNatClampNeg (fk ((nI i) : Int32).toNatClampNeg)))), (kp, .inl (cK, 25240, .inl fk))] := hD
    refine lv_iinc (pc := 38) (v := (nI (i + 1))) hx hb dM_start_38 hl (k := 0) rfl (nI_1 _) (by decide) rfl (fun ls hl => ?_)
    have hl : lv_has ls 3 [(2, .int (nI (i + 1))), (1, .int 0), (0, .ref mo)] := hl
    refine lv_goto (pc := 41) (tgt := 19) hx hb dM_start_41 rfl ?_
    have hl := lv_sub hl (l' := [(2, .int (nI (i + 1))), (1, .int 0), (0, .ref mo)]) [0, 1, 2] rfl
    exact ih (_, H, _, ls) ⟨hP, hD, hS, hl, start_step hi hk hI⟩
set_option maxHeartbeats 4000000 in
set_option maxRecDepth 100000 in
theorem m_contentAt (l : Launch) (dC : Nat → ClassId) (dI : Nat → Nat → Nat) (mo : Nat) (nw : Nat) (kp : Nat) (mk : Nat) (co : Nat) (se : Nat) (th : Int32) (mr : Int32) (cN : ClassId) (kk : Int32) : Met l yM_contentAt (.code yM_contentAt cM_contentAt 3 (some .int) :: aw) ({ frames := 2, cells := 0, slots := 0, locals := 43 }) (pR (dC, dI) [(mo, .inr (4, [.int th, .int mr, .ref nw, .ref kp, .int 0, .int (-1), .ref mk, .ref co, .int 0, .int 0, .ref se])), (nw, .inl (cN, 25240, .inl now0))] [(cN, .int)] [.ref mo, .int kk]) (vp_Si (fun r => r = (-1))) 0 0 (fun _ => False) := by
  refine Met.ofW (cc := cM_contentAt) (maxL := 3) (ret := (some .int)) (by decide) rfl ?_
  intro p e s m args below meth c s₁ B hml hv
  obtain ⟨rfl, hv⟩ := hv
  have hx := B.exec
  have hb := B.bytes
  have hr := B.returns
  have hts : ∀ w ∈ aw, w.before _ s = true := fun w h => atoms_spec (ws := (.code yM_contentAt cM_contentAt 3 (some .int) :: aw)) B.pre w (List.mem_cons_of_mem _ h)
  have hown : s.vm.findClass RM = some m.cls := findClass_of_methodNamed B.named
  have hlocks := B.notSynchronized
  obtain ⟨hP, hK⟩ := hv
  obtain ⟨H, hH⟩ : ∃ H, H = s.heap := ⟨_, rfl⟩
  rw [← hH] at hP ⊢
  have hl := lv_entry ([.ref mo, .int kk]) (n := 3) (Nat.le_of_ble_eq_true rfl)
  rw [lg_entry_eq]
  generalize (lg_sl ([.ref mo, .int kk]) ++ List.replicate (3 - (lg_sl ([.ref mo, .int kk])).length) Slot.unset).toArray = ls at hl ⊢
  have hl : lv_has ls 3 [(0, .ref mo), (1, .int kk)] := hl
  refine lv_iload_n (pc := 0) hx hb dM_contentAt_0 rfl (lv_at hl 1 rfl) ?_
  refine lv_bipush (pc := 1) (v := 24) hx hb dM_contentAt_1 (by decide) ?_
  refine lv_icmp_ge (pc := 3) (tgt := 32) hx hb dM_contentAt_3 rfl (fun h1 => ?_) (fun h1 => ?_)
  · refine lv_iload_n (pc := 32) hx hb dM_contentAt_32 rfl (lv_at hl 1 rfl) ?_
    refine lv_bipush (pc := 33) (v := 24) hx hb dM_contentAt_33 (by decide) ?_
    refine lv_isub (pc := 35) hx hb dM_contentAt_35 ?_
    refine lv_istore_n (pc := 36) hx hb dM_contentAt_36 rfl hl (by decide) rfl (fun ls hl => ?_)
    have hl : lv_has ls 3 [(2, .int (kk - 24)), (0, .ref mo), (1, .int kk)] := hl
    refine lv_aload_n (pc := 37) hx hb dM_contentAt_37 rfl (lv_at hl 1 rfl) ?_
    refine lv_iload_n (pc := 38) hx hb dM_contentAt_38 rfl (lv_at hl 0 rfl) ?_
    refine lv_bipush (pc := 39) (v := 12) hx hb dM_contentAt_39 (by decide) ?_
    refine lv_idiv (pc := 41) hx hb dM_contentAt_41 (by decide) ?_
    refine lv_iload_n (pc := 42) hx hb dM_contentAt_42 rfl (lv_at hl 0 rfl) ?_
    refine lv_bipush (pc := 43) (v := 12) hx hb dM_contentAt_43 (by decide) ?_
    refine lv_irem (pc := 45) hx hb dM_contentAt_45 (by decide) ?_
    refine vp_callSi (pc := 46) (W.runV (As := [.int ((kk - 24) / 12), .int ((kk - 24) - (kk - 24) / 12 * 12)]) (rest := []) ⟨hx, hb, hml, hown, hts⟩ (m_isRevision l dC dI mo nw kp mk co se th mr cN ((kk - 24) / 12) ((kk - 24) - (kk - 24) / 12 * 12)) (cwV 2 hts (gV wd_173 wd_174 wd_175 wd_157 wd_172) rfl rfl rfl (by decide +kernel) ⟨Nat.le_of_ble_eq_true rfl, Nat.le_of_ble_eq_true rfl⟩) ⟨pR_blind, va_recv (q := (RM, TM, 11)) (q0 := 0) (ci := 4) hK hP rfl rfl, pR_pre (hP.sub (ws' := [(mo, .inr (4, [.int th, .int mr, .ref nw, .ref kp, .int 0, .int (-1), .ref mk, .ref co, .int 0, .int 0, .ref se])), (nw, .inl (cN, 25240, .inl now0))]) [0, 1] rfl) (hK.sub (tys' := [(cN, .int)]) [0] rfl)⟩ rfl rfl hl.1 rfl (lv_room (Nat.le_of_ble_eq_true rfl)) dM_contentAt_46 ⟨Nat.le_of_ble_eq_true rfl, Nat.le_of_ble_eq_true rfl⟩) (fun r2 hr3 => ?_)
    obtain rfl : r2 = 0 := hr3
    refine lv_if_eq (pc := 49) (tgt := 67) hx hb dM_contentAt_49 rfl (fun h4 => ?_) (fun h4 => absurd h4 (by decide))
    refine lv_iconst (pc := 67) (v := (-1)) hx hb dM_contentAt_67 (by decide) ?_
    exact W.iret (pc := 68) hx hb hr (fun t ht hW => ⟨_, rfl, rfl, ht.trans hH⟩) (fun q h => nomatch h) dM_contentAt_68
  · refine lv_aload_n (pc := 6) hx hb dM_contentAt_6 rfl (lv_at hl 0 rfl) ?_
    refine lv_iload_n (pc := 7) hx hb dM_contentAt_7 rfl (lv_at hl 1 rfl) ?_
    refine vp_callSi (pc := 8) (W.runV (As := [.int kk]) (rest := []) ⟨hx, hb, hml, hown, hts⟩ (m_isDrawing l dC dI mo nw kp mk co se th mr cN kk) (cwV 1 hts (gV wd_160 wd_161 wd_162 wd_157 wd_159) rfl rfl rfl (by decide +kernel) ⟨Nat.le_of_ble_eq_true rfl, Nat.le_of_ble_eq_true rfl⟩) ⟨pR_blind, va_recv (q := (RM, TM, 11)) (q0 := 0) (ci := 4) hK hP rfl rfl, pR_pre (hP.sub (ws' := [(mo, .inr (4, [.int th, .int mr, .ref nw, .ref kp, .int 0, .int (-1), .ref mk, .ref co, .int 0, .int 0, .ref se])), (nw, .inl (cN, 25240, .inl now0))]) [0, 1] rfl) (hK.sub (tys' := [(cN, .int)]) [0] rfl)⟩ rfl rfl hl.1 rfl (lv_room (Nat.le_of_ble_eq_true rfl)) dM_contentAt_8 ⟨Nat.le_of_ble_eq_true rfl, Nat.le_of_ble_eq_true rfl⟩) (fun r5 hr6 => ?_)
    obtain rfl : r5 = 0 := hr6
    refine lv_if_eq (pc := 11) (tgt := 30) hx hb dM_contentAt_11 rfl (fun h7 => ?_) (fun h7 => absurd h7 (by decide))
    refine lv_iconst (pc := 30) (v := (-1)) hx hb dM_contentAt_30 (by decide) ?_
    exact W.iret (pc := 31) hx hb hr (fun t ht hW => ⟨_, rfl, rfl, ht.trans hH⟩) (fun q h => nomatch h) dM_contentAt_31
set_option maxHeartbeats 4000000 in
set_option maxRecDepth 100000 in
theorem m_chunks (l : Launch) (dC : Nat → ClassId) (dI : Nat → Nat → Nat) (mo : Nat) (nw : Nat) (kp : Nat) (mk : Nat) (co : Nat) (se : Nat) (th : Int32) (mr : Int32) (cN : ClassId) : Met l yM_chunks (.code yM_chunks cM_chunks 9 (some .int) :: aw) ({ frames := 3, cells := 0, slots := 0, locals := 65 }) (pR (dC, dI) [(mo, .inr (4, [.int th, .int mr, .ref nw, .ref kp, .int 0, .int (-1), .ref mk, .ref co, .int 0, .int 0, .ref se])), (nw, .inl (cN, 25240, .inl now0))] [(cN, .int)] [.ref mo, .int 0]) (vp_Si (fun r => r = 0)) 0 0 (fun _ => False) := by
  refine Met.ofW (cc := cM_chunks) (maxL := 9) (ret := (some .int)) (by decide) rfl ?_
  intro p e s m args below meth c s₁ B hml hv
  obtain ⟨rfl, hv⟩ := hv
  have hx := B.exec
  have hb := B.bytes
  have hr := B.returns
  have hts : ∀ w ∈ aw, w.before _ s = true := fun w h => atoms_spec (ws := (.code yM_chunks cM_chunks 9 (some .int) :: aw)) B.pre w (List.mem_cons_of_mem _ h)
  have hown : s.vm.findClass RM = some m.cls := findClass_of_methodNamed B.named
  have hlocks := B.notSynchronized
  obtain ⟨hP, hK⟩ := hv
  obtain ⟨H, hH⟩ : ∃ H, H = s.heap := ⟨_, rfl⟩
  rw [← hH] at hP ⊢
  have hl := lv_entry ([.ref mo, .int 0]) (n := 9) (Nat.le_of_ble_eq_true rfl)
  rw [lg_entry_eq]
  generalize (lg_sl ([.ref mo, .int 0]) ++ List.replicate (9 - (lg_sl ([.ref mo, .int 0])).length) Slot.unset).toArray = ls at hl ⊢
  have hl : lv_has ls 9 [(0, .ref mo), (1, .int 0)] := hl
  refine lv_iconst (pc := 0) (v := 0) hx hb dM_chunks_0 (by decide) ?_
  refine lv_istore_n (pc := 1) hx hb dM_chunks_1 rfl hl (by decide) rfl (fun ls hl => ?_)
  have hl : lv_has ls 9 [(2, .int 0), (0, .ref mo), (1, .int 0)] := hl
  refine lv_iload_n (pc := 2) hx hb dM_chunks_2 rfl (lv_at hl 2 rfl) ?_
  refine lv_istore_n (pc := 3) hx hb dM_chunks_3 rfl hl (by decide) rfl (fun ls hl => ?_)
  have hl : lv_has ls 9 [(3, .int 0), (2, .int 0), (0, .ref mo), (1, .int 0)] := hl
  refine lpN (σ := (Array Slot)) (fun z => W p l e _ s m _ below meth c H ([]) 0 0 _ (F0 m 4 z [])) (fun i z => lv_has z 9 [(3, .int (nI i)), (2, .int 0), (0, .ref mo), (1, .int 0)]) 312 ?_ ?_ 312 0 ls rfl hl
  · rintro ls hl
    try dsimp only at hl ⊢
    have hl : lv_has ls 9 [(3, .int (nI 312)), (2, .int 0), (0, .ref mo), (1, .int 0)] := hl
    refine lv_iload_n (pc := 4) hx hb dM_chunks_4 rfl (lv_at hl 0 rfl) ?_
    refine lv_sipush (pc := 5) (v := 312) hx hb dM_chunks_5 (by decide) ?_
    refine lv_icmp_ge (pc := 8) (tgt := 165) hx hb dM_chunks_8 rfl (fun h1 => ?_) (fun h1 => absurd (show (312 : Int32) ≤ nI 312 by decide) h1)
    refine lv_iload_n (pc := 165) hx hb dM_chunks_165 rfl (lv_at hl 1 rfl) ?_
    exact W.iret (pc := 166) hx hb hr (fun t ht hW => ⟨_, rfl, rfl, ht.trans hH⟩) (fun q h => nomatch h) dM_chunks_166
  · rintro i ls hi hl ih
    try dsimp only at hl ⊢
    have hl : lv_has ls 9 [(3, .int (nI i)), (2, .int 0), (0, .ref mo), (1, .int 0)] := hl
    refine lv_iload_n (pc := 4) hx hb dM_chunks_4 rfl (lv_at hl 0 rfl) ?_
    refine lv_sipush (pc := 5) (v := 312) hx hb dM_chunks_5 (by decide) ?_
    refine lv_icmp_ge (pc := 8) (tgt := 165) hx hb dM_chunks_8 rfl (fun h2 => absurd h2 (nI_ge (a := i) (b := 312) hi (by decide))) (fun h2 => ?_)
    refine lv_aload_n (pc := 11) hx hb dM_chunks_11 rfl (lv_at hl 2 rfl) ?_
    refine lv_iload_n (pc := 12) hx hb dM_chunks_12 rfl (lv_at hl 0 rfl) ?_
    refine vp_callSi (pc := 13) (W.runV (As := [.int (nI i)]) (rest := []) ⟨hx, hb, hml, hown, hts⟩ (m_contentAt l dC dI mo nw kp mk co se th mr cN (nI i)) (cwV 1 hts (gV wd_214 wd_215 wd_216 wd_157 wd_213) rfl rfl rfl (by decide +kernel) ⟨Nat.le_of_ble_eq_true rfl, Nat.le_of_ble_eq_true rfl⟩) ⟨pR_blind, va_recv (q := (RM, TM, 11)) (q0 := 0) (ci := 4) hK hP rfl rfl, pR_pre (hP.sub (ws' := [(mo, .inr (4, [.int th, .int mr, .ref nw, .ref kp, .int 0, .int (-1), .ref mk, .ref co, .int 0, .int 0, .ref se])), (nw, .inl (cN, 25240, .inl now0))]) [0, 1] rfl) (hK.sub (tys' := [(cN, .int)]) [0] rfl)⟩ rfl rfl hl.1 rfl (lv_room (Nat.le_of_ble_eq_true rfl)) dM_chunks_13 ⟨Nat.le_of_ble_eq_true rfl, Nat.le_of_ble_eq_true rfl⟩) (fun r3 hr4 => ?_)
    obtain rfl : r3 = (-1) := hr4
    refine lv_istore (pc := 16) hx hb dM_chunks_16 hl (by decide) rfl (fun ls hl => ?_)
    have hl : lv_has ls 9 [(4, .int (-1)), (3, .int (nI i)), (2, .int 0), (0, .ref mo), (1, .int 0)] := hl
    refine lv_iconst (pc := 18) (v := 0) hx hb dM_chunks_18 (by decide) ?_
    refine lv_istore (pc := 19) hx hb dM_chunks_19 hl (by decide) rfl (fun ls hl => ?_)
    have hl : lv_has ls 9 [(5, .int 0), (4, .int (-1)), (3, .int (nI i)), (2, .int 0), (0, .ref mo), (1, .int 0)] := hl
    refine lv_iload (pc := 21) hx hb dM_chunks_21 (lv_at hl 1 rfl) ?_
    refine lv_if_lt (pc := 23) (tgt := 159) hx hb dM_chunks_23 rfl (fun h5 => ?_) (fun h5 => absurd h5 (by decide))
    refine lv_iinc (pc := 159) (v := (nI (i + 1))) hx hb dM_chunks_159 hl (k := 2) rfl (nI_1 _) (by decide) rfl (fun ls hl => ?_)
    have hl : lv_has ls 9 [(3, .int (nI (i + 1))), (5, .int 0), (4, .int (-1)), (2, .int 0), (0, .ref mo), (1, .int 0)] := hl
    refine lv_goto (pc := 162) (tgt := 4) hx hb dM_chunks_162 rfl ?_
    have hl := lv_sub hl (l' := [(3, .int (nI (i + 1))), (2, .int 0), (0, .ref mo), (1, .int 0)]) [0, 3, 4, 5] rfl
    exact ih ls hl
set_option maxHeartbeats 4000000 in
set_option maxRecDepth 100000 in
theorem m_count (l : Launch) (dC : Nat → ClassId) (dI : Nat → Nat → Nat) (sz : Nat) (mo : Nat) (nw : Nat) (kp : Nat) (mk : Nat) (co : Nat) (se : Nat) (th : Int32) (mr : Int32) (cN : ClassId) (ww : Int32) : Met l yM_count (.code yM_count cM_count 4 (some .int) :: aw) ({ frames := 4, cells := 0, slots := 0, locals := 93 }) (pW (dC, dI) sz [(mo, .inr (4, [.int th, .int mr, .ref nw, .ref kp, .int 0, .int (-1), .ref mk, .ref co, .int 0, .int 0, .ref se])), (nw, .inl (cN, 25240, .inl now0))] [(cN, .int)] [.ref mo, .int ww]) (va_Qi (fun r (_ : Unit) => r = (cnt0 ww)) (fun _ t => wW (dC, dI) (va_A [(mo, .inr (4, [.int th, .int mr, .ref nw, .ref kp, .int 0, .int (-1), .ref mk, .ref co, .int 0, .int 0, .ref se])), (nw, .inl (cN, 25240, .inl now0))] sz) [(mo, .inr (4, [.int 0, .int mr, .ref nw, .ref kp, .int 0, .int (-1), .ref mk, .ref co, .int 0, .int 0, .ref se]))] [] t) (va_A [(mo, .inr (4, [.int th, .int mr, .ref nw, .ref kp, .int 0, .int (-1), .ref mk, .ref co, .int 0, .int 0, .ref se])), (nw, .inl (cN, 25240, .inl now0))] sz)) 0 0 (va_A [(mo, .inr (4, [.int th, .int mr, .ref nw, .ref kp, .int 0, .int (-1), .ref mk, .ref co, .int 0, .int 0, .ref se])), (nw, .inl (cN, 25240, .inl now0))] sz) := by
  refine Met.ofW (cc := cM_count) (maxL := 4) (ret := (some .int)) (by decide) rfl ?_
  intro p e s m args below meth c s₁ B hml hv
  obtain ⟨rfl, hv⟩ := hv
  have hx := B.exec
  have hb := B.bytes
  have hr := B.returns
  have hts : ∀ w ∈ aw, w.before _ s = true := fun w h => atoms_spec (ws := (.code yM_count cM_count 4 (some .int) :: aw)) B.pre w (List.mem_cons_of_mem _ h)
  have hown : s.vm.findClass RM = some m.cls := findClass_of_methodNamed B.named
  have hlocks := B.notSynchronized
  obtain ⟨hsz, hP, hK, hD0⟩ := hv
  subst hsz
  have hD := hD0.self (sz := s.heap.size)
  generalize hAe : va_A [(mo, .inr (4, [.int th, .int mr, .ref nw, .ref kp, .int 0, .int (-1), .ref mk, .ref co, .int 0, .int 0, .ref se])), (nw, .inl (cN, 25240, .inl now0))] s.heap.size = A at hD ⊢
  have hA : ∀ q : Nat, s.heap.size ≤ q → A q := fun q h => by rw [← hAe]; exact Or.inr h
  obtain ⟨H, hH⟩ : ∃ H, H = s.heap := ⟨_, rfl⟩
  have hS : va_S A s.heap H [] := by rw [hH]; exact va_S.rf
  rw [← hH] at hP ⊢
  have hP : va_P (dC, dI) kCl [(mo, .inr (4, [.int th, .int mr, .ref nw, .ref kp, .int 0, .int (-1), .ref mk, .ref co, .int 0, .int 0, .ref se])), (nw, .inl (cN, 25240, .inl now0))] H := hP
  have hl := lv_entry ([.ref mo, .int ww]) (n := 4) (Nat.le_of_ble_eq_true rfl)
  rw [lg_entry_eq]
  generalize (lg_sl ([.ref mo, .int ww]) ++ List.replicate (4 - (lg_sl ([.ref mo, .int ww])).length) Slot.unset).toArray = ls at hl ⊢
  have hl : lv_has ls 4 [(0, .ref mo), (1, .int ww)] := hl
  refine lv_aload_n (pc := 0) hx hb dM_count_0 rfl (lv_at hl 0 rfl) ?_
  refine lv_iconst (pc := 1) (v := 0) hx hb dM_count_1 (by decide) ?_
  refine va_put (D := (dC, dI)) (cl := kCl) (ci := 4) (v := .int 0) (ty := .int) (C := RM) (T := TM) (N := 11) (pc := 2) hx hb hts inM tyM tyM_ok nmM hown hK hP hD hS 0 rfl rfl 0 (by decide) (hts _ wd_152) (fun _ h9 => h9) rfl (by decide +kernel) rfl rfl (Nat.le_of_ble_eq_true rfl) dM_count_2 (fun H locs hP hD hS => ?_)
  have hP : va_P (dC, dI) kCl [(mo, .inr (4, [.int 0, .int mr, .ref nw, .ref kp, .int 0, .int (-1), .ref mk, .ref co, .int 0, .int 0, .ref se])), (nw, .inl (cN, 25240, .inl now0))] H := hP
  have hD : va_D A [(mo, .inr (4, [.int 0, .int mr, .ref nw, .ref kp, .int 0, .int (-1), .ref mk, .ref co, .int 0, .int 0, .ref se])), (nw, .inl (cN, 25240, .inl now0))] := hD
  refine lv_iconst (pc := 5) (v := 0) hx hb dM_count_5 (by decide) ?_
  refine lv_istore_n (pc := 6) hx hb dM_count_6 rfl hl (by decide) rfl (fun ls hl => ?_)
  have hl : lv_has ls 4 [(2, .int 0), (0, .ref mo), (1, .int ww)] := hl
  refine lv_iconst (pc := 7) (v := 0) hx hb dM_count_7 (by decide) ?_
  refine lv_istore_n (pc := 8) hx hb dM_count_8 rfl hl (by decide) rfl (fun ls hl => ?_)
  have hl : lv_has ls 4 [(3, .int 0), (2, .int 0), (0, .ref mo), (1, .int ww)] := hl
  refine lv_iload_n (pc := 9) hx hb dM_count_9 rfl (lv_at hl 0 rfl) ?_
  refine lv_bipush (pc := 10) (v := 10) hx hb dM_count_10 (by decide) ?_
  refine lv_icmp_ge (pc := 12) (tgt := 34) hx hb dM_count_12 rfl (fun h1 => absurd h1 (by decide)) (fun h1 => ?_)
  refine lv_iload_n (pc := 15) hx hb dM_count_15 rfl (lv_at hl 1 rfl) ?_
  refine lv_aload_n (pc := 16) hx hb dM_count_16 rfl (lv_at hl 2 rfl) ?_
  refine va_get (D := (dC, dI)) (cl := kCl) (C := RM) (T := TM) (N := 11) (pc := 17) hx hb hts inM hown hK hP 0 rfl rfl 2 (by decide) (hts _ wd_158) (fun _ h9 => h9) rfl dM_count_17 ?_
  refine lv_aload_n (pc := 20) hx hb dM_count_20 rfl (lv_at hl 2 rfl) ?_
  refine lv_iload_n (pc := 21) hx hb dM_count_21 rfl (lv_at hl 0 rfl) ?_
  refine vp_callSi (pc := 22) (W.runV (As := [.int 0]) (rest := [.ref nw, .int 0]) ⟨hx, hb, hml, hown, hts⟩ (m_baselineAt l dC dI mo nw kp mk co se 0 mr 0) (cwV 1 hts (gV wd_197 wd_198 wd_199 wd_157 wd_196) rfl rfl rfl (by decide +kernel) ⟨Nat.le_of_ble_eq_true rfl, Nat.le_of_ble_eq_true rfl⟩) ⟨pR_blind, va_recv (q := (RM, TM, 11)) (q0 := 0) (ci := 4) hK hP rfl rfl, pR_pre (hP.sub (ws' := [(mo, .inr (4, [.int 0, .int mr, .ref nw, .ref kp, .int 0, .int (-1), .ref mk, .ref co, .int 0, .int 0, .ref se]))]) [0] rfl) (hK.sub (tys' := []) [] rfl)⟩ rfl rfl hl.1 rfl (lv_room (Nat.le_of_ble_eq_true rfl)) dM_count_22 ⟨Nat.le_of_ble_eq_true rfl, Nat.le_of_ble_eq_true rfl⟩) (fun r2 hr3 => ?_)
  obtain rfl : r2 = 24980 := Eq.trans (hr3) (by decide)
  refine va_iald (D := (dC, dI)) (cl := kCl) (pc := 25) hx hb hK hP 1 0 rfl rfl (vp_in_lit 24980 25240 (by decide)) dM_count_25 ?_
  refine W.eq (g2 := F0 m 26 ls [.int 0, .int 0]) rfl ?_
  refine lv_iadd (pc := 26) hx hb dM_count_26 ?_
  refine lv_topi (fun z4 hz5 => ?_)
  obtain rfl : z4 = 0 := hz5.trans (by decide)
  refine lv_istore_n (pc := 27) hx hb dM_count_27 rfl hl (by decide) rfl (fun ls hl => ?_)
  have hl : lv_has ls 4 [(2, .int 0), (3, .int 0), (0, .ref mo), (1, .int ww)] := hl
  refine lv_iinc (pc := 28) (v := 1) hx hb dM_count_28 hl (k := 1) rfl (by decide) (by decide) rfl (fun ls hl => ?_)
  have hl : lv_has ls 4 [(3, .int 1), (2, .int 0), (0, .ref mo), (1, .int ww)] := hl
  refine lv_goto (pc := 31) (tgt := 9) hx hb dM_count_31 rfl ?_
  refine lv_iload_n (pc := 9) hx hb dM_count_9 rfl (lv_at hl 0 rfl) ?_
  refine lv_bipush (pc := 10) (v := 10) hx hb dM_count_10 (by decide) ?_
  refine lv_icmp_ge (pc := 12) (tgt := 34) hx hb dM_count_12 rfl (fun h6 => absurd h6 (by decide)) (fun h6 => ?_)
  refine lv_iload_n (pc := 15) hx hb dM_count_15 rfl (lv_at hl 1 rfl) ?_
  refine lv_aload_n (pc := 16) hx hb dM_count_16 rfl (lv_at hl 2 rfl) ?_
  refine va_get (D := (dC, dI)) (cl := kCl) (C := RM) (T := TM) (N := 11) (pc := 17) hx hb hts inM hown hK hP 0 rfl rfl 2 (by decide) (hts _ wd_158) (fun _ h9 => h9) rfl dM_count_17 ?_
  refine lv_aload_n (pc := 20) hx hb dM_count_20 rfl (lv_at hl 2 rfl) ?_
  refine lv_iload_n (pc := 21) hx hb dM_count_21 rfl (lv_at hl 0 rfl) ?_
  refine vp_callSi (pc := 22) (W.runV (As := [.int 1]) (rest := [.ref nw, .int 0]) ⟨hx, hb, hml, hown, hts⟩ (m_baselineAt l dC dI mo nw kp mk co se 0 mr 1) (cwV 1 hts (gV wd_197 wd_198 wd_199 wd_157 wd_196) rfl rfl rfl (by decide +kernel) ⟨Nat.le_of_ble_eq_true rfl, Nat.le_of_ble_eq_true rfl⟩) ⟨pR_blind, va_recv (q := (RM, TM, 11)) (q0 := 0) (ci := 4) hK hP rfl rfl, pR_pre (hP.sub (ws' := [(mo, .inr (4, [.int 0, .int mr, .ref nw, .ref kp, .int 0, .int (-1), .ref mk, .ref co, .int 0, .int 0, .ref se]))]) [0] rfl) (hK.sub (tys' := []) [] rfl)⟩ rfl rfl hl.1 rfl (lv_room (Nat.le_of_ble_eq_true rfl)) dM_count_22 ⟨Nat.le_of_ble_eq_true rfl, Nat.le_of_ble_eq_true rfl⟩) (fun r7 hr8 => ?_)
  obtain rfl : r7 = 25006 := Eq.trans (hr8) (by decide)
  refine va_iald (D := (dC, dI)) (cl := kCl) (pc := 25) hx hb hK hP 1 0 rfl rfl (vp_in_lit 25006 25240 (by decide)) dM_count_25 ?_
  refine W.eq (g2 := F0 m 26 ls [.int 0, .int 0]) rfl ?_
  refine lv_iadd (pc := 26) hx hb dM_count_26 ?_
  refine lv_topi (fun z9 hz10 => ?_)
  obtain rfl : z9 = 0 := hz10.trans (by decide)
  refine lv_istore_n (pc := 27) hx hb dM_count_27 rfl hl (by decide) rfl (fun ls hl => ?_)
  have hl : lv_has ls 4 [(2, .int 0), (3, .int 1), (0, .ref mo), (1, .int ww)] := hl
  refine lv_iinc (pc := 28) (v := 2) hx hb dM_count_28 hl (k := 1) rfl (by decide) (by decide) rfl (fun ls hl => ?_)
  have hl : lv_has ls 4 [(3, .int 2), (2, .int 0), (0, .ref mo), (1, .int ww)] := hl
  refine lv_goto (pc := 31) (tgt := 9) hx hb dM_count_31 rfl ?_
  refine lv_iload_n (pc := 9) hx hb dM_count_9 rfl (lv_at hl 0 rfl) ?_
  refine lv_bipush (pc := 10) (v := 10) hx hb dM_count_10 (by decide) ?_
  refine lv_icmp_ge (pc := 12) (tgt := 34) hx hb dM_count_12 rfl (fun h11 => absurd h11 (by decide)) (fun h11 => ?_)
  refine lv_iload_n (pc := 15) hx hb dM_count_15 rfl (lv_at hl 1 rfl) ?_
  refine lv_aload_n (pc := 16) hx hb dM_count_16 rfl (lv_at hl 2 rfl) ?_
  refine va_get (D := (dC, dI)) (cl := kCl) (C := RM) (T := TM) (N := 11) (pc := 17) hx hb hts inM hown hK hP 0 rfl rfl 2 (by decide) (hts _ wd_158) (fun _ h9 => h9) rfl dM_count_17 ?_
  refine lv_aload_n (pc := 20) hx hb dM_count_20 rfl (lv_at hl 2 rfl) ?_
  refine lv_iload_n (pc := 21) hx hb dM_count_21 rfl (lv_at hl 0 rfl) ?_
  refine vp_callSi (pc := 22) (W.runV (As := [.int 2]) (rest := [.ref nw, .int 0]) ⟨hx, hb, hml, hown, hts⟩ (m_baselineAt l dC dI mo nw kp mk co se 0 mr 2) (cwV 1 hts (gV wd_197 wd_198 wd_199 wd_157 wd_196) rfl rfl rfl (by decide +kernel) ⟨Nat.le_of_ble_eq_true rfl, Nat.le_of_ble_eq_true rfl⟩) ⟨pR_blind, va_recv (q := (RM, TM, 11)) (q0 := 0) (ci := 4) hK hP rfl rfl, pR_pre (hP.sub (ws' := [(mo, .inr (4, [.int 0, .int mr, .ref nw, .ref kp, .int 0, .int (-1), .ref mk, .ref co, .int 0, .int 0, .ref se]))]) [0] rfl) (hK.sub (tys' := []) [] rfl)⟩ rfl rfl hl.1 rfl (lv_room (Nat.le_of_ble_eq_true rfl)) dM_count_22 ⟨Nat.le_of_ble_eq_true rfl, Nat.le_of_ble_eq_true rfl⟩) (fun r12 hr13 => ?_)
  obtain rfl : r12 = 25032 := Eq.trans (hr13) (by decide)
  refine va_iald (D := (dC, dI)) (cl := kCl) (pc := 25) hx hb hK hP 1 0 rfl rfl (vp_in_lit 25032 25240 (by decide)) dM_count_25 ?_
  refine W.eq (g2 := F0 m 26 ls [.int 0, .int 0]) rfl ?_
  refine lv_iadd (pc := 26) hx hb dM_count_26 ?_
  refine lv_topi (fun z14 hz15 => ?_)
  obtain rfl : z14 = 0 := hz15.trans (by decide)
  refine lv_istore_n (pc := 27) hx hb dM_count_27 rfl hl (by decide) rfl (fun ls hl => ?_)
  have hl : lv_has ls 4 [(2, .int 0), (3, .int 2), (0, .ref mo), (1, .int ww)] := hl
  refine lv_iinc (pc := 28) (v := 3) hx hb dM_count_28 hl (k := 1) rfl (by decide) (by decide) rfl (fun ls hl => ?_)
  have hl : lv_has ls 4 [(3, .int 3), (2, .int 0), (0, .ref mo), (1, .int ww)] := hl
  refine lv_goto (pc := 31) (tgt := 9) hx hb dM_count_31 rfl ?_
  refine lv_iload_n (pc := 9) hx hb dM_count_9 rfl (lv_at hl 0 rfl) ?_
  refine lv_bipush (pc := 10) (v := 10) hx hb dM_count_10 (by decide) ?_
  refine lv_icmp_ge (pc := 12) (tgt := 34) hx hb dM_count_12 rfl (fun h16 => absurd h16 (by decide)) (fun h16 => ?_)
  refine lv_iload_n (pc := 15) hx hb dM_count_15 rfl (lv_at hl 1 rfl) ?_
  refine lv_aload_n (pc := 16) hx hb dM_count_16 rfl (lv_at hl 2 rfl) ?_
  refine va_get (D := (dC, dI)) (cl := kCl) (C := RM) (T := TM) (N := 11) (pc := 17) hx hb hts inM hown hK hP 0 rfl rfl 2 (by decide) (hts _ wd_158) (fun _ h9 => h9) rfl dM_count_17 ?_
  refine lv_aload_n (pc := 20) hx hb dM_count_20 rfl (lv_at hl 2 rfl) ?_
  refine lv_iload_n (pc := 21) hx hb dM_count_21 rfl (lv_at hl 0 rfl) ?_
  refine vp_callSi (pc := 22) (W.runV (As := [.int 3]) (rest := [.ref nw, .int 0]) ⟨hx, hb, hml, hown, hts⟩ (m_baselineAt l dC dI mo nw kp mk co se 0 mr 3) (cwV 1 hts (gV wd_197 wd_198 wd_199 wd_157 wd_196) rfl rfl rfl (by decide +kernel) ⟨Nat.le_of_ble_eq_true rfl, Nat.le_of_ble_eq_true rfl⟩) ⟨pR_blind, va_recv (q := (RM, TM, 11)) (q0 := 0) (ci := 4) hK hP rfl rfl, pR_pre (hP.sub (ws' := [(mo, .inr (4, [.int 0, .int mr, .ref nw, .ref kp, .int 0, .int (-1), .ref mk, .ref co, .int 0, .int 0, .ref se]))]) [0] rfl) (hK.sub (tys' := []) [] rfl)⟩ rfl rfl hl.1 rfl (lv_room (Nat.le_of_ble_eq_true rfl)) dM_count_22 ⟨Nat.le_of_ble_eq_true rfl, Nat.le_of_ble_eq_true rfl⟩) (fun r17 hr18 => ?_)
  obtain rfl : r17 = 25058 := Eq.trans (hr18) (by decide)
  refine va_iald (D := (dC, dI)) (cl := kCl) (pc := 25) hx hb hK hP 1 0 rfl rfl (vp_in_lit 25058 25240 (by decide)) dM_count_25 ?_
  refine W.eq (g2 := F0 m 26 ls [.int 0, .int 0]) rfl ?_
  refine lv_iadd (pc := 26) hx hb dM_count_26 ?_
  refine lv_topi (fun z19 hz20 => ?_)
  obtain rfl : z19 = 0 := hz20.trans (by decide)
  refine lv_istore_n (pc := 27) hx hb dM_count_27 rfl hl (by decide) rfl (fun ls hl => ?_)
  have hl : lv_has ls 4 [(2, .int 0), (3, .int 3), (0, .ref mo), (1, .int ww)] := hl
  refine lv_iinc (pc := 28) (v := 4) hx hb dM_count_28 hl (k := 1) rfl (by decide) (by decide) rfl (fun ls hl => ?_)
  have hl : lv_has ls 4 [(3, .int 4), (2, .int 0), (0, .ref mo), (1, .int ww)] := hl
  refine lv_goto (pc := 31) (tgt := 9) hx hb dM_count_31 rfl ?_
  refine lv_iload_n (pc := 9) hx hb dM_count_9 rfl (lv_at hl 0 rfl) ?_
  refine lv_bipush (pc := 10) (v := 10) hx hb dM_count_10 (by decide) ?_
  refine lv_icmp_ge (pc := 12) (tgt := 34) hx hb dM_count_12 rfl (fun h21 => absurd h21 (by decide)) (fun h21 => ?_)
  refine lv_iload_n (pc := 15) hx hb dM_count_15 rfl (lv_at hl 1 rfl) ?_
  refine lv_aload_n (pc := 16) hx hb dM_count_16 rfl (lv_at hl 2 rfl) ?_
  refine va_get (D := (dC, dI)) (cl := kCl) (C := RM) (T := TM) (N := 11) (pc := 17) hx hb hts inM hown hK hP 0 rfl rfl 2 (by decide) (hts _ wd_158) (fun _ h9 => h9) rfl dM_count_17 ?_
  refine lv_aload_n (pc := 20) hx hb dM_count_20 rfl (lv_at hl 2 rfl) ?_
  refine lv_iload_n (pc := 21) hx hb dM_count_21 rfl (lv_at hl 0 rfl) ?_
  refine vp_callSi (pc := 22) (W.runV (As := [.int 4]) (rest := [.ref nw, .int 0]) ⟨hx, hb, hml, hown, hts⟩ (m_baselineAt l dC dI mo nw kp mk co se 0 mr 4) (cwV 1 hts (gV wd_197 wd_198 wd_199 wd_157 wd_196) rfl rfl rfl (by decide +kernel) ⟨Nat.le_of_ble_eq_true rfl, Nat.le_of_ble_eq_true rfl⟩) ⟨pR_blind, va_recv (q := (RM, TM, 11)) (q0 := 0) (ci := 4) hK hP rfl rfl, pR_pre (hP.sub (ws' := [(mo, .inr (4, [.int 0, .int mr, .ref nw, .ref kp, .int 0, .int (-1), .ref mk, .ref co, .int 0, .int 0, .ref se]))]) [0] rfl) (hK.sub (tys' := []) [] rfl)⟩ rfl rfl hl.1 rfl (lv_room (Nat.le_of_ble_eq_true rfl)) dM_count_22 ⟨Nat.le_of_ble_eq_true rfl, Nat.le_of_ble_eq_true rfl⟩) (fun r22 hr23 => ?_)
  obtain rfl : r22 = 25084 := Eq.trans (hr23) (by decide)
  refine va_iald (D := (dC, dI)) (cl := kCl) (pc := 25) hx hb hK hP 1 0 rfl rfl (vp_in_lit 25084 25240 (by decide)) dM_count_25 ?_
  refine W.eq (g2 := F0 m 26 ls [.int 0, .int 0]) rfl ?_
  refine lv_iadd (pc := 26) hx hb dM_count_26 ?_
  refine lv_topi (fun z24 hz25 => ?_)
  obtain rfl : z24 = 0 := hz25.trans (by decide)
  refine lv_istore_n (pc := 27) hx hb dM_count_27 rfl hl (by decide) rfl (fun ls hl => ?_)
  have hl : lv_has ls 4 [(2, .int 0), (3, .int 4), (0, .ref mo), (1, .int ww)] := hl
  refine lv_iinc (pc := 28) (v := 5) hx hb dM_count_28 hl (k := 1) rfl (by decide) (by decide) rfl (fun ls hl => ?_)
  have hl : lv_has ls 4 [(3, .int 5), (2, .int 0), (0, .ref mo), (1, .int ww)] := hl
  refine lv_goto (pc := 31) (tgt := 9) hx hb dM_count_31 rfl ?_
  refine lv_iload_n (pc := 9) hx hb dM_count_9 rfl (lv_at hl 0 rfl) ?_
  refine lv_bipush (pc := 10) (v := 10) hx hb dM_count_10 (by decide) ?_
  refine lv_icmp_ge (pc := 12) (tgt := 34) hx hb dM_count_12 rfl (fun h26 => absurd h26 (by decide)) (fun h26 => ?_)
  refine lv_iload_n (pc := 15) hx hb dM_count_15 rfl (lv_at hl 1 rfl) ?_
  refine lv_aload_n (pc := 16) hx hb dM_count_16 rfl (lv_at hl 2 rfl) ?_
  refine va_get (D := (dC, dI)) (cl := kCl) (C := RM) (T := TM) (N := 11) (pc := 17) hx hb hts inM hown hK hP 0 rfl rfl 2 (by decide) (hts _ wd_158) (fun _ h9 => h9) rfl dM_count_17 ?_
  refine lv_aload_n (pc := 20) hx hb dM_count_20 rfl (lv_at hl 2 rfl) ?_
  refine lv_iload_n (pc := 21) hx hb dM_count_21 rfl (lv_at hl 0 rfl) ?_
  refine vp_callSi (pc := 22) (W.runV (As := [.int 5]) (rest := [.ref nw, .int 0]) ⟨hx, hb, hml, hown, hts⟩ (m_baselineAt l dC dI mo nw kp mk co se 0 mr 5) (cwV 1 hts (gV wd_197 wd_198 wd_199 wd_157 wd_196) rfl rfl rfl (by decide +kernel) ⟨Nat.le_of_ble_eq_true rfl, Nat.le_of_ble_eq_true rfl⟩) ⟨pR_blind, va_recv (q := (RM, TM, 11)) (q0 := 0) (ci := 4) hK hP rfl rfl, pR_pre (hP.sub (ws' := [(mo, .inr (4, [.int 0, .int mr, .ref nw, .ref kp, .int 0, .int (-1), .ref mk, .ref co, .int 0, .int 0, .ref se]))]) [0] rfl) (hK.sub (tys' := []) [] rfl)⟩ rfl rfl hl.1 rfl (lv_room (Nat.le_of_ble_eq_true rfl)) dM_count_22 ⟨Nat.le_of_ble_eq_true rfl, Nat.le_of_ble_eq_true rfl⟩) (fun r27 hr28 => ?_)
  obtain rfl : r27 = 25110 := Eq.trans (hr28) (by decide)
  refine va_iald (D := (dC, dI)) (cl := kCl) (pc := 25) hx hb hK hP 1 0 rfl rfl (vp_in_lit 25110 25240 (by decide)) dM_count_25 ?_
  refine W.eq (g2 := F0 m 26 ls [.int 0, .int 0]) rfl ?_
  refine lv_iadd (pc := 26) hx hb dM_count_26 ?_
  refine lv_topi (fun z29 hz30 => ?_)
  obtain rfl : z29 = 0 := hz30.trans (by decide)
  refine lv_istore_n (pc := 27) hx hb dM_count_27 rfl hl (by decide) rfl (fun ls hl => ?_)
  have hl : lv_has ls 4 [(2, .int 0), (3, .int 5), (0, .ref mo), (1, .int ww)] := hl
  refine lv_iinc (pc := 28) (v := 6) hx hb dM_count_28 hl (k := 1) rfl (by decide) (by decide) rfl (fun ls hl => ?_)
  have hl : lv_has ls 4 [(3, .int 6), (2, .int 0), (0, .ref mo), (1, .int ww)] := hl
  refine lv_goto (pc := 31) (tgt := 9) hx hb dM_count_31 rfl ?_
  refine lv_iload_n (pc := 9) hx hb dM_count_9 rfl (lv_at hl 0 rfl) ?_
  refine lv_bipush (pc := 10) (v := 10) hx hb dM_count_10 (by decide) ?_
  refine lv_icmp_ge (pc := 12) (tgt := 34) hx hb dM_count_12 rfl (fun h31 => absurd h31 (by decide)) (fun h31 => ?_)
  refine lv_iload_n (pc := 15) hx hb dM_count_15 rfl (lv_at hl 1 rfl) ?_
  refine lv_aload_n (pc := 16) hx hb dM_count_16 rfl (lv_at hl 2 rfl) ?_
  refine va_get (D := (dC, dI)) (cl := kCl) (C := RM) (T := TM) (N := 11) (pc := 17) hx hb hts inM hown hK hP 0 rfl rfl 2 (by decide) (hts _ wd_158) (fun _ h9 => h9) rfl dM_count_17 ?_
  refine lv_aload_n (pc := 20) hx hb dM_count_20 rfl (lv_at hl 2 rfl) ?_
  refine lv_iload_n (pc := 21) hx hb dM_count_21 rfl (lv_at hl 0 rfl) ?_
  refine vp_callSi (pc := 22) (W.runV (As := [.int 6]) (rest := [.ref nw, .int 0]) ⟨hx, hb, hml, hown, hts⟩ (m_baselineAt l dC dI mo nw kp mk co se 0 mr 6) (cwV 1 hts (gV wd_197 wd_198 wd_199 wd_157 wd_196) rfl rfl rfl (by decide +kernel) ⟨Nat.le_of_ble_eq_true rfl, Nat.le_of_ble_eq_true rfl⟩) ⟨pR_blind, va_recv (q := (RM, TM, 11)) (q0 := 0) (ci := 4) hK hP rfl rfl, pR_pre (hP.sub (ws' := [(mo, .inr (4, [.int 0, .int mr, .ref nw, .ref kp, .int 0, .int (-1), .ref mk, .ref co, .int 0, .int 0, .ref se]))]) [0] rfl) (hK.sub (tys' := []) [] rfl)⟩ rfl rfl hl.1 rfl (lv_room (Nat.le_of_ble_eq_true rfl)) dM_count_22 ⟨Nat.le_of_ble_eq_true rfl, Nat.le_of_ble_eq_true rfl⟩) (fun r32 hr33 => ?_)
  obtain rfl : r32 = 25136 := Eq.trans (hr33) (by decide)
  refine va_iald (D := (dC, dI)) (cl := kCl) (pc := 25) hx hb hK hP 1 0 rfl rfl (vp_in_lit 25136 25240 (by decide)) dM_count_25 ?_
  refine W.eq (g2 := F0 m 26 ls [.int 0, .int 0]) rfl ?_
  refine lv_iadd (pc := 26) hx hb dM_count_26 ?_
  refine lv_topi (fun z34 hz35 => ?_)
  obtain rfl : z34 = 0 := hz35.trans (by decide)
  refine lv_istore_n (pc := 27) hx hb dM_count_27 rfl hl (by decide) rfl (fun ls hl => ?_)
  have hl : lv_has ls 4 [(2, .int 0), (3, .int 6), (0, .ref mo), (1, .int ww)] := hl
  refine lv_iinc (pc := 28) (v := 7) hx hb dM_count_28 hl (k := 1) rfl (by decide) (by decide) rfl (fun ls hl => ?_)
  have hl : lv_has ls 4 [(3, .int 7), (2, .int 0), (0, .ref mo), (1, .int ww)] := hl
  refine lv_goto (pc := 31) (tgt := 9) hx hb dM_count_31 rfl ?_
  refine lv_iload_n (pc := 9) hx hb dM_count_9 rfl (lv_at hl 0 rfl) ?_
  refine lv_bipush (pc := 10) (v := 10) hx hb dM_count_10 (by decide) ?_
  refine lv_icmp_ge (pc := 12) (tgt := 34) hx hb dM_count_12 rfl (fun h36 => absurd h36 (by decide)) (fun h36 => ?_)
  refine lv_iload_n (pc := 15) hx hb dM_count_15 rfl (lv_at hl 1 rfl) ?_
  refine lv_aload_n (pc := 16) hx hb dM_count_16 rfl (lv_at hl 2 rfl) ?_
  refine va_get (D := (dC, dI)) (cl := kCl) (C := RM) (T := TM) (N := 11) (pc := 17) hx hb hts inM hown hK hP 0 rfl rfl 2 (by decide) (hts _ wd_158) (fun _ h9 => h9) rfl dM_count_17 ?_
  refine lv_aload_n (pc := 20) hx hb dM_count_20 rfl (lv_at hl 2 rfl) ?_
  refine lv_iload_n (pc := 21) hx hb dM_count_21 rfl (lv_at hl 0 rfl) ?_
  refine vp_callSi (pc := 22) (W.runV (As := [.int 7]) (rest := [.ref nw, .int 0]) ⟨hx, hb, hml, hown, hts⟩ (m_baselineAt l dC dI mo nw kp mk co se 0 mr 7) (cwV 1 hts (gV wd_197 wd_198 wd_199 wd_157 wd_196) rfl rfl rfl (by decide +kernel) ⟨Nat.le_of_ble_eq_true rfl, Nat.le_of_ble_eq_true rfl⟩) ⟨pR_blind, va_recv (q := (RM, TM, 11)) (q0 := 0) (ci := 4) hK hP rfl rfl, pR_pre (hP.sub (ws' := [(mo, .inr (4, [.int 0, .int mr, .ref nw, .ref kp, .int 0, .int (-1), .ref mk, .ref co, .int 0, .int 0, .ref se]))]) [0] rfl) (hK.sub (tys' := []) [] rfl)⟩ rfl rfl hl.1 rfl (lv_room (Nat.le_of_ble_eq_true rfl)) dM_count_22 ⟨Nat.le_of_ble_eq_true rfl, Nat.le_of_ble_eq_true rfl⟩) (fun r37 hr38 => ?_)
  obtain rfl : r37 = 25162 := Eq.trans (hr38) (by decide)
  refine va_iald (D := (dC, dI)) (cl := kCl) (pc := 25) hx hb hK hP 1 0 rfl rfl (vp_in_lit 25162 25240 (by decide)) dM_count_25 ?_
  refine W.eq (g2 := F0 m 26 ls [.int 0, .int 0]) rfl ?_
  refine lv_iadd (pc := 26) hx hb dM_count_26 ?_
  refine lv_topi (fun z39 hz40 => ?_)
  obtain rfl : z39 = 0 := hz40.trans (by decide)
  refine lv_istore_n (pc := 27) hx hb dM_count_27 rfl hl (by decide) rfl (fun ls hl => ?_)
  have hl : lv_has ls 4 [(2, .int 0), (3, .int 7), (0, .ref mo), (1, .int ww)] := hl
  refine lv_iinc (pc := 28) (v := 8) hx hb dM_count_28 hl (k := 1) rfl (by decide) (by decide) rfl (fun ls hl => ?_)
  have hl : lv_has ls 4 [(3, .int 8), (2, .int 0), (0, .ref mo), (1, .int ww)] := hl
  refine lv_goto (pc := 31) (tgt := 9) hx hb dM_count_31 rfl ?_
  refine lv_iload_n (pc := 9) hx hb dM_count_9 rfl (lv_at hl 0 rfl) ?_
  refine lv_bipush (pc := 10) (v := 10) hx hb dM_count_10 (by decide) ?_
  refine lv_icmp_ge (pc := 12) (tgt := 34) hx hb dM_count_12 rfl (fun h41 => absurd h41 (by decide)) (fun h41 => ?_)
  refine lv_iload_n (pc := 15) hx hb dM_count_15 rfl (lv_at hl 1 rfl) ?_
  refine lv_aload_n (pc := 16) hx hb dM_count_16 rfl (lv_at hl 2 rfl) ?_
  refine va_get (D := (dC, dI)) (cl := kCl) (C := RM) (T := TM) (N := 11) (pc := 17) hx hb hts inM hown hK hP 0 rfl rfl 2 (by decide) (hts _ wd_158) (fun _ h9 => h9) rfl dM_count_17 ?_
  refine lv_aload_n (pc := 20) hx hb dM_count_20 rfl (lv_at hl 2 rfl) ?_
  refine lv_iload_n (pc := 21) hx hb dM_count_21 rfl (lv_at hl 0 rfl) ?_
  refine vp_callSi (pc := 22) (W.runV (As := [.int 8]) (rest := [.ref nw, .int 0]) ⟨hx, hb, hml, hown, hts⟩ (m_baselineAt l dC dI mo nw kp mk co se 0 mr 8) (cwV 1 hts (gV wd_197 wd_198 wd_199 wd_157 wd_196) rfl rfl rfl (by decide +kernel) ⟨Nat.le_of_ble_eq_true rfl, Nat.le_of_ble_eq_true rfl⟩) ⟨pR_blind, va_recv (q := (RM, TM, 11)) (q0 := 0) (ci := 4) hK hP rfl rfl, pR_pre (hP.sub (ws' := [(mo, .inr (4, [.int 0, .int mr, .ref nw, .ref kp, .int 0, .int (-1), .ref mk, .ref co, .int 0, .int 0, .ref se]))]) [0] rfl) (hK.sub (tys' := []) [] rfl)⟩ rfl rfl hl.1 rfl (lv_room (Nat.le_of_ble_eq_true rfl)) dM_count_22 ⟨Nat.le_of_ble_eq_true rfl, Nat.le_of_ble_eq_true rfl⟩) (fun r42 hr43 => ?_)
  obtain rfl : r42 = 25188 := Eq.trans (hr43) (by decide)
  refine va_iald (D := (dC, dI)) (cl := kCl) (pc := 25) hx hb hK hP 1 0 rfl rfl (vp_in_lit 25188 25240 (by decide)) dM_count_25 ?_
  refine W.eq (g2 := F0 m 26 ls [.int 0, .int 0]) rfl ?_
  refine lv_iadd (pc := 26) hx hb dM_count_26 ?_
  refine lv_topi (fun z44 hz45 => ?_)
  obtain rfl : z44 = 0 := hz45.trans (by decide)
  refine lv_istore_n (pc := 27) hx hb dM_count_27 rfl hl (by decide) rfl (fun ls hl => ?_)
  have hl : lv_has ls 4 [(2, .int 0), (3, .int 8), (0, .ref mo), (1, .int ww)] := hl
  refine lv_iinc (pc := 28) (v := 9) hx hb dM_count_28 hl (k := 1) rfl (by decide) (by decide) rfl (fun ls hl => ?_)
  have hl : lv_has ls 4 [(3, .int 9), (2, .int 0), (0, .ref mo), (1, .int ww)] := hl
  refine lv_goto (pc := 31) (tgt := 9) hx hb dM_count_31 rfl ?_
  refine lv_iload_n (pc := 9) hx hb dM_count_9 rfl (lv_at hl 0 rfl) ?_
  refine lv_bipush (pc := 10) (v := 10) hx hb dM_count_10 (by decide) ?_
  refine lv_icmp_ge (pc := 12) (tgt := 34) hx hb dM_count_12 rfl (fun h46 => absurd h46 (by decide)) (fun h46 => ?_)
  refine lv_iload_n (pc := 15) hx hb dM_count_15 rfl (lv_at hl 1 rfl) ?_
  refine lv_aload_n (pc := 16) hx hb dM_count_16 rfl (lv_at hl 2 rfl) ?_
  refine va_get (D := (dC, dI)) (cl := kCl) (C := RM) (T := TM) (N := 11) (pc := 17) hx hb hts inM hown hK hP 0 rfl rfl 2 (by decide) (hts _ wd_158) (fun _ h9 => h9) rfl dM_count_17 ?_
  refine lv_aload_n (pc := 20) hx hb dM_count_20 rfl (lv_at hl 2 rfl) ?_
  refine lv_iload_n (pc := 21) hx hb dM_count_21 rfl (lv_at hl 0 rfl) ?_
  refine vp_callSi (pc := 22) (W.runV (As := [.int 9]) (rest := [.ref nw, .int 0]) ⟨hx, hb, hml, hown, hts⟩ (m_baselineAt l dC dI mo nw kp mk co se 0 mr 9) (cwV 1 hts (gV wd_197 wd_198 wd_199 wd_157 wd_196) rfl rfl rfl (by decide +kernel) ⟨Nat.le_of_ble_eq_true rfl, Nat.le_of_ble_eq_true rfl⟩) ⟨pR_blind, va_recv (q := (RM, TM, 11)) (q0 := 0) (ci := 4) hK hP rfl rfl, pR_pre (hP.sub (ws' := [(mo, .inr (4, [.int 0, .int mr, .ref nw, .ref kp, .int 0, .int (-1), .ref mk, .ref co, .int 0, .int 0, .ref se]))]) [0] rfl) (hK.sub (tys' := []) [] rfl)⟩ rfl rfl hl.1 rfl (lv_room (Nat.le_of_ble_eq_true rfl)) dM_count_22 ⟨Nat.le_of_ble_eq_true rfl, Nat.le_of_ble_eq_true rfl⟩) (fun r47 hr48 => ?_)
  obtain rfl : r47 = 25214 := Eq.trans (hr48) (by decide)
  refine va_iald (D := (dC, dI)) (cl := kCl) (pc := 25) hx hb hK hP 1 0 rfl rfl (vp_in_lit 25214 25240 (by decide)) dM_count_25 ?_
  refine W.eq (g2 := F0 m 26 ls [.int 0, .int 0]) rfl ?_
  refine lv_iadd (pc := 26) hx hb dM_count_26 ?_
  refine lv_topi (fun z49 hz50 => ?_)
  obtain rfl : z49 = 0 := hz50.trans (by decide)
  refine lv_istore_n (pc := 27) hx hb dM_count_27 rfl hl (by decide) rfl (fun ls hl => ?_)
  have hl : lv_has ls 4 [(2, .int 0), (3, .int 9), (0, .ref mo), (1, .int ww)] := hl
  refine lv_iinc (pc := 28) (v := 10) hx hb dM_count_28 hl (k := 1) rfl (by decide) (by decide) rfl (fun ls hl => ?_)
  have hl : lv_has ls 4 [(3, .int 10), (2, .int 0), (0, .ref mo), (1, .int ww)] := hl
  refine lv_goto (pc := 31) (tgt := 9) hx hb dM_count_31 rfl ?_
  refine lv_iload_n (pc := 9) hx hb dM_count_9 rfl (lv_at hl 0 rfl) ?_
  refine lv_bipush (pc := 10) (v := 10) hx hb dM_count_10 (by decide) ?_
  refine lv_icmp_ge (pc := 12) (tgt := 34) hx hb dM_count_12 rfl (fun h51 => ?_) (fun h51 => absurd h51 (by decide))
  refine lv_iload_n (pc := 34) hx hb dM_count_34 rfl (lv_at hl 3 rfl) ?_
  rcases pk_ix ww (n := 8) (by decide) with h52 | h52 | ⟨j53, hj54, rfl⟩
  · refine lv_tableOut (pc := 35) (tgt := 138) hx hb dM_count_35 (Or.inl (tsw_lo h52)) rfl ?_
    refine lv_iconst (pc := 138) (v := (-1)) hx hb dM_count_138 (by decide) ?_
    have hP9 := hP.sub (ws' := [(mo, .inr (4, [.int 0, .int mr, .ref nw, .ref kp, .int 0, .int (-1), .ref mk, .ref co, .int 0, .int 0, .ref se]))]) [0] rfl
    have hD9 := hD.sub (ws' := [(mo, .inr (4, [.int 0, .int mr, .ref nw, .ref kp, .int 0, .int (-1), .ref mk, .ref co, .int 0, .int 0, .ref se]))]) [0] (by decide) rfl
    have hK9 := hK.sub (tys' := []) [] rfl
    exact W.iret (pc := 139) hx hb hr (fun t ht hW => ⟨⟨_, (), rfl, cnt0_lo h52, by rw [ht]; exact hP9, va_K.moved hW.alike hK9, hD9⟩, hS.F ht⟩) hS.2.2 dM_count_139
  · refine lv_tableOut (pc := 35) (tgt := 138) hx hb dM_count_35 (Or.inr (tsw_hi (n := 7) (by decide) h52)) rfl ?_
    refine lv_iconst (pc := 138) (v := (-1)) hx hb dM_count_138 (by decide) ?_
    have hP9 := hP.sub (ws' := [(mo, .inr (4, [.int 0, .int mr, .ref nw, .ref kp, .int 0, .int (-1), .ref mk, .ref co, .int 0, .int 0, .ref se]))]) [0] rfl
    have hD9 := hD.sub (ws' := [(mo, .inr (4, [.int 0, .int mr, .ref nw, .ref kp, .int 0, .int (-1), .ref mk, .ref co, .int 0, .int 0, .ref se]))]) [0] (by decide) rfl
    have hK9 := hK.sub (tys' := []) [] rfl
    exact W.iret (pc := 139) hx hb hr (fun t ht hW => ⟨⟨_, (), rfl, cnt0_hi h52, by rw [ht]; exact hP9, va_K.moved hW.alike hK9, hD9⟩, hS.F ht⟩) hS.2.2 dM_count_139
  · rcases (show j53 = 0 ∨ j53 = 1 ∨ j53 = 2 ∨ j53 = 3 ∨ j53 = 4 ∨ j53 = 5 ∨ j53 = 6 ∨ j53 = 7 by omega) with rfl | rfl | rfl | rfl | rfl | rfl | rfl | rfl
    · refine lv_tableIn (pc := 35) (tgt := 80) (off := 45) hx hb dM_count_35 (by decide) (by decide) (by decide) rfl ?_
      refine lv_aload_n (pc := 80) hx hb dM_count_80 rfl (lv_at hl 2 rfl) ?_
      refine va_get (D := (dC, dI)) (cl := kCl) (C := RM) (T := TM) (N := 11) (pc := 81) hx hb hts inM hown hK hP 0 rfl rfl 2 (by decide) (hts _ wd_158) (fun _ h9 => h9) rfl dM_count_81 ?_
      refine lv_bipush (pc := 84) (v := 16) hx hb dM_count_84 (by decide) ?_
      refine va_iald (D := (dC, dI)) (cl := kCl) (pc := 86) hx hb hK hP 1 0 rfl rfl (vp_in_lit 16 25240 (by decide)) dM_count_86 ?_
      refine W.eq (g2 := F0 m 87 ls [.int 0]) rfl ?_
      have hP9 := hP.sub (ws' := [(mo, .inr (4, [.int 0, .int mr, .ref nw, .ref kp, .int 0, .int (-1), .ref mk, .ref co, .int 0, .int 0, .ref se]))]) [0] rfl
      have hD9 := hD.sub (ws' := [(mo, .inr (4, [.int 0, .int mr, .ref nw, .ref kp, .int 0, .int (-1), .ref mk, .ref co, .int 0, .int 0, .ref se]))]) [0] (by decide) rfl
      have hK9 := hK.sub (tys' := []) [] rfl
      exact W.iret (pc := 87) hx hb hr (fun t ht hW => ⟨⟨_, (), rfl, by decide, by rw [ht]; exact hP9, va_K.moved hW.alike hK9, hD9⟩, hS.F ht⟩) hS.2.2 dM_count_87
    · refine lv_tableIn (pc := 35) (tgt := 88) (off := 53) hx hb dM_count_35 (by decide) (by decide) (by decide) rfl ?_
      refine lv_aload_n (pc := 88) hx hb dM_count_88 rfl (lv_at hl 2 rfl) ?_
      refine vp_callSi (pc := 89) (W.runV (As := []) (rest := []) ⟨hx, hb, hml, hown, hts⟩ (m_allRevisions l dC dI mo nw kp mk co se 0 mr cN) (cwV 0 hts (gV wd_177 wd_178 wd_179 wd_157 wd_176) rfl rfl rfl (by decide +kernel) ⟨Nat.le_of_ble_eq_true rfl, Nat.le_of_ble_eq_true rfl⟩) ⟨pR_blind, va_recv (q := (RM, TM, 11)) (q0 := 0) (ci := 4) hK hP rfl rfl, pR_pre (hP.sub (ws' := [(mo, .inr (4, [.int 0, .int mr, .ref nw, .ref kp, .int 0, .int (-1), .ref mk, .ref co, .int 0, .int 0, .ref se])), (nw, .inl (cN, 25240, .inl now0))]) [0, 1] rfl) (hK.sub (tys' := [(cN, .int)]) [0] rfl)⟩ rfl rfl hl.1 rfl (lv_room (Nat.le_of_ble_eq_true rfl)) dM_count_89 ⟨Nat.le_of_ble_eq_true rfl, Nat.le_of_ble_eq_true rfl⟩) (fun r55 hr56 => ?_)
      obtain rfl : r55 = 0 := hr56
      have hP9 := hP.sub (ws' := [(mo, .inr (4, [.int 0, .int mr, .ref nw, .ref kp, .int 0, .int (-1), .ref mk, .ref co, .int 0, .int 0, .ref se]))]) [0] rfl
      have hD9 := hD.sub (ws' := [(mo, .inr (4, [.int 0, .int mr, .ref nw, .ref kp, .int 0, .int (-1), .ref mk, .ref co, .int 0, .int 0, .ref se]))]) [0] (by decide) rfl
      have hK9 := hK.sub (tys' := []) [] rfl
      exact W.iret (pc := 92) hx hb hr (fun t ht hW => ⟨⟨_, (), rfl, by decide, by rw [ht]; exact hP9, va_K.moved hW.alike hK9, hD9⟩, hS.F ht⟩) hS.2.2 dM_count_92
    · refine lv_tableIn (pc := 35) (tgt := 93) (off := 58) hx hb dM_count_35 (by decide) (by decide) (by decide) rfl ?_
      refine lv_aload_n (pc := 93) hx hb dM_count_93 rfl (lv_at hl 2 rfl) ?_
      refine lv_iconst (pc := 94) (v := 0) hx hb dM_count_94 (by decide) ?_
      refine vp_callSi (pc := 95) (W.runV (As := [.int 0]) (rest := []) ⟨hx, hb, hml, hown, hts⟩ (m_chunks l dC dI mo nw kp mk co se 0 mr cN) (cwV 1 hts (gV wd_218 wd_219 wd_220 wd_157 wd_217) rfl rfl rfl (by decide +kernel) ⟨Nat.le_of_ble_eq_true rfl, Nat.le_of_ble_eq_true rfl⟩) ⟨pR_blind, va_recv (q := (RM, TM, 11)) (q0 := 0) (ci := 4) hK hP rfl rfl, pR_pre (hP.sub (ws' := [(mo, .inr (4, [.int 0, .int mr, .ref nw, .ref kp, .int 0, .int (-1), .ref mk, .ref co, .int 0, .int 0, .ref se])), (nw, .inl (cN, 25240, .inl now0))]) [0, 1] rfl) (hK.sub (tys' := [(cN, .int)]) [0] rfl)⟩ rfl rfl hl.1 rfl (lv_room (Nat.le_of_ble_eq_true rfl)) dM_count_95 ⟨Nat.le_of_ble_eq_true rfl, Nat.le_of_ble_eq_true rfl⟩) (fun r57 hr58 => ?_)
      obtain rfl : r57 = 0 := hr58
      have hP9 := hP.sub (ws' := [(mo, .inr (4, [.int 0, .int mr, .ref nw, .ref kp, .int 0, .int (-1), .ref mk, .ref co, .int 0, .int 0, .ref se]))]) [0] rfl
      have hD9 := hD.sub (ws' := [(mo, .inr (4, [.int 0, .int mr, .ref nw, .ref kp, .int 0, .int (-1), .ref mk, .ref co, .int 0, .int 0, .ref se]))]) [0] (by decide) rfl
      have hK9 := hK.sub (tys' := []) [] rfl
      exact W.iret (pc := 98) hx hb hr (fun t ht hW => ⟨⟨_, (), rfl, by decide, by rw [ht]; exact hP9, va_K.moved hW.alike hK9, hD9⟩, hS.F ht⟩) hS.2.2 dM_count_98
    · refine lv_tableIn (pc := 35) (tgt := 99) (off := 64) hx hb dM_count_35 (by decide) (by decide) (by decide) rfl ?_
      refine lv_aload_n (pc := 99) hx hb dM_count_99 rfl (lv_at hl 2 rfl) ?_
      refine va_get (D := (dC, dI)) (cl := kCl) (C := RM) (T := TM) (N := 11) (pc := 100) hx hb hts inM hown hK hP 0 rfl rfl 2 (by decide) (hts _ wd_158) (fun _ h9 => h9) rfl dM_count_100 ?_
      refine lv_bipush (pc := 103) (v := 17) hx hb dM_count_103 (by decide) ?_
      refine va_iald (D := (dC, dI)) (cl := kCl) (pc := 105) hx hb hK hP 1 0 rfl rfl (vp_in_lit 17 25240 (by decide)) dM_count_105 ?_
      refine W.eq (g2 := F0 m 106 ls [.int 400]) rfl ?_
      have hP9 := hP.sub (ws' := [(mo, .inr (4, [.int 0, .int mr, .ref nw, .ref kp, .int 0, .int (-1), .ref mk, .ref co, .int 0, .int 0, .ref se]))]) [0] rfl
      have hD9 := hD.sub (ws' := [(mo, .inr (4, [.int 0, .int mr, .ref nw, .ref kp, .int 0, .int (-1), .ref mk, .ref co, .int 0, .int 0, .ref se]))]) [0] (by decide) rfl
      have hK9 := hK.sub (tys' := []) [] rfl
      exact W.iret (pc := 106) hx hb hr (fun t ht hW => ⟨⟨_, (), rfl, by decide, by rw [ht]; exact hP9, va_K.moved hW.alike hK9, hD9⟩, hS.F ht⟩) hS.2.2 dM_count_106
    · refine lv_tableIn (pc := 35) (tgt := 107) (off := 72) hx hb dM_count_35 (by decide) (by decide) (by decide) rfl ?_
      refine lv_aload_n (pc := 107) hx hb dM_count_107 rfl (lv_at hl 2 rfl) ?_
      refine va_get (D := (dC, dI)) (cl := kCl) (C := RM) (T := TM) (N := 11) (pc := 108) hx hb hts inM hown hK hP 0 rfl rfl 2 (by decide) (hts _ wd_158) (fun _ h9 => h9) rfl dM_count_108 ?_
      refine lv_bipush (pc := 111) (v := 18) hx hb dM_count_111 (by decide) ?_
      refine va_iald (D := (dC, dI)) (cl := kCl) (pc := 113) hx hb hK hP 1 0 rfl rfl (vp_in_lit 18 25240 (by decide)) dM_count_113 ?_
      refine W.eq (g2 := F0 m 114 ls [.int 0]) rfl ?_
      have hP9 := hP.sub (ws' := [(mo, .inr (4, [.int 0, .int mr, .ref nw, .ref kp, .int 0, .int (-1), .ref mk, .ref co, .int 0, .int 0, .ref se]))]) [0] rfl
      have hD9 := hD.sub (ws' := [(mo, .inr (4, [.int 0, .int mr, .ref nw, .ref kp, .int 0, .int (-1), .ref mk, .ref co, .int 0, .int 0, .ref se]))]) [0] (by decide) rfl
      have hK9 := hK.sub (tys' := []) [] rfl
      exact W.iret (pc := 114) hx hb hr (fun t ht hW => ⟨⟨_, (), rfl, by decide, by rw [ht]; exact hP9, va_K.moved hW.alike hK9, hD9⟩, hS.F ht⟩) hS.2.2 dM_count_114
    · refine lv_tableIn (pc := 35) (tgt := 115) (off := 80) hx hb dM_count_35 (by decide) (by decide) (by decide) rfl ?_
      refine lv_aload_n (pc := 115) hx hb dM_count_115 rfl (lv_at hl 2 rfl) ?_
      refine va_get (D := (dC, dI)) (cl := kCl) (C := RM) (T := TM) (N := 11) (pc := 116) hx hb hts inM hown hK hP 0 rfl rfl 2 (by decide) (hts _ wd_158) (fun _ h9 => h9) rfl dM_count_116 ?_
      refine lv_bipush (pc := 119) (v := 19) hx hb dM_count_119 (by decide) ?_
      refine va_iald (D := (dC, dI)) (cl := kCl) (pc := 121) hx hb hK hP 1 0 rfl rfl (vp_in_lit 19 25240 (by decide)) dM_count_121 ?_
      refine W.eq (g2 := F0 m 122 ls [.int 0]) rfl ?_
      have hP9 := hP.sub (ws' := [(mo, .inr (4, [.int 0, .int mr, .ref nw, .ref kp, .int 0, .int (-1), .ref mk, .ref co, .int 0, .int 0, .ref se]))]) [0] rfl
      have hD9 := hD.sub (ws' := [(mo, .inr (4, [.int 0, .int mr, .ref nw, .ref kp, .int 0, .int (-1), .ref mk, .ref co, .int 0, .int 0, .ref se]))]) [0] (by decide) rfl
      have hK9 := hK.sub (tys' := []) [] rfl
      exact W.iret (pc := 122) hx hb hr (fun t ht hW => ⟨⟨_, (), rfl, by decide, by rw [ht]; exact hP9, va_K.moved hW.alike hK9, hD9⟩, hS.F ht⟩) hS.2.2 dM_count_122
    · refine lv_tableIn (pc := 35) (tgt := 123) (off := 88) hx hb dM_count_35 (by decide) (by decide) (by decide) rfl ?_
      refine lv_iload_n (pc := 123) hx hb dM_count_123 rfl (lv_at hl 1 rfl) ?_
      have hP9 := hP.sub (ws' := [(mo, .inr (4, [.int 0, .int mr, .ref nw, .ref kp, .int 0, .int (-1), .ref mk, .ref co, .int 0, .int 0, .ref se]))]) [0] rfl
      have hD9 := hD.sub (ws' := [(mo, .inr (4, [.int 0, .int mr, .ref nw, .ref kp, .int 0, .int (-1), .ref mk, .ref co, .int 0, .int 0, .ref se]))]) [0] (by decide) rfl
      have hK9 := hK.sub (tys' := []) [] rfl
      exact W.iret (pc := 124) hx hb hr (fun t ht hW => ⟨⟨_, (), rfl, by decide, by rw [ht]; exact hP9, va_K.moved hW.alike hK9, hD9⟩, hS.F ht⟩) hS.2.2 dM_count_124
    · refine lv_tableIn (pc := 35) (tgt := 125) (off := 90) hx hb dM_count_35 (by decide) (by decide) (by decide) rfl ?_
      refine lv_aload_n (pc := 125) hx hb dM_count_125 rfl (lv_at hl 2 rfl) ?_
      refine va_get (D := (dC, dI)) (cl := kCl) (C := RM) (T := TM) (N := 11) (pc := 126) hx hb hts inM hown hK hP 0 rfl rfl 4 (by decide) (hts _ wd_163) (fun _ h9 => h9) rfl dM_count_126 ?_
      refine lv_if_eq (pc := 129) (tgt := 136) hx hb dM_count_129 rfl (fun h59 => ?_) (fun h59 => absurd h59 (by decide))
      refine lv_iconst (pc := 136) (v := 0) hx hb dM_count_136 (by decide) ?_
      have hP9 := hP.sub (ws' := [(mo, .inr (4, [.int 0, .int mr, .ref nw, .ref kp, .int 0, .int (-1), .ref mk, .ref co, .int 0, .int 0, .ref se]))]) [0] rfl
      have hD9 := hD.sub (ws' := [(mo, .inr (4, [.int 0, .int mr, .ref nw, .ref kp, .int 0, .int (-1), .ref mk, .ref co, .int 0, .int 0, .ref se]))]) [0] (by decide) rfl
      have hK9 := hK.sub (tys' := []) [] rfl
      exact W.iret (pc := 137) hx hb hr (fun t ht hW => ⟨⟨_, (), rfl, by decide, by rw [ht]; exact hP9, va_K.moved hW.alike hK9, hD9⟩, hS.F ht⟩) hS.2.2 dM_count_137
end
section
abbrev cA_fillI : ByteArray := prog_17_method_103_code
abbrev yA_fillI : MethodName := ⟨"java/util/Arrays", "fill", "([II)V"⟩
theorem dA_fillI_0 : decode cA_fillI 0 = .ok (.iconst 0, 1) := by decide +kernel
theorem dA_fillI_1 : decode cA_fillI 1 = .ok (.istore_n 2, 1) := by decide +kernel
theorem dA_fillI_2 : decode cA_fillI 2 = .ok (.aload_n 0, 1) := by decide +kernel
theorem dA_fillI_3 : decode cA_fillI 3 = .ok (.arraylength, 1) := by decide +kernel
theorem dA_fillI_4 : decode cA_fillI 4 = .ok (.istore_n 3, 1) := by decide +kernel
theorem dA_fillI_5 : decode cA_fillI 5 = .ok (.iload_n 2, 1) := by decide +kernel
theorem dA_fillI_6 : decode cA_fillI 6 = .ok (.iload_n 3, 1) := by decide +kernel
theorem dA_fillI_7 : decode cA_fillI 7 = .ok (.if_icmp .ge 13, 3) := by decide +kernel
theorem dA_fillI_10 : decode cA_fillI 10 = .ok (.aload_n 0, 1) := by decide +kernel
theorem dA_fillI_11 : decode cA_fillI 11 = .ok (.iload_n 2, 1) := by decide +kernel
theorem dA_fillI_12 : decode cA_fillI 12 = .ok (.iload_n 1, 1) := by decide +kernel
theorem dA_fillI_13 : decode cA_fillI 13 = .ok (.iastore, 1) := by decide +kernel
theorem dA_fillI_14 : decode cA_fillI 14 = .ok (.iinc 2 1, 3) := by decide +kernel
theorem dA_fillI_17 : decode cA_fillI 17 = .ok (.goto (-12), 3) := by decide +kernel
theorem dA_fillI_20 : decode cA_fillI 20 = .ok (.return_, 1) := by decide +kernel
abbrev cB_init : ByteArray := prog_2_method_1_code
abbrev yB_init : MethodName := ⟨"DrawingVault$Baseline", "<init>", "()V"⟩
theorem dB_init_0 : decode cB_init 0 = .ok (.aload_n 0, 1) := by decide +kernel
theorem dB_init_1 : decode cB_init 1 = .ok (.invokespecial 3, 3) := by decide +kernel
theorem dB_init_4 : decode cB_init 4 = .ok (.aload_n 0, 1) := by decide +kernel
theorem dB_init_5 : decode cB_init 5 = .ok (.bipush 24, 2) := by decide +kernel
theorem dB_init_7 : decode cB_init 7 = .ok (.newarray .int, 2) := by decide +kernel
theorem dB_init_9 : decode cB_init 9 = .ok (.putfield 9, 3) := by decide +kernel
theorem dB_init_12 : decode cB_init 12 = .ok (.aload_n 0, 1) := by decide +kernel
theorem dB_init_13 : decode cB_init 13 = .ok (.bipush 24, 2) := by decide +kernel
theorem dB_init_15 : decode cB_init 15 = .ok (.newarray .int, 2) := by decide +kernel
theorem dB_init_17 : decode cB_init 17 = .ok (.putfield 15, 3) := by decide +kernel
theorem dB_init_20 : decode cB_init 20 = .ok (.aload_n 0, 1) := by decide +kernel
theorem dB_init_21 : decode cB_init 21 = .ok (.getfield 9, 3) := by decide +kernel
theorem dB_init_24 : decode cB_init 24 = .ok (.iconst (-1), 1) := by decide +kernel
theorem dB_init_25 : decode cB_init 25 = .ok (.invokestatic 18, 3) := by decide +kernel
theorem dB_init_28 : decode cB_init 28 = .ok (.return_, 1) := by decide +kernel
abbrev cK_init : ByteArray := prog_3_method_1_code
abbrev yK_init : MethodName := ⟨"DrawingVault$ChunkSet", "<init>", "()V"⟩
theorem dK_init_0 : decode cK_init 0 = .ok (.aload_n 0, 1) := by decide +kernel
theorem dK_init_1 : decode cK_init 1 = .ok (.invokespecial 3, 3) := by decide +kernel
theorem dK_init_4 : decode cK_init 4 = .ok (.aload_n 0, 1) := by decide +kernel
theorem dK_init_5 : decode cK_init 5 = .ok (.sipush 992, 3) := by decide +kernel
theorem dK_init_8 : decode cK_init 8 = .ok (.newarray .long, 2) := by decide +kernel
theorem dK_init_10 : decode cK_init 10 = .ok (.putfield 9, 3) := by decide +kernel
theorem dK_init_13 : decode cK_init 13 = .ok (.aload_n 0, 1) := by decide +kernel
theorem dK_init_14 : decode cK_init 14 = .ok (.sipush 992, 3) := by decide +kernel
theorem dK_init_17 : decode cK_init 17 = .ok (.newarray .byte, 2) := by decide +kernel
theorem dK_init_19 : decode cK_init 19 = .ok (.putfield 15, 3) := by decide +kernel
theorem dK_init_22 : decode cK_init 22 = .ok (.return_, 1) := by decide +kernel
abbrev cP_init : ByteArray := prog_6_method_1_code
abbrev yP_init : MethodName := ⟨"DrawingVault$Pages", "<init>", "()V"⟩
theorem dP_init_0 : decode cP_init 0 = .ok (.aload_n 0, 1) := by decide +kernel
theorem dP_init_1 : decode cP_init 1 = .ok (.invokespecial 3, 3) := by decide +kernel
theorem dP_init_4 : decode cP_init 4 = .ok (.aload_n 0, 1) := by decide +kernel
theorem dP_init_5 : decode cP_init 5 = .ok (.sipush 400, 3) := by decide +kernel
theorem dP_init_8 : decode cP_init 8 = .ok (.putfield 9, 3) := by decide +kernel
theorem dP_init_11 : decode cP_init 11 = .ok (.return_, 1) := by decide +kernel
abbrev cV_init : ByteArray := prog_1_method_1_code
abbrev yV_init : MethodName := ⟨"DrawingVault", "<init>", "()V"⟩
theorem dV_init_0 : decode cV_init 0 = .ok (.aload_n 0, 1) := by decide +kernel
theorem dV_init_1 : decode cV_init 1 = .ok (.invokespecial 3, 3) := by decide +kernel
theorem dV_init_4 : decode cV_init 4 = .ok (.aload_n 0, 1) := by decide +kernel
theorem dV_init_5 : decode cV_init 5 = .ok (.bipush 16, 2) := by decide +kernel
theorem dV_init_7 : decode cV_init 7 = .ok (.newarray .int, 2) := by decide +kernel
theorem dV_init_9 : decode cV_init 9 = .ok (.putfield 9, 3) := by decide +kernel
theorem dV_init_12 : decode cV_init 12 = .ok (.aload_n 0, 1) := by decide +kernel
theorem dV_init_13 : decode cV_init 13 = .ok (.bipush 24, 2) := by decide +kernel
theorem dV_init_15 : decode cV_init 15 = .ok (.anewarray 13, 3) := by decide +kernel
theorem dV_init_18 : decode cV_init 18 = .ok (.putfield 15, 3) := by decide +kernel
theorem dV_init_21 : decode cV_init 21 = .ok (.aload_n 0, 1) := by decide +kernel
theorem dV_init_22 : decode cV_init 22 = .ok (.bipush 10, 2) := by decide +kernel
theorem dV_init_24 : decode cV_init 24 = .ok (.anewarray 19, 3) := by decide +kernel
theorem dV_init_27 : decode cV_init 27 = .ok (.putfield 21, 3) := by decide +kernel
theorem dV_init_30 : decode cV_init 30 = .ok (.aload_n 0, 1) := by decide +kernel
theorem dV_init_31 : decode cV_init 31 = .ok (.new 19, 3) := by decide +kernel
theorem dV_init_34 : decode cV_init 34 = .ok (.dup, 1) := by decide +kernel
theorem dV_init_35 : decode cV_init 35 = .ok (.invokespecial 25, 3) := by decide +kernel
theorem dV_init_38 : decode cV_init 38 = .ok (.putfield 26, 3) := by decide +kernel
theorem dV_init_41 : decode cV_init 41 = .ok (.aload_n 0, 1) := by decide +kernel
theorem dV_init_42 : decode cV_init 42 = .ok (.new 30, 3) := by decide +kernel
theorem dV_init_45 : decode cV_init 45 = .ok (.dup, 1) := by decide +kernel
theorem dV_init_46 : decode cV_init 46 = .ok (.invokespecial 32, 3) := by decide +kernel
theorem dV_init_49 : decode cV_init 49 = .ok (.putfield 33, 3) := by decide +kernel
theorem dV_init_52 : decode cV_init 52 = .ok (.aload_n 0, 1) := by decide +kernel
theorem dV_init_53 : decode cV_init 53 = .ok (.new 37, 3) := by decide +kernel
theorem dV_init_56 : decode cV_init 56 = .ok (.dup, 1) := by decide +kernel
theorem dV_init_57 : decode cV_init 57 = .ok (.invokespecial 39, 3) := by decide +kernel
theorem dV_init_60 : decode cV_init 60 = .ok (.putfield 40, 3) := by decide +kernel
theorem dV_init_63 : decode cV_init 63 = .ok (.return_, 1) := by decide +kernel
abbrev cM_init : ByteArray := prog_9_method_1_code
abbrev yM_init : MethodName := ⟨"DrawingVaultModel", "<init>", "()V"⟩
theorem dM_init_0 : decode cM_init 0 = .ok (.aload_n 0, 1) := by decide +kernel
theorem dM_init_1 : decode cM_init 1 = .ok (.invokespecial 1, 3) := by decide +kernel
theorem dM_init_4 : decode cM_init 4 = .ok (.aload_n 0, 1) := by decide +kernel
theorem dM_init_5 : decode cM_init 5 = .ok (.sipush 25240, 3) := by decide +kernel
theorem dM_init_8 : decode cM_init 8 = .ok (.newarray .int, 2) := by decide +kernel
theorem dM_init_10 : decode cM_init 10 = .ok (.putfield 7, 3) := by decide +kernel
theorem dM_init_13 : decode cM_init 13 = .ok (.aload_n 0, 1) := by decide +kernel
theorem dM_init_14 : decode cM_init 14 = .ok (.sipush 25240, 3) := by decide +kernel
theorem dM_init_17 : decode cM_init 17 = .ok (.newarray .int, 2) := by decide +kernel
theorem dM_init_19 : decode cM_init 19 = .ok (.putfield 13, 3) := by decide +kernel
theorem dM_init_22 : decode cM_init 22 = .ok (.aload_n 0, 1) := by decide +kernel
theorem dM_init_23 : decode cM_init 23 = .ok (.iconst (-1), 1) := by decide +kernel
theorem dM_init_24 : decode cM_init 24 = .ok (.putfield 16, 3) := by decide +kernel
theorem dM_init_27 : decode cM_init 27 = .ok (.aload_n 0, 1) := by decide +kernel
theorem dM_init_28 : decode cM_init 28 = .ok (.bipush 24, 2) := by decide +kernel
theorem dM_init_30 : decode cM_init 30 = .ok (.newarray .boolean, 2) := by decide +kernel
theorem dM_init_32 : decode cM_init 32 = .ok (.putfield 20, 3) := by decide +kernel
theorem dM_init_35 : decode cM_init 35 = .ok (.aload_n 0, 1) := by decide +kernel
theorem dM_init_36 : decode cM_init 36 = .ok (.bipush 24, 2) := by decide +kernel
theorem dM_init_38 : decode cM_init 38 = .ok (.newarray .int, 2) := by decide +kernel
theorem dM_init_40 : decode cM_init 40 = .ok (.putfield 24, 3) := by decide +kernel
theorem dM_init_43 : decode cM_init 43 = .ok (.aload_n 0, 1) := by decide +kernel
theorem dM_init_44 : decode cM_init 44 = .ok (.sipush 288, 3) := by decide +kernel
theorem dM_init_47 : decode cM_init 47 = .ok (.newarray .boolean, 2) := by decide +kernel
theorem dM_init_49 : decode cM_init 49 = .ok (.putfield 27, 3) := by decide +kernel
theorem dM_init_52 : decode cM_init 52 = .ok (.aload_n 0, 1) := by decide +kernel
theorem dM_init_53 : decode cM_init 53 = .ok (.getfield 7, 3) := by decide +kernel
theorem dM_init_56 : decode cM_init 56 = .ok (.bipush 17, 2) := by decide +kernel
theorem dM_init_58 : decode cM_init 58 = .ok (.sipush 400, 3) := by decide +kernel
theorem dM_init_61 : decode cM_init 61 = .ok (.iastore, 1) := by decide +kernel
theorem dM_init_62 : decode cM_init 62 = .ok (.aload_n 0, 1) := by decide +kernel
theorem dM_init_63 : decode cM_init 63 = .ok (.invokevirtual 30, 3) := by decide +kernel
theorem dM_init_66 : decode cM_init 66 = .ok (.return_, 1) := by decide +kernel
abbrev cB_clear : ByteArray := prog_2_method_2_code
abbrev yB_clear : MethodName := ⟨"DrawingVault$Baseline", "clear", "()V"⟩
theorem dB_clear_0 : decode cB_clear 0 = .ok (.aload_n 0, 1) := by decide +kernel
theorem dB_clear_1 : decode cB_clear 1 = .ok (.getfield 9, 3) := by decide +kernel
theorem dB_clear_4 : decode cB_clear 4 = .ok (.iconst (-1), 1) := by decide +kernel
theorem dB_clear_5 : decode cB_clear 5 = .ok (.invokestatic 18, 3) := by decide +kernel
theorem dB_clear_8 : decode cB_clear 8 = .ok (.aload_n 0, 1) := by decide +kernel
theorem dB_clear_9 : decode cB_clear 9 = .ok (.iconst 0, 1) := by decide +kernel
theorem dB_clear_10 : decode cB_clear 10 = .ok (.putfield 24, 3) := by decide +kernel
theorem dB_clear_13 : decode cB_clear 13 = .ok (.return_, 1) := by decide +kernel
abbrev cB_pagesTaken : ByteArray := prog_2_method_5_code
abbrev yB_pagesTaken : MethodName := ⟨"DrawingVault$Baseline", "pagesTaken", "()I"⟩
theorem dB_pagesTaken_0 : decode cB_pagesTaken 0 = .ok (.iconst 1, 1) := by decide +kernel
theorem dB_pagesTaken_1 : decode cB_pagesTaken 1 = .ok (.aload_n 0, 1) := by decide +kernel
theorem dB_pagesTaken_2 : decode cB_pagesTaken 2 = .ok (.getfield 24, 3) := by decide +kernel
theorem dB_pagesTaken_5 : decode cB_pagesTaken 5 = .ok (.bipush 8, 2) := by decide +kernel
theorem dB_pagesTaken_7 : decode cB_pagesTaken 7 = .ok (.iadd, 1) := by decide +kernel
theorem dB_pagesTaken_8 : decode cB_pagesTaken 8 = .ok (.iconst 1, 1) := by decide +kernel
theorem dB_pagesTaken_9 : decode cB_pagesTaken 9 = .ok (.isub, 1) := by decide +kernel
theorem dB_pagesTaken_10 : decode cB_pagesTaken 10 = .ok (.bipush 8, 2) := by decide +kernel
theorem dB_pagesTaken_12 : decode cB_pagesTaken 12 = .ok (.idiv, 1) := by decide +kernel
theorem dB_pagesTaken_13 : decode cB_pagesTaken 13 = .ok (.iadd, 1) := by decide +kernel
theorem dB_pagesTaken_14 : decode cB_pagesTaken 14 = .ok (.ireturn, 1) := by decide +kernel
abbrev cV_baselineRefusal : ByteArray := prog_1_method_38_code
abbrev yV_baselineRefusal : MethodName := ⟨"DrawingVault", "baselineRefusal", "(II)I"⟩
theorem dV_baselineRefusal_0 : decode cV_baselineRefusal 0 = .ok (.aload_n 0, 1) := by decide +kernel
theorem dV_baselineRefusal_1 : decode cV_baselineRefusal 1 = .ok (.iload_n 2, 1) := by decide +kernel
theorem dV_baselineRefusal_2 : decode cV_baselineRefusal 2 = .ok (.invokevirtual 74, 3) := by decide +kernel
theorem dV_baselineRefusal_5 : decode cV_baselineRefusal 5 = .ok (.astore_n 3, 1) := by decide +kernel
theorem dV_baselineRefusal_6 : decode cV_baselineRefusal 6 = .ok (.aload_n 0, 1) := by decide +kernel
theorem dV_baselineRefusal_7 : decode cV_baselineRefusal 7 = .ok (.getfield 26, 3) := by decide +kernel
theorem dV_baselineRefusal_10 : decode cV_baselineRefusal 10 = .ok (.invokevirtual 304, 3) := by decide +kernel
theorem dV_baselineRefusal_13 : decode cV_baselineRefusal 13 = .ok (.aload_n 0, 1) := by decide +kernel
theorem dV_baselineRefusal_14 : decode cV_baselineRefusal 14 = .ok (.iload_n 1, 1) := by decide +kernel
theorem dV_baselineRefusal_15 : decode cV_baselineRefusal 15 = .ok (.invokevirtual 209, 3) := by decide +kernel
theorem dV_baselineRefusal_18 : decode cV_baselineRefusal 18 = .ok (.ifnull 5, 3) := by decide +kernel
theorem dV_baselineRefusal_23 : decode cV_baselineRefusal 23 = .ok (.aload_n 3, 1) := by decide +kernel
theorem dV_baselineRefusal_24 : decode cV_baselineRefusal 24 = .ok (.ifnonnull 6, 3) := by decide +kernel
theorem dV_baselineRefusal_27 : decode cV_baselineRefusal 27 = .ok (.bipush 7, 2) := by decide +kernel
theorem dV_baselineRefusal_29 : decode cV_baselineRefusal 29 = .ok (.ireturn, 1) := by decide +kernel
abbrev cV_baseline : ByteArray := prog_1_method_14_code
abbrev yV_baseline : MethodName := ⟨"DrawingVault", "baseline", "(II)I"⟩
theorem dV_baseline_0 : decode cV_baseline 0 = .ok (.aload_n 0, 1) := by decide +kernel
theorem dV_baseline_1 : decode cV_baseline 1 = .ok (.invokevirtual 44, 3) := by decide +kernel
theorem dV_baseline_4 : decode cV_baseline 4 = .ok (.aload_n 0, 1) := by decide +kernel
theorem dV_baseline_5 : decode cV_baseline 5 = .ok (.iload_n 1, 1) := by decide +kernel
theorem dV_baseline_6 : decode cV_baseline 6 = .ok (.iload_n 2, 1) := by decide +kernel
theorem dV_baseline_7 : decode cV_baseline 7 = .ok (.invokevirtual 150, 3) := by decide +kernel
theorem dV_baseline_10 : decode cV_baseline 10 = .ok (.istore_n 3, 1) := by decide +kernel
theorem dV_baseline_11 : decode cV_baseline 11 = .ok (.aload_n 0, 1) := by decide +kernel
theorem dV_baseline_12 : decode cV_baseline 12 = .ok (.getfield 26, 3) := by decide +kernel
theorem dV_baseline_15 : decode cV_baseline 15 = .ok (.invokevirtual 154, 3) := by decide +kernel
theorem dV_baseline_18 : decode cV_baseline 18 = .ok (.istore 4, 2) := by decide +kernel
theorem dV_baseline_20 : decode cV_baseline 20 = .ok (.aload_n 0, 1) := by decide +kernel
theorem dV_baseline_21 : decode cV_baseline 21 = .ok (.iload_n 3, 1) := by decide +kernel
theorem dV_baseline_22 : decode cV_baseline 22 = .ok (.iload 4, 2) := by decide +kernel
theorem dV_baseline_24 : decode cV_baseline 24 = .ok (.invokevirtual 51, 3) := by decide +kernel
theorem dV_baseline_27 : decode cV_baseline 27 = .ok (.ifCond .ne 5, 3) := by decide +kernel
theorem dV_baseline_30 : decode cV_baseline 30 = .ok (.iconst (-1), 1) := by decide +kernel
theorem dV_baseline_31 : decode cV_baseline 31 = .ok (.ireturn, 1) := by decide +kernel
theorem wd_221 : (.methodLink "DrawingVault$Baseline" 3 ⟨"java/lang/Object", "<init>", "()V"⟩ : Cond) ∈ aw := aw_in (tb_1 (List.mem_of_getElem? (i := 33) rfl)) rfl
theorem wd_222 : (.instanceMethod ⟨"java/lang/Object", "<init>", "()V"⟩ : Cond) ∈ aw := aw_in (tb_1 (List.mem_of_getElem? (i := 23) rfl)) rfl
theorem wd_223 : (.code ⟨"java/lang/Object", "<init>", "()V"⟩ object_method_1_code 1 (Option.none : Option Jvm.ClassFile.FieldType) : Cond) ∈ aw := aw_in (tb_1 (List.mem_of_getElem? (i := 24) rfl)) rfl
theorem wd_224 : (.arrayClass .int : Cond) ∈ aw := aw_in (tb_1 (List.mem_of_getElem? (i := 50) rfl)) rfl
theorem wd_225 : (.fieldLink "DrawingVault$Baseline" 9 "DrawingVault$Baseline" "revisionOf" "[I" : Cond) ∈ aw := aw_in (tb_1 (List.mem_of_getElem? (i := 37) rfl)) rfl
theorem wd_226 : (.fieldLink "DrawingVault$Baseline" 15 "DrawingVault$Baseline" "order" "[I" : Cond) ∈ aw := aw_in (tb_1 (List.mem_of_getElem? (i := 39) rfl)) rfl
theorem wd_227 : (.code ⟨"java/util/Arrays", "fill", "([II)V"⟩ prog_17_method_103_code 4 (Option.none : Option Jvm.ClassFile.FieldType) : Cond) ∈ aw := aw_in (tb_1 (List.mem_of_getElem? (i := 36) rfl)) rfl
theorem wd_228 : (.methodLink "DrawingVault$Baseline" 18 ⟨"java/util/Arrays", "fill", "([II)V"⟩ : Cond) ∈ aw := aw_in (tb_1 (List.mem_of_getElem? (i := 34) rfl)) rfl
theorem wd_229 : (.static ⟨"java/util/Arrays", "fill", "([II)V"⟩ : Cond) ∈ aw := aw_in (tb_1 (List.mem_of_getElem? (i := 35) rfl)) rfl
theorem wd_230 : (.initialized "java/util/Arrays" : Cond) ∈ aw := aw_in (tb_1 (List.mem_of_getElem? (i := 3) rfl)) rfl
theorem wd_231 : (.methodLink "DrawingVault$ChunkSet" 3 ⟨"java/lang/Object", "<init>", "()V"⟩ : Cond) ∈ aw := aw_in (tb_1 (List.mem_of_getElem? (i := 56) rfl)) rfl
theorem wd_232 : (.arrayClass .long : Cond) ∈ aw := aw_in (tb_1 (List.mem_of_getElem? (i := 68) rfl)) rfl
theorem wd_233 : (.fieldLink "DrawingVault$ChunkSet" 9 "DrawingVault$ChunkSet" "pieces" "[J" : Cond) ∈ aw := aw_in (tb_1 (List.mem_of_getElem? (i := 57) rfl)) rfl
theorem wd_234 : (.arrayClass .byte : Cond) ∈ aw := aw_in (tb_1 (List.mem_of_getElem? (i := 69) rfl)) rfl
theorem wd_235 : (.fieldLink "DrawingVault$ChunkSet" 15 "DrawingVault$ChunkSet" "lengths" "[B" : Cond) ∈ aw := aw_in (tb_1 (List.mem_of_getElem? (i := 58) rfl)) rfl
theorem wd_236 : (.methodLink "DrawingVault$Pages" 3 ⟨"java/lang/Object", "<init>", "()V"⟩ : Cond) ∈ aw := aw_in (tb_1 (List.mem_of_getElem? (i := 75) rfl)) rfl
theorem wd_237 : (.methodLink "DrawingVault" 3 ⟨"java/lang/Object", "<init>", "()V"⟩ : Cond) ∈ aw := aw_in (tb_1 (List.mem_of_getElem? (i := 22) rfl)) rfl
theorem wd_238 : (.classLink "DrawingVault" 13 "DrawingVault$Drawing" : Cond) ∈ aw := aw_in (tb_1 (List.mem_of_getElem? (i := 25) rfl)) rfl
theorem wd_239 : (.fieldLink "DrawingVault" 15 "DrawingVault" "drawings" "[LDrawingVault$Drawing;" : Cond) ∈ aw := aw_in (tb_1 (List.mem_of_getElem? (i := 100) rfl)) rfl
theorem wd_240 : (.classLink "DrawingVault" 19 "DrawingVault$Baseline" : Cond) ∈ aw := aw_in (tb_1 (List.mem_of_getElem? (i := 27) rfl)) rfl
theorem wd_241 : (.instantiable "DrawingVault$Baseline" 3 : Cond) ∈ aw := aw_in (tb_1 (List.mem_of_getElem? (i := 29) rfl)) rfl
theorem wd_242 : (.initialized "DrawingVault$Baseline" : Cond) ∈ aw := aw_in (tb_1 (List.mem_of_getElem? (i := 2) rfl)) rfl
theorem wd_243 : (.code ⟨"DrawingVault$Baseline", "<init>", "()V"⟩ prog_2_method_1_code 1 (Option.none : Option Jvm.ClassFile.FieldType) : Cond) ∈ aw := aw_in (tb_1 (List.mem_of_getElem? (i := 32) rfl)) rfl
theorem wd_244 : (.methodLink "DrawingVault" 25 ⟨"DrawingVault$Baseline", "<init>", "()V"⟩ : Cond) ∈ aw := aw_in (tb_1 (List.mem_of_getElem? (i := 30) rfl)) rfl
theorem wd_245 : (.instanceMethod ⟨"DrawingVault$Baseline", "<init>", "()V"⟩ : Cond) ∈ aw := aw_in (tb_1 (List.mem_of_getElem? (i := 31) rfl)) rfl
theorem wd_246 : (.fieldLink "DrawingVault" 26 "DrawingVault" "draft" "LDrawingVault$Baseline;" : Cond) ∈ aw := aw_in (tb_1 (List.mem_of_getElem? (i := 104) rfl)) rfl
theorem wd_247 : (.classLink "DrawingVault" 30 "DrawingVault$ChunkSet" : Cond) ∈ aw := aw_in (tb_1 (List.mem_of_getElem? (i := 51) rfl)) rfl
theorem wd_248 : (.instantiable "DrawingVault$ChunkSet" 3 : Cond) ∈ aw := aw_in (tb_1 (List.mem_of_getElem? (i := 52) rfl)) rfl
theorem wd_249 : (.code ⟨"DrawingVault$ChunkSet", "<init>", "()V"⟩ prog_3_method_1_code 1 (Option.none : Option Jvm.ClassFile.FieldType) : Cond) ∈ aw := aw_in (tb_1 (List.mem_of_getElem? (i := 55) rfl)) rfl
theorem wd_250 : (.instanceMethod ⟨"DrawingVault$ChunkSet", "<init>", "()V"⟩ : Cond) ∈ aw := aw_in (tb_1 (List.mem_of_getElem? (i := 54) rfl)) rfl
theorem wd_251 : (.classLink "DrawingVault" 37 "DrawingVault$Pages" : Cond) ∈ aw := aw_in (tb_1 (List.mem_of_getElem? (i := 70) rfl)) rfl
theorem wd_252 : (.instantiable "DrawingVault$Pages" 6 : Cond) ∈ aw := aw_in (tb_1 (List.mem_of_getElem? (i := 71) rfl)) rfl
theorem wd_253 : (.code ⟨"DrawingVault$Pages", "<init>", "()V"⟩ prog_6_method_1_code 1 (Option.none : Option Jvm.ClassFile.FieldType) : Cond) ∈ aw := aw_in (tb_1 (List.mem_of_getElem? (i := 74) rfl)) rfl
theorem wd_254 : (.instanceMethod ⟨"DrawingVault$Pages", "<init>", "()V"⟩ : Cond) ∈ aw := aw_in (tb_1 (List.mem_of_getElem? (i := 73) rfl)) rfl
theorem wd_255 : (.methodLink "DrawingVaultModel" 1 ⟨"java/lang/Object", "<init>", "()V"⟩ : Cond) ∈ aw := aw_in (tb_4 (List.mem_of_getElem? (i := 25) rfl)) rfl
theorem wd_256 : (.arrayClass .boolean : Cond) ∈ aw := aw_in (tb_4 (List.mem_of_getElem? (i := 64) rfl)) rfl
theorem wd_257 : (.fieldLink "DrawingVaultModel" 20 "DrawingVaultModel" "marked" "[Z" : Cond) ∈ aw := aw_in (tb_4 (List.mem_of_getElem? (i := 36) rfl)) rfl
theorem wd_258 : (.fieldLink "DrawingVaultModel" 24 "DrawingVaultModel" "come" "[I" : Cond) ∈ aw := aw_in (tb_4 (List.mem_of_getElem? (i := 37) rfl)) rfl
theorem wd_259 : (.fieldLink "DrawingVaultModel" 27 "DrawingVaultModel" "seen" "[Z" : Cond) ∈ aw := aw_in (tb_4 (List.mem_of_getElem? (i := 40) rfl)) rfl
theorem wd_260 : (.fieldLink "DrawingVault$Baseline" 24 "DrawingVault$Baseline" "size" "I" : Cond) ∈ aw := aw_in (tb_1 (List.mem_of_getElem? (i := 41) rfl)) rfl
theorem wd_261 : (.code ⟨"DrawingVault$Baseline", "clear", "()V"⟩ prog_2_method_2_code 1 (Option.none : Option Jvm.ClassFile.FieldType) : Cond) ∈ aw := aw_in (tb_3 (List.mem_of_getElem? (i := 172) rfl)) rfl
theorem wd_262 : (.methodLink "DrawingVault" 304 ⟨"DrawingVault$Baseline", "clear", "()V"⟩ : Cond) ∈ aw := aw_in (tb_3 (List.mem_of_getElem? (i := 169) rfl)) rfl
theorem wd_263 : (.instanceMethod ⟨"DrawingVault$Baseline", "clear", "()V"⟩ : Cond) ∈ aw := aw_in (tb_3 (List.mem_of_getElem? (i := 170) rfl)) rfl
theorem wd_264 : (.selects "DrawingVault$Baseline" ⟨"DrawingVault$Baseline", "clear", "()V"⟩ ⟨"DrawingVault$Baseline", "clear", "()V"⟩ : Cond) ∈ aw := aw_in (tb_3 (List.mem_of_getElem? (i := 171) rfl)) rfl
theorem wd_265 : (.code ⟨"DrawingVault", "baselineAt", "(I)LDrawingVault$Baseline;"⟩ prog_1_method_46_code 2 (Option.some (.object "DrawingVault$Baseline")) : Cond) ∈ aw := aw_in (tb_3 (List.mem_of_getElem? (i := 176) rfl)) rfl
theorem wd_266 : (.methodLink "DrawingVault" 209 ⟨"DrawingVault", "baselineAt", "(I)LDrawingVault$Baseline;"⟩ : Cond) ∈ aw := aw_in (tb_3 (List.mem_of_getElem? (i := 173) rfl)) rfl
theorem wd_267 : (.instanceMethod ⟨"DrawingVault", "baselineAt", "(I)LDrawingVault$Baseline;"⟩ : Cond) ∈ aw := aw_in (tb_3 (List.mem_of_getElem? (i := 175) rfl)) rfl
theorem wd_268 : (.selects "DrawingVault" ⟨"DrawingVault", "baselineAt", "(I)LDrawingVault$Baseline;"⟩ ⟨"DrawingVault", "baselineAt", "(I)LDrawingVault$Baseline;"⟩ : Cond) ∈ aw := aw_in (tb_s (q := (⟨"DrawingVault", "baselineAt", "(I)LDrawingVault$Baseline;"⟩, _)) (List.mem_append_right _ (List.mem_append_right _ (List.mem_append_left _ (List.mem_of_getElem? (i := 0) rfl))))) rfl
theorem wd_269 : (.code ⟨"DrawingVault", "baselineRefusal", "(II)I"⟩ prog_1_method_38_code 5 (Option.some .int) : Cond) ∈ aw := aw_in (tb_3 (List.mem_of_getElem? (i := 168) rfl)) rfl
theorem wd_270 : (.methodLink "DrawingVault" 150 ⟨"DrawingVault", "baselineRefusal", "(II)I"⟩ : Cond) ∈ aw := aw_in (tb_3 (List.mem_of_getElem? (i := 165) rfl)) rfl
theorem wd_271 : (.instanceMethod ⟨"DrawingVault", "baselineRefusal", "(II)I"⟩ : Cond) ∈ aw := aw_in (tb_3 (List.mem_of_getElem? (i := 167) rfl)) rfl
theorem wd_272 : (.selects "DrawingVault" ⟨"DrawingVault", "baselineRefusal", "(II)I"⟩ ⟨"DrawingVault", "baselineRefusal", "(II)I"⟩ : Cond) ∈ aw := aw_in (tb_s (q := (⟨"DrawingVault", "baselineRefusal", "(II)I"⟩, _)) (List.mem_append_right _ (List.mem_append_left _ (List.mem_of_getElem? (i := 15) rfl)))) rfl
theorem wd_273 : (.code ⟨"DrawingVault$Baseline", "pagesTaken", "()I"⟩ prog_2_method_5_code 1 (Option.some .int) : Cond) ∈ aw := aw_in (tb_2 (List.mem_of_getElem? (i := 104) rfl)) rfl
theorem wd_274 : (.methodLink "DrawingVault" 154 ⟨"DrawingVault$Baseline", "pagesTaken", "()I"⟩ : Cond) ∈ aw := aw_in (tb_2 (List.mem_of_getElem? (i := 101) rfl)) rfl
theorem wd_275 : (.instanceMethod ⟨"DrawingVault$Baseline", "pagesTaken", "()I"⟩ : Cond) ∈ aw := aw_in (tb_2 (List.mem_of_getElem? (i := 102) rfl)) rfl
theorem wd_276 : (.selects "DrawingVault$Baseline" ⟨"DrawingVault$Baseline", "pagesTaken", "()I"⟩ ⟨"DrawingVault$Baseline", "pagesTaken", "()I"⟩ : Cond) ∈ aw := aw_in (tb_2 (List.mem_of_getElem? (i := 103) rfl)) rfl

def eV (U : State) : Prop := va_Nw (.methodLinkNest "DrawingVault" 32 ⟨"DrawingVault$ChunkSet", "<init>", "()V"⟩ "DrawingVault") U ∧ va_Nw (.methodLinkNest "DrawingVault" 39 ⟨"DrawingVault$Pages", "<init>", "()V"⟩ "DrawingVault") U ∧ va_AO "DrawingVault$Drawing" U ∧ va_AO "DrawingVault$Baseline" U
theorem eV_same {u U : State} (h : u.vm = U.vm) (hE : eV u) : eV U := ⟨va_Nw.same rfl h hE.1, va_Nw.same rfl h hE.2.1, va_AO.moved (by rw [h]; exact Vm.Alike.refl _) hE.2.2.1, va_AO.moved (by rw [h]; exact Vm.Alike.refl _) hE.2.2.2⟩
theorem eV_warm {s U : State} (hW : s.WarmedH U.vm) (hE : eV s) : eV U := ⟨va_Nw.warmM hW hE.1, va_Nw.warmM hW hE.2.1, va_AO.moved hW.alike hE.2.2.1, va_AO.moved hW.alike hE.2.2.2⟩
def pWx (D : va_G) (sz : Nat) (ws : va_W) (tys : List (ClassId × FieldType)) (av : List Value) (E : State → Prop) : Array Value → State → Prop := va_Pc av (fun U => U.heap.size = sz ∧ va_P D kCl ws U.heap ∧ va_K D kCl tys U ∧ va_D (fun _ => True) ws ∧ E U)
theorem pWx_blind {D : va_G} {sz : Nat} {ws : va_W} {tys : List (ClassId × FieldType)} {av : List Value} {E : State → Prop} (hE : ∀ u U : State, u.vm = U.vm → E u → E U) : FrameBlind (pWx D sz ws tys av E) := fun a U g mk h => ⟨h.1, h.2.1, h.2.2.1, va_K.moved (u := U) (U := U.calling g mk a) (Vm.Alike.refl U.vm) h.2.2.2.1, h.2.2.2.2.1, hE U _ rfl h.2.2.2.2.2⟩
theorem pWx_pre {D : va_G} {ws : va_W} {tys : List (ClassId × FieldType)} {av : List Value} {s : State} {H : Heap} {A : Nat → Prop} {E : State → Prop} (hP : va_P D kCl ws H) (hK : va_K D kCl tys s) (hD : va_D A ws) (hE : ∀ U : State, s.WarmedH U.vm → E U) : ∀ U : State, U.heap = H → s.WarmedH U.vm → pWx D H.size ws tys av E av.toArray U := fun U hU hW => ⟨rfl, by rw [hU], by rw [hU]; exact hP, va_K.moved hW.alike hK, hD.weaken (fun _ _ _ _ => trivial), hE U hW⟩

set_option maxHeartbeats 4000000 in
set_option maxRecDepth 100000 in
theorem a_fill (l : Launch) (dC : Nat → ClassId) (dI : Nat → Nat → Nat) (sz : Nat) (ar : Nat) (cF : ClassId) (fa : Nat → Int32) (va : Int32) : Met l yA_fillI (.code yA_fillI cA_fillI 4 none :: aw) ({ frames := 0, cells := 0, slots := 0, locals := 0 }) (pW (dC, dI) sz [(ar, .inl (cF, 24, .inl fa))] [(cF, .int)] [.ref ar, .int va]) (va_Qv (fun (u9 : Nat → Int32) => True) (fun u9 t => wW (dC, dI) (va_A [(ar, .inl (cF, 24, .inl fa))] sz) [(ar, .inl (cF, 24, .inl u9))] [(cF, .int)] t) (va_A [(ar, .inl (cF, 24, .inl fa))] sz)) 0 0 (va_A [(ar, .inl (cF, 24, .inl fa))] sz) := by
  refine Met.ofW (cc := cA_fillI) (maxL := 4) (ret := none) (by decide) rfl ?_
  intro p e s m args below meth c s₁ B hml hv
  obtain ⟨rfl, hv⟩ := hv
  have hx := B.exec
  have hb := B.bytes
  have hr := B.returns
  have hts : ∀ w ∈ aw, w.before _ s = true := fun w h => atoms_spec (ws := (.code yA_fillI cA_fillI 4 none :: aw)) B.pre w (List.mem_cons_of_mem _ h)
  have hown : s.vm.findClass RA = some m.cls := findClass_of_methodNamed B.named
  have hlocks := B.notSynchronized
  obtain ⟨hsz, hP, hK, hD0⟩ := hv
  subst hsz
  have hD := hD0.self (sz := s.heap.size)
  generalize hAe : va_A [(ar, .inl (cF, 24, .inl fa))] s.heap.size = A at hD ⊢
  have hA : ∀ q : Nat, s.heap.size ≤ q → A q := fun q h => by rw [← hAe]; exact Or.inr h
  obtain ⟨H, hH⟩ : ∃ H, H = s.heap := ⟨_, rfl⟩
  have hS : va_S A s.heap H [] := by rw [hH]; exact va_S.rf
  rw [← hH] at hP ⊢
  have hP : va_P (dC, dI) kCl [(ar, .inl (cF, 24, .inl fa))] H := hP
  have hl := lv_entry ([.ref ar, .int va]) (n := 4) (Nat.le_of_ble_eq_true rfl)
  rw [lg_entry_eq]
  generalize (lg_sl ([.ref ar, .int va]) ++ List.replicate (4 - (lg_sl ([.ref ar, .int va])).length) Slot.unset).toArray = ls at hl ⊢
  have hl : lv_has ls 4 [(0, .ref ar), (1, .int va)] := hl
  refine lv_iconst (pc := 0) (v := 0) hx hb dA_fillI_0 (by decide) ?_
  refine lv_istore_n (pc := 1) hx hb dA_fillI_1 rfl hl (by decide) rfl (fun ls hl => ?_)
  have hl : lv_has ls 4 [(2, .int 0), (0, .ref ar), (1, .int va)] := hl
  refine lv_aload_n (pc := 2) hx hb dA_fillI_2 rfl (lv_at hl 1 rfl) ?_
  refine va_alen (D := (dC, dI)) (cl := kCl) (pc := 3) (v := 24) hx hb hK hP 0 0 rfl rfl rfl dA_fillI_3 ?_
  refine lv_istore_n (pc := 4) hx hb dA_fillI_4 rfl hl (by decide) rfl (fun ls hl => ?_)
  have hl : lv_has ls 4 [(3, .int 24), (2, .int 0), (0, .ref ar), (1, .int va)] := hl
  refine lpN (σ := (Nat → Int32) × (Heap) × (List Loc) × (Array Slot)) (fun z => W p l e _ s m _ below meth c z.2.1 z.2.2.1 0 0 _ (F0 m 5 z.2.2.2 [])) (fun i z => va_P (dC, dI) kCl [(ar, .inl (cF, 24, .inl z.1))] z.2.1 ∧ va_D A [(ar, .inl (cF, 24, .inl z.1))] ∧ va_S A s.heap z.2.1 z.2.2.1 ∧ lv_has z.2.2.2 4 [(3, .int 24), (2, .int (nI i)), (0, .ref ar), (1, .int va)]) 24 ?_ ?_ 24 0 (fa, H, _, ls) rfl ⟨hP, hD, hS, hl⟩
  · rintro ⟨g1, H, locs, ls⟩ ⟨hP, hD, hS, hl⟩
    try dsimp only at hP hD hS hl ⊢
    have hP : va_P (dC, dI) kCl [(ar, .inl (cF, 24, .inl g1))] H := hP
    have hD : va_D A [(ar, .inl (cF, 24, .inl g1))] := hD
    have hl : lv_has ls 4 [(3, .int 24), (2, .int (nI 24)), (0, .ref ar), (1, .int va)] := hl
    refine lv_iload_n (pc := 5) hx hb dA_fillI_5 rfl (lv_at hl 1 rfl) ?_
    refine lv_iload_n (pc := 6) hx hb dA_fillI_6 rfl (lv_at hl 0 rfl) ?_
    refine lv_icmp_ge (pc := 7) (tgt := 20) hx hb dA_fillI_7 rfl (fun h1 => ?_) (fun h1 => absurd (show (24 : Int32) ≤ nI 24 by decide) h1)
    have hP9 := hP.sub (ws' := [(ar, .inl (cF, 24, .inl g1))]) [0] rfl
    have hD9 := hD.sub (ws' := [(ar, .inl (cF, 24, .inl g1))]) [0] (by decide) rfl
    have hK9 := hK.sub (tys' := [(cF, .int)]) [0] rfl
    exact W.vret (pc := 20) hx hb hr (fun t ht hW => ⟨⟨g1, rfl, trivial, by rw [ht]; exact hP9, va_K.moved hW.alike hK9, hD9⟩, hS.F ht⟩) hS.2.2 dA_fillI_20
  · rintro i ⟨g1, H, locs, ls⟩ hi ⟨hP, hD, hS, hl⟩ ih
    try dsimp only at hP hD hS hl ⊢
    have hP : va_P (dC, dI) kCl [(ar, .inl (cF, 24, .inl g1))] H := hP
    have hD : va_D A [(ar, .inl (cF, 24, .inl g1))] := hD
    have hl : lv_has ls 4 [(3, .int 24), (2, .int (nI i)), (0, .ref ar), (1, .int va)] := hl
    refine lv_iload_n (pc := 5) hx hb dA_fillI_5 rfl (lv_at hl 1 rfl) ?_
    refine lv_iload_n (pc := 6) hx hb dA_fillI_6 rfl (lv_at hl 0 rfl) ?_
    refine lv_icmp_ge (pc := 7) (tgt := 20) hx hb dA_fillI_7 rfl (fun h2 => absurd h2 (nI_ge (a := i) (b := 24) hi (by decide))) (fun h2 => ?_)
    refine lv_aload_n (pc := 10) hx hb dA_fillI_10 rfl (lv_at hl 2 rfl) ?_
    refine lv_iload_n (pc := 11) hx hb dA_fillI_11 rfl (lv_at hl 1 rfl) ?_
    refine lv_iload_n (pc := 12) hx hb dA_fillI_12 rfl (lv_at hl 3 rfl) ?_
    refine va_iast (D := (dC, dI)) (cl := kCl) (pc := 13) hx hb hK hP hD hS 0 0 rfl rfl (vp_in_nI (show i < 24 by omega) (by decide)) dA_fillI_13 (fun H locs hP hD hS => ?_)
    have hP : va_P (dC, dI) kCl [(ar, .inl (cF, 24, .inl (upd g1 ((nI i) : Int32).toNatClampNeg va)))] H := hP
    have hD : va_D A [(ar, .inl (cF, 24, .inl (upd g1 ((nI i) : Int32).toNatClampNeg va)))] := hD
    refine lv_iinc (pc := 14) (v := (nI (i + 1))) hx hb dA_fillI_14 hl (k := 1) rfl (nI_1 _) (by decide) rfl (fun ls hl => ?_)
    have hl : lv_has ls 4 [(2, .int (nI (i + 1))), (3, .int 24), (0, .ref ar), (1, .int va)] := hl
    refine lv_goto (pc := 17) (tgt := 5) hx hb dA_fillI_17 rfl ?_
    have hl := lv_sub hl (l' := [(3, .int 24), (2, .int (nI (i + 1))), (0, .ref ar), (1, .int va)]) [1, 0, 2, 3] rfl
    exact ih (_, H, _, ls) ⟨hP, hD, hS, hl⟩
set_option maxHeartbeats 4000000 in
set_option maxRecDepth 100000 in
theorem b_init (l : Launch) (dC : Nat → ClassId) (dI : Nat → Nat → Nat) (sz : Nat) (df : Nat) : Met l yB_init (.code yB_init cB_init 1 none :: aw) ({ frames := 1, cells := 2, slots := 48, locals := 23 }) (pW (dC, dI) sz [(df, .inr (1, [.null, .null, .int 0]))] [] [.ref df]) (va_Qv (fun (_ : Unit) => True) (fun _ t => ∃ (dv : Nat) (do9 : Nat) (cF : ClassId) (cO : ClassId) (fv : Nat → Int32), wW (dC, dI) (va_A [(df, .inr (1, [.null, .null, .int 0]))] sz) [(df, .inr (1, [.ref dv, .ref do9, .int 0])), (dv, .inl (cF, 24, .inl fv)), (do9, .inl (cO, 24, .inl (fun _ => 0)))] [(cF, .int), (cO, .int)] t) (va_A [(df, .inr (1, [.null, .null, .int 0]))] sz)) 2 48 (va_A [(df, .inr (1, [.null, .null, .int 0]))] sz) := by
  refine Met.ofW (cc := cB_init) (maxL := 1) (ret := none) (by decide) rfl ?_
  intro p e s m args below meth c s₁ B hml hv
  obtain ⟨rfl, hv⟩ := hv
  have hx := B.exec
  have hb := B.bytes
  have hr := B.returns
  have hts : ∀ w ∈ aw, w.before _ s = true := fun w h => atoms_spec (ws := (.code yB_init cB_init 1 none :: aw)) B.pre w (List.mem_cons_of_mem _ h)
  have hown : s.vm.findClass RB = some m.cls := findClass_of_methodNamed B.named
  have hlocks := B.notSynchronized
  have hin : meth.name = "<init>" := (name_of_methodNamed B.named B.method).1
  obtain ⟨hsz, hP, hK, hD0⟩ := hv
  subst hsz
  have hD := hD0.self (sz := s.heap.size)
  generalize hAe : va_A [(df, .inr (1, [.null, .null, .int 0]))] s.heap.size = A at hD ⊢
  have hA : ∀ q : Nat, s.heap.size ≤ q → A q := fun q h => by rw [← hAe]; exact Or.inr h
  obtain ⟨H, hH⟩ : ∃ H, H = s.heap := ⟨_, rfl⟩
  have hS : va_S A s.heap H [] := by rw [hH]; exact va_S.rf
  rw [← hH] at hP ⊢
  have hP : va_P (dC, dI) kCl [(df, .inr (1, [.null, .null, .int 0]))] H := hP
  have hl := lv_entry ([.ref df]) (n := 1) (Nat.le_of_ble_eq_true rfl)
  rw [lg_entry_eq]
  generalize (lg_sl ([.ref df]) ++ List.replicate (1 - (lg_sl ([.ref df])).length) Slot.unset).toArray = ls at hl ⊢
  have hl : lv_has ls 1 [(0, .ref df)] := hl
  refine lv_aload_n (pc := 0) hx hb dB_init_0 rfl (lv_at hl 0 rfl) ?_
  refine W.objInit hx hb hown (hts _ wd_221) (hts _ wd_222) (hts _ wd_223) rfl (by rw [hml]; exact hl.1) rfl dB_init_1 (Nat.le_of_ble_eq_true rfl) (Nat.le_of_ble_eq_true rfl) ?_
  refine W.eq (g2 := F0 m 4 ls []) rfl ?_
  refine lv_aload_n (pc := 4) hx hb dB_init_4 rfl (lv_at hl 0 rfl) ?_
  refine lv_bipush (pc := 5) (v := 24) hx hb dB_init_5 (by decide) ?_
  refine va_newa (atype := .int) (D := (dC, dI)) (cl := kCl) (pc := 7) (ty := .int) (n := 24) (N' := 24) (a0 := (24, .inl (fun _ => 0))) hx hb (hts _ wd_224) rfl hK hP hD hS hA (fun cA => rfl) (by decide) (by decide) (by decide) (Nat.le_of_ble_eq_true rfl) (Nat.le_of_ble_eq_true rfl) dB_init_7 (fun q1 cA2 H hK hP hD hS => ?_)
  have hP : va_P (dC, dI) kCl [(df, .inr (1, [.null, .null, .int 0])), (q1, .inl (cA2, 24, .inl (fun _ => 0)))] H := hP
  have hD : va_D A [(df, .inr (1, [.null, .null, .int 0])), (q1, .inl (cA2, 24, .inl (fun _ => 0)))] := hD
  have hK : va_K (dC, dI) kCl [(cA2, .int)] s := hK
  refine W.widen (k := 1) (n := 24) (Nat.le_of_ble_eq_true rfl) (Nat.le_of_ble_eq_true rfl) ?_
  refine va_putF (D := (dC, dI)) (cl := kCl) (ci := 1) (v := .ref q1) (ty := (.array .int)) (C := RB) (T := TB) (N := 3) (pc := 9) hx hb hts inB tyB tyB_ok nmB hown hK hP hD hS 0 rfl rfl 0 (by decide) (hts _ wd_225) (fun _ h9 => h9) rfl hin rfl (by decide +kernel) rfl rfl (Nat.le_of_ble_eq_true rfl) dB_init_9 (fun H locs hP hD hS => ?_)
  have hP : va_P (dC, dI) kCl [(df, .inr (1, [.ref q1, .null, .int 0])), (q1, .inl (cA2, 24, .inl (fun _ => 0)))] H := hP
  have hD : va_D A [(df, .inr (1, [.ref q1, .null, .int 0])), (q1, .inl (cA2, 24, .inl (fun _ => 0)))] := hD
  refine lv_aload_n (pc := 12) hx hb dB_init_12 rfl (lv_at hl 0 rfl) ?_
  refine lv_bipush (pc := 13) (v := 24) hx hb dB_init_13 (by decide) ?_
  refine va_newa (atype := .int) (D := (dC, dI)) (cl := kCl) (pc := 15) (ty := .int) (n := 24) (N' := 24) (a0 := (24, .inl (fun _ => 0))) hx hb (hts _ wd_224) rfl hK hP hD hS hA (fun cA => rfl) (by decide) (by decide) (by decide) (Nat.le_of_ble_eq_true rfl) (Nat.le_of_ble_eq_true rfl) dB_init_15 (fun q3 cA4 H hK hP hD hS => ?_)
  have hP : va_P (dC, dI) kCl [(df, .inr (1, [.ref q1, .null, .int 0])), (q1, .inl (cA2, 24, .inl (fun _ => 0))), (q3, .inl (cA4, 24, .inl (fun _ => 0)))] H := hP
  have hD : va_D A [(df, .inr (1, [.ref q1, .null, .int 0])), (q1, .inl (cA2, 24, .inl (fun _ => 0))), (q3, .inl (cA4, 24, .inl (fun _ => 0)))] := hD
  have hK : va_K (dC, dI) kCl [(cA2, .int), (cA4, .int)] s := hK
  refine W.widen (k := 2) (n := 48) (Nat.le_of_ble_eq_true rfl) (Nat.le_of_ble_eq_true rfl) ?_
  refine va_putF (D := (dC, dI)) (cl := kCl) (ci := 1) (v := .ref q3) (ty := (.array .int)) (C := RB) (T := TB) (N := 3) (pc := 17) hx hb hts inB tyB tyB_ok nmB hown hK hP hD hS 0 rfl rfl 1 (by decide) (hts _ wd_226) (fun _ h9 => h9) rfl hin rfl (by decide +kernel) rfl rfl (Nat.le_of_ble_eq_true rfl) dB_init_17 (fun H locs hP hD hS => ?_)
  have hP : va_P (dC, dI) kCl [(df, .inr (1, [.ref q1, .ref q3, .int 0])), (q1, .inl (cA2, 24, .inl (fun _ => 0))), (q3, .inl (cA4, 24, .inl (fun _ => 0)))] H := hP
  have hD : va_D A [(df, .inr (1, [.ref q1, .ref q3, .int 0])), (q1, .inl (cA2, 24, .inl (fun _ => 0))), (q3, .inl (cA4, 24, .inl (fun _ => 0)))] := hD
  refine lv_aload_n (pc := 20) hx hb dB_init_20 rfl (lv_at hl 0 rfl) ?_
  refine va_get (D := (dC, dI)) (cl := kCl) (C := RB) (T := TB) (N := 3) (pc := 21) hx hb hts inB hown hK hP 0 rfl rfl 0 (by decide) (hts _ wd_225) (fun _ h9 => h9) rfl dB_init_21 ?_
  refine lv_iconst (pc := 24) (v := (-1)) hx hb dB_init_24 (by decide) ?_
  have hPc := hP.sub (ws' := [(q1, .inl (cA2, 24, .inl (fun _ => 0)))]) [1] rfl
  have hDc := hD.sub (ws' := [(q1, .inl (cA2, 24, .inl (fun _ => 0)))]) [1] (by decide) rfl
  have hKc := hK.sub (tys' := [(cA2, .int)]) [0] rfl
  have hFc := va_free (wc := [(q1, .inl (cA2, 24, .inl (fun _ => 0)))]) hD hS hA [1] rfl
  refine va_callv (pc := 25) (va_runS (As := [.ref q1, .int (-1)]) (rest := []) ⟨hx, hb, hml, hown, hts⟩ (a_fill l dC dI H.size q1 cA2 (fun _ => 0) (-1)) (va_cwS 2 hts (gSU wd_228 wd_229 wd_230 wd_227) rfl rfl rfl (by decide +kernel) ⟨Nat.le_of_ble_eq_true rfl, Nat.le_of_ble_eq_true rfl⟩) ⟨pW_blind, pW_pre hPc hKc hDc⟩ rfl rfl hl.1 rfl (lv_room (Nat.le_of_ble_eq_true rfl)) dB_init_25 ⟨Nat.le_of_ble_eq_true rfl, Nat.le_of_ble_eq_true rfl⟩) hS (fun q _ h => hFc q h) hFc (fun u7 t H1 locs ht hvm hr6 hB hz1 hk1 hS => ?_)
  obtain ⟨hP1, hK1, hD1⟩ := hB
  rw [ht] at hP1
  have hK1 := va_K.moved hvm.symm hK1
  obtain ⟨hP, hD⟩ := va_join (wr := [(df, .inr (1, [.ref q1, .ref q3, .int 0])), (q3, .inl (cA4, 24, .inl (fun _ => 0)))]) (w1 := [(q1, .inl (cA2, 24, .inl u7))]) hP hD [1] [0, 2] rfl rfl (by decide) (by decide) hk1 hFc hP1 hD1
  generalize H1 = H at hP hS ⊢
  have hP : va_P (dC, dI) kCl [(df, .inr (1, [.ref q1, .ref q3, .int 0])), (q3, .inl (cA4, 24, .inl (fun _ => 0))), (q1, .inl (cA2, 24, .inl u7))] H := hP
  have hD : va_D A [(df, .inr (1, [.ref q1, .ref q3, .int 0])), (q3, .inl (cA4, 24, .inl (fun _ => 0))), (q1, .inl (cA2, 24, .inl u7))] := hD
  refine W.widen (k := 2) (n := 48) (Nat.le_of_ble_eq_true rfl) (Nat.le_of_ble_eq_true rfl) ?_
  have hP9 := hP.sub (ws' := [(df, .inr (1, [.ref q1, .ref q3, .int 0])), (q1, .inl (cA2, 24, .inl u7)), (q3, .inl (cA4, 24, .inl (fun _ => 0)))]) [0, 2, 1] rfl
  have hD9 := hD.sub (ws' := [(df, .inr (1, [.ref q1, .ref q3, .int 0])), (q1, .inl (cA2, 24, .inl u7)), (q3, .inl (cA4, 24, .inl (fun _ => 0)))]) [0, 2, 1] (by decide) rfl
  have hK9 := hK.sub (tys' := [(cA2, .int), (cA4, .int)]) [0, 1] rfl
  exact W.vret (pc := 28) hx hb hr (fun t ht hW => ⟨⟨(), rfl, trivial, q1, q3, cA2, cA4, u7, by rw [ht]; exact hP9, va_K.moved hW.alike hK9, hD9⟩, hS.F ht⟩) hS.2.2 dB_init_28
set_option maxHeartbeats 4000000 in
set_option maxRecDepth 100000 in
theorem k_init (l : Launch) (dC : Nat → ClassId) (dI : Nat → Nat → Nat) (sz : Nat) (ch : Nat) : Met l yK_init (.code yK_init cK_init 1 none :: aw) ({ frames := 1, cells := 2, slots := 1984, locals := 12 }) (pW (dC, dI) sz [(ch, .inr (2, [.null, .null, .int 0]))] [] [.ref ch]) (va_Qv (fun (_ : Unit) => True) (fun _ t => ∃ (cp : Nat) (cn : Nat) (cP : ClassId) (cL : ClassId), wW (dC, dI) (va_A [(ch, .inr (2, [.null, .null, .int 0]))] sz) [(ch, .inr (2, [.ref cp, .ref cn, .int 0])), (cp, .inl (cP, 992, .inr (.inl (fun _ => 0)))), (cn, .inl (cL, 992, .inl (fun _ => 0)))] [(cP, .long), (cL, .byte)] t) (va_A [(ch, .inr (2, [.null, .null, .int 0]))] sz)) 2 1984 (va_A [(ch, .inr (2, [.null, .null, .int 0]))] sz) := by
  refine Met.ofW (cc := cK_init) (maxL := 1) (ret := none) (by decide) rfl ?_
  intro p e s m args below meth c s₁ B hml hv
  obtain ⟨rfl, hv⟩ := hv
  have hx := B.exec
  have hb := B.bytes
  have hr := B.returns
  have hts : ∀ w ∈ aw, w.before _ s = true := fun w h => atoms_spec (ws := (.code yK_init cK_init 1 none :: aw)) B.pre w (List.mem_cons_of_mem _ h)
  have hown : s.vm.findClass RK = some m.cls := findClass_of_methodNamed B.named
  have hlocks := B.notSynchronized
  have hin : meth.name = "<init>" := (name_of_methodNamed B.named B.method).1
  obtain ⟨hsz, hP, hK, hD0⟩ := hv
  subst hsz
  have hD := hD0.self (sz := s.heap.size)
  generalize hAe : va_A [(ch, .inr (2, [.null, .null, .int 0]))] s.heap.size = A at hD ⊢
  have hA : ∀ q : Nat, s.heap.size ≤ q → A q := fun q h => by rw [← hAe]; exact Or.inr h
  obtain ⟨H, hH⟩ : ∃ H, H = s.heap := ⟨_, rfl⟩
  have hS : va_S A s.heap H [] := by rw [hH]; exact va_S.rf
  rw [← hH] at hP ⊢
  have hP : va_P (dC, dI) kCl [(ch, .inr (2, [.null, .null, .int 0]))] H := hP
  have hl := lv_entry ([.ref ch]) (n := 1) (Nat.le_of_ble_eq_true rfl)
  rw [lg_entry_eq]
  generalize (lg_sl ([.ref ch]) ++ List.replicate (1 - (lg_sl ([.ref ch])).length) Slot.unset).toArray = ls at hl ⊢
  have hl : lv_has ls 1 [(0, .ref ch)] := hl
  refine lv_aload_n (pc := 0) hx hb dK_init_0 rfl (lv_at hl 0 rfl) ?_
  refine W.objInit hx hb hown (hts _ wd_231) (hts _ wd_222) (hts _ wd_223) rfl (by rw [hml]; exact hl.1) rfl dK_init_1 (Nat.le_of_ble_eq_true rfl) (Nat.le_of_ble_eq_true rfl) ?_
  refine W.eq (g2 := F0 m 4 ls []) rfl ?_
  refine lv_aload_n (pc := 4) hx hb dK_init_4 rfl (lv_at hl 0 rfl) ?_
  refine lv_sipush (pc := 5) (v := 992) hx hb dK_init_5 (by decide) ?_
  refine va_newa (atype := .long) (D := (dC, dI)) (cl := kCl) (pc := 8) (ty := .long) (n := 992) (N' := 992) (a0 := (992, .inr (.inl (fun _ => 0)))) hx hb (hts _ wd_232) rfl hK hP hD hS hA (fun cA => rfl) (by decide) (by decide) (by decide) (Nat.le_of_ble_eq_true rfl) (Nat.le_of_ble_eq_true rfl) dK_init_8 (fun q1 cA2 H hK hP hD hS => ?_)
  have hP : va_P (dC, dI) kCl [(ch, .inr (2, [.null, .null, .int 0])), (q1, .inl (cA2, 992, .inr (.inl (fun _ => 0))))] H := hP
  have hD : va_D A [(ch, .inr (2, [.null, .null, .int 0])), (q1, .inl (cA2, 992, .inr (.inl (fun _ => 0))))] := hD
  have hK : va_K (dC, dI) kCl [(cA2, .long)] s := hK
  refine W.widen (k := 1) (n := 992) (Nat.le_of_ble_eq_true rfl) (Nat.le_of_ble_eq_true rfl) ?_
  refine va_putF (D := (dC, dI)) (cl := kCl) (ci := 2) (v := .ref q1) (ty := (.array .long)) (C := RK) (T := TK) (N := 3) (pc := 10) hx hb hts inK tyK tyK_ok nmK hown hK hP hD hS 0 rfl rfl 0 (by decide) (hts _ wd_233) (fun _ h9 => h9) rfl hin rfl (by decide +kernel) rfl rfl (Nat.le_of_ble_eq_true rfl) dK_init_10 (fun H locs hP hD hS => ?_)
  have hP : va_P (dC, dI) kCl [(ch, .inr (2, [.ref q1, .null, .int 0])), (q1, .inl (cA2, 992, .inr (.inl (fun _ => 0))))] H := hP
  have hD : va_D A [(ch, .inr (2, [.ref q1, .null, .int 0])), (q1, .inl (cA2, 992, .inr (.inl (fun _ => 0))))] := hD
  refine lv_aload_n (pc := 13) hx hb dK_init_13 rfl (lv_at hl 0 rfl) ?_
  refine lv_sipush (pc := 14) (v := 992) hx hb dK_init_14 (by decide) ?_
  refine va_newa (atype := .byte) (D := (dC, dI)) (cl := kCl) (pc := 17) (ty := .byte) (n := 992) (N' := 992) (a0 := (992, .inl (fun _ => 0))) hx hb (hts _ wd_234) rfl hK hP hD hS hA (fun cA => rfl) (by decide) (by decide) (by decide) (Nat.le_of_ble_eq_true rfl) (Nat.le_of_ble_eq_true rfl) dK_init_17 (fun q3 cA4 H hK hP hD hS => ?_)
  have hP : va_P (dC, dI) kCl [(ch, .inr (2, [.ref q1, .null, .int 0])), (q1, .inl (cA2, 992, .inr (.inl (fun _ => 0)))), (q3, .inl (cA4, 992, .inl (fun _ => 0)))] H := hP
  have hD : va_D A [(ch, .inr (2, [.ref q1, .null, .int 0])), (q1, .inl (cA2, 992, .inr (.inl (fun _ => 0)))), (q3, .inl (cA4, 992, .inl (fun _ => 0)))] := hD
  have hK : va_K (dC, dI) kCl [(cA2, .long), (cA4, .byte)] s := hK
  refine W.widen (k := 2) (n := 1984) (Nat.le_of_ble_eq_true rfl) (Nat.le_of_ble_eq_true rfl) ?_
  refine va_putF (D := (dC, dI)) (cl := kCl) (ci := 2) (v := .ref q3) (ty := (.array .byte)) (C := RK) (T := TK) (N := 3) (pc := 19) hx hb hts inK tyK tyK_ok nmK hown hK hP hD hS 0 rfl rfl 1 (by decide) (hts _ wd_235) (fun _ h9 => h9) rfl hin rfl (by decide +kernel) rfl rfl (Nat.le_of_ble_eq_true rfl) dK_init_19 (fun H locs hP hD hS => ?_)
  have hP : va_P (dC, dI) kCl [(ch, .inr (2, [.ref q1, .ref q3, .int 0])), (q1, .inl (cA2, 992, .inr (.inl (fun _ => 0)))), (q3, .inl (cA4, 992, .inl (fun _ => 0)))] H := hP
  have hD : va_D A [(ch, .inr (2, [.ref q1, .ref q3, .int 0])), (q1, .inl (cA2, 992, .inr (.inl (fun _ => 0)))), (q3, .inl (cA4, 992, .inl (fun _ => 0)))] := hD
  have hP9 := hP.sub (ws' := [(ch, .inr (2, [.ref q1, .ref q3, .int 0])), (q1, .inl (cA2, 992, .inr (.inl (fun _ => 0)))), (q3, .inl (cA4, 992, .inl (fun _ => 0)))]) [0, 1, 2] rfl
  have hD9 := hD.sub (ws' := [(ch, .inr (2, [.ref q1, .ref q3, .int 0])), (q1, .inl (cA2, 992, .inr (.inl (fun _ => 0)))), (q3, .inl (cA4, 992, .inl (fun _ => 0)))]) [0, 1, 2] (by decide) rfl
  have hK9 := hK.sub (tys' := [(cA2, .long), (cA4, .byte)]) [0, 1] rfl
  exact W.vret (pc := 22) hx hb hr (fun t ht hW => ⟨⟨(), rfl, trivial, q1, q3, cA2, cA4, by rw [ht]; exact hP9, va_K.moved hW.alike hK9, hD9⟩, hS.F ht⟩) hS.2.2 dK_init_22
set_option maxHeartbeats 4000000 in
set_option maxRecDepth 100000 in
theorem p_init (l : Launch) (dC : Nat → ClassId) (dI : Nat → Nat → Nat) (sz : Nat) (pg : Nat) : Met l yP_init (.code yP_init cP_init 1 none :: aw) ({ frames := 1, cells := 0, slots := 0, locals := 12 }) (pW (dC, dI) sz [(pg, .inr (3, [.int 0, .int 0, .int 0, .int 0, .int 0, .int 0]))] [] [.ref pg]) (va_Qv (fun (_ : Unit) => True) (fun _ t => wW (dC, dI) (va_A [(pg, .inr (3, [.int 0, .int 0, .int 0, .int 0, .int 0, .int 0]))] sz) [(pg, .inr (3, [.int 400, .int 0, .int 0, .int 0, .int 0, .int 0]))] [] t) (va_A [(pg, .inr (3, [.int 0, .int 0, .int 0, .int 0, .int 0, .int 0]))] sz)) 0 0 (va_A [(pg, .inr (3, [.int 0, .int 0, .int 0, .int 0, .int 0, .int 0]))] sz) := by
  refine Met.ofW (cc := cP_init) (maxL := 1) (ret := none) (by decide) rfl ?_
  intro p e s m args below meth c s₁ B hml hv
  obtain ⟨rfl, hv⟩ := hv
  have hx := B.exec
  have hb := B.bytes
  have hr := B.returns
  have hts : ∀ w ∈ aw, w.before _ s = true := fun w h => atoms_spec (ws := (.code yP_init cP_init 1 none :: aw)) B.pre w (List.mem_cons_of_mem _ h)
  have hown : s.vm.findClass RP = some m.cls := findClass_of_methodNamed B.named
  have hlocks := B.notSynchronized
  have hin : meth.name = "<init>" := (name_of_methodNamed B.named B.method).1
  obtain ⟨hsz, hP, hK, hD0⟩ := hv
  subst hsz
  have hD := hD0.self (sz := s.heap.size)
  generalize hAe : va_A [(pg, .inr (3, [.int 0, .int 0, .int 0, .int 0, .int 0, .int 0]))] s.heap.size = A at hD ⊢
  have hA : ∀ q : Nat, s.heap.size ≤ q → A q := fun q h => by rw [← hAe]; exact Or.inr h
  obtain ⟨H, hH⟩ : ∃ H, H = s.heap := ⟨_, rfl⟩
  have hS : va_S A s.heap H [] := by rw [hH]; exact va_S.rf
  rw [← hH] at hP ⊢
  have hP : va_P (dC, dI) kCl [(pg, .inr (3, [.int 0, .int 0, .int 0, .int 0, .int 0, .int 0]))] H := hP
  have hl := lv_entry ([.ref pg]) (n := 1) (Nat.le_of_ble_eq_true rfl)
  rw [lg_entry_eq]
  generalize (lg_sl ([.ref pg]) ++ List.replicate (1 - (lg_sl ([.ref pg])).length) Slot.unset).toArray = ls at hl ⊢
  have hl : lv_has ls 1 [(0, .ref pg)] := hl
  refine lv_aload_n (pc := 0) hx hb dP_init_0 rfl (lv_at hl 0 rfl) ?_
  refine W.objInit hx hb hown (hts _ wd_236) (hts _ wd_222) (hts _ wd_223) rfl (by rw [hml]; exact hl.1) rfl dP_init_1 (Nat.le_of_ble_eq_true rfl) (Nat.le_of_ble_eq_true rfl) ?_
  refine W.eq (g2 := F0 m 4 ls []) rfl ?_
  refine lv_aload_n (pc := 4) hx hb dP_init_4 rfl (lv_at hl 0 rfl) ?_
  refine lv_sipush (pc := 5) (v := 400) hx hb dP_init_5 (by decide) ?_
  refine va_put (D := (dC, dI)) (cl := kCl) (ci := 3) (v := .int 400) (ty := .int) (C := RP) (T := TP) (N := 6) (pc := 8) hx hb hts inP tyP tyP_ok nmP hown hK hP hD hS 0 rfl rfl 0 (by decide) (hts _ wd_101) (fun _ h9 => h9) rfl (by decide +kernel) rfl rfl (Nat.le_of_ble_eq_true rfl) dP_init_8 (fun H locs hP hD hS => ?_)
  have hP : va_P (dC, dI) kCl [(pg, .inr (3, [.int 400, .int 0, .int 0, .int 0, .int 0, .int 0]))] H := hP
  have hD : va_D A [(pg, .inr (3, [.int 400, .int 0, .int 0, .int 0, .int 0, .int 0]))] := hD
  have hP9 := hP.sub (ws' := [(pg, .inr (3, [.int 400, .int 0, .int 0, .int 0, .int 0, .int 0]))]) [0] rfl
  have hD9 := hD.sub (ws' := [(pg, .inr (3, [.int 400, .int 0, .int 0, .int 0, .int 0, .int 0]))]) [0] (by decide) rfl
  have hK9 := hK.sub (tys' := []) [] rfl
  exact W.vret (pc := 11) hx hb hr (fun t ht hW => ⟨⟨(), rfl, trivial, by rw [ht]; exact hP9, va_K.moved hW.alike hK9, hD9⟩, hS.F ht⟩) hS.2.2 dP_init_11
set_option maxHeartbeats 4000000 in
set_option maxRecDepth 100000 in
theorem v_init (l : Launch) (dC : Nat → ClassId) (dI : Nat → Nat → Nat) (sz : Nat) (x : Nat) : Met l yV_init (.code yV_init cV_init 1 none :: aw) ({ frames := 2, cells := 10, slots := 2094, locals := 43 }) (pWx (dC, dI) sz [(x, .inr (0, [.null, .null, .int 0, .int 0, .null, .null, .null, .null, .int 0]))] [] [.ref x] eV) (va_Qv (fun (_ : Unit) => True) (fun _ t => ∃ (rt : Nat) (dr : Nat) (bs : Nat) (df : Nat) (ch : Nat) (pg : Nat) (dv : Nat) (do9 : Nat) (cp : Nat) (cn : Nat) (cR : ClassId) (cB : ClassId) (cF : ClassId) (fv : Nat → Int32), wW (dC, dI) (va_A [(x, .inr (0, [.null, .null, .int 0, .int 0, .null, .null, .null, .null, .int 0]))] sz) [(x, .inr (0, [.ref rt, .ref dr, .int 0, .int 0, .ref bs, .ref df, .ref ch, .ref pg, .int 0])), (rt, .inl (cR, 16, .inl (fun _ => 0))), (pg, .inr (3, [.int 400, .int 0, .int 0, .int 0, .int 0, .int 0])), (bs, .inl (cB, 10, .inr (.inr (.inr (.inr (fun _ => none)))))), (df, .inr (1, [.ref dv, .ref do9, .int 0])), (dv, .inl (cF, 24, .inl fv)), (ch, .inr (2, [.ref cp, .ref cn, .int 0]))] [(cR, .int), (cB, .object "DrawingVault$Baseline"), (cF, .int)] t) (va_A [(x, .inr (0, [.null, .null, .int 0, .int 0, .null, .null, .null, .null, .int 0]))] sz)) 10 2094 (va_A [(x, .inr (0, [.null, .null, .int 0, .int 0, .null, .null, .null, .null, .int 0]))] sz) := by
  refine Met.ofW (cc := cV_init) (maxL := 1) (ret := none) (by decide) rfl ?_
  intro p e s m args below meth c s₁ B hml hv
  obtain ⟨rfl, hv⟩ := hv
  have hx := B.exec
  have hb := B.bytes
  have hr := B.returns
  have hts : ∀ w ∈ aw, w.before _ s = true := fun w h => atoms_spec (ws := (.code yV_init cV_init 1 none :: aw)) B.pre w (List.mem_cons_of_mem _ h)
  have hown : s.vm.findClass RV = some m.cls := findClass_of_methodNamed B.named
  have hlocks := B.notSynchronized
  have hin : meth.name = "<init>" := (name_of_methodNamed B.named B.method).1
  obtain ⟨hsz, hP, hK, hD0, ⟨hn32, hn39, hoD, hoB⟩⟩ := hv
  subst hsz
  have hD := hD0.self (sz := s.heap.size)
  generalize hAe : va_A [(x, .inr (0, [.null, .null, .int 0, .int 0, .null, .null, .null, .null, .int 0]))] s.heap.size = A at hD ⊢
  have hA : ∀ q : Nat, s.heap.size ≤ q → A q := fun q h => by rw [← hAe]; exact Or.inr h
  obtain ⟨H, hH⟩ : ∃ H, H = s.heap := ⟨_, rfl⟩
  have hS : va_S A s.heap H [] := by rw [hH]; exact va_S.rf
  rw [← hH] at hP ⊢
  have hP : va_P (dC, dI) kCl [(x, .inr (0, [.null, .null, .int 0, .int 0, .null, .null, .null, .null, .int 0]))] H := hP
  have hl := lv_entry ([.ref x]) (n := 1) (Nat.le_of_ble_eq_true rfl)
  rw [lg_entry_eq]
  generalize (lg_sl ([.ref x]) ++ List.replicate (1 - (lg_sl ([.ref x])).length) Slot.unset).toArray = ls at hl ⊢
  have hl : lv_has ls 1 [(0, .ref x)] := hl
  refine lv_aload_n (pc := 0) hx hb dV_init_0 rfl (lv_at hl 0 rfl) ?_
  refine W.objInit hx hb hown (hts _ wd_237) (hts _ wd_222) (hts _ wd_223) rfl (by rw [hml]; exact hl.1) rfl dV_init_1 (Nat.le_of_ble_eq_true rfl) (Nat.le_of_ble_eq_true rfl) ?_
  refine W.eq (g2 := F0 m 4 ls []) rfl ?_
  refine lv_aload_n (pc := 4) hx hb dV_init_4 rfl (lv_at hl 0 rfl) ?_
  refine lv_bipush (pc := 5) (v := 16) hx hb dV_init_5 (by decide) ?_
  refine va_newa (atype := .int) (D := (dC, dI)) (cl := kCl) (pc := 7) (ty := .int) (n := 16) (N' := 16) (a0 := (16, .inl (fun _ => 0))) hx hb (hts _ wd_224) rfl hK hP hD hS hA (fun cA => rfl) (by decide) (by decide) (by decide) (Nat.le_of_ble_eq_true rfl) (Nat.le_of_ble_eq_true rfl) dV_init_7 (fun q1 cA2 H hK hP hD hS => ?_)
  have hP : va_P (dC, dI) kCl [(x, .inr (0, [.null, .null, .int 0, .int 0, .null, .null, .null, .null, .int 0])), (q1, .inl (cA2, 16, .inl (fun _ => 0)))] H := hP
  have hD : va_D A [(x, .inr (0, [.null, .null, .int 0, .int 0, .null, .null, .null, .null, .int 0])), (q1, .inl (cA2, 16, .inl (fun _ => 0)))] := hD
  have hK : va_K (dC, dI) kCl [(cA2, .int)] s := hK
  refine W.widen (k := 1) (n := 16) (Nat.le_of_ble_eq_true rfl) (Nat.le_of_ble_eq_true rfl) ?_
  refine va_putF (D := (dC, dI)) (cl := kCl) (ci := 0) (v := .ref q1) (ty := (.array .int)) (C := RV) (T := TV) (N := 9) (pc := 9) hx hb hts inV tyV tyV_ok nmV hown hK hP hD hS 0 rfl rfl 0 (by decide) (hts _ wd_36) (fun _ h9 => h9) rfl hin rfl (by decide +kernel) rfl rfl (Nat.le_of_ble_eq_true rfl) dV_init_9 (fun H locs hP hD hS => ?_)
  have hP : va_P (dC, dI) kCl [(x, .inr (0, [.ref q1, .null, .int 0, .int 0, .null, .null, .null, .null, .int 0])), (q1, .inl (cA2, 16, .inl (fun _ => 0)))] H := hP
  have hD : va_D A [(x, .inr (0, [.ref q1, .null, .int 0, .int 0, .null, .null, .null, .null, .int 0])), (q1, .inl (cA2, 16, .inl (fun _ => 0)))] := hD
  refine lv_aload_n (pc := 12) hx hb dV_init_12 rfl (lv_at hl 0 rfl) ?_
  refine lv_bipush (pc := 13) (v := 24) hx hb dV_init_13 (by decide) ?_
  refine va_newq (D := (dC, dI)) (cl := kCl) (pc := 15) (n := 24) (N' := 24) (C := "DrawingVault$Drawing") hx hb hown (hts _ wd_238) hoD hK hP hD hS hA (by decide) (by decide) (by decide) (Nat.le_of_ble_eq_true rfl) (Nat.le_of_ble_eq_true rfl) dV_init_15 (fun q3 cA4 H hK hP hD hS => ?_)
  have hP : va_P (dC, dI) kCl [(x, .inr (0, [.ref q1, .null, .int 0, .int 0, .null, .null, .null, .null, .int 0])), (q1, .inl (cA2, 16, .inl (fun _ => 0))), (q3, .inl (cA4, 24, .inr (.inr (.inr (.inr (fun _ => none))))))] H := hP
  have hD : va_D A [(x, .inr (0, [.ref q1, .null, .int 0, .int 0, .null, .null, .null, .null, .int 0])), (q1, .inl (cA2, 16, .inl (fun _ => 0))), (q3, .inl (cA4, 24, .inr (.inr (.inr (.inr (fun _ => none))))))] := hD
  have hK : va_K (dC, dI) kCl [(cA2, .int), (cA4, .object "DrawingVault$Drawing")] s := hK
  refine W.widen (k := 2) (n := 40) (Nat.le_of_ble_eq_true rfl) (Nat.le_of_ble_eq_true rfl) ?_
  refine va_putF (D := (dC, dI)) (cl := kCl) (ci := 0) (v := .ref q3) (ty := (.array (.object "DrawingVault$Drawing"))) (C := RV) (T := TV) (N := 9) (pc := 18) hx hb hts inV tyV tyV_ok nmV hown hK hP hD hS 0 rfl rfl 1 (by decide) (hts _ wd_239) (fun _ h9 => h9) rfl hin rfl (by decide +kernel) rfl rfl (Nat.le_of_ble_eq_true rfl) dV_init_18 (fun H locs hP hD hS => ?_)
  have hP : va_P (dC, dI) kCl [(x, .inr (0, [.ref q1, .ref q3, .int 0, .int 0, .null, .null, .null, .null, .int 0])), (q1, .inl (cA2, 16, .inl (fun _ => 0))), (q3, .inl (cA4, 24, .inr (.inr (.inr (.inr (fun _ => none))))))] H := hP
  have hD : va_D A [(x, .inr (0, [.ref q1, .ref q3, .int 0, .int 0, .null, .null, .null, .null, .int 0])), (q1, .inl (cA2, 16, .inl (fun _ => 0))), (q3, .inl (cA4, 24, .inr (.inr (.inr (.inr (fun _ => none))))))] := hD
  refine lv_aload_n (pc := 21) hx hb dV_init_21 rfl (lv_at hl 0 rfl) ?_
  refine lv_bipush (pc := 22) (v := 10) hx hb dV_init_22 (by decide) ?_
  refine va_newq (D := (dC, dI)) (cl := kCl) (pc := 24) (n := 10) (N' := 10) (C := "DrawingVault$Baseline") hx hb hown (hts _ wd_240) hoB hK hP hD hS hA (by decide) (by decide) (by decide) (Nat.le_of_ble_eq_true rfl) (Nat.le_of_ble_eq_true rfl) dV_init_24 (fun q5 cA6 H hK hP hD hS => ?_)
  have hP : va_P (dC, dI) kCl [(x, .inr (0, [.ref q1, .ref q3, .int 0, .int 0, .null, .null, .null, .null, .int 0])), (q1, .inl (cA2, 16, .inl (fun _ => 0))), (q3, .inl (cA4, 24, .inr (.inr (.inr (.inr (fun _ => none)))))), (q5, .inl (cA6, 10, .inr (.inr (.inr (.inr (fun _ => none))))))] H := hP
  have hD : va_D A [(x, .inr (0, [.ref q1, .ref q3, .int 0, .int 0, .null, .null, .null, .null, .int 0])), (q1, .inl (cA2, 16, .inl (fun _ => 0))), (q3, .inl (cA4, 24, .inr (.inr (.inr (.inr (fun _ => none)))))), (q5, .inl (cA6, 10, .inr (.inr (.inr (.inr (fun _ => none))))))] := hD
  have hK : va_K (dC, dI) kCl [(cA2, .int), (cA4, .object "DrawingVault$Drawing"), (cA6, .object "DrawingVault$Baseline")] s := hK
  refine W.widen (k := 3) (n := 50) (Nat.le_of_ble_eq_true rfl) (Nat.le_of_ble_eq_true rfl) ?_
  refine va_putF (D := (dC, dI)) (cl := kCl) (ci := 0) (v := .ref q5) (ty := (.array (.object "DrawingVault$Baseline"))) (C := RV) (T := TV) (N := 9) (pc := 27) hx hb hts inV tyV tyV_ok nmV hown hK hP hD hS 0 rfl rfl 4 (by decide) (hts _ wd_44) (fun _ h9 => h9) rfl hin rfl (by decide +kernel) rfl rfl (Nat.le_of_ble_eq_true rfl) dV_init_27 (fun H locs hP hD hS => ?_)
  have hP : va_P (dC, dI) kCl [(x, .inr (0, [.ref q1, .ref q3, .int 0, .int 0, .ref q5, .null, .null, .null, .int 0])), (q1, .inl (cA2, 16, .inl (fun _ => 0))), (q3, .inl (cA4, 24, .inr (.inr (.inr (.inr (fun _ => none)))))), (q5, .inl (cA6, 10, .inr (.inr (.inr (.inr (fun _ => none))))))] H := hP
  have hD : va_D A [(x, .inr (0, [.ref q1, .ref q3, .int 0, .int 0, .ref q5, .null, .null, .null, .int 0])), (q1, .inl (cA2, 16, .inl (fun _ => 0))), (q3, .inl (cA4, 24, .inr (.inr (.inr (.inr (fun _ => none)))))), (q5, .inl (cA6, 10, .inr (.inr (.inr (.inr (fun _ => none))))))] := hD
  refine lv_aload_n (pc := 30) hx hb dV_init_30 rfl (lv_at hl 0 rfl) ?_
  refine va_new (D := (dC, dI)) (cl := kCl) (pc := 31) (ci := 1) (fs := [.null, .null, .int 0]) (C := RB) (T := TB) (N := 3) hx hb hts inB tyB tyB_ok hown (hts _ wd_240) (hts _ wd_241) (hts _ wd_242) hK hP hD hS hA rfl (fun j hj => by rcases (show j = 0 ∨ j = 1 ∨ j = 2 by omega) with rfl | rfl | rfl <;> rfl) (Nat.le_of_ble_eq_true rfl) (Nat.le_of_ble_eq_true rfl) dV_init_31 (fun q7 H hP hD hS => ?_)
  have hP : va_P (dC, dI) kCl [(x, .inr (0, [.ref q1, .ref q3, .int 0, .int 0, .ref q5, .null, .null, .null, .int 0])), (q1, .inl (cA2, 16, .inl (fun _ => 0))), (q3, .inl (cA4, 24, .inr (.inr (.inr (.inr (fun _ => none)))))), (q5, .inl (cA6, 10, .inr (.inr (.inr (.inr (fun _ => none)))))), (q7, .inr (1, [.null, .null, .int 0]))] H := hP
  have hD : va_D A [(x, .inr (0, [.ref q1, .ref q3, .int 0, .int 0, .ref q5, .null, .null, .null, .int 0])), (q1, .inl (cA2, 16, .inl (fun _ => 0))), (q3, .inl (cA4, 24, .inr (.inr (.inr (.inr (fun _ => none)))))), (q5, .inl (cA6, 10, .inr (.inr (.inr (.inr (fun _ => none)))))), (q7, .inr (1, [.null, .null, .int 0]))] := hD
  have hK : va_K (dC, dI) kCl [(cA2, .int), (cA4, .object "DrawingVault$Drawing"), (cA6, .object "DrawingVault$Baseline")] s := hK
  refine W.widen (k := 4) (n := 53) (Nat.le_of_ble_eq_true rfl) (Nat.le_of_ble_eq_true rfl) ?_
  refine lv_dup (pc := 34) hx hb dV_init_34 rfl ?_
  have hPc := hP.sub (ws' := [(q7, .inr (1, [.null, .null, .int 0]))]) [4] rfl
  have hDc := hD.sub (ws' := [(q7, .inr (1, [.null, .null, .int 0]))]) [4] (by decide) rfl
  have hKc := hK.sub (tys' := []) [] rfl
  have hFc := va_free (wc := [(q7, .inr (1, [.null, .null, .int 0]))]) hD hS hA [4] rfl
  refine va_callv (pc := 35) (va_runI (As := []) (rest := [.ref q7, .ref x]) ⟨hx, hb, hml, hown, hts⟩ (b_init l dC dI H.size q7) (cwI 0 hts (gI wd_243) rfl rfl rfl (hts _ wd_242) (hts _ wd_244) (hts _ wd_245) rfl (by decide +kernel) ⟨Nat.le_of_ble_eq_true rfl, Nat.le_of_ble_eq_true rfl⟩) ⟨pW_blind, pW_pre hPc hKc hDc⟩ rfl rfl hl.1 rfl (lv_room (Nat.le_of_ble_eq_true rfl)) dV_init_35 ⟨Nat.le_of_ble_eq_true rfl, Nat.le_of_ble_eq_true rfl⟩) hS (fun q _ h => hFc q h) hFc (fun u t H1 locs ht hvm hr9 hB hz1 hk1 hS => ?_)
  obtain ⟨dv10, do911, cF12, cO13, fv14, hP1, hK1, hD1⟩ := hB
  rw [ht] at hP1
  have hK1 := va_K.moved hvm.symm hK1
  obtain ⟨hP, hD⟩ := va_join (wr := [(x, .inr (0, [.ref q1, .ref q3, .int 0, .int 0, .ref q5, .null, .null, .null, .int 0])), (q1, .inl (cA2, 16, .inl (fun _ => 0))), (q3, .inl (cA4, 24, .inr (.inr (.inr (.inr (fun _ => none)))))), (q5, .inl (cA6, 10, .inr (.inr (.inr (.inr (fun _ => none))))))]) (w1 := [(q7, .inr (1, [.ref dv10, .ref do911, .int 0])), (dv10, .inl (cF12, 24, .inl fv14)), (do911, .inl (cO13, 24, .inl (fun _ => 0)))]) hP hD [4] [0, 1, 2, 3] rfl rfl (by decide) (by decide) hk1 hFc hP1 hD1
  generalize H1 = H at hP hS ⊢
  have hK := hK.app hK1
  have hK : va_K (dC, dI) kCl [(cA2, .int), (cA4, .object "DrawingVault$Drawing"), (cA6, .object "DrawingVault$Baseline"), (cF12, .int), (cO13, .int)] s := hK
  have hP : va_P (dC, dI) kCl [(x, .inr (0, [.ref q1, .ref q3, .int 0, .int 0, .ref q5, .null, .null, .null, .int 0])), (q1, .inl (cA2, 16, .inl (fun _ => 0))), (q3, .inl (cA4, 24, .inr (.inr (.inr (.inr (fun _ => none)))))), (q5, .inl (cA6, 10, .inr (.inr (.inr (.inr (fun _ => none)))))), (q7, .inr (1, [.ref dv10, .ref do911, .int 0])), (dv10, .inl (cF12, 24, .inl fv14)), (do911, .inl (cO13, 24, .inl (fun _ => 0)))] H := hP
  have hD : va_D A [(x, .inr (0, [.ref q1, .ref q3, .int 0, .int 0, .ref q5, .null, .null, .null, .int 0])), (q1, .inl (cA2, 16, .inl (fun _ => 0))), (q3, .inl (cA4, 24, .inr (.inr (.inr (.inr (fun _ => none)))))), (q5, .inl (cA6, 10, .inr (.inr (.inr (.inr (fun _ => none)))))), (q7, .inr (1, [.ref dv10, .ref do911, .int 0])), (dv10, .inl (cF12, 24, .inl fv14)), (do911, .inl (cO13, 24, .inl (fun _ => 0)))] := hD
  refine W.widen (k := 6) (n := 101) (Nat.le_of_ble_eq_true rfl) (Nat.le_of_ble_eq_true rfl) ?_
  refine va_put (D := (dC, dI)) (cl := kCl) (ci := 0) (v := .ref q7) (ty := (.object "DrawingVault$Baseline")) (C := RV) (T := TV) (N := 9) (pc := 38) hx hb hts inV tyV tyV_ok nmV hown hK hP hD hS 0 rfl rfl 5 (by decide) (hts _ wd_246) (fun _ h9 => h9) rfl (by decide +kernel) rfl rfl (Nat.le_of_ble_eq_true rfl) dV_init_38 (fun H locs hP hD hS => ?_)
  have hP : va_P (dC, dI) kCl [(x, .inr (0, [.ref q1, .ref q3, .int 0, .int 0, .ref q5, .ref q7, .null, .null, .int 0])), (q1, .inl (cA2, 16, .inl (fun _ => 0))), (q3, .inl (cA4, 24, .inr (.inr (.inr (.inr (fun _ => none)))))), (q5, .inl (cA6, 10, .inr (.inr (.inr (.inr (fun _ => none)))))), (q7, .inr (1, [.ref dv10, .ref do911, .int 0])), (dv10, .inl (cF12, 24, .inl fv14)), (do911, .inl (cO13, 24, .inl (fun _ => 0)))] H := hP
  have hD : va_D A [(x, .inr (0, [.ref q1, .ref q3, .int 0, .int 0, .ref q5, .ref q7, .null, .null, .int 0])), (q1, .inl (cA2, 16, .inl (fun _ => 0))), (q3, .inl (cA4, 24, .inr (.inr (.inr (.inr (fun _ => none)))))), (q5, .inl (cA6, 10, .inr (.inr (.inr (.inr (fun _ => none)))))), (q7, .inr (1, [.ref dv10, .ref do911, .int 0])), (dv10, .inl (cF12, 24, .inl fv14)), (do911, .inl (cO13, 24, .inl (fun _ => 0)))] := hD
  refine lv_aload_n (pc := 41) hx hb dV_init_41 rfl (lv_at hl 0 rfl) ?_
  refine va_new (D := (dC, dI)) (cl := kCl) (pc := 42) (ci := 2) (fs := [.null, .null, .int 0]) (C := RK) (T := TK) (N := 3) hx hb hts inK tyK tyK_ok hown (hts _ wd_247) (hts _ wd_248) (hts _ wd_135) hK hP hD hS hA rfl (fun j hj => by rcases (show j = 0 ∨ j = 1 ∨ j = 2 by omega) with rfl | rfl | rfl <;> rfl) (Nat.le_of_ble_eq_true rfl) (Nat.le_of_ble_eq_true rfl) dV_init_42 (fun q16 H hP hD hS => ?_)
  have hP : va_P (dC, dI) kCl [(x, .inr (0, [.ref q1, .ref q3, .int 0, .int 0, .ref q5, .ref q7, .null, .null, .int 0])), (q1, .inl (cA2, 16, .inl (fun _ => 0))), (q3, .inl (cA4, 24, .inr (.inr (.inr (.inr (fun _ => none)))))), (q5, .inl (cA6, 10, .inr (.inr (.inr (.inr (fun _ => none)))))), (q7, .inr (1, [.ref dv10, .ref do911, .int 0])), (dv10, .inl (cF12, 24, .inl fv14)), (do911, .inl (cO13, 24, .inl (fun _ => 0))), (q16, .inr (2, [.null, .null, .int 0]))] H := hP
  have hD : va_D A [(x, .inr (0, [.ref q1, .ref q3, .int 0, .int 0, .ref q5, .ref q7, .null, .null, .int 0])), (q1, .inl (cA2, 16, .inl (fun _ => 0))), (q3, .inl (cA4, 24, .inr (.inr (.inr (.inr (fun _ => none)))))), (q5, .inl (cA6, 10, .inr (.inr (.inr (.inr (fun _ => none)))))), (q7, .inr (1, [.ref dv10, .ref do911, .int 0])), (dv10, .inl (cF12, 24, .inl fv14)), (do911, .inl (cO13, 24, .inl (fun _ => 0))), (q16, .inr (2, [.null, .null, .int 0]))] := hD
  have hK : va_K (dC, dI) kCl [(cA2, .int), (cA4, .object "DrawingVault$Drawing"), (cA6, .object "DrawingVault$Baseline"), (cF12, .int), (cO13, .int)] s := hK
  refine W.widen (k := 7) (n := 104) (Nat.le_of_ble_eq_true rfl) (Nat.le_of_ble_eq_true rfl) ?_
  refine lv_dup (pc := 45) hx hb dV_init_45 rfl ?_
  have hPc := hP.sub (ws' := [(q16, .inr (2, [.null, .null, .int 0]))]) [7] rfl
  have hDc := hD.sub (ws' := [(q16, .inr (2, [.null, .null, .int 0]))]) [7] (by decide) rfl
  have hKc := hK.sub (tys' := []) [] rfl
  have hFc := va_free (wc := [(q16, .inr (2, [.null, .null, .int 0]))]) hD hS hA [7] rfl
  refine va_callv (pc := 46) (va_runIN (As := []) (rest := [.ref q16, .ref x]) ⟨hx, hb, hml, hown, hts⟩ (k_init l dC dI H.size q16) (⟨va_cnB 0 hts (gI wd_249) rfl rfl rfl hn32 (hts _ wd_135) (by decide +kernel) ⟨Nat.le_of_ble_eq_true rfl, Nat.le_of_ble_eq_true rfl⟩, rfl, hts _ wd_250⟩) ⟨pW_blind, pW_pre hPc hKc hDc⟩ rfl rfl hl.1 rfl (lv_room (Nat.le_of_ble_eq_true rfl)) dV_init_46 ⟨Nat.le_of_ble_eq_true rfl, Nat.le_of_ble_eq_true rfl⟩) hS (fun q _ h => hFc q h) hFc (fun u t H1 locs ht hvm hr18 hB hz1 hk1 hS => ?_)
  obtain ⟨cp19, cn20, cP21, cL22, hP1, hK1, hD1⟩ := hB
  rw [ht] at hP1
  have hK1 := va_K.moved hvm.symm hK1
  obtain ⟨hP, hD⟩ := va_join (wr := [(x, .inr (0, [.ref q1, .ref q3, .int 0, .int 0, .ref q5, .ref q7, .null, .null, .int 0])), (q1, .inl (cA2, 16, .inl (fun _ => 0))), (q3, .inl (cA4, 24, .inr (.inr (.inr (.inr (fun _ => none)))))), (q5, .inl (cA6, 10, .inr (.inr (.inr (.inr (fun _ => none)))))), (q7, .inr (1, [.ref dv10, .ref do911, .int 0])), (dv10, .inl (cF12, 24, .inl fv14)), (do911, .inl (cO13, 24, .inl (fun _ => 0)))]) (w1 := [(q16, .inr (2, [.ref cp19, .ref cn20, .int 0])), (cp19, .inl (cP21, 992, .inr (.inl (fun _ => 0)))), (cn20, .inl (cL22, 992, .inl (fun _ => 0)))]) hP hD [7] [0, 1, 2, 3, 4, 5, 6] rfl rfl (by decide) (by decide) hk1 hFc hP1 hD1
  generalize H1 = H at hP hS ⊢
  have hK := hK.app hK1
  have hK : va_K (dC, dI) kCl [(cA2, .int), (cA4, .object "DrawingVault$Drawing"), (cA6, .object "DrawingVault$Baseline"), (cF12, .int), (cO13, .int), (cP21, .long), (cL22, .byte)] s := hK
  have hP : va_P (dC, dI) kCl [(x, .inr (0, [.ref q1, .ref q3, .int 0, .int 0, .ref q5, .ref q7, .null, .null, .int 0])), (q1, .inl (cA2, 16, .inl (fun _ => 0))), (q3, .inl (cA4, 24, .inr (.inr (.inr (.inr (fun _ => none)))))), (q5, .inl (cA6, 10, .inr (.inr (.inr (.inr (fun _ => none)))))), (q7, .inr (1, [.ref dv10, .ref do911, .int 0])), (dv10, .inl (cF12, 24, .inl fv14)), (do911, .inl (cO13, 24, .inl (fun _ => 0))), (q16, .inr (2, [.ref cp19, .ref cn20, .int 0])), (cp19, .inl (cP21, 992, .inr (.inl (fun _ => 0)))), (cn20, .inl (cL22, 992, .inl (fun _ => 0)))] H := hP
  have hD : va_D A [(x, .inr (0, [.ref q1, .ref q3, .int 0, .int 0, .ref q5, .ref q7, .null, .null, .int 0])), (q1, .inl (cA2, 16, .inl (fun _ => 0))), (q3, .inl (cA4, 24, .inr (.inr (.inr (.inr (fun _ => none)))))), (q5, .inl (cA6, 10, .inr (.inr (.inr (.inr (fun _ => none)))))), (q7, .inr (1, [.ref dv10, .ref do911, .int 0])), (dv10, .inl (cF12, 24, .inl fv14)), (do911, .inl (cO13, 24, .inl (fun _ => 0))), (q16, .inr (2, [.ref cp19, .ref cn20, .int 0])), (cp19, .inl (cP21, 992, .inr (.inl (fun _ => 0)))), (cn20, .inl (cL22, 992, .inl (fun _ => 0)))] := hD
  refine W.widen (k := 9) (n := 2088) (Nat.le_of_ble_eq_true rfl) (Nat.le_of_ble_eq_true rfl) ?_
  refine va_putF (D := (dC, dI)) (cl := kCl) (ci := 0) (v := .ref q16) (ty := (.object "DrawingVault$ChunkSet")) (C := RV) (T := TV) (N := 9) (pc := 49) hx hb hts inV tyV tyV_ok nmV hown hK hP hD hS 0 rfl rfl 6 (by decide) (hts _ wd_130) (fun _ h9 => h9) rfl hin rfl (by decide +kernel) rfl rfl (Nat.le_of_ble_eq_true rfl) dV_init_49 (fun H locs hP hD hS => ?_)
  have hP : va_P (dC, dI) kCl [(x, .inr (0, [.ref q1, .ref q3, .int 0, .int 0, .ref q5, .ref q7, .ref q16, .null, .int 0])), (q1, .inl (cA2, 16, .inl (fun _ => 0))), (q3, .inl (cA4, 24, .inr (.inr (.inr (.inr (fun _ => none)))))), (q5, .inl (cA6, 10, .inr (.inr (.inr (.inr (fun _ => none)))))), (q7, .inr (1, [.ref dv10, .ref do911, .int 0])), (dv10, .inl (cF12, 24, .inl fv14)), (do911, .inl (cO13, 24, .inl (fun _ => 0))), (q16, .inr (2, [.ref cp19, .ref cn20, .int 0])), (cp19, .inl (cP21, 992, .inr (.inl (fun _ => 0)))), (cn20, .inl (cL22, 992, .inl (fun _ => 0)))] H := hP
  have hD : va_D A [(x, .inr (0, [.ref q1, .ref q3, .int 0, .int 0, .ref q5, .ref q7, .ref q16, .null, .int 0])), (q1, .inl (cA2, 16, .inl (fun _ => 0))), (q3, .inl (cA4, 24, .inr (.inr (.inr (.inr (fun _ => none)))))), (q5, .inl (cA6, 10, .inr (.inr (.inr (.inr (fun _ => none)))))), (q7, .inr (1, [.ref dv10, .ref do911, .int 0])), (dv10, .inl (cF12, 24, .inl fv14)), (do911, .inl (cO13, 24, .inl (fun _ => 0))), (q16, .inr (2, [.ref cp19, .ref cn20, .int 0])), (cp19, .inl (cP21, 992, .inr (.inl (fun _ => 0)))), (cn20, .inl (cL22, 992, .inl (fun _ => 0)))] := hD
  refine lv_aload_n (pc := 52) hx hb dV_init_52 rfl (lv_at hl 0 rfl) ?_
  refine va_new (D := (dC, dI)) (cl := kCl) (pc := 53) (ci := 3) (fs := [.int 0, .int 0, .int 0, .int 0, .int 0, .int 0]) (C := RP) (T := TP) (N := 6) hx hb hts inP tyP tyP_ok hown (hts _ wd_251) (hts _ wd_252) (hts _ wd_60) hK hP hD hS hA rfl (fun j hj => by rcases (show j = 0 ∨ j = 1 ∨ j = 2 ∨ j = 3 ∨ j = 4 ∨ j = 5 by omega) with rfl | rfl | rfl | rfl | rfl | rfl <;> rfl) (Nat.le_of_ble_eq_true rfl) (Nat.le_of_ble_eq_true rfl) dV_init_53 (fun q24 H hP hD hS => ?_)
  have hP : va_P (dC, dI) kCl [(x, .inr (0, [.ref q1, .ref q3, .int 0, .int 0, .ref q5, .ref q7, .ref q16, .null, .int 0])), (q1, .inl (cA2, 16, .inl (fun _ => 0))), (q3, .inl (cA4, 24, .inr (.inr (.inr (.inr (fun _ => none)))))), (q5, .inl (cA6, 10, .inr (.inr (.inr (.inr (fun _ => none)))))), (q7, .inr (1, [.ref dv10, .ref do911, .int 0])), (dv10, .inl (cF12, 24, .inl fv14)), (do911, .inl (cO13, 24, .inl (fun _ => 0))), (q16, .inr (2, [.ref cp19, .ref cn20, .int 0])), (cp19, .inl (cP21, 992, .inr (.inl (fun _ => 0)))), (cn20, .inl (cL22, 992, .inl (fun _ => 0))), (q24, .inr (3, [.int 0, .int 0, .int 0, .int 0, .int 0, .int 0]))] H := hP
  have hD : va_D A [(x, .inr (0, [.ref q1, .ref q3, .int 0, .int 0, .ref q5, .ref q7, .ref q16, .null, .int 0])), (q1, .inl (cA2, 16, .inl (fun _ => 0))), (q3, .inl (cA4, 24, .inr (.inr (.inr (.inr (fun _ => none)))))), (q5, .inl (cA6, 10, .inr (.inr (.inr (.inr (fun _ => none)))))), (q7, .inr (1, [.ref dv10, .ref do911, .int 0])), (dv10, .inl (cF12, 24, .inl fv14)), (do911, .inl (cO13, 24, .inl (fun _ => 0))), (q16, .inr (2, [.ref cp19, .ref cn20, .int 0])), (cp19, .inl (cP21, 992, .inr (.inl (fun _ => 0)))), (cn20, .inl (cL22, 992, .inl (fun _ => 0))), (q24, .inr (3, [.int 0, .int 0, .int 0, .int 0, .int 0, .int 0]))] := hD
  have hK : va_K (dC, dI) kCl [(cA2, .int), (cA4, .object "DrawingVault$Drawing"), (cA6, .object "DrawingVault$Baseline"), (cF12, .int), (cO13, .int), (cP21, .long), (cL22, .byte)] s := hK
  refine W.widen (k := 10) (n := 2094) (Nat.le_of_ble_eq_true rfl) (Nat.le_of_ble_eq_true rfl) ?_
  refine lv_dup (pc := 56) hx hb dV_init_56 rfl ?_
  have hPc := hP.sub (ws' := [(q24, .inr (3, [.int 0, .int 0, .int 0, .int 0, .int 0, .int 0]))]) [10] rfl
  have hDc := hD.sub (ws' := [(q24, .inr (3, [.int 0, .int 0, .int 0, .int 0, .int 0, .int 0]))]) [10] (by decide) rfl
  have hKc := hK.sub (tys' := []) [] rfl
  have hFc := va_free (wc := [(q24, .inr (3, [.int 0, .int 0, .int 0, .int 0, .int 0, .int 0]))]) hD hS hA [10] rfl
  refine va_callv (pc := 57) (va_runIN (As := []) (rest := [.ref q24, .ref x]) ⟨hx, hb, hml, hown, hts⟩ (p_init l dC dI H.size q24) (⟨va_cnB 0 hts (gI wd_253) rfl rfl rfl hn39 (hts _ wd_60) (by decide +kernel) ⟨Nat.le_of_ble_eq_true rfl, Nat.le_of_ble_eq_true rfl⟩, rfl, hts _ wd_254⟩) ⟨pW_blind, pW_pre hPc hKc hDc⟩ rfl rfl hl.1 rfl (lv_room (Nat.le_of_ble_eq_true rfl)) dV_init_57 ⟨Nat.le_of_ble_eq_true rfl, Nat.le_of_ble_eq_true rfl⟩) hS (fun q _ h => hFc q h) hFc (fun u t H1 locs ht hvm hr26 hB hz1 hk1 hS => ?_)
  obtain ⟨hP1, hK1, hD1⟩ := hB
  rw [ht] at hP1
  have hK1 := va_K.moved hvm.symm hK1
  obtain ⟨hP, hD⟩ := va_join (wr := [(x, .inr (0, [.ref q1, .ref q3, .int 0, .int 0, .ref q5, .ref q7, .ref q16, .null, .int 0])), (q1, .inl (cA2, 16, .inl (fun _ => 0))), (q3, .inl (cA4, 24, .inr (.inr (.inr (.inr (fun _ => none)))))), (q5, .inl (cA6, 10, .inr (.inr (.inr (.inr (fun _ => none)))))), (q7, .inr (1, [.ref dv10, .ref do911, .int 0])), (dv10, .inl (cF12, 24, .inl fv14)), (do911, .inl (cO13, 24, .inl (fun _ => 0))), (q16, .inr (2, [.ref cp19, .ref cn20, .int 0])), (cp19, .inl (cP21, 992, .inr (.inl (fun _ => 0)))), (cn20, .inl (cL22, 992, .inl (fun _ => 0)))]) (w1 := [(q24, .inr (3, [.int 400, .int 0, .int 0, .int 0, .int 0, .int 0]))]) hP hD [10] [0, 1, 2, 3, 4, 5, 6, 7, 8, 9] rfl rfl (by decide) (by decide) hk1 hFc hP1 hD1
  generalize H1 = H at hP hS ⊢
  have hP : va_P (dC, dI) kCl [(x, .inr (0, [.ref q1, .ref q3, .int 0, .int 0, .ref q5, .ref q7, .ref q16, .null, .int 0])), (q1, .inl (cA2, 16, .inl (fun _ => 0))), (q3, .inl (cA4, 24, .inr (.inr (.inr (.inr (fun _ => none)))))), (q5, .inl (cA6, 10, .inr (.inr (.inr (.inr (fun _ => none)))))), (q7, .inr (1, [.ref dv10, .ref do911, .int 0])), (dv10, .inl (cF12, 24, .inl fv14)), (do911, .inl (cO13, 24, .inl (fun _ => 0))), (q16, .inr (2, [.ref cp19, .ref cn20, .int 0])), (cp19, .inl (cP21, 992, .inr (.inl (fun _ => 0)))), (cn20, .inl (cL22, 992, .inl (fun _ => 0))), (q24, .inr (3, [.int 400, .int 0, .int 0, .int 0, .int 0, .int 0]))] H := hP
  have hD : va_D A [(x, .inr (0, [.ref q1, .ref q3, .int 0, .int 0, .ref q5, .ref q7, .ref q16, .null, .int 0])), (q1, .inl (cA2, 16, .inl (fun _ => 0))), (q3, .inl (cA4, 24, .inr (.inr (.inr (.inr (fun _ => none)))))), (q5, .inl (cA6, 10, .inr (.inr (.inr (.inr (fun _ => none)))))), (q7, .inr (1, [.ref dv10, .ref do911, .int 0])), (dv10, .inl (cF12, 24, .inl fv14)), (do911, .inl (cO13, 24, .inl (fun _ => 0))), (q16, .inr (2, [.ref cp19, .ref cn20, .int 0])), (cp19, .inl (cP21, 992, .inr (.inl (fun _ => 0)))), (cn20, .inl (cL22, 992, .inl (fun _ => 0))), (q24, .inr (3, [.int 400, .int 0, .int 0, .int 0, .int 0, .int 0]))] := hD
  refine W.widen (k := 10) (n := 2094) (Nat.le_of_ble_eq_true rfl) (Nat.le_of_ble_eq_true rfl) ?_
  refine va_putF (D := (dC, dI)) (cl := kCl) (ci := 0) (v := .ref q24) (ty := (.object "DrawingVault$Pages")) (C := RV) (T := TV) (N := 9) (pc := 60) hx hb hts inV tyV tyV_ok nmV hown hK hP hD hS 0 rfl rfl 7 (by decide) (hts _ wd_37) (fun _ h9 => h9) rfl hin rfl (by decide +kernel) rfl rfl (Nat.le_of_ble_eq_true rfl) dV_init_60 (fun H locs hP hD hS => ?_)
  have hP : va_P (dC, dI) kCl [(x, .inr (0, [.ref q1, .ref q3, .int 0, .int 0, .ref q5, .ref q7, .ref q16, .ref q24, .int 0])), (q1, .inl (cA2, 16, .inl (fun _ => 0))), (q3, .inl (cA4, 24, .inr (.inr (.inr (.inr (fun _ => none)))))), (q5, .inl (cA6, 10, .inr (.inr (.inr (.inr (fun _ => none)))))), (q7, .inr (1, [.ref dv10, .ref do911, .int 0])), (dv10, .inl (cF12, 24, .inl fv14)), (do911, .inl (cO13, 24, .inl (fun _ => 0))), (q16, .inr (2, [.ref cp19, .ref cn20, .int 0])), (cp19, .inl (cP21, 992, .inr (.inl (fun _ => 0)))), (cn20, .inl (cL22, 992, .inl (fun _ => 0))), (q24, .inr (3, [.int 400, .int 0, .int 0, .int 0, .int 0, .int 0]))] H := hP
  have hD : va_D A [(x, .inr (0, [.ref q1, .ref q3, .int 0, .int 0, .ref q5, .ref q7, .ref q16, .ref q24, .int 0])), (q1, .inl (cA2, 16, .inl (fun _ => 0))), (q3, .inl (cA4, 24, .inr (.inr (.inr (.inr (fun _ => none)))))), (q5, .inl (cA6, 10, .inr (.inr (.inr (.inr (fun _ => none)))))), (q7, .inr (1, [.ref dv10, .ref do911, .int 0])), (dv10, .inl (cF12, 24, .inl fv14)), (do911, .inl (cO13, 24, .inl (fun _ => 0))), (q16, .inr (2, [.ref cp19, .ref cn20, .int 0])), (cp19, .inl (cP21, 992, .inr (.inl (fun _ => 0)))), (cn20, .inl (cL22, 992, .inl (fun _ => 0))), (q24, .inr (3, [.int 400, .int 0, .int 0, .int 0, .int 0, .int 0]))] := hD
  have hP9 := hP.sub (ws' := [(x, .inr (0, [.ref q1, .ref q3, .int 0, .int 0, .ref q5, .ref q7, .ref q16, .ref q24, .int 0])), (q1, .inl (cA2, 16, .inl (fun _ => 0))), (q24, .inr (3, [.int 400, .int 0, .int 0, .int 0, .int 0, .int 0])), (q5, .inl (cA6, 10, .inr (.inr (.inr (.inr (fun _ => none)))))), (q7, .inr (1, [.ref dv10, .ref do911, .int 0])), (dv10, .inl (cF12, 24, .inl fv14)), (q16, .inr (2, [.ref cp19, .ref cn20, .int 0]))]) [0, 1, 10, 3, 4, 5, 7] rfl
  have hD9 := hD.sub (ws' := [(x, .inr (0, [.ref q1, .ref q3, .int 0, .int 0, .ref q5, .ref q7, .ref q16, .ref q24, .int 0])), (q1, .inl (cA2, 16, .inl (fun _ => 0))), (q24, .inr (3, [.int 400, .int 0, .int 0, .int 0, .int 0, .int 0])), (q5, .inl (cA6, 10, .inr (.inr (.inr (.inr (fun _ => none)))))), (q7, .inr (1, [.ref dv10, .ref do911, .int 0])), (dv10, .inl (cF12, 24, .inl fv14)), (q16, .inr (2, [.ref cp19, .ref cn20, .int 0]))]) [0, 1, 10, 3, 4, 5, 7] (by decide) rfl
  have hK9 := hK.sub (tys' := [(cA2, .int), (cA6, .object "DrawingVault$Baseline"), (cF12, .int)]) [0, 2, 3] rfl
  exact W.vret (pc := 63) hx hb hr (fun t ht hW => ⟨⟨(), rfl, trivial, q1, q3, q5, q7, q16, q24, dv10, do911, cp19, cn20, cA2, cA6, cF12, fv14, by rw [ht]; exact hP9, va_K.moved hW.alike hK9, hD9⟩, hS.F ht⟩) hS.2.2 dV_init_63
set_option maxHeartbeats 4000000 in
set_option maxRecDepth 100000 in
theorem m_init (l : Launch) (dC : Nat → ClassId) (dI : Nat → Nat → Nat) (sz : Nat) (mo : Nat) : Met l yM_init (.code yM_init cM_init 1 none :: aw) ({ frames := 1, cells := 5, slots := 50816, locals := 21 }) (pW (dC, dI) sz [(mo, .inr (4, [.int 0, .int 0, .null, .null, .int 0, .int 0, .null, .null, .int 0, .int 0, .null]))] [] [.ref mo]) (va_Qv (fun (_ : Unit) => True) (fun _ t => ∃ (nw : Nat) (kp : Nat) (mk : Nat) (co : Nat) (se : Nat) (cN : ClassId) (cK : ClassId) (fk : Nat → Int32), (fk 16 = 0) ∧ wW (dC, dI) (va_A [(mo, .inr (4, [.int 0, .int 0, .null, .null, .int 0, .int 0, .null, .null, .int 0, .int 0, .null]))] sz) [(mo, .inr (4, [.int 0, .int 0, .ref nw, .ref kp, .int 0, .int (-1), .ref mk, .ref co, .int 0, .int 0, .ref se])), (nw, .inl (cN, 25240, .inl now0)), (kp, .inl (cK, 25240, .inl fk))] [(cN, .int), (cK, .int)] t) (va_A [(mo, .inr (4, [.int 0, .int 0, .null, .null, .int 0, .int 0, .null, .null, .int 0, .int 0, .null]))] sz)) 5 50816 (va_A [(mo, .inr (4, [.int 0, .int 0, .null, .null, .int 0, .int 0, .null, .null, .int 0, .int 0, .null]))] sz) := by
  refine Met.ofW (cc := cM_init) (maxL := 1) (ret := none) (by decide) rfl ?_
  intro p e s m args below meth c s₁ B hml hv
  obtain ⟨rfl, hv⟩ := hv
  have hx := B.exec
  have hb := B.bytes
  have hr := B.returns
  have hts : ∀ w ∈ aw, w.before _ s = true := fun w h => atoms_spec (ws := (.code yM_init cM_init 1 none :: aw)) B.pre w (List.mem_cons_of_mem _ h)
  have hown : s.vm.findClass RM = some m.cls := findClass_of_methodNamed B.named
  have hlocks := B.notSynchronized
  have hin : meth.name = "<init>" := (name_of_methodNamed B.named B.method).1
  obtain ⟨hsz, hP, hK, hD0⟩ := hv
  subst hsz
  have hD := hD0.self (sz := s.heap.size)
  generalize hAe : va_A [(mo, .inr (4, [.int 0, .int 0, .null, .null, .int 0, .int 0, .null, .null, .int 0, .int 0, .null]))] s.heap.size = A at hD ⊢
  have hA : ∀ q : Nat, s.heap.size ≤ q → A q := fun q h => by rw [← hAe]; exact Or.inr h
  obtain ⟨H, hH⟩ : ∃ H, H = s.heap := ⟨_, rfl⟩
  have hS : va_S A s.heap H [] := by rw [hH]; exact va_S.rf
  rw [← hH] at hP ⊢
  have hP : va_P (dC, dI) kCl [(mo, .inr (4, [.int 0, .int 0, .null, .null, .int 0, .int 0, .null, .null, .int 0, .int 0, .null]))] H := hP
  have hl := lv_entry ([.ref mo]) (n := 1) (Nat.le_of_ble_eq_true rfl)
  rw [lg_entry_eq]
  generalize (lg_sl ([.ref mo]) ++ List.replicate (1 - (lg_sl ([.ref mo])).length) Slot.unset).toArray = ls at hl ⊢
  have hl : lv_has ls 1 [(0, .ref mo)] := hl
  refine lv_aload_n (pc := 0) hx hb dM_init_0 rfl (lv_at hl 0 rfl) ?_
  refine W.objInit hx hb hown (hts _ wd_255) (hts _ wd_222) (hts _ wd_223) rfl (by rw [hml]; exact hl.1) rfl dM_init_1 (Nat.le_of_ble_eq_true rfl) (Nat.le_of_ble_eq_true rfl) ?_
  refine W.eq (g2 := F0 m 4 ls []) rfl ?_
  refine lv_aload_n (pc := 4) hx hb dM_init_4 rfl (lv_at hl 0 rfl) ?_
  refine lv_sipush (pc := 5) (v := 25240) hx hb dM_init_5 (by decide) ?_
  refine va_newa (atype := .int) (D := (dC, dI)) (cl := kCl) (pc := 8) (ty := .int) (n := 25240) (N' := 25240) (a0 := (25240, .inl (fun _ => 0))) hx hb (hts _ wd_224) rfl hK hP hD hS hA (fun cA => rfl) (by decide) (by decide) (by decide) (Nat.le_of_ble_eq_true rfl) (Nat.le_of_ble_eq_true rfl) dM_init_8 (fun q1 cA2 H hK hP hD hS => ?_)
  have hP : va_P (dC, dI) kCl [(mo, .inr (4, [.int 0, .int 0, .null, .null, .int 0, .int 0, .null, .null, .int 0, .int 0, .null])), (q1, .inl (cA2, 25240, .inl (fun _ => 0)))] H := hP
  have hD : va_D A [(mo, .inr (4, [.int 0, .int 0, .null, .null, .int 0, .int 0, .null, .null, .int 0, .int 0, .null])), (q1, .inl (cA2, 25240, .inl (fun _ => 0)))] := hD
  have hK : va_K (dC, dI) kCl [(cA2, .int)] s := hK
  refine W.widen (k := 1) (n := 25240) (Nat.le_of_ble_eq_true rfl) (Nat.le_of_ble_eq_true rfl) ?_
  refine va_putF (D := (dC, dI)) (cl := kCl) (ci := 4) (v := .ref q1) (ty := (.array .int)) (C := RM) (T := TM) (N := 11) (pc := 10) hx hb hts inM tyM tyM_ok nmM hown hK hP hD hS 0 rfl rfl 2 (by decide) (hts _ wd_158) (fun _ h9 => h9) rfl hin rfl (by decide +kernel) rfl rfl (Nat.le_of_ble_eq_true rfl) dM_init_10 (fun H locs hP hD hS => ?_)
  have hP : va_P (dC, dI) kCl [(mo, .inr (4, [.int 0, .int 0, .ref q1, .null, .int 0, .int 0, .null, .null, .int 0, .int 0, .null])), (q1, .inl (cA2, 25240, .inl (fun _ => 0)))] H := hP
  have hD : va_D A [(mo, .inr (4, [.int 0, .int 0, .ref q1, .null, .int 0, .int 0, .null, .null, .int 0, .int 0, .null])), (q1, .inl (cA2, 25240, .inl (fun _ => 0)))] := hD
  refine lv_aload_n (pc := 13) hx hb dM_init_13 rfl (lv_at hl 0 rfl) ?_
  refine lv_sipush (pc := 14) (v := 25240) hx hb dM_init_14 (by decide) ?_
  refine va_newa (atype := .int) (D := (dC, dI)) (cl := kCl) (pc := 17) (ty := .int) (n := 25240) (N' := 25240) (a0 := (25240, .inl (fun _ => 0))) hx hb (hts _ wd_224) rfl hK hP hD hS hA (fun cA => rfl) (by decide) (by decide) (by decide) (Nat.le_of_ble_eq_true rfl) (Nat.le_of_ble_eq_true rfl) dM_init_17 (fun q3 cA4 H hK hP hD hS => ?_)
  have hP : va_P (dC, dI) kCl [(mo, .inr (4, [.int 0, .int 0, .ref q1, .null, .int 0, .int 0, .null, .null, .int 0, .int 0, .null])), (q1, .inl (cA2, 25240, .inl (fun _ => 0))), (q3, .inl (cA4, 25240, .inl (fun _ => 0)))] H := hP
  have hD : va_D A [(mo, .inr (4, [.int 0, .int 0, .ref q1, .null, .int 0, .int 0, .null, .null, .int 0, .int 0, .null])), (q1, .inl (cA2, 25240, .inl (fun _ => 0))), (q3, .inl (cA4, 25240, .inl (fun _ => 0)))] := hD
  have hK : va_K (dC, dI) kCl [(cA2, .int), (cA4, .int)] s := hK
  refine W.widen (k := 2) (n := 50480) (Nat.le_of_ble_eq_true rfl) (Nat.le_of_ble_eq_true rfl) ?_
  refine va_putF (D := (dC, dI)) (cl := kCl) (ci := 4) (v := .ref q3) (ty := (.array .int)) (C := RM) (T := TM) (N := 11) (pc := 19) hx hb hts inM tyM tyM_ok nmM hown hK hP hD hS 0 rfl rfl 3 (by decide) (hts _ wd_204) (fun _ h9 => h9) rfl hin rfl (by decide +kernel) rfl rfl (Nat.le_of_ble_eq_true rfl) dM_init_19 (fun H locs hP hD hS => ?_)
  have hP : va_P (dC, dI) kCl [(mo, .inr (4, [.int 0, .int 0, .ref q1, .ref q3, .int 0, .int 0, .null, .null, .int 0, .int 0, .null])), (q1, .inl (cA2, 25240, .inl (fun _ => 0))), (q3, .inl (cA4, 25240, .inl (fun _ => 0)))] H := hP
  have hD : va_D A [(mo, .inr (4, [.int 0, .int 0, .ref q1, .ref q3, .int 0, .int 0, .null, .null, .int 0, .int 0, .null])), (q1, .inl (cA2, 25240, .inl (fun _ => 0))), (q3, .inl (cA4, 25240, .inl (fun _ => 0)))] := hD
  refine lv_aload_n (pc := 22) hx hb dM_init_22 rfl (lv_at hl 0 rfl) ?_
  refine lv_iconst (pc := 23) (v := (-1)) hx hb dM_init_23 (by decide) ?_
  refine va_put (D := (dC, dI)) (cl := kCl) (ci := 4) (v := .int (-1)) (ty := .int) (C := RM) (T := TM) (N := 11) (pc := 24) hx hb hts inM tyM tyM_ok nmM hown hK hP hD hS 0 rfl rfl 5 (by decide) (hts _ wd_203) (fun _ h9 => h9) rfl (by decide +kernel) rfl rfl (Nat.le_of_ble_eq_true rfl) dM_init_24 (fun H locs hP hD hS => ?_)
  have hP : va_P (dC, dI) kCl [(mo, .inr (4, [.int 0, .int 0, .ref q1, .ref q3, .int 0, .int (-1), .null, .null, .int 0, .int 0, .null])), (q1, .inl (cA2, 25240, .inl (fun _ => 0))), (q3, .inl (cA4, 25240, .inl (fun _ => 0)))] H := hP
  have hD : va_D A [(mo, .inr (4, [.int 0, .int 0, .ref q1, .ref q3, .int 0, .int (-1), .null, .null, .int 0, .int 0, .null])), (q1, .inl (cA2, 25240, .inl (fun _ => 0))), (q3, .inl (cA4, 25240, .inl (fun _ => 0)))] := hD
  refine lv_aload_n (pc := 27) hx hb dM_init_27 rfl (lv_at hl 0 rfl) ?_
  refine lv_bipush (pc := 28) (v := 24) hx hb dM_init_28 (by decide) ?_
  refine va_newa (atype := .boolean) (D := (dC, dI)) (cl := kCl) (pc := 30) (ty := .boolean) (n := 24) (N' := 24) (a0 := (24, .inl (fun _ => 0))) hx hb (hts _ wd_256) rfl hK hP hD hS hA (fun cA => rfl) (by decide) (by decide) (by decide) (Nat.le_of_ble_eq_true rfl) (Nat.le_of_ble_eq_true rfl) dM_init_30 (fun q5 cA6 H hK hP hD hS => ?_)
  have hP : va_P (dC, dI) kCl [(mo, .inr (4, [.int 0, .int 0, .ref q1, .ref q3, .int 0, .int (-1), .null, .null, .int 0, .int 0, .null])), (q1, .inl (cA2, 25240, .inl (fun _ => 0))), (q3, .inl (cA4, 25240, .inl (fun _ => 0))), (q5, .inl (cA6, 24, .inl (fun _ => 0)))] H := hP
  have hD : va_D A [(mo, .inr (4, [.int 0, .int 0, .ref q1, .ref q3, .int 0, .int (-1), .null, .null, .int 0, .int 0, .null])), (q1, .inl (cA2, 25240, .inl (fun _ => 0))), (q3, .inl (cA4, 25240, .inl (fun _ => 0))), (q5, .inl (cA6, 24, .inl (fun _ => 0)))] := hD
  have hK : va_K (dC, dI) kCl [(cA2, .int), (cA4, .int), (cA6, .boolean)] s := hK
  refine W.widen (k := 3) (n := 50504) (Nat.le_of_ble_eq_true rfl) (Nat.le_of_ble_eq_true rfl) ?_
  refine va_putF (D := (dC, dI)) (cl := kCl) (ci := 4) (v := .ref q5) (ty := (.array .boolean)) (C := RM) (T := TM) (N := 11) (pc := 32) hx hb hts inM tyM tyM_ok nmM hown hK hP hD hS 0 rfl rfl 6 (by decide) (hts _ wd_257) (fun _ h9 => h9) rfl hin rfl (by decide +kernel) rfl rfl (Nat.le_of_ble_eq_true rfl) dM_init_32 (fun H locs hP hD hS => ?_)
  have hP : va_P (dC, dI) kCl [(mo, .inr (4, [.int 0, .int 0, .ref q1, .ref q3, .int 0, .int (-1), .ref q5, .null, .int 0, .int 0, .null])), (q1, .inl (cA2, 25240, .inl (fun _ => 0))), (q3, .inl (cA4, 25240, .inl (fun _ => 0))), (q5, .inl (cA6, 24, .inl (fun _ => 0)))] H := hP
  have hD : va_D A [(mo, .inr (4, [.int 0, .int 0, .ref q1, .ref q3, .int 0, .int (-1), .ref q5, .null, .int 0, .int 0, .null])), (q1, .inl (cA2, 25240, .inl (fun _ => 0))), (q3, .inl (cA4, 25240, .inl (fun _ => 0))), (q5, .inl (cA6, 24, .inl (fun _ => 0)))] := hD
  refine lv_aload_n (pc := 35) hx hb dM_init_35 rfl (lv_at hl 0 rfl) ?_
  refine lv_bipush (pc := 36) (v := 24) hx hb dM_init_36 (by decide) ?_
  refine va_newa (atype := .int) (D := (dC, dI)) (cl := kCl) (pc := 38) (ty := .int) (n := 24) (N' := 24) (a0 := (24, .inl (fun _ => 0))) hx hb (hts _ wd_224) rfl hK hP hD hS hA (fun cA => rfl) (by decide) (by decide) (by decide) (Nat.le_of_ble_eq_true rfl) (Nat.le_of_ble_eq_true rfl) dM_init_38 (fun q7 cA8 H hK hP hD hS => ?_)
  have hP : va_P (dC, dI) kCl [(mo, .inr (4, [.int 0, .int 0, .ref q1, .ref q3, .int 0, .int (-1), .ref q5, .null, .int 0, .int 0, .null])), (q1, .inl (cA2, 25240, .inl (fun _ => 0))), (q3, .inl (cA4, 25240, .inl (fun _ => 0))), (q5, .inl (cA6, 24, .inl (fun _ => 0))), (q7, .inl (cA8, 24, .inl (fun _ => 0)))] H := hP
  have hD : va_D A [(mo, .inr (4, [.int 0, .int 0, .ref q1, .ref q3, .int 0, .int (-1), .ref q5, .null, .int 0, .int 0, .null])), (q1, .inl (cA2, 25240, .inl (fun _ => 0))), (q3, .inl (cA4, 25240, .inl (fun _ => 0))), (q5, .inl (cA6, 24, .inl (fun _ => 0))), (q7, .inl (cA8, 24, .inl (fun _ => 0)))] := hD
  have hK : va_K (dC, dI) kCl [(cA2, .int), (cA4, .int), (cA6, .boolean), (cA8, .int)] s := hK
  refine W.widen (k := 4) (n := 50528) (Nat.le_of_ble_eq_true rfl) (Nat.le_of_ble_eq_true rfl) ?_
  refine va_putF (D := (dC, dI)) (cl := kCl) (ci := 4) (v := .ref q7) (ty := (.array .int)) (C := RM) (T := TM) (N := 11) (pc := 40) hx hb hts inM tyM tyM_ok nmM hown hK hP hD hS 0 rfl rfl 7 (by decide) (hts _ wd_258) (fun _ h9 => h9) rfl hin rfl (by decide +kernel) rfl rfl (Nat.le_of_ble_eq_true rfl) dM_init_40 (fun H locs hP hD hS => ?_)
  have hP : va_P (dC, dI) kCl [(mo, .inr (4, [.int 0, .int 0, .ref q1, .ref q3, .int 0, .int (-1), .ref q5, .ref q7, .int 0, .int 0, .null])), (q1, .inl (cA2, 25240, .inl (fun _ => 0))), (q3, .inl (cA4, 25240, .inl (fun _ => 0))), (q5, .inl (cA6, 24, .inl (fun _ => 0))), (q7, .inl (cA8, 24, .inl (fun _ => 0)))] H := hP
  have hD : va_D A [(mo, .inr (4, [.int 0, .int 0, .ref q1, .ref q3, .int 0, .int (-1), .ref q5, .ref q7, .int 0, .int 0, .null])), (q1, .inl (cA2, 25240, .inl (fun _ => 0))), (q3, .inl (cA4, 25240, .inl (fun _ => 0))), (q5, .inl (cA6, 24, .inl (fun _ => 0))), (q7, .inl (cA8, 24, .inl (fun _ => 0)))] := hD
  refine lv_aload_n (pc := 43) hx hb dM_init_43 rfl (lv_at hl 0 rfl) ?_
  refine lv_sipush (pc := 44) (v := 288) hx hb dM_init_44 (by decide) ?_
  refine va_newa (atype := .boolean) (D := (dC, dI)) (cl := kCl) (pc := 47) (ty := .boolean) (n := 288) (N' := 288) (a0 := (288, .inl (fun _ => 0))) hx hb (hts _ wd_256) rfl hK hP hD hS hA (fun cA => rfl) (by decide) (by decide) (by decide) (Nat.le_of_ble_eq_true rfl) (Nat.le_of_ble_eq_true rfl) dM_init_47 (fun q9 cA10 H hK hP hD hS => ?_)
  have hP : va_P (dC, dI) kCl [(mo, .inr (4, [.int 0, .int 0, .ref q1, .ref q3, .int 0, .int (-1), .ref q5, .ref q7, .int 0, .int 0, .null])), (q1, .inl (cA2, 25240, .inl (fun _ => 0))), (q3, .inl (cA4, 25240, .inl (fun _ => 0))), (q5, .inl (cA6, 24, .inl (fun _ => 0))), (q7, .inl (cA8, 24, .inl (fun _ => 0))), (q9, .inl (cA10, 288, .inl (fun _ => 0)))] H := hP
  have hD : va_D A [(mo, .inr (4, [.int 0, .int 0, .ref q1, .ref q3, .int 0, .int (-1), .ref q5, .ref q7, .int 0, .int 0, .null])), (q1, .inl (cA2, 25240, .inl (fun _ => 0))), (q3, .inl (cA4, 25240, .inl (fun _ => 0))), (q5, .inl (cA6, 24, .inl (fun _ => 0))), (q7, .inl (cA8, 24, .inl (fun _ => 0))), (q9, .inl (cA10, 288, .inl (fun _ => 0)))] := hD
  have hK : va_K (dC, dI) kCl [(cA2, .int), (cA4, .int), (cA6, .boolean), (cA8, .int), (cA10, .boolean)] s := hK
  refine W.widen (k := 5) (n := 50816) (Nat.le_of_ble_eq_true rfl) (Nat.le_of_ble_eq_true rfl) ?_
  refine va_putF (D := (dC, dI)) (cl := kCl) (ci := 4) (v := .ref q9) (ty := (.array .boolean)) (C := RM) (T := TM) (N := 11) (pc := 49) hx hb hts inM tyM tyM_ok nmM hown hK hP hD hS 0 rfl rfl 10 (by decide) (hts _ wd_259) (fun _ h9 => h9) rfl hin rfl (by decide +kernel) rfl rfl (Nat.le_of_ble_eq_true rfl) dM_init_49 (fun H locs hP hD hS => ?_)
  have hP : va_P (dC, dI) kCl [(mo, .inr (4, [.int 0, .int 0, .ref q1, .ref q3, .int 0, .int (-1), .ref q5, .ref q7, .int 0, .int 0, .ref q9])), (q1, .inl (cA2, 25240, .inl (fun _ => 0))), (q3, .inl (cA4, 25240, .inl (fun _ => 0))), (q5, .inl (cA6, 24, .inl (fun _ => 0))), (q7, .inl (cA8, 24, .inl (fun _ => 0))), (q9, .inl (cA10, 288, .inl (fun _ => 0)))] H := hP
  have hD : va_D A [(mo, .inr (4, [.int 0, .int 0, .ref q1, .ref q3, .int 0, .int (-1), .ref q5, .ref q7, .int 0, .int 0, .ref q9])), (q1, .inl (cA2, 25240, .inl (fun _ => 0))), (q3, .inl (cA4, 25240, .inl (fun _ => 0))), (q5, .inl (cA6, 24, .inl (fun _ => 0))), (q7, .inl (cA8, 24, .inl (fun _ => 0))), (q9, .inl (cA10, 288, .inl (fun _ => 0)))] := hD
  refine lv_aload_n (pc := 52) hx hb dM_init_52 rfl (lv_at hl 0 rfl) ?_
  refine va_get (D := (dC, dI)) (cl := kCl) (C := RM) (T := TM) (N := 11) (pc := 53) hx hb hts inM hown hK hP 0 rfl rfl 2 (by decide) (hts _ wd_158) (fun _ h9 => h9) rfl dM_init_53 ?_
  refine lv_bipush (pc := 56) (v := 17) hx hb dM_init_56 (by decide) ?_
  refine lv_sipush (pc := 58) (v := 400) hx hb dM_init_58 (by decide) ?_
  refine va_iast (D := (dC, dI)) (cl := kCl) (pc := 61) hx hb hK hP hD hS 1 0 rfl rfl (vp_in_lit 17 25240 (by decide)) dM_init_61 (fun H locs hP hD hS => ?_)
  have hP : va_P (dC, dI) kCl [(mo, .inr (4, [.int 0, .int 0, .ref q1, .ref q3, .int 0, .int (-1), .ref q5, .ref q7, .int 0, .int 0, .ref q9])), (q1, .inl (cA2, 25240, .inl (upd (fun _ => 0) (17 : Int32).toNatClampNeg 400))), (q3, .inl (cA4, 25240, .inl (fun _ => 0))), (q5, .inl (cA6, 24, .inl (fun _ => 0))), (q7, .inl (cA8, 24, .inl (fun _ => 0))), (q9, .inl (cA10, 288, .inl (fun _ => 0)))] H := hP
  have hD : va_D A [(mo, .inr (4, [.int 0, .int 0, .ref q1, .ref q3, .int 0, .int (-1), .ref q5, .ref q7, .int 0, .int 0, .ref q9])), (q1, .inl (cA2, 25240, .inl (upd (fun _ => 0) (17 : Int32).toNatClampNeg 400))), (q3, .inl (cA4, 25240, .inl (fun _ => 0))), (q5, .inl (cA6, 24, .inl (fun _ => 0))), (q7, .inl (cA8, 24, .inl (fun _ => 0))), (q9, .inl (cA10, 288, .inl (fun _ => 0)))] := hD
  refine lv_aload_n (pc := 62) hx hb dM_init_62 rfl (lv_at hl 0 rfl) ?_
  have hPc := hP.sub (ws' := [(mo, .inr (4, [.int 0, .int 0, .ref q1, .ref q3, .int 0, .int (-1), .ref q5, .ref q7, .int 0, .int 0, .ref q9])), (q1, .inl (cA2, 25240, .inl (upd (fun _ => 0) (17 : Int32).toNatClampNeg 400))), (q3, .inl (cA4, 25240, .inl (fun _ => 0)))]) [0, 1, 2] rfl
  have hDc := hD.sub (ws' := [(mo, .inr (4, [.int 0, .int 0, .ref q1, .ref q3, .int 0, .int (-1), .ref q5, .ref q7, .int 0, .int 0, .ref q9])), (q1, .inl (cA2, 25240, .inl (upd (fun _ => 0) (17 : Int32).toNatClampNeg 400))), (q3, .inl (cA4, 25240, .inl (fun _ => 0)))]) [0, 1, 2] (by decide) rfl
  have hKc := hK.sub (tys' := [(cA2, .int), (cA4, .int)]) [0, 1] rfl
  have hFc := va_free (wc := [(mo, .inr (4, [.int 0, .int 0, .ref q1, .ref q3, .int 0, .int (-1), .ref q5, .ref q7, .int 0, .int 0, .ref q9])), (q1, .inl (cA2, 25240, .inl (upd (fun _ => 0) (17 : Int32).toNatClampNeg 400))), (q3, .inl (cA4, 25240, .inl (fun _ => 0)))]) hD hS hA [0, 1, 2] rfl
  refine va_callv (pc := 63) (va_runV (As := []) (rest := []) ⟨hx, hb, hml, hown, hts⟩ (m_keep l dC dI H.size mo q1 q3 q5 q7 q9 0 0 cA2 (upd (fun _ => 0) (17 : Int32).toNatClampNeg 400) cA4 (fun _ => 0)) (cwV 0 hts (gV wd_206 wd_207 wd_208 wd_157 wd_205) rfl rfl rfl (by decide +kernel) ⟨Nat.le_of_ble_eq_true rfl, Nat.le_of_ble_eq_true rfl⟩) ⟨pW_blind, va_recv (q := (RM, TM, 11)) (q0 := 0) (ci := 4) hK hP rfl rfl, pW_pre hPc hKc hDc⟩ rfl rfl hl.1 rfl (lv_room (Nat.le_of_ble_eq_true rfl)) dM_init_63 ⟨Nat.le_of_ble_eq_true rfl, Nat.le_of_ble_eq_true rfl⟩) hS (fun q _ h => hFc q h) hFc (fun u13 t H1 locs ht hvm hr12 hB hz1 hk1 hS => ?_)
  obtain ⟨hP1, hK1, hD1⟩ := hB
  rw [ht] at hP1
  have hK1 := va_K.moved hvm.symm hK1
  obtain ⟨hP, hD⟩ := va_join (wr := [(q5, .inl (cA6, 24, .inl (fun _ => 0))), (q7, .inl (cA8, 24, .inl (fun _ => 0))), (q9, .inl (cA10, 288, .inl (fun _ => 0)))]) (w1 := [(mo, .inr (4, [.int 0, .int 0, .ref q1, .ref q3, .int 0, .int (-1), .ref q5, .ref q7, .int 0, .int 0, .ref q9])), (q1, .inl (cA2, 25240, .inl (upd (fun _ => 0) (17 : Int32).toNatClampNeg 400))), (q3, .inl (cA4, 25240, .inl u13))]) hP hD [0, 1, 2] [3, 4, 5] rfl rfl (by decide) (by decide) hk1 hFc hP1 hD1
  generalize H1 = H at hP hS ⊢
  have hP : va_P (dC, dI) kCl [(q5, .inl (cA6, 24, .inl (fun _ => 0))), (q7, .inl (cA8, 24, .inl (fun _ => 0))), (q9, .inl (cA10, 288, .inl (fun _ => 0))), (mo, .inr (4, [.int 0, .int 0, .ref q1, .ref q3, .int 0, .int (-1), .ref q5, .ref q7, .int 0, .int 0, .ref q9])), (q1, .inl (cA2, 25240, .inl (upd (fun _ => 0) (17 : Int32).toNatClampNeg 400))), (q3, .inl (cA4, 25240, .inl u13))] H := hP
  have hD : va_D A [(q5, .inl (cA6, 24, .inl (fun _ => 0))), (q7, .inl (cA8, 24, .inl (fun _ => 0))), (q9, .inl (cA10, 288, .inl (fun _ => 0))), (mo, .inr (4, [.int 0, .int 0, .ref q1, .ref q3, .int 0, .int (-1), .ref q5, .ref q7, .int 0, .int 0, .ref q9])), (q1, .inl (cA2, 25240, .inl (upd (fun _ => 0) (17 : Int32).toNatClampNeg 400))), (q3, .inl (cA4, 25240, .inl u13))] := hD
  refine W.widen (k := 5) (n := 50816) (Nat.le_of_ble_eq_true rfl) (Nat.le_of_ble_eq_true rfl) ?_
  have h15 : u13 16 = (upd (fun _ => 0) (17 : Int32).toNatClampNeg 400) 16 := hr12
  have hP9 := hP.sub (ws' := [(mo, .inr (4, [.int 0, .int 0, .ref q1, .ref q3, .int 0, .int (-1), .ref q5, .ref q7, .int 0, .int 0, .ref q9])), (q1, .inl (cA2, 25240, .inl now0)), (q3, .inl (cA4, 25240, .inl u13))]) [3, 4, 5] rfl
  have hD9 := hD.sub (ws' := [(mo, .inr (4, [.int 0, .int 0, .ref q1, .ref q3, .int 0, .int (-1), .ref q5, .ref q7, .int 0, .int 0, .ref q9])), (q1, .inl (cA2, 25240, .inl now0)), (q3, .inl (cA4, 25240, .inl u13))]) [3, 4, 5] (by decide) rfl
  have hK9 := hK.sub (tys' := [(cA2, .int), (cA4, .int)]) [0, 1] rfl
  exact W.vret (pc := 66) hx hb hr (fun t ht hW => ⟨⟨(), rfl, trivial, q1, q3, q5, q7, q9, cA2, cA4, u13, h15, by rw [ht]; exact hP9, va_K.moved hW.alike hK9, hD9⟩, hS.F ht⟩) hS.2.2 dM_init_66
set_option maxHeartbeats 4000000 in
set_option maxRecDepth 100000 in
theorem b_clear (l : Launch) (dC : Nat → ClassId) (dI : Nat → Nat → Nat) (sz : Nat) (df : Nat) (dv : Nat) (do9 : Nat) (cF : ClassId) (fv : Nat → Int32) : Met l yB_clear (.code yB_clear cB_clear 1 none :: aw) ({ frames := 1, cells := 0, slots := 0, locals := 23 }) (pW (dC, dI) sz [(df, .inr (1, [.ref dv, .ref do9, .int 0])), (dv, .inl (cF, 24, .inl fv))] [(cF, .int)] [.ref df]) (va_Qv (fun (u9 : Nat → Int32) => True) (fun u9 t => wW (dC, dI) (va_A [(df, .inr (1, [.ref dv, .ref do9, .int 0])), (dv, .inl (cF, 24, .inl fv))] sz) [(df, .inr (1, [.ref dv, .ref do9, .int 0])), (dv, .inl (cF, 24, .inl u9))] [(cF, .int)] t) (va_A [(df, .inr (1, [.ref dv, .ref do9, .int 0])), (dv, .inl (cF, 24, .inl fv))] sz)) 0 0 (va_A [(df, .inr (1, [.ref dv, .ref do9, .int 0])), (dv, .inl (cF, 24, .inl fv))] sz) := by
  refine Met.ofW (cc := cB_clear) (maxL := 1) (ret := none) (by decide) rfl ?_
  intro p e s m args below meth c s₁ B hml hv
  obtain ⟨rfl, hv⟩ := hv
  have hx := B.exec
  have hb := B.bytes
  have hr := B.returns
  have hts : ∀ w ∈ aw, w.before _ s = true := fun w h => atoms_spec (ws := (.code yB_clear cB_clear 1 none :: aw)) B.pre w (List.mem_cons_of_mem _ h)
  have hown : s.vm.findClass RB = some m.cls := findClass_of_methodNamed B.named
  have hlocks := B.notSynchronized
  obtain ⟨hsz, hP, hK, hD0⟩ := hv
  subst hsz
  have hD := hD0.self (sz := s.heap.size)
  generalize hAe : va_A [(df, .inr (1, [.ref dv, .ref do9, .int 0])), (dv, .inl (cF, 24, .inl fv))] s.heap.size = A at hD ⊢
  have hA : ∀ q : Nat, s.heap.size ≤ q → A q := fun q h => by rw [← hAe]; exact Or.inr h
  obtain ⟨H, hH⟩ : ∃ H, H = s.heap := ⟨_, rfl⟩
  have hS : va_S A s.heap H [] := by rw [hH]; exact va_S.rf
  rw [← hH] at hP ⊢
  have hP : va_P (dC, dI) kCl [(df, .inr (1, [.ref dv, .ref do9, .int 0])), (dv, .inl (cF, 24, .inl fv))] H := hP
  have hl := lv_entry ([.ref df]) (n := 1) (Nat.le_of_ble_eq_true rfl)
  rw [lg_entry_eq]
  generalize (lg_sl ([.ref df]) ++ List.replicate (1 - (lg_sl ([.ref df])).length) Slot.unset).toArray = ls at hl ⊢
  have hl : lv_has ls 1 [(0, .ref df)] := hl
  refine lv_aload_n (pc := 0) hx hb dB_clear_0 rfl (lv_at hl 0 rfl) ?_
  refine va_get (D := (dC, dI)) (cl := kCl) (C := RB) (T := TB) (N := 3) (pc := 1) hx hb hts inB hown hK hP 0 rfl rfl 0 (by decide) (hts _ wd_225) (fun _ h9 => h9) rfl dB_clear_1 ?_
  refine lv_iconst (pc := 4) (v := (-1)) hx hb dB_clear_4 (by decide) ?_
  have hPc := hP.sub (ws' := [(dv, .inl (cF, 24, .inl fv))]) [1] rfl
  have hDc := hD.sub (ws' := [(dv, .inl (cF, 24, .inl fv))]) [1] (by decide) rfl
  have hKc := hK.sub (tys' := [(cF, .int)]) [0] rfl
  have hFc := va_free (wc := [(dv, .inl (cF, 24, .inl fv))]) hD hS hA [1] rfl
  refine va_callv (pc := 5) (va_runS (As := [.ref dv, .int (-1)]) (rest := []) ⟨hx, hb, hml, hown, hts⟩ (a_fill l dC dI H.size dv cF fv (-1)) (va_cwS 2 hts (gSU wd_228 wd_229 wd_230 wd_227) rfl rfl rfl (by decide +kernel) ⟨Nat.le_of_ble_eq_true rfl, Nat.le_of_ble_eq_true rfl⟩) ⟨pW_blind, pW_pre hPc hKc hDc⟩ rfl rfl hl.1 rfl (lv_room (Nat.le_of_ble_eq_true rfl)) dB_clear_5 ⟨Nat.le_of_ble_eq_true rfl, Nat.le_of_ble_eq_true rfl⟩) hS (fun q _ h => hFc q h) hFc (fun u3 t H1 locs ht hvm hr2 hB hz1 hk1 hS => ?_)
  obtain ⟨hP1, hK1, hD1⟩ := hB
  rw [ht] at hP1
  have hK1 := va_K.moved hvm.symm hK1
  obtain ⟨hP, hD⟩ := va_join (wr := [(df, .inr (1, [.ref dv, .ref do9, .int 0]))]) (w1 := [(dv, .inl (cF, 24, .inl u3))]) hP hD [1] [0] rfl rfl (by decide) (by decide) hk1 hFc hP1 hD1
  generalize H1 = H at hP hS ⊢
  have hP : va_P (dC, dI) kCl [(df, .inr (1, [.ref dv, .ref do9, .int 0])), (dv, .inl (cF, 24, .inl u3))] H := hP
  have hD : va_D A [(df, .inr (1, [.ref dv, .ref do9, .int 0])), (dv, .inl (cF, 24, .inl u3))] := hD
  refine W.widen (k := 0) (n := 0) (Nat.le_of_ble_eq_true rfl) (Nat.le_of_ble_eq_true rfl) ?_
  refine lv_aload_n (pc := 8) hx hb dB_clear_8 rfl (lv_at hl 0 rfl) ?_
  refine lv_iconst (pc := 9) (v := 0) hx hb dB_clear_9 (by decide) ?_
  refine va_put (D := (dC, dI)) (cl := kCl) (ci := 1) (v := .int 0) (ty := .int) (C := RB) (T := TB) (N := 3) (pc := 10) hx hb hts inB tyB tyB_ok nmB hown hK hP hD hS 0 rfl rfl 2 (by decide) (hts _ wd_260) (fun _ h9 => h9) rfl (by decide +kernel) rfl rfl (Nat.le_of_ble_eq_true rfl) dB_clear_10 (fun H locs hP hD hS => ?_)
  have hP : va_P (dC, dI) kCl [(df, .inr (1, [.ref dv, .ref do9, .int 0])), (dv, .inl (cF, 24, .inl u3))] H := hP
  have hD : va_D A [(df, .inr (1, [.ref dv, .ref do9, .int 0])), (dv, .inl (cF, 24, .inl u3))] := hD
  have hP9 := hP.sub (ws' := [(df, .inr (1, [.ref dv, .ref do9, .int 0])), (dv, .inl (cF, 24, .inl u3))]) [0, 1] rfl
  have hD9 := hD.sub (ws' := [(df, .inr (1, [.ref dv, .ref do9, .int 0])), (dv, .inl (cF, 24, .inl u3))]) [0, 1] (by decide) rfl
  have hK9 := hK.sub (tys' := [(cF, .int)]) [0] rfl
  exact W.vret (pc := 13) hx hb hr (fun t ht hW => ⟨⟨u3, rfl, trivial, by rw [ht]; exact hP9, va_K.moved hW.alike hK9, hD9⟩, hS.F ht⟩) hS.2.2 dB_clear_13
set_option maxHeartbeats 4000000 in
set_option maxRecDepth 100000 in
theorem b_pagesTaken (l : Launch) (dC : Nat → ClassId) (dI : Nat → Nat → Nat) (df : Nat) (dv : Nat) (do9 : Nat) : Met l yB_pagesTaken (.code yB_pagesTaken cB_pagesTaken 1 (some .int) :: aw) ({ frames := 0, cells := 0, slots := 0, locals := 0 }) (pR (dC, dI) [(df, .inr (1, [.ref dv, .ref do9, .int 0]))] [] [.ref df]) (vp_Si (fun r => r = 1)) 0 0 (fun _ => False) := by
  refine Met.ofW (cc := cB_pagesTaken) (maxL := 1) (ret := (some .int)) (by decide) rfl ?_
  intro p e s m args below meth c s₁ B hml hv
  obtain ⟨rfl, hv⟩ := hv
  have hx := B.exec
  have hb := B.bytes
  have hr := B.returns
  have hts : ∀ w ∈ aw, w.before _ s = true := fun w h => atoms_spec (ws := (.code yB_pagesTaken cB_pagesTaken 1 (some .int) :: aw)) B.pre w (List.mem_cons_of_mem _ h)
  have hown : s.vm.findClass RB = some m.cls := findClass_of_methodNamed B.named
  have hlocks := B.notSynchronized
  obtain ⟨hP, hK⟩ := hv
  obtain ⟨H, hH⟩ : ∃ H, H = s.heap := ⟨_, rfl⟩
  rw [← hH] at hP ⊢
  have hl := lv_entry ([.ref df]) (n := 1) (Nat.le_of_ble_eq_true rfl)
  rw [lg_entry_eq]
  generalize (lg_sl ([.ref df]) ++ List.replicate (1 - (lg_sl ([.ref df])).length) Slot.unset).toArray = ls at hl ⊢
  have hl : lv_has ls 1 [(0, .ref df)] := hl
  refine lv_iconst (pc := 0) (v := 1) hx hb dB_pagesTaken_0 (by decide) ?_
  refine lv_aload_n (pc := 1) hx hb dB_pagesTaken_1 rfl (lv_at hl 0 rfl) ?_
  refine va_get (D := (dC, dI)) (cl := kCl) (C := RB) (T := TB) (N := 3) (pc := 2) hx hb hts inB hown hK hP 0 rfl rfl 2 (by decide) (hts _ wd_260) (fun _ h9 => h9) rfl dB_pagesTaken_2 ?_
  refine lv_bipush (pc := 5) (v := 8) hx hb dB_pagesTaken_5 (by decide) ?_
  refine lv_iadd (pc := 7) hx hb dB_pagesTaken_7 ?_
  refine lv_topi (fun z1 hz2 => ?_)
  obtain rfl : z1 = 8 := hz2.trans (by decide)
  refine lv_iconst (pc := 8) (v := 1) hx hb dB_pagesTaken_8 (by decide) ?_
  refine lv_isub (pc := 9) hx hb dB_pagesTaken_9 ?_
  refine lv_topi (fun z3 hz4 => ?_)
  obtain rfl : z3 = 7 := hz4.trans (by decide)
  refine lv_bipush (pc := 10) (v := 8) hx hb dB_pagesTaken_10 (by decide) ?_
  refine lv_idiv (pc := 12) hx hb dB_pagesTaken_12 (by decide) ?_
  refine lv_topi (fun z5 hz6 => ?_)
  obtain rfl : z5 = 0 := hz6.trans (by decide)
  refine lv_iadd (pc := 13) hx hb dB_pagesTaken_13 ?_
  refine lv_topi (fun z7 hz8 => ?_)
  obtain rfl : z7 = 1 := hz8.trans (by decide)
  exact W.iret (pc := 14) hx hb hr (fun t ht hW => ⟨_, rfl, rfl, ht.trans hH⟩) (fun q h => nomatch h) dB_pagesTaken_14
set_option maxHeartbeats 4000000 in
set_option maxRecDepth 100000 in
theorem v_baselineRefusal (l : Launch) (dC : Nat → ClassId) (dI : Nat → Nat → Nat) (sz : Nat) (x : Nat) (rt : Nat) (dr : Nat) (bs : Nat) (df : Nat) (ch : Nat) (pg : Nat) (rs : Int32) (cB : ClassId) (dv : Nat) (do9 : Nat) (cF : ClassId) (fv : Nat → Int32) (nn : Int32) (dd : Int32) : Met l yV_baselineRefusal (.code yV_baselineRefusal cV_baselineRefusal 5 (some .int) :: aw) ({ frames := 2, cells := 0, slots := 0, locals := 43 }) (pW (dC, dI) sz [(x, .inr (0, [.ref rt, .ref dr, .int 0, .int 0, .ref bs, .ref df, .ref ch, .ref pg, .int rs])), (bs, .inl (cB, 10, .inr (.inr (.inr (.inr (fun _ => none)))))), (df, .inr (1, [.ref dv, .ref do9, .int 0])), (dv, .inl (cF, 24, .inl fv))] [(cB, .object "DrawingVault$Baseline"), (cF, .int)] [.ref x, .int nn, .int dd]) (va_Qi (fun r (u9 : Nat → Int32) => r = 7) (fun u9 t => wW (dC, dI) (va_A [(x, .inr (0, [.ref rt, .ref dr, .int 0, .int 0, .ref bs, .ref df, .ref ch, .ref pg, .int rs])), (bs, .inl (cB, 10, .inr (.inr (.inr (.inr (fun _ => none)))))), (df, .inr (1, [.ref dv, .ref do9, .int 0])), (dv, .inl (cF, 24, .inl fv))] sz) [(x, .inr (0, [.ref rt, .ref dr, .int 0, .int 0, .ref bs, .ref df, .ref ch, .ref pg, .int rs])), (bs, .inl (cB, 10, .inr (.inr (.inr (.inr (fun _ => none)))))), (df, .inr (1, [.ref dv, .ref do9, .int 0])), (dv, .inl (cF, 24, .inl u9))] [] t) (va_A [(x, .inr (0, [.ref rt, .ref dr, .int 0, .int 0, .ref bs, .ref df, .ref ch, .ref pg, .int rs])), (bs, .inl (cB, 10, .inr (.inr (.inr (.inr (fun _ => none)))))), (df, .inr (1, [.ref dv, .ref do9, .int 0])), (dv, .inl (cF, 24, .inl fv))] sz)) 0 0 (va_A [(x, .inr (0, [.ref rt, .ref dr, .int 0, .int 0, .ref bs, .ref df, .ref ch, .ref pg, .int rs])), (bs, .inl (cB, 10, .inr (.inr (.inr (.inr (fun _ => none)))))), (df, .inr (1, [.ref dv, .ref do9, .int 0])), (dv, .inl (cF, 24, .inl fv))] sz) := by
  refine Met.ofW (cc := cV_baselineRefusal) (maxL := 5) (ret := (some .int)) (by decide) rfl ?_
  intro p e s m args below meth c s₁ B hml hv
  obtain ⟨rfl, hv⟩ := hv
  have hx := B.exec
  have hb := B.bytes
  have hr := B.returns
  have hts : ∀ w ∈ aw, w.before _ s = true := fun w h => atoms_spec (ws := (.code yV_baselineRefusal cV_baselineRefusal 5 (some .int) :: aw)) B.pre w (List.mem_cons_of_mem _ h)
  have hown : s.vm.findClass RV = some m.cls := findClass_of_methodNamed B.named
  have hlocks := B.notSynchronized
  obtain ⟨hsz, hP, hK, hD0⟩ := hv
  subst hsz
  have hD := hD0.self (sz := s.heap.size)
  generalize hAe : va_A [(x, .inr (0, [.ref rt, .ref dr, .int 0, .int 0, .ref bs, .ref df, .ref ch, .ref pg, .int rs])), (bs, .inl (cB, 10, .inr (.inr (.inr (.inr (fun _ => none)))))), (df, .inr (1, [.ref dv, .ref do9, .int 0])), (dv, .inl (cF, 24, .inl fv))] s.heap.size = A at hD ⊢
  have hA : ∀ q : Nat, s.heap.size ≤ q → A q := fun q h => by rw [← hAe]; exact Or.inr h
  obtain ⟨H, hH⟩ : ∃ H, H = s.heap := ⟨_, rfl⟩
  have hS : va_S A s.heap H [] := by rw [hH]; exact va_S.rf
  rw [← hH] at hP ⊢
  have hP : va_P (dC, dI) kCl [(x, .inr (0, [.ref rt, .ref dr, .int 0, .int 0, .ref bs, .ref df, .ref ch, .ref pg, .int rs])), (bs, .inl (cB, 10, .inr (.inr (.inr (.inr (fun _ => none)))))), (df, .inr (1, [.ref dv, .ref do9, .int 0])), (dv, .inl (cF, 24, .inl fv))] H := hP
  have hl := lv_entry ([.ref x, .int nn, .int dd]) (n := 5) (Nat.le_of_ble_eq_true rfl)
  rw [lg_entry_eq]
  generalize (lg_sl ([.ref x, .int nn, .int dd]) ++ List.replicate (5 - (lg_sl ([.ref x, .int nn, .int dd])).length) Slot.unset).toArray = ls at hl ⊢
  have hl : lv_has ls 5 [(0, .ref x), (1, .int nn), (2, .int dd)] := hl
  refine lv_aload_n (pc := 0) hx hb dV_baselineRefusal_0 rfl (lv_at hl 0 rfl) ?_
  refine lv_iload_n (pc := 1) hx hb dV_baselineRefusal_1 rfl (lv_at hl 2 rfl) ?_
  refine va_csq (pc := 2) (W.runV (As := [.int dd]) (rest := []) ⟨hx, hb, hml, hown, hts⟩ (v_drawingAt l dC dI x rt dr bs df ch pg rs dd) (cwV 1 hts (gV wd_41 wd_42 wd_43 wd_35 wd_40) rfl rfl rfl (by decide +kernel) ⟨Nat.le_of_ble_eq_true rfl, Nat.le_of_ble_eq_true rfl⟩) ⟨pR_blind, va_recv (q := (RV, TV, 9)) (q0 := 0) (ci := 0) hK hP rfl rfl, pR_pre (hP.sub (ws' := [(x, .inr (0, [.ref rt, .ref dr, .int 0, .int 0, .ref bs, .ref df, .ref ch, .ref pg, .int rs]))]) [0] rfl) (hK.sub (tys' := []) [] rfl)⟩ rfl rfl hl.1 rfl (lv_room (Nat.le_of_ble_eq_true rfl)) dV_baselineRefusal_2 ⟨Nat.le_of_ble_eq_true rfl, Nat.le_of_ble_eq_true rfl⟩) (fun r1 hr2 => ?_)
  obtain rfl : r1 = none := hr2
  refine W.eq (g2 := F0 m 5 ls [.null]) rfl ?_
  refine lv_astore_nN (pc := 5) hx hb dV_baselineRefusal_5 rfl hl (by decide) rfl (fun ls hl => ?_)
  have hl : lv_has ls 5 [(3, .null), (0, .ref x), (1, .int nn), (2, .int dd)] := hl
  refine lv_aload_n (pc := 6) hx hb dV_baselineRefusal_6 rfl (lv_at hl 1 rfl) ?_
  refine va_get (D := (dC, dI)) (cl := kCl) (C := RV) (T := TV) (N := 9) (pc := 7) hx hb hts inV hown hK hP 0 rfl rfl 5 (by decide) (hts _ wd_246) (fun _ h9 => h9) rfl dV_baselineRefusal_7 ?_
  have hPc := hP.sub (ws' := [(df, .inr (1, [.ref dv, .ref do9, .int 0])), (dv, .inl (cF, 24, .inl fv))]) [2, 3] rfl
  have hDc := hD.sub (ws' := [(df, .inr (1, [.ref dv, .ref do9, .int 0])), (dv, .inl (cF, 24, .inl fv))]) [2, 3] (by decide) rfl
  have hKc := hK.sub (tys' := [(cF, .int)]) [1] rfl
  have hFc := va_free (wc := [(df, .inr (1, [.ref dv, .ref do9, .int 0])), (dv, .inl (cF, 24, .inl fv))]) hD hS hA [2, 3] rfl
  refine va_callv (pc := 10) (va_runV (As := []) (rest := []) ⟨hx, hb, hml, hown, hts⟩ (b_clear l dC dI H.size df dv do9 cF fv) (cwV 0 hts (gV wd_262 wd_263 wd_264 wd_242 wd_261) rfl rfl rfl (by decide +kernel) ⟨Nat.le_of_ble_eq_true rfl, Nat.le_of_ble_eq_true rfl⟩) ⟨pW_blind, va_recv (q := (RB, TB, 3)) (q0 := 2) (ci := 1) hK hP rfl rfl, pW_pre hPc hKc hDc⟩ rfl rfl hl.1 rfl (lv_room (Nat.le_of_ble_eq_true rfl)) dV_baselineRefusal_10 ⟨Nat.le_of_ble_eq_true rfl, Nat.le_of_ble_eq_true rfl⟩) hS (fun q _ h => hFc q h) hFc (fun u5 t H1 locs ht hvm hr4 hB hz1 hk1 hS => ?_)
  obtain ⟨hP1, hK1, hD1⟩ := hB
  rw [ht] at hP1
  have hK1 := va_K.moved hvm.symm hK1
  obtain ⟨hP, hD⟩ := va_join (wr := [(x, .inr (0, [.ref rt, .ref dr, .int 0, .int 0, .ref bs, .ref df, .ref ch, .ref pg, .int rs])), (bs, .inl (cB, 10, .inr (.inr (.inr (.inr (fun _ => none))))))]) (w1 := [(df, .inr (1, [.ref dv, .ref do9, .int 0])), (dv, .inl (cF, 24, .inl u5))]) hP hD [2, 3] [0, 1] rfl rfl (by decide) (by decide) hk1 hFc hP1 hD1
  generalize H1 = H at hP hS ⊢
  have hP : va_P (dC, dI) kCl [(x, .inr (0, [.ref rt, .ref dr, .int 0, .int 0, .ref bs, .ref df, .ref ch, .ref pg, .int rs])), (bs, .inl (cB, 10, .inr (.inr (.inr (.inr (fun _ => none)))))), (df, .inr (1, [.ref dv, .ref do9, .int 0])), (dv, .inl (cF, 24, .inl u5))] H := hP
  have hD : va_D A [(x, .inr (0, [.ref rt, .ref dr, .int 0, .int 0, .ref bs, .ref df, .ref ch, .ref pg, .int rs])), (bs, .inl (cB, 10, .inr (.inr (.inr (.inr (fun _ => none)))))), (df, .inr (1, [.ref dv, .ref do9, .int 0])), (dv, .inl (cF, 24, .inl u5))] := hD
  refine W.widen (k := 0) (n := 0) (Nat.le_of_ble_eq_true rfl) (Nat.le_of_ble_eq_true rfl) ?_
  refine lv_aload_n (pc := 13) hx hb dV_baselineRefusal_13 rfl (lv_at hl 1 rfl) ?_
  refine lv_iload_n (pc := 14) hx hb dV_baselineRefusal_14 rfl (lv_at hl 2 rfl) ?_
  refine va_csq (pc := 15) (W.runV (As := [.int nn]) (rest := []) ⟨hx, hb, hml, hown, hts⟩ (v_baselineAt l dC dI x rt dr bs df ch pg rs cB nn) (cwV 1 hts (gV wd_266 wd_267 wd_268 wd_35 wd_265) rfl rfl rfl (by decide +kernel) ⟨Nat.le_of_ble_eq_true rfl, Nat.le_of_ble_eq_true rfl⟩) ⟨pR_blind, va_recv (q := (RV, TV, 9)) (q0 := 0) (ci := 0) hK hP rfl rfl, pR_pre (hP.sub (ws' := [(x, .inr (0, [.ref rt, .ref dr, .int 0, .int 0, .ref bs, .ref df, .ref ch, .ref pg, .int rs])), (bs, .inl (cB, 10, .inr (.inr (.inr (.inr (fun _ => none))))))]) [0, 1] rfl) (hK.sub (tys' := [(cB, .object "DrawingVault$Baseline")]) [0] rfl)⟩ rfl rfl hl.1 rfl (lv_room (Nat.le_of_ble_eq_true rfl)) dV_baselineRefusal_15 ⟨Nat.le_of_ble_eq_true rfl, Nat.le_of_ble_eq_true rfl⟩) (fun r7 hr8 => ?_)
  obtain rfl : r7 = none := hr8
  refine W.eq (g2 := F0 m 18 ls [.null]) rfl ?_
  refine lv_ifnullN (pc := 18) (tgt := 23) hx hb dV_baselineRefusal_18 rfl ?_
  refine lv_aload_nN (pc := 23) hx hb dV_baselineRefusal_23 rfl (lv_at hl 0 rfl) ?_
  refine lv_ifnonnullN (pc := 24) hx hb dV_baselineRefusal_24 ?_
  refine lv_bipush (pc := 27) (v := 7) hx hb dV_baselineRefusal_27 (by decide) ?_
  have hP9 := hP.sub (ws' := [(x, .inr (0, [.ref rt, .ref dr, .int 0, .int 0, .ref bs, .ref df, .ref ch, .ref pg, .int rs])), (bs, .inl (cB, 10, .inr (.inr (.inr (.inr (fun _ => none)))))), (df, .inr (1, [.ref dv, .ref do9, .int 0])), (dv, .inl (cF, 24, .inl u5))]) [0, 1, 2, 3] rfl
  have hD9 := hD.sub (ws' := [(x, .inr (0, [.ref rt, .ref dr, .int 0, .int 0, .ref bs, .ref df, .ref ch, .ref pg, .int rs])), (bs, .inl (cB, 10, .inr (.inr (.inr (.inr (fun _ => none)))))), (df, .inr (1, [.ref dv, .ref do9, .int 0])), (dv, .inl (cF, 24, .inl u5))]) [0, 1, 2, 3] (by decide) rfl
  have hK9 := hK.sub (tys' := []) [] rfl
  exact W.iret (pc := 29) hx hb hr (fun t ht hW => ⟨⟨_, u5, rfl, rfl, by rw [ht]; exact hP9, va_K.moved hW.alike hK9, hD9⟩, hS.F ht⟩) hS.2.2 dV_baselineRefusal_29
set_option maxHeartbeats 4000000 in
set_option maxRecDepth 100000 in
theorem v_baseline (l : Launch) (dC : Nat → ClassId) (dI : Nat → Nat → Nat) (sz : Nat) (x : Nat) (rt : Nat) (dr : Nat) (bs : Nat) (df : Nat) (ch : Nat) (pg : Nat) (rs : Int32) (cB : ClassId) (dv : Nat) (do9 : Nat) (cF : ClassId) (fv : Nat → Int32) (nn : Int32) (dd : Int32) : Met l yV_baseline (.code yV_baseline cV_baseline 6 (some .int) :: aw) ({ frames := 3, cells := 0, slots := 0, locals := 67 }) (pW (dC, dI) sz [(x, .inr (0, [.ref rt, .ref dr, .int 0, .int 0, .ref bs, .ref df, .ref ch, .ref pg, .int rs])), (pg, .inr (3, [.int 400, .int 0, .int 0, .int 0, .int 0, .int 0])), (bs, .inl (cB, 10, .inr (.inr (.inr (.inr (fun _ => none)))))), (df, .inr (1, [.ref dv, .ref do9, .int 0])), (dv, .inl (cF, 24, .inl fv))] [(cB, .object "DrawingVault$Baseline"), (cF, .int)] [.ref x, .int nn, .int dd]) (va_Qi (fun r (_ : Unit) => r = (-1)) (fun _ t => wW (dC, dI) (va_A [(x, .inr (0, [.ref rt, .ref dr, .int 0, .int 0, .ref bs, .ref df, .ref ch, .ref pg, .int rs])), (pg, .inr (3, [.int 400, .int 0, .int 0, .int 0, .int 0, .int 0])), (bs, .inl (cB, 10, .inr (.inr (.inr (.inr (fun _ => none)))))), (df, .inr (1, [.ref dv, .ref do9, .int 0])), (dv, .inl (cF, 24, .inl fv))] sz) [] [] t) (va_A [(x, .inr (0, [.ref rt, .ref dr, .int 0, .int 0, .ref bs, .ref df, .ref ch, .ref pg, .int rs])), (pg, .inr (3, [.int 400, .int 0, .int 0, .int 0, .int 0, .int 0])), (bs, .inl (cB, 10, .inr (.inr (.inr (.inr (fun _ => none)))))), (df, .inr (1, [.ref dv, .ref do9, .int 0])), (dv, .inl (cF, 24, .inl fv))] sz)) 0 0 (va_A [(x, .inr (0, [.ref rt, .ref dr, .int 0, .int 0, .ref bs, .ref df, .ref ch, .ref pg, .int rs])), (pg, .inr (3, [.int 400, .int 0, .int 0, .int 0, .int 0, .int 0])), (bs, .inl (cB, 10, .inr (.inr (.inr (.inr (fun _ => none)))))), (df, .inr (1, [.ref dv, .ref do9, .int 0])), (dv, .inl (cF, 24, .inl fv))] sz) := by
  refine Met.ofW (cc := cV_baseline) (maxL := 6) (ret := (some .int)) (by decide) rfl ?_
  intro p e s m args below meth c s₁ B hml hv
  obtain ⟨rfl, hv⟩ := hv
  have hx := B.exec
  have hb := B.bytes
  have hr := B.returns
  have hts : ∀ w ∈ aw, w.before _ s = true := fun w h => atoms_spec (ws := (.code yV_baseline cV_baseline 6 (some .int) :: aw)) B.pre w (List.mem_cons_of_mem _ h)
  have hown : s.vm.findClass RV = some m.cls := findClass_of_methodNamed B.named
  have hlocks := B.notSynchronized
  obtain ⟨hsz, hP, hK, hD0⟩ := hv
  subst hsz
  have hD := hD0.self (sz := s.heap.size)
  generalize hAe : va_A [(x, .inr (0, [.ref rt, .ref dr, .int 0, .int 0, .ref bs, .ref df, .ref ch, .ref pg, .int rs])), (pg, .inr (3, [.int 400, .int 0, .int 0, .int 0, .int 0, .int 0])), (bs, .inl (cB, 10, .inr (.inr (.inr (.inr (fun _ => none)))))), (df, .inr (1, [.ref dv, .ref do9, .int 0])), (dv, .inl (cF, 24, .inl fv))] s.heap.size = A at hD ⊢
  have hA : ∀ q : Nat, s.heap.size ≤ q → A q := fun q h => by rw [← hAe]; exact Or.inr h
  obtain ⟨H, hH⟩ : ∃ H, H = s.heap := ⟨_, rfl⟩
  have hS : va_S A s.heap H [] := by rw [hH]; exact va_S.rf
  rw [← hH] at hP ⊢
  have hP : va_P (dC, dI) kCl [(x, .inr (0, [.ref rt, .ref dr, .int 0, .int 0, .ref bs, .ref df, .ref ch, .ref pg, .int rs])), (pg, .inr (3, [.int 400, .int 0, .int 0, .int 0, .int 0, .int 0])), (bs, .inl (cB, 10, .inr (.inr (.inr (.inr (fun _ => none)))))), (df, .inr (1, [.ref dv, .ref do9, .int 0])), (dv, .inl (cF, 24, .inl fv))] H := hP
  have hl := lv_entry ([.ref x, .int nn, .int dd]) (n := 6) (Nat.le_of_ble_eq_true rfl)
  rw [lg_entry_eq]
  generalize (lg_sl ([.ref x, .int nn, .int dd]) ++ List.replicate (6 - (lg_sl ([.ref x, .int nn, .int dd])).length) Slot.unset).toArray = ls at hl ⊢
  have hl : lv_has ls 6 [(0, .ref x), (1, .int nn), (2, .int dd)] := hl
  refine lv_aload_n (pc := 0) hx hb dV_baseline_0 rfl (lv_at hl 0 rfl) ?_
  refine va_csv (pc := 1) (W.runV (As := []) (rest := []) ⟨hx, hb, hml, hown, hts⟩ (v_needPower l dC dI x rt dr bs df ch pg rs) (cwV 0 hts (gV wd_70 wd_71 wd_72 wd_35 wd_69) rfl rfl rfl (by decide +kernel) ⟨Nat.le_of_ble_eq_true rfl, Nat.le_of_ble_eq_true rfl⟩) ⟨pR_blind, va_recv (q := (RV, TV, 9)) (q0 := 0) (ci := 0) hK hP rfl rfl, pR_pre (hP.sub (ws' := [(x, .inr (0, [.ref rt, .ref dr, .int 0, .int 0, .ref bs, .ref df, .ref ch, .ref pg, .int rs])), (pg, .inr (3, [.int 400, .int 0, .int 0, .int 0, .int 0, .int 0]))]) [0, 1] rfl) (hK.sub (tys' := []) [] rfl)⟩ rfl rfl hl.1 rfl (lv_room (Nat.le_of_ble_eq_true rfl)) dV_baseline_1 ⟨Nat.le_of_ble_eq_true rfl, Nat.le_of_ble_eq_true rfl⟩) (fun hr2 => ?_)
  refine lv_aload_n (pc := 4) hx hb dV_baseline_4 rfl (lv_at hl 0 rfl) ?_
  refine lv_iload_n (pc := 5) hx hb dV_baseline_5 rfl (lv_at hl 1 rfl) ?_
  refine lv_iload_n (pc := 6) hx hb dV_baseline_6 rfl (lv_at hl 2 rfl) ?_
  have hPc := hP.sub (ws' := [(x, .inr (0, [.ref rt, .ref dr, .int 0, .int 0, .ref bs, .ref df, .ref ch, .ref pg, .int rs])), (bs, .inl (cB, 10, .inr (.inr (.inr (.inr (fun _ => none)))))), (df, .inr (1, [.ref dv, .ref do9, .int 0])), (dv, .inl (cF, 24, .inl fv))]) [0, 2, 3, 4] rfl
  have hDc := hD.sub (ws' := [(x, .inr (0, [.ref rt, .ref dr, .int 0, .int 0, .ref bs, .ref df, .ref ch, .ref pg, .int rs])), (bs, .inl (cB, 10, .inr (.inr (.inr (.inr (fun _ => none)))))), (df, .inr (1, [.ref dv, .ref do9, .int 0])), (dv, .inl (cF, 24, .inl fv))]) [0, 2, 3, 4] (by decide) rfl
  have hKc := hK.sub (tys' := [(cB, .object "DrawingVault$Baseline"), (cF, .int)]) [0, 1] rfl
  have hFc := va_free (wc := [(x, .inr (0, [.ref rt, .ref dr, .int 0, .int 0, .ref bs, .ref df, .ref ch, .ref pg, .int rs])), (bs, .inl (cB, 10, .inr (.inr (.inr (.inr (fun _ => none)))))), (df, .inr (1, [.ref dv, .ref do9, .int 0])), (dv, .inl (cF, 24, .inl fv))]) hD hS hA [0, 2, 3, 4] rfl
  refine va_calli (pc := 7) (va_runV (As := [.int nn, .int dd]) (rest := []) ⟨hx, hb, hml, hown, hts⟩ (v_baselineRefusal l dC dI H.size x rt dr bs df ch pg rs cB dv do9 cF fv nn dd) (cwV 2 hts (gV wd_270 wd_271 wd_272 wd_35 wd_269) rfl rfl rfl (by decide +kernel) ⟨Nat.le_of_ble_eq_true rfl, Nat.le_of_ble_eq_true rfl⟩) ⟨pW_blind, va_recv (q := (RV, TV, 9)) (q0 := 0) (ci := 0) hK hP rfl rfl, pW_pre hPc hKc hDc⟩ rfl rfl hl.1 rfl (lv_room (Nat.le_of_ble_eq_true rfl)) dV_baseline_7 ⟨Nat.le_of_ble_eq_true rfl, Nat.le_of_ble_eq_true rfl⟩) hS (fun q _ h => hFc q h) hFc (fun r3 u5 t H1 locs ht hvm hr4 hB hz1 hk1 hS => ?_)
  obtain ⟨hP1, hK1, hD1⟩ := hB
  rw [ht] at hP1
  have hK1 := va_K.moved hvm.symm hK1
  obtain ⟨hP, hD⟩ := va_join (wr := [(pg, .inr (3, [.int 400, .int 0, .int 0, .int 0, .int 0, .int 0]))]) (w1 := [(x, .inr (0, [.ref rt, .ref dr, .int 0, .int 0, .ref bs, .ref df, .ref ch, .ref pg, .int rs])), (bs, .inl (cB, 10, .inr (.inr (.inr (.inr (fun _ => none)))))), (df, .inr (1, [.ref dv, .ref do9, .int 0])), (dv, .inl (cF, 24, .inl u5))]) hP hD [0, 2, 3, 4] [1] rfl rfl (by decide) (by decide) hk1 hFc hP1 hD1
  generalize H1 = H at hP hS ⊢
  have hP : va_P (dC, dI) kCl [(pg, .inr (3, [.int 400, .int 0, .int 0, .int 0, .int 0, .int 0])), (x, .inr (0, [.ref rt, .ref dr, .int 0, .int 0, .ref bs, .ref df, .ref ch, .ref pg, .int rs])), (bs, .inl (cB, 10, .inr (.inr (.inr (.inr (fun _ => none)))))), (df, .inr (1, [.ref dv, .ref do9, .int 0])), (dv, .inl (cF, 24, .inl u5))] H := hP
  have hD : va_D A [(pg, .inr (3, [.int 400, .int 0, .int 0, .int 0, .int 0, .int 0])), (x, .inr (0, [.ref rt, .ref dr, .int 0, .int 0, .ref bs, .ref df, .ref ch, .ref pg, .int rs])), (bs, .inl (cB, 10, .inr (.inr (.inr (.inr (fun _ => none)))))), (df, .inr (1, [.ref dv, .ref do9, .int 0])), (dv, .inl (cF, 24, .inl u5))] := hD
  refine W.widen (k := 0) (n := 0) (Nat.le_of_ble_eq_true rfl) (Nat.le_of_ble_eq_true rfl) ?_
  obtain rfl : r3 = 7 := hr4
  refine lv_istore_n (pc := 10) hx hb dV_baseline_10 rfl hl (by decide) rfl (fun ls hl => ?_)
  have hl : lv_has ls 6 [(3, .int 7), (0, .ref x), (1, .int nn), (2, .int dd)] := hl
  refine lv_aload_n (pc := 11) hx hb dV_baseline_11 rfl (lv_at hl 1 rfl) ?_
  refine va_get (D := (dC, dI)) (cl := kCl) (C := RV) (T := TV) (N := 9) (pc := 12) hx hb hts inV hown hK hP 1 rfl rfl 5 (by decide) (hts _ wd_246) (fun _ h9 => h9) rfl dV_baseline_12 ?_
  refine vp_callSi (pc := 15) (W.runV (As := []) (rest := []) ⟨hx, hb, hml, hown, hts⟩ (b_pagesTaken l dC dI df dv do9) (cwV 0 hts (gV wd_274 wd_275 wd_276 wd_242 wd_273) rfl rfl rfl (by decide +kernel) ⟨Nat.le_of_ble_eq_true rfl, Nat.le_of_ble_eq_true rfl⟩) ⟨pR_blind, va_recv (q := (RB, TB, 3)) (q0 := 3) (ci := 1) hK hP rfl rfl, pR_pre (hP.sub (ws' := [(df, .inr (1, [.ref dv, .ref do9, .int 0]))]) [3] rfl) (hK.sub (tys' := []) [] rfl)⟩ rfl rfl hl.1 rfl (lv_room (Nat.le_of_ble_eq_true rfl)) dV_baseline_15 ⟨Nat.le_of_ble_eq_true rfl, Nat.le_of_ble_eq_true rfl⟩) (fun r7 hr8 => ?_)
  obtain rfl : r7 = 1 := hr8
  refine lv_istore (pc := 18) hx hb dV_baseline_18 hl (by decide) rfl (fun ls hl => ?_)
  have hl : lv_has ls 6 [(4, .int 1), (3, .int 7), (0, .ref x), (1, .int nn), (2, .int dd)] := hl
  refine lv_aload_n (pc := 20) hx hb dV_baseline_20 rfl (lv_at hl 2 rfl) ?_
  refine lv_iload_n (pc := 21) hx hb dV_baseline_21 rfl (lv_at hl 1 rfl) ?_
  refine lv_iload (pc := 22) hx hb dV_baseline_22 (lv_at hl 0 rfl) ?_
  have hPc := hP.sub (ws' := [(x, .inr (0, [.ref rt, .ref dr, .int 0, .int 0, .ref bs, .ref df, .ref ch, .ref pg, .int rs]))]) [1] rfl
  have hDc := hD.sub (ws' := [(x, .inr (0, [.ref rt, .ref dr, .int 0, .int 0, .ref bs, .ref df, .ref ch, .ref pg, .int rs]))]) [1] (by decide) rfl
  have hKc := hK.sub (tys' := []) [] rfl
  have hFc := va_free (wc := [(x, .inr (0, [.ref rt, .ref dr, .int 0, .int 0, .ref bs, .ref df, .ref ch, .ref pg, .int rs]))]) hD hS hA [1] rfl
  refine va_calli (pc := 24) (va_runV (As := [.int 7, .int 1]) (rest := []) ⟨hx, hb, hml, hown, hts⟩ (v_mayWrite l dC dI H.size x rt dr bs df ch pg rs 7 1 (by decide)) (cwV 2 hts (gV wd_66 wd_67 wd_68 wd_35 wd_65) rfl rfl rfl (by decide +kernel) ⟨Nat.le_of_ble_eq_true rfl, Nat.le_of_ble_eq_true rfl⟩) ⟨pW_blind, va_recv (q := (RV, TV, 9)) (q0 := 1) (ci := 0) hK hP rfl rfl, pW_pre hPc hKc hDc⟩ rfl rfl hl.1 rfl (lv_room (Nat.le_of_ble_eq_true rfl)) dV_baseline_24 ⟨Nat.le_of_ble_eq_true rfl, Nat.le_of_ble_eq_true rfl⟩) hS (fun q _ h => hFc q h) hFc (fun r9 u t H1 locs ht hvm hr10 hB hz1 hk1 hS => ?_)
  obtain ⟨hP1, hK1, hD1⟩ := hB
  rw [ht] at hP1
  have hK1 := va_K.moved hvm.symm hK1
  obtain ⟨hP, hD⟩ := va_join (wr := [(pg, .inr (3, [.int 400, .int 0, .int 0, .int 0, .int 0, .int 0])), (bs, .inl (cB, 10, .inr (.inr (.inr (.inr (fun _ => none)))))), (df, .inr (1, [.ref dv, .ref do9, .int 0])), (dv, .inl (cF, 24, .inl u5))]) (w1 := [(x, .inr (0, [.ref rt, .ref dr, .int 0, .int 0, .ref bs, .ref df, .ref ch, .ref pg, .int 7]))]) hP hD [1] [0, 2, 3, 4] rfl rfl (by decide) (by decide) hk1 hFc hP1 hD1
  generalize H1 = H at hP hS ⊢
  have hP : va_P (dC, dI) kCl [(pg, .inr (3, [.int 400, .int 0, .int 0, .int 0, .int 0, .int 0])), (bs, .inl (cB, 10, .inr (.inr (.inr (.inr (fun _ => none)))))), (df, .inr (1, [.ref dv, .ref do9, .int 0])), (dv, .inl (cF, 24, .inl u5)), (x, .inr (0, [.ref rt, .ref dr, .int 0, .int 0, .ref bs, .ref df, .ref ch, .ref pg, .int 7]))] H := hP
  have hD : va_D A [(pg, .inr (3, [.int 400, .int 0, .int 0, .int 0, .int 0, .int 0])), (bs, .inl (cB, 10, .inr (.inr (.inr (.inr (fun _ => none)))))), (df, .inr (1, [.ref dv, .ref do9, .int 0])), (dv, .inl (cF, 24, .inl u5)), (x, .inr (0, [.ref rt, .ref dr, .int 0, .int 0, .ref bs, .ref df, .ref ch, .ref pg, .int 7]))] := hD
  refine W.widen (k := 0) (n := 0) (Nat.le_of_ble_eq_true rfl) (Nat.le_of_ble_eq_true rfl) ?_
  obtain rfl : r9 = 0 := hr10
  refine lv_if_ne (pc := 27) (tgt := 32) hx hb dV_baseline_27 rfl (fun h12 => absurd h12 (by decide)) (fun h12 => ?_)
  refine lv_iconst (pc := 30) (v := (-1)) hx hb dV_baseline_30 (by decide) ?_
  have hP9 := hP.sub (ws' := []) [] rfl
  have hD9 := hD.sub (ws' := []) [] (by decide) rfl
  have hK9 := hK.sub (tys' := []) [] rfl
  exact W.iret (pc := 31) hx hb hr (fun t ht hW => ⟨⟨_, (), rfl, rfl, by rw [ht]; exact hP9, va_K.moved hW.alike hK9, hD9⟩, hS.F ht⟩) hS.2.2 dV_baseline_31
end
