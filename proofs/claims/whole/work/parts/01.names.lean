-- ===== PART A: goes FIRST, ahead of the names: the tables' words, and 'selects' of the private methods out of them =====
/-- a private method of a class that the tables say can be made, by its rows of tables_1 -/
def lw_okq (q : MethodName × Nat) : Prop := (q.1.cls ≠ "java/lang/invoke/MethodHandle" ∧ q.1.cls ≠ "java/lang/invoke/VarHandle") ∧ Cond.instantiable q.1.cls q.2 ∈ tables_1 ∧ Cond.privateMethod q.1 ∈ tables_1 ∧ Cond.instanceMethod q.1 ∈ tables_1
theorem lw_p0 : lw_okq (⟨"StickyRoutes", "refuse", "(I)I"⟩, 9) := ⟨⟨by decide +kernel, by decide +kernel⟩, List.mem_of_getElem? (i := 8) (by decide +kernel), List.mem_of_getElem? (i := 155) (by decide +kernel), List.mem_of_getElem? (i := 156) (by decide +kernel)⟩
theorem lw_p1 : lw_okq (⟨"StickyRoutes", "keepState", "()V"⟩, 9) := ⟨⟨by decide +kernel, by decide +kernel⟩, List.mem_of_getElem? (i := 8) (by decide +kernel), List.mem_of_getElem? (i := 159) (by decide +kernel), List.mem_of_getElem? (i := 160) (by decide +kernel)⟩
theorem lw_p2 : lw_okq (⟨"StickyRoutes", "isPair", "(II)Z"⟩, 9) := ⟨⟨by decide +kernel, by decide +kernel⟩, List.mem_of_getElem? (i := 8) (by decide +kernel), List.mem_of_getElem? (i := 175) (by decide +kernel), List.mem_of_getElem? (i := 176) (by decide +kernel)⟩
theorem lw_p3 : lw_okq (⟨"StickyRoutes$Net", "count", "(II)V"⟩, 13) := ⟨⟨by decide +kernel, by decide +kernel⟩, List.mem_of_getElem? (i := 16) (by decide +kernel), List.mem_of_getElem? (i := 226) (by decide +kernel), List.mem_of_getElem? (i := 227) (by decide +kernel)⟩
theorem lw_p4 : lw_okq (⟨"StickyRoutes$Net", "servesOver", "(I)Z"⟩, 13) := ⟨⟨by decide +kernel, by decide +kernel⟩, List.mem_of_getElem? (i := 16) (by decide +kernel), List.mem_of_getElem? (i := 235) (by decide +kernel), List.mem_of_getElem? (i := 236) (by decide +kernel)⟩
theorem lw_p5 : lw_okq (⟨"StickyRoutes$Net", "redraw", "(II)V"⟩, 13) := ⟨⟨by decide +kernel, by decide +kernel⟩, List.mem_of_getElem? (i := 16) (by decide +kernel), List.mem_of_getElem? (i := 239) (by decide +kernel), List.mem_of_getElem? (i := 240) (by decide +kernel)⟩
theorem lw_p6 : lw_okq (⟨"StickyRoutes$Net", "advanceX", "()V"⟩, 13) := ⟨⟨by decide +kernel, by decide +kernel⟩, List.mem_of_getElem? (i := 16) (by decide +kernel), List.mem_of_getElem? (i := 243) (by decide +kernel), List.mem_of_getElem? (i := 244) (by decide +kernel)⟩
theorem lw_p7 : lw_okq (⟨"StickyRoutes$Net", "addCall", "(IIII)I"⟩, 13) := ⟨⟨by decide +kernel, by decide +kernel⟩, List.mem_of_getElem? (i := 16) (by decide +kernel), List.mem_of_getElem? (i := 257) (by decide +kernel), List.mem_of_getElem? (i := 258) (by decide +kernel)⟩
theorem lw_p8 : lw_okq (⟨"StickyRoutes$Net", "hold", "(II)V"⟩, 13) := ⟨⟨by decide +kernel, by decide +kernel⟩, List.mem_of_getElem? (i := 16) (by decide +kernel), List.mem_of_getElem? (i := 261) (by decide +kernel), List.mem_of_getElem? (i := 262) (by decide +kernel)⟩
theorem lw_p9 : lw_okq (⟨"StickyRoutes$Net", "endHour", "()I"⟩, 13) := ⟨⟨by decide +kernel, by decide +kernel⟩, List.mem_of_getElem? (i := 16) (by decide +kernel), List.mem_of_getElem? (i := 273) (by decide +kernel), List.mem_of_getElem? (i := 274) (by decide +kernel)⟩
theorem lw_p10 : lw_okq (⟨"StickyRoutes$Net", "moveCall", "(II)V"⟩, 13) := ⟨⟨by decide +kernel, by decide +kernel⟩, List.mem_of_getElem? (i := 16) (by decide +kernel), List.mem_of_getElem? (i := 277) (by decide +kernel), List.mem_of_getElem? (i := 278) (by decide +kernel)⟩
theorem lw_p11 : lw_okq (⟨"StickyRoutes$Net", "askByPlan", "()V"⟩, 13) := ⟨⟨by decide +kernel, by decide +kernel⟩, List.mem_of_getElem? (i := 16) (by decide +kernel), List.mem_of_getElem? (i := 284) (by decide +kernel), List.mem_of_getElem? (i := 285) (by decide +kernel)⟩
theorem lw_p12 : lw_okq (⟨"StickyRoutes", "refusedWith", "(III)I"⟩, 9) := ⟨⟨by decide +kernel, by decide +kernel⟩, List.mem_of_getElem? (i := 8) (by decide +kernel), List.mem_of_getElem? (i := 339) (by decide +kernel), List.mem_of_getElem? (i := 340) (by decide +kernel)⟩
theorem lw_p13 : lw_okq (⟨"StickyRoutes$Text", "skipBlanks", "()V"⟩, 7) := ⟨⟨by decide +kernel, by decide +kernel⟩, List.mem_of_getElem? (i := 89) (by decide +kernel), List.mem_of_getElem? (i := 376) (by decide +kernel), List.mem_of_getElem? (i := 377) (by decide +kernel)⟩
theorem lw_p14 : lw_okq (⟨"StickyRoutes$Text", "readOrder", "(I)V"⟩, 7) := ⟨⟨by decide +kernel, by decide +kernel⟩, List.mem_of_getElem? (i := 89) (by decide +kernel), List.mem_of_getElem? (i := 380) (by decide +kernel), List.mem_of_getElem? (i := 381) (by decide +kernel)⟩
theorem lw_p15 : lw_okq (⟨"StickyRoutes$Text", "readKind", "()I"⟩, 7) := ⟨⟨by decide +kernel, by decide +kernel⟩, List.mem_of_getElem? (i := 89) (by decide +kernel), List.mem_of_getElem? (i := 384) (by decide +kernel), List.mem_of_getElem? (i := 385) (by decide +kernel)⟩
def lw_privs_1 : List (MethodName × Nat) := [(⟨"StickyRoutes", "refuse", "(I)I"⟩, 9), (⟨"StickyRoutes", "keepState", "()V"⟩, 9), (⟨"StickyRoutes", "isPair", "(II)Z"⟩, 9), (⟨"StickyRoutes$Net", "count", "(II)V"⟩, 13), (⟨"StickyRoutes$Net", "servesOver", "(I)Z"⟩, 13), (⟨"StickyRoutes$Net", "redraw", "(II)V"⟩, 13), (⟨"StickyRoutes$Net", "advanceX", "()V"⟩, 13), (⟨"StickyRoutes$Net", "addCall", "(IIII)I"⟩, 13), (⟨"StickyRoutes$Net", "hold", "(II)V"⟩, 13), (⟨"StickyRoutes$Net", "endHour", "()I"⟩, 13), (⟨"StickyRoutes$Net", "moveCall", "(II)V"⟩, 13), (⟨"StickyRoutes$Net", "askByPlan", "()V"⟩, 13), (⟨"StickyRoutes", "refusedWith", "(III)I"⟩, 9), (⟨"StickyRoutes$Text", "skipBlanks", "()V"⟩, 7), (⟨"StickyRoutes$Text", "readOrder", "(I)V"⟩, 7), (⟨"StickyRoutes$Text", "readKind", "()I"⟩, 7)]
theorem lw_r1 : ∀ q ∈ lw_privs_1, lw_okq q := List.forall_mem_cons.mpr ⟨lw_p0, List.forall_mem_cons.mpr ⟨lw_p1, List.forall_mem_cons.mpr ⟨lw_p2, List.forall_mem_cons.mpr ⟨lw_p3, List.forall_mem_cons.mpr ⟨lw_p4, List.forall_mem_cons.mpr ⟨lw_p5, List.forall_mem_cons.mpr ⟨lw_p6, List.forall_mem_cons.mpr ⟨lw_p7, List.forall_mem_cons.mpr ⟨lw_p8, List.forall_mem_cons.mpr ⟨lw_p9, List.forall_mem_cons.mpr ⟨lw_p10, List.forall_mem_cons.mpr ⟨lw_p11, List.forall_mem_cons.mpr ⟨lw_p12, List.forall_mem_cons.mpr ⟨lw_p13, List.forall_mem_cons.mpr ⟨lw_p14, List.forall_mem_cons.mpr ⟨lw_p15, fun _ h => absurd h List.not_mem_nil⟩⟩⟩⟩⟩⟩⟩⟩⟩⟩⟩⟩⟩⟩⟩⟩
theorem lw_p16 : lw_okq (⟨"StickyRoutes$Text", "readTown", "(I)I"⟩, 7) := ⟨⟨by decide +kernel, by decide +kernel⟩, List.mem_of_getElem? (i := 89) (by decide +kernel), List.mem_of_getElem? (i := 391) (by decide +kernel), List.mem_of_getElem? (i := 392) (by decide +kernel)⟩
theorem lw_p17 : lw_okq (⟨"StickyRoutes$Text", "readFigure", "(I)I"⟩, 7) := ⟨⟨by decide +kernel, by decide +kernel⟩, List.mem_of_getElem? (i := 89) (by decide +kernel), List.mem_of_getElem? (i := 395) (by decide +kernel), List.mem_of_getElem? (i := 396) (by decide +kernel)⟩
theorem lw_p18 : lw_okq (⟨"StickyRoutes$Text", "readNumber", "(II)I"⟩, 7) := ⟨⟨by decide +kernel, by decide +kernel⟩, List.mem_of_getElem? (i := 89) (by decide +kernel), List.mem_of_getElem? (i := 399) (by decide +kernel), List.mem_of_getElem? (i := 400) (by decide +kernel)⟩
theorem lw_p19 : lw_okq (⟨"StickyRoutes$Text", "readEnd", "()V"⟩, 7) := ⟨⟨by decide +kernel, by decide +kernel⟩, List.mem_of_getElem? (i := 89) (by decide +kernel), List.mem_of_getElem? (i := 403) (by decide +kernel), List.mem_of_getElem? (i := 404) (by decide +kernel)⟩
theorem lw_p20 : lw_okq (⟨"StickyRoutesModel", "begins", "(I)V"⟩, 13) := ⟨⟨by decide +kernel, by decide +kernel⟩, List.mem_of_getElem? (i := 440) (by decide +kernel), List.mem_of_getElem? (i := 446) (by decide +kernel), List.mem_of_getElem? (i := 447) (by decide +kernel)⟩
theorem lw_p21 : lw_okq (⟨"StickyRoutesModel", "bads", "()I"⟩, 13) := ⟨⟨by decide +kernel, by decide +kernel⟩, List.mem_of_getElem? (i := 440) (by decide +kernel), List.mem_of_getElem? (i := 497) (by decide +kernel), List.mem_of_getElem? (i := 498) (by decide +kernel)⟩
theorem lw_p22 : lw_okq (⟨"StickyRoutesModel", "keeps", "()V"⟩, 13) := ⟨⟨by decide +kernel, by decide +kernel⟩, List.mem_of_getElem? (i := 440) (by decide +kernel), List.mem_of_getElem? (i := 501) (by decide +kernel), List.mem_of_getElem? (i := 502) (by decide +kernel)⟩
theorem lw_p23 : lw_okq (⟨"StickyRoutesModel", "areTowns", "(II)Z"⟩, 13) := ⟨⟨by decide +kernel, by decide +kernel⟩, List.mem_of_getElem? (i := 440) (by decide +kernel), List.mem_of_getElem? (i := 509) (by decide +kernel), List.mem_of_getElem? (i := 510) (by decide +kernel)⟩
theorem lw_p24 : lw_okq (⟨"StickyRoutesModel", "isTown", "(I)Z"⟩, 13) := ⟨⟨by decide +kernel, by decide +kernel⟩, List.mem_of_getElem? (i := 440) (by decide +kernel), List.mem_of_getElem? (i := 513) (by decide +kernel), List.mem_of_getElem? (i := 514) (by decide +kernel)⟩
theorem lw_p25 : lw_okq (⟨"StickyRoutesModel", "free", "(II)I"⟩, 13) := ⟨⟨by decide +kernel, by decide +kernel⟩, List.mem_of_getElem? (i := 440) (by decide +kernel), List.mem_of_getElem? (i := 541) (by decide +kernel), List.mem_of_getElem? (i := 542) (by decide +kernel)⟩
theorem lw_p26 : lw_okq (⟨"StickyRoutesModel", "holding", "(III)I"⟩, 13) := ⟨⟨by decide +kernel, by decide +kernel⟩, List.mem_of_getElem? (i := 440) (by decide +kernel), List.mem_of_getElem? (i := 545) (by decide +kernel), List.mem_of_getElem? (i := 546) (by decide +kernel)⟩
theorem lw_p27 : lw_okq (⟨"StickyRoutesModel", "asks", "(III)I"⟩, 13) := ⟨⟨by decide +kernel, by decide +kernel⟩, List.mem_of_getElem? (i := 440) (by decide +kernel), List.mem_of_getElem? (i := 557) (by decide +kernel), List.mem_of_getElem? (i := 558) (by decide +kernel)⟩
theorem lw_p28 : lw_okq (⟨"StickyRoutesModel", "counts", "(III)V"⟩, 13) := ⟨⟨by decide +kernel, by decide +kernel⟩, List.mem_of_getElem? (i := 440) (by decide +kernel), List.mem_of_getElem? (i := 561) (by decide +kernel), List.mem_of_getElem? (i := 562) (by decide +kernel)⟩
theorem lw_p29 : lw_okq (⟨"StickyRoutesModel", "goes", "(IIII)V"⟩, 13) := ⟨⟨by decide +kernel, by decide +kernel⟩, List.mem_of_getElem? (i := 440) (by decide +kernel), List.mem_of_getElem? (i := 565) (by decide +kernel), List.mem_of_getElem? (i := 566) (by decide +kernel)⟩
theorem lw_p30 : lw_okq (⟨"StickyRoutesModel", "hasMore", "(II)Z"⟩, 13) := ⟨⟨by decide +kernel, by decide +kernel⟩, List.mem_of_getElem? (i := 440) (by decide +kernel), List.mem_of_getElem? (i := 569) (by decide +kernel), List.mem_of_getElem? (i := 570) (by decide +kernel)⟩
theorem lw_p31 : lw_okq (⟨"StickyRoutesModel", "drawsSticky", "(II)V"⟩, 13) := ⟨⟨by decide +kernel, by decide +kernel⟩, List.mem_of_getElem? (i := 440) (by decide +kernel), List.mem_of_getElem? (i := 573) (by decide +kernel), List.mem_of_getElem? (i := 574) (by decide +kernel)⟩
def lw_privs_2 : List (MethodName × Nat) := [(⟨"StickyRoutes$Text", "readTown", "(I)I"⟩, 7), (⟨"StickyRoutes$Text", "readFigure", "(I)I"⟩, 7), (⟨"StickyRoutes$Text", "readNumber", "(II)I"⟩, 7), (⟨"StickyRoutes$Text", "readEnd", "()V"⟩, 7), (⟨"StickyRoutesModel", "begins", "(I)V"⟩, 13), (⟨"StickyRoutesModel", "bads", "()I"⟩, 13), (⟨"StickyRoutesModel", "keeps", "()V"⟩, 13), (⟨"StickyRoutesModel", "areTowns", "(II)Z"⟩, 13), (⟨"StickyRoutesModel", "isTown", "(I)Z"⟩, 13), (⟨"StickyRoutesModel", "free", "(II)I"⟩, 13), (⟨"StickyRoutesModel", "holding", "(III)I"⟩, 13), (⟨"StickyRoutesModel", "asks", "(III)I"⟩, 13), (⟨"StickyRoutesModel", "counts", "(III)V"⟩, 13), (⟨"StickyRoutesModel", "goes", "(IIII)V"⟩, 13), (⟨"StickyRoutesModel", "hasMore", "(II)Z"⟩, 13), (⟨"StickyRoutesModel", "drawsSticky", "(II)V"⟩, 13)]
theorem lw_r2 : ∀ q ∈ lw_privs_2, lw_okq q := List.forall_mem_cons.mpr ⟨lw_p16, List.forall_mem_cons.mpr ⟨lw_p17, List.forall_mem_cons.mpr ⟨lw_p18, List.forall_mem_cons.mpr ⟨lw_p19, List.forall_mem_cons.mpr ⟨lw_p20, List.forall_mem_cons.mpr ⟨lw_p21, List.forall_mem_cons.mpr ⟨lw_p22, List.forall_mem_cons.mpr ⟨lw_p23, List.forall_mem_cons.mpr ⟨lw_p24, List.forall_mem_cons.mpr ⟨lw_p25, List.forall_mem_cons.mpr ⟨lw_p26, List.forall_mem_cons.mpr ⟨lw_p27, List.forall_mem_cons.mpr ⟨lw_p28, List.forall_mem_cons.mpr ⟨lw_p29, List.forall_mem_cons.mpr ⟨lw_p30, List.forall_mem_cons.mpr ⟨lw_p31, fun _ h => absurd h List.not_mem_nil⟩⟩⟩⟩⟩⟩⟩⟩⟩⟩⟩⟩⟩⟩⟩⟩
theorem lw_p32 : lw_okq (⟨"StickyRoutesModel", "draws", "()V"⟩, 13) := ⟨⟨by decide +kernel, by decide +kernel⟩, List.mem_of_getElem? (i := 440) (by decide +kernel), List.mem_of_getElem? (i := 577) (by decide +kernel), List.mem_of_getElem? (i := 578) (by decide +kernel)⟩
theorem lw_p33 : lw_okq (⟨"StickyRoutesModel", "passes", "(I)I"⟩, 13) := ⟨⟨by decide +kernel, by decide +kernel⟩, List.mem_of_getElem? (i := 440) (by decide +kernel), List.mem_of_getElem? (i := 589) (by decide +kernel), List.mem_of_getElem? (i := 590) (by decide +kernel)⟩
theorem lw_p34 : lw_okq (⟨"StickyRoutesModel", "letsGo", "(I)V"⟩, 13) := ⟨⟨by decide +kernel, by decide +kernel⟩, List.mem_of_getElem? (i := 440) (by decide +kernel), List.mem_of_getElem? (i := 593) (by decide +kernel), List.mem_of_getElem? (i := 594) (by decide +kernel)⟩
theorem lw_p35 : lw_okq (⟨"StickyRoutesModel", "nos", "()I"⟩, 13) := ⟨⟨by decide +kernel, by decide +kernel⟩, List.mem_of_getElem? (i := 440) (by decide +kernel), List.mem_of_getElem? (i := 605) (by decide +kernel), List.mem_of_getElem? (i := 606) (by decide +kernel)⟩
theorem lw_p36 : lw_okq (⟨"StickyRoutesModel", "sumOf", "(I)I"⟩, 13) := ⟨⟨by decide +kernel, by decide +kernel⟩, List.mem_of_getElem? (i := 440) (by decide +kernel), List.mem_of_getElem? (i := 613) (by decide +kernel), List.mem_of_getElem? (i := 614) (by decide +kernel)⟩
theorem lw_p37 : lw_okq (⟨"StickyRoutesModel", "lostIn", "(II)I"⟩, 13) := ⟨⟨by decide +kernel, by decide +kernel⟩, List.mem_of_getElem? (i := 440) (by decide +kernel), List.mem_of_getElem? (i := 633) (by decide +kernel), List.mem_of_getElem? (i := 634) (by decide +kernel)⟩
theorem lw_p38 : lw_okq (⟨"StickyRoutesModel", "mayGo", "(III)Z"⟩, 13) := ⟨⟨by decide +kernel, by decide +kernel⟩, List.mem_of_getElem? (i := 440) (by decide +kernel), List.mem_of_getElem? (i := 645) (by decide +kernel), List.mem_of_getElem? (i := 646) (by decide +kernel)⟩
theorem lw_p39 : lw_okq (⟨"StickyRoutesModel", "order", "()V"⟩, 13) := ⟨⟨by decide +kernel, by decide +kernel⟩, List.mem_of_getElem? (i := 440) (by decide +kernel), List.mem_of_getElem? (i := 661) (by decide +kernel), List.mem_of_getElem? (i := 662) (by decide +kernel)⟩
theorem lw_p40 : lw_okq (⟨"StickyRoutesModel", "sign", "()I"⟩, 13) := ⟨⟨by decide +kernel, by decide +kernel⟩, List.mem_of_getElem? (i := 440) (by decide +kernel), List.mem_of_getElem? (i := 665) (by decide +kernel), List.mem_of_getElem? (i := 666) (by decide +kernel)⟩
theorem lw_p41 : lw_okq (⟨"StickyRoutesModel", "figure", "(II)I"⟩, 13) := ⟨⟨by decide +kernel, by decide +kernel⟩, List.mem_of_getElem? (i := 440) (by decide +kernel), List.mem_of_getElem? (i := 672) (by decide +kernel), List.mem_of_getElem? (i := 673) (by decide +kernel)⟩
theorem lw_p42 : lw_okq (⟨"StickyRoutesModel", "fails", "(I)V"⟩, 13) := ⟨⟨by decide +kernel, by decide +kernel⟩, List.mem_of_getElem? (i := 440) (by decide +kernel), List.mem_of_getElem? (i := 676) (by decide +kernel), List.mem_of_getElem? (i := 677) (by decide +kernel)⟩
theorem lw_p43 : lw_okq (⟨"StickyRoutesModel", "number", "(II)I"⟩, 13) := ⟨⟨by decide +kernel, by decide +kernel⟩, List.mem_of_getElem? (i := 440) (by decide +kernel), List.mem_of_getElem? (i := 680) (by decide +kernel), List.mem_of_getElem? (i := 681) (by decide +kernel)⟩
def lw_privs_3 : List (MethodName × Nat) := [(⟨"StickyRoutesModel", "draws", "()V"⟩, 13), (⟨"StickyRoutesModel", "passes", "(I)I"⟩, 13), (⟨"StickyRoutesModel", "letsGo", "(I)V"⟩, 13), (⟨"StickyRoutesModel", "nos", "()I"⟩, 13), (⟨"StickyRoutesModel", "sumOf", "(I)I"⟩, 13), (⟨"StickyRoutesModel", "lostIn", "(II)I"⟩, 13), (⟨"StickyRoutesModel", "mayGo", "(III)Z"⟩, 13), (⟨"StickyRoutesModel", "order", "()V"⟩, 13), (⟨"StickyRoutesModel", "sign", "()I"⟩, 13), (⟨"StickyRoutesModel", "figure", "(II)I"⟩, 13), (⟨"StickyRoutesModel", "fails", "(I)V"⟩, 13), (⟨"StickyRoutesModel", "number", "(II)I"⟩, 13)]
theorem lw_r3 : ∀ q ∈ lw_privs_3, lw_okq q := List.forall_mem_cons.mpr ⟨lw_p32, List.forall_mem_cons.mpr ⟨lw_p33, List.forall_mem_cons.mpr ⟨lw_p34, List.forall_mem_cons.mpr ⟨lw_p35, List.forall_mem_cons.mpr ⟨lw_p36, List.forall_mem_cons.mpr ⟨lw_p37, List.forall_mem_cons.mpr ⟨lw_p38, List.forall_mem_cons.mpr ⟨lw_p39, List.forall_mem_cons.mpr ⟨lw_p40, List.forall_mem_cons.mpr ⟨lw_p41, List.forall_mem_cons.mpr ⟨lw_p42, List.forall_mem_cons.mpr ⟨lw_p43, fun _ h => absurd h List.not_mem_nil⟩⟩⟩⟩⟩⟩⟩⟩⟩⟩⟩⟩
def lw_privs : List (MethodName × Nat) := lw_privs_1 ++ (lw_privs_2 ++ (lw_privs_3))
def lw_tbl : List Cond := k2_sels lw_privs ++ tables_1
theorem lw_privs_ok : ∀ q ∈ lw_privs, lw_okq q := by
  show ∀ q ∈ lw_privs_1 ++ (lw_privs_2 ++ (lw_privs_3)), lw_okq q
  exact List.forall_mem_append.mpr ⟨lw_r1, List.forall_mem_append.mpr ⟨lw_r2, lw_r3⟩⟩
def RX0 : String := "StickyRoutes$Net"
def TX0 : u_T := fun k => match k with
  | 0 => ("StickyRoutes$Net", "townCount", "I", false)
  | 1 => ("StickyRoutes$Net", "handsBack", "I", false)
  | 2 => ("StickyRoutes$Net", "x", "I", false)
  | 3 => ("StickyRoutes$Net", "hoursGone", "I", false)
  | 4 => ("StickyRoutes$Net", "callCount", "I", false)
  | 5 => ("StickyRoutes$Net", "wires", "[I", true)
  | 6 => ("StickyRoutes$Net", "reserves", "[I", true)
  | 7 => ("StickyRoutes$Net", "held", "[I", true)
  | 8 => ("StickyRoutes$Net", "stickies", "[I", true)
  | 9 => ("StickyRoutes$Net", "counts", "[I", true)
  | 10 => ("StickyRoutes$Net", "totals", "[I", true)
  | 11 => ("StickyRoutes$Net", "loads", "[I", true)
  | _ => ("StickyRoutes$Net", "calls", "[I", true)
def tyX0 : Nat → FieldType := fun k => match k with
  | 0 => .int
  | 1 => .int
  | 2 => .int
  | 3 => .int
  | 4 => .int
  | 5 => .array .int
  | 6 => .array .int
  | 7 => .array .int
  | 8 => .array .int
  | 9 => .array .int
  | 10 => .array .int
  | 11 => .array .int
  | _ => .array .int
theorem nmX0 : ∀ a, a < 13 → ∀ b, b < 13 → a ≠ b → (TX0 a).2.1 ≠ (TX0 b).2.1 := by decide +kernel
theorem tyX0_ok : ∀ k, k < 13 → parseFieldDescriptor (TX0 k).2.2.1 = some (tyX0 k) := by decide +kernel
abbrev cX0_init : ByteArray := prog_2_method_1_code
def yX0_init : MethodName := ⟨RX0, "<init>", "()V"⟩
abbrev cX0_pairCell : ByteArray := prog_2_method_2_code
def yX0_pairCell : MethodName := ⟨RX0, "pairCell", "(II)I"⟩
abbrev cX0_linkCell : ByteArray := prog_2_method_3_code
def yX0_linkCell : MethodName := ⟨RX0, "linkCell", "(II)I"⟩
abbrev cX0_begin : ByteArray := prog_2_method_4_code
def yX0_begin : MethodName := ⟨RX0, "begin", "(I)V"⟩
abbrev cX0_leastOther : ByteArray := prog_2_method_5_code
def yX0_leastOther : MethodName := ⟨RX0, "leastOther", "(II)I"⟩
abbrev cX0_fill : ByteArray := prog_2_method_6_code
def yX0_fill : MethodName := ⟨RX0, "fill", "([II)V"⟩
abbrev cX0_copyFrom : ByteArray := prog_2_method_7_code
def yX0_copyFrom : MethodName := ⟨RX0, "copyFrom", "(LStickyRoutes$Net;)V"⟩
abbrev cX0_freeWires : ByteArray := prog_2_method_8_code
def yX0_freeWires : MethodName := ⟨RX0, "freeWires", "(I)I"⟩
abbrev cX0_servesOver : ByteArray := prog_2_method_9_code
def yX0_servesOver : MethodName := ⟨RX0, "servesOver", "(I)Z"⟩
abbrev cX0_wayNow : ByteArray := prog_2_method_10_code
def yX0_wayNow : MethodName := ⟨RX0, "wayNow", "(II)I"⟩
abbrev cX0_hasAnyWay : ByteArray := prog_2_method_11_code
def yX0_hasAnyWay : MethodName := ⟨RX0, "hasAnyWay", "(II)Z"⟩
abbrev cX0_ask : ByteArray := prog_2_method_12_code
def yX0_ask : MethodName := ⟨RX0, "ask", "(III)I"⟩
abbrev cX0_count : ByteArray := prog_2_method_13_code
def yX0_count : MethodName := ⟨RX0, "count", "(II)V"⟩
abbrev cX0_advanceX : ByteArray := prog_2_method_14_code
def yX0_advanceX : MethodName := ⟨RX0, "advanceX", "()V"⟩
abbrev cX0_redraw : ByteArray := prog_2_method_15_code
def yX0_redraw : MethodName := ⟨RX0, "redraw", "(II)V"⟩
abbrev cX0_addCall : ByteArray := prog_2_method_16_code
def yX0_addCall : MethodName := ⟨RX0, "addCall", "(IIII)I"⟩
abbrev cX0_hold : ByteArray := prog_2_method_17_code
def yX0_hold : MethodName := ⟨RX0, "hold", "(II)V"⟩
abbrev cX0_endCall : ByteArray := prog_2_method_18_code
def yX0_endCall : MethodName := ⟨RX0, "endCall", "(I)V"⟩
abbrev cX0_passHours : ByteArray := prog_2_method_19_code
def yX0_passHours : MethodName := ⟨RX0, "passHours", "(I)I"⟩
abbrev cX0_endHour : ByteArray := prog_2_method_20_code
def yX0_endHour : MethodName := ⟨RX0, "endHour", "()I"⟩
abbrev cX0_moveCall : ByteArray := prog_2_method_21_code
def yX0_moveCall : MethodName := ⟨RX0, "moveCall", "(II)V"⟩
abbrev cX0_askByPlan : ByteArray := prog_2_method_22_code
def yX0_askByPlan : MethodName := ⟨RX0, "askByPlan", "()V"⟩
abbrev cX0_doOrder : ByteArray := prog_2_method_23_code
def yX0_doOrder : MethodName := ⟨RX0, "doOrder", "([II)Z"⟩
abbrev cX0_callsOverLink : ByteArray := prog_2_method_24_code
def yX0_callsOverLink : MethodName := ⟨RX0, "callsOverLink", "(I)I"⟩
abbrev cX0_wiresHeld : ByteArray := prog_2_method_25_code
def yX0_wiresHeld : MethodName := ⟨RX0, "wiresHeld", "()I"⟩
abbrev cX0_refusedAt : ByteArray := prog_2_method_26_code
def yX0_refusedAt : MethodName := ⟨RX0, "refusedAt", "(I)I"⟩
abbrev cX0_mostRefusedPair : ByteArray := prog_2_method_27_code
def yX0_mostRefusedPair : MethodName := ⟨RX0, "mostRefusedPair", "()I"⟩
abbrev cX0_scarcestLink : ByteArray := prog_2_method_28_code
def yX0_scarcestLink : MethodName := ⟨RX0, "scarcestLink", "()I"⟩
abbrev cX0_mixLinks : ByteArray := prog_2_method_29_code
def yX0_mixLinks : MethodName := ⟨RX0, "mixLinks", "(J)J"⟩
abbrev cX0_mixPairs : ByteArray := prog_2_method_30_code
def yX0_mixPairs : MethodName := ⟨RX0, "mixPairs", "(J)J"⟩
abbrev cX0_mixLoadsAndCalls : ByteArray := prog_2_method_31_code
def yX0_mixLoadsAndCalls : MethodName := ⟨RX0, "mixLoadsAndCalls", "(J)J"⟩
def RX1 : String := "StickyRoutes$Text"
def TX1 : u_T := fun k => match k with
  | 0 => ("StickyRoutes$Text", "bytes", "[I", true)
  | 1 => ("StickyRoutes$Text", "orders", "[I", true)
  | 2 => ("StickyRoutes$Text", "length", "I", false)
  | 3 => ("StickyRoutes$Text", "orderCount", "I", false)
  | 4 => ("StickyRoutes$Text", "townCount", "I", false)
  | 5 => ("StickyRoutes$Text", "place", "I", false)
  | _ => ("StickyRoutes$Text", "fault", "I", false)
def tyX1 : Nat → FieldType := fun k => match k with
  | 0 => .array .int
  | 1 => .array .int
  | 2 => .int
  | 3 => .int
  | 4 => .int
  | 5 => .int
  | _ => .int
theorem nmX1 : ∀ a, a < 7 → ∀ b, b < 7 → a ≠ b → (TX1 a).2.1 ≠ (TX1 b).2.1 := by decide +kernel
theorem tyX1_ok : ∀ k, k < 7 → parseFieldDescriptor (TX1 k).2.2.1 = some (tyX1 k) := by decide +kernel
abbrev cX1_init : ByteArray := prog_3_method_1_code
def yX1_init : MethodName := ⟨RX1, "<init>", "()V"⟩
abbrev cX1_append : ByteArray := prog_3_method_2_code
def yX1_append : MethodName := ⟨RX1, "append", "(I)Z"⟩
abbrev cX1_read : ByteArray := prog_3_method_3_code
def yX1_read : MethodName := ⟨RX1, "read", "(I)I"⟩
abbrev cX1_readOrder : ByteArray := prog_3_method_4_code
def yX1_readOrder : MethodName := ⟨RX1, "readOrder", "(I)V"⟩
abbrev cX1_readKind : ByteArray := prog_3_method_5_code
def yX1_readKind : MethodName := ⟨RX1, "readKind", "()I"⟩
abbrev cX1_readTown : ByteArray := prog_3_method_6_code
def yX1_readTown : MethodName := ⟨RX1, "readTown", "(I)I"⟩
abbrev cX1_readFigure : ByteArray := prog_3_method_7_code
def yX1_readFigure : MethodName := ⟨RX1, "readFigure", "(I)I"⟩
abbrev cX1_readNumber : ByteArray := prog_3_method_8_code
def yX1_readNumber : MethodName := ⟨RX1, "readNumber", "(II)I"⟩
abbrev cX1_readEnd : ByteArray := prog_3_method_9_code
def yX1_readEnd : MethodName := ⟨RX1, "readEnd", "()V"⟩
abbrev cX1_skipBlanks : ByteArray := prog_3_method_10_code
def yX1_skipBlanks : MethodName := ⟨RX1, "skipBlanks", "()V"⟩
abbrev cX1_isFigure : ByteArray := prog_3_method_11_code
def yX1_isFigure : MethodName := ⟨RX1, "isFigure", "(I)Z"⟩
def RX2 : String := "StickyRoutes"
def TX2 : u_T := fun k => match k with
  | 0 => ("StickyRoutes", "now", "LStickyRoutes$Net;", true)
  | 1 => ("StickyRoutes", "trial", "LStickyRoutes$Net;", true)
  | 2 => ("StickyRoutes", "states", "[LStickyRoutes$Net;", true)
  | 3 => ("StickyRoutes", "text", "LStickyRoutes$Text;", true)
  | 4 => ("StickyRoutes", "stateCount", "I", false)
  | 5 => ("StickyRoutes", "nextState", "I", false)
  | 6 => ("StickyRoutes", "badTimes", "I", false)
  | 7 => ("StickyRoutes", "noTimes", "I", false)
  | _ => ("StickyRoutes", "fullTimes", "I", false)
def tyX2 : Nat → FieldType := fun k => match k with
  | 0 => .object "StickyRoutes$Net"
  | 1 => .object "StickyRoutes$Net"
  | 2 => .array (.object "StickyRoutes$Net")
  | 3 => .object "StickyRoutes$Text"
  | 4 => .int
  | 5 => .int
  | 6 => .int
  | 7 => .int
  | _ => .int
theorem nmX2 : ∀ a, a < 9 → ∀ b, b < 9 → a ≠ b → (TX2 a).2.1 ≠ (TX2 b).2.1 := by decide +kernel
theorem tyX2_ok : ∀ k, k < 9 → parseFieldDescriptor (TX2 k).2.2.1 = some (tyX2 k) := by decide +kernel
abbrev cX2_init : ByteArray := prog_1_method_1_code
def yX2_init : MethodName := ⟨RX2, "<init>", "()V"⟩
abbrev cX2_towns : ByteArray := prog_1_method_2_code
def yX2_towns : MethodName := ⟨RX2, "towns", "(I)I"⟩
abbrev cX2_link : ByteArray := prog_1_method_3_code
def yX2_link : MethodName := ⟨RX2, "link", "(IIII)I"⟩
abbrev cX2_links : ByteArray := prog_1_method_4_code
def yX2_links : MethodName := ⟨RX2, "links", "(II)I"⟩
abbrev cX2_back : ByteArray := prog_1_method_5_code
def yX2_back : MethodName := ⟨RX2, "back", "(I)I"⟩
abbrev cX2_load : ByteArray := prog_1_method_6_code
def yX2_load : MethodName := ⟨RX2, "load", "(II)I"⟩
abbrev cX2_seed : ByteArray := prog_1_method_7_code
def yX2_seed : MethodName := ⟨RX2, "seed", "(I)I"⟩
abbrev cX2_of : ByteArray := prog_1_method_8_code
def yX2_of : MethodName := ⟨RX2, "of", "(III)I"⟩
abbrev cX2_sticky : ByteArray := prog_1_method_9_code
def yX2_sticky : MethodName := ⟨RX2, "sticky", "(II)I"⟩
abbrev cX2_call : ByteArray := prog_1_method_10_code
def yX2_call : MethodName := ⟨RX2, "call", "(III)I"⟩
abbrev cX2_hours : ByteArray := prog_1_method_11_code
def yX2_hours : MethodName := ⟨RX2, "hours", "(I)I"⟩
abbrev cX2_going : ByteArray := prog_1_method_12_code
def yX2_going : MethodName := ⟨RX2, "going", "(II)I"⟩
abbrev cX2_ends : ByteArray := prog_1_method_13_code
def yX2_ends : MethodName := ⟨RX2, "ends", "(I)I"⟩
abbrev cX2_all : ByteArray := prog_1_method_14_code
def yX2_all : MethodName := ⟨RX2, "all", "(I)I"⟩
abbrev cX2_pair : ByteArray := prog_1_method_15_code
def yX2_pair : MethodName := ⟨RX2, "pair", "(III)I"⟩
abbrev cX2_worst : ByteArray := prog_1_method_16_code
def yX2_worst : MethodName := ⟨RX2, "worst", "(I)I"⟩
abbrev cX2_burden : ByteArray := prog_1_method_17_code
def yX2_burden : MethodName := ⟨RX2, "burden", "()I"⟩
abbrev cX2_would : ByteArray := prog_1_method_18_code
def yX2_would : MethodName := ⟨RX2, "would", "(II)I"⟩
abbrev cX2_best : ByteArray := prog_1_method_19_code
def yX2_best : MethodName := ⟨RX2, "best", "(II)I"⟩
abbrev cX2_choked : ByteArray := prog_1_method_20_code
def yX2_choked : MethodName := ⟨RX2, "choked", "(I)I"⟩
abbrev cX2_type : ByteArray := prog_1_method_21_code
def yX2_type : MethodName := ⟨RX2, "type", "(I)I"⟩
abbrev cX2_clear : ByteArray := prog_1_method_22_code
def yX2_clear : MethodName := ⟨RX2, "clear", "()I"⟩
abbrev cX2_does : ByteArray := prog_1_method_23_code
def yX2_does : MethodName := ⟨RX2, "does", "()I"⟩
abbrev cX2_undo : ByteArray := prog_1_method_24_code
def yX2_undo : MethodName := ⟨RX2, "undo", "()I"⟩
abbrev cX2_told : ByteArray := prog_1_method_25_code
def yX2_told : MethodName := ⟨RX2, "told", "(I)I"⟩
abbrev cX2_digest : ByteArray := prog_1_method_26_code
def yX2_digest : MethodName := ⟨RX2, "digest", "()J"⟩
abbrev cX2_within : ByteArray := prog_1_method_27_code
def yX2_within : MethodName := ⟨RX2, "within", "(III)Z"⟩
abbrev cX2_isPair : ByteArray := prog_1_method_28_code
def yX2_isPair : MethodName := ⟨RX2, "isPair", "(II)Z"⟩
abbrev cX2_refuse : ByteArray := prog_1_method_29_code
def yX2_refuse : MethodName := ⟨RX2, "refuse", "(I)I"⟩
abbrev cX2_keepState : ByteArray := prog_1_method_30_code
def yX2_keepState : MethodName := ⟨RX2, "keepState", "()V"⟩
abbrev cX2_refusedWith : ByteArray := prog_1_method_31_code
def yX2_refusedWith : MethodName := ⟨RX2, "refusedWith", "(III)I"⟩
def RX3 : String := "StickyRoutesModel"
def TX3 : u_T := fun k => match k with
  | 0 => ("StickyRoutesModel", "now", "[I", true)
  | 1 => ("StickyRoutesModel", "aside", "[I", true)
  | 2 => ("StickyRoutesModel", "past", "[I", true)
  | 3 => ("StickyRoutesModel", "states", "I", false)
  | 4 => ("StickyRoutesModel", "text", "[I", true)
  | 5 => ("StickyRoutesModel", "typed", "I", false)
  | 6 => ("StickyRoutesModel", "at", "I", false)
  | 7 => ("StickyRoutesModel", "fault", "I", false)
  | 8 => ("StickyRoutesModel", "orders", "[I", true)
  | 9 => ("StickyRoutesModel", "many", "I", false)
  | 10 => ("StickyRoutesModel", "bad", "I", false)
  | 11 => ("StickyRoutesModel", "no", "I", false)
  | _ => ("StickyRoutesModel", "full", "I", false)
def tyX3 : Nat → FieldType := fun k => match k with
  | 0 => .array .int
  | 1 => .array .int
  | 2 => .array .int
  | 3 => .int
  | 4 => .array .int
  | 5 => .int
  | 6 => .int
  | 7 => .int
  | 8 => .array .int
  | 9 => .int
  | 10 => .int
  | 11 => .int
  | _ => .int
theorem nmX3 : ∀ a, a < 13 → ∀ b, b < 13 → a ≠ b → (TX3 a).2.1 ≠ (TX3 b).2.1 := by decide +kernel
theorem tyX3_ok : ∀ k, k < 13 → parseFieldDescriptor (TX3 k).2.2.1 = some (tyX3 k) := by decide +kernel
abbrev cX3_init : ByteArray := prog_5_method_1_code
def yX3_init : MethodName := ⟨RX3, "<init>", "()V"⟩
abbrev cX3_begins : ByteArray := prog_5_method_3_code
def yX3_begins : MethodName := ⟨RX3, "begins", "(I)V"⟩
abbrev cX3_in : ByteArray := prog_5_method_4_code
def yX3_in : MethodName := ⟨RX3, "in", "(III)Z"⟩
abbrev cX3_bads : ByteArray := prog_5_method_5_code
def yX3_bads : MethodName := ⟨RX3, "bads", "()I"⟩
abbrev cX3_nos : ByteArray := prog_5_method_6_code
def yX3_nos : MethodName := ⟨RX3, "nos", "()I"⟩
abbrev cX3_isTown : ByteArray := prog_5_method_7_code
def yX3_isTown : MethodName := ⟨RX3, "isTown", "(I)Z"⟩
abbrev cX3_areTowns : ByteArray := prog_5_method_8_code
def yX3_areTowns : MethodName := ⟨RX3, "areTowns", "(II)Z"⟩
abbrev cX3_keeps : ByteArray := prog_5_method_9_code
def yX3_keeps : MethodName := ⟨RX3, "keeps", "()V"⟩
abbrev cX3_pairOf : ByteArray := prog_5_method_10_code
def yX3_pairOf : MethodName := ⟨RX3, "pairOf", "(II)I"⟩
abbrev cX3_towns : ByteArray := prog_5_method_11_code
def yX3_towns : MethodName := ⟨RX3, "towns", "(I)I"⟩
abbrev cX3_link : ByteArray := prog_5_method_12_code
def yX3_link : MethodName := ⟨RX3, "link", "(IIII)I"⟩
abbrev cX3_links : ByteArray := prog_5_method_13_code
def yX3_links : MethodName := ⟨RX3, "links", "(II)I"⟩
abbrev cX3_back : ByteArray := prog_5_method_14_code
def yX3_back : MethodName := ⟨RX3, "back", "(I)I"⟩
abbrev cX3_load : ByteArray := prog_5_method_15_code
def yX3_load : MethodName := ⟨RX3, "load", "(II)I"⟩
abbrev cX3_seed : ByteArray := prog_5_method_16_code
def yX3_seed : MethodName := ⟨RX3, "seed", "(I)I"⟩
abbrev cX3_holding : ByteArray := prog_5_method_17_code
def yX3_holding : MethodName := ⟨RX3, "holding", "(III)I"⟩
abbrev cX3_free : ByteArray := prog_5_method_18_code
def yX3_free : MethodName := ⟨RX3, "free", "(II)I"⟩
abbrev cX3_of : ByteArray := prog_5_method_19_code
def yX3_of : MethodName := ⟨RX3, "of", "(III)I"⟩
abbrev cX3_sticky : ByteArray := prog_5_method_20_code
def yX3_sticky : MethodName := ⟨RX3, "sticky", "(II)I"⟩
abbrev cX3_draws : ByteArray := prog_5_method_21_code
def yX3_draws : MethodName := ⟨RX3, "draws", "()V"⟩
abbrev cX3_drawsSticky : ByteArray := prog_5_method_22_code
def yX3_drawsSticky : MethodName := ⟨RX3, "drawsSticky", "(II)V"⟩
abbrev cX3_hasMore : ByteArray := prog_5_method_23_code
def yX3_hasMore : MethodName := ⟨RX3, "hasMore", "(II)Z"⟩
abbrev cX3_counts : ByteArray := prog_5_method_24_code
def yX3_counts : MethodName := ⟨RX3, "counts", "(III)V"⟩
abbrev cX3_goes : ByteArray := prog_5_method_25_code
def yX3_goes : MethodName := ⟨RX3, "goes", "(IIII)V"⟩
abbrev cX3_asks : ByteArray := prog_5_method_26_code
def yX3_asks : MethodName := ⟨RX3, "asks", "(III)I"⟩
abbrev cX3_call : ByteArray := prog_5_method_27_code
def yX3_call : MethodName := ⟨RX3, "call", "(III)I"⟩
abbrev cX3_letsGo : ByteArray := prog_5_method_28_code
def yX3_letsGo : MethodName := ⟨RX3, "letsGo", "(I)V"⟩
abbrev cX3_passes : ByteArray := prog_5_method_29_code
def yX3_passes : MethodName := ⟨RX3, "passes", "(I)I"⟩
abbrev cX3_hours : ByteArray := prog_5_method_30_code
def yX3_hours : MethodName := ⟨RX3, "hours", "(I)I"⟩
abbrev cX3_going : ByteArray := prog_5_method_31_code
def yX3_going : MethodName := ⟨RX3, "going", "(II)I"⟩
abbrev cX3_ends : ByteArray := prog_5_method_32_code
def yX3_ends : MethodName := ⟨RX3, "ends", "(I)I"⟩
abbrev cX3_sumOf : ByteArray := prog_5_method_33_code
def yX3_sumOf : MethodName := ⟨RX3, "sumOf", "(I)I"⟩
abbrev cX3_all : ByteArray := prog_5_method_34_code
def yX3_all : MethodName := ⟨RX3, "all", "(I)I"⟩
abbrev cX3_pair : ByteArray := prog_5_method_35_code
def yX3_pair : MethodName := ⟨RX3, "pair", "(III)I"⟩
abbrev cX3_worst : ByteArray := prog_5_method_36_code
def yX3_worst : MethodName := ⟨RX3, "worst", "(I)I"⟩
abbrev cX3_burden : ByteArray := prog_5_method_37_code
def yX3_burden : MethodName := ⟨RX3, "burden", "()I"⟩
abbrev cX3_lostIn : ByteArray := prog_5_method_38_code
def yX3_lostIn : MethodName := ⟨RX3, "lostIn", "(II)I"⟩
abbrev cX3_would : ByteArray := prog_5_method_39_code
def yX3_would : MethodName := ⟨RX3, "would", "(II)I"⟩
abbrev cX3_best : ByteArray := prog_5_method_40_code
def yX3_best : MethodName := ⟨RX3, "best", "(II)I"⟩
abbrev cX3_mayGo : ByteArray := prog_5_method_41_code
def yX3_mayGo : MethodName := ⟨RX3, "mayGo", "(III)Z"⟩
abbrev cX3_choked : ByteArray := prog_5_method_42_code
def yX3_choked : MethodName := ⟨RX3, "choked", "(I)I"⟩
abbrev cX3_type : ByteArray := prog_5_method_43_code
def yX3_type : MethodName := ⟨RX3, "type", "(I)I"⟩
abbrev cX3_clear : ByteArray := prog_5_method_44_code
def yX3_clear : MethodName := ⟨RX3, "clear", "()I"⟩
abbrev cX3_sign : ByteArray := prog_5_method_45_code
def yX3_sign : MethodName := ⟨RX3, "sign", "()I"⟩
abbrev cX3_fails : ByteArray := prog_5_method_46_code
def yX3_fails : MethodName := ⟨RX3, "fails", "(I)V"⟩
abbrev cX3_isFigure : ByteArray := prog_5_method_47_code
def yX3_isFigure : MethodName := ⟨RX3, "isFigure", "(I)Z"⟩
abbrev cX3_figure : ByteArray := prog_5_method_48_code
def yX3_figure : MethodName := ⟨RX3, "figure", "(II)I"⟩
abbrev cX3_number : ByteArray := prog_5_method_49_code
def yX3_number : MethodName := ⟨RX3, "number", "(II)I"⟩
abbrev cX3_order : ByteArray := prog_5_method_50_code
def yX3_order : MethodName := ⟨RX3, "order", "()V"⟩
abbrev cX3_does : ByteArray := prog_5_method_51_code
def yX3_does : MethodName := ⟨RX3, "does", "()I"⟩
abbrev cX3_undo : ByteArray := prog_5_method_52_code
def yX3_undo : MethodName := ⟨RX3, "undo", "()I"⟩
abbrev cX3_told : ByteArray := prog_5_method_53_code
def yX3_told : MethodName := ⟨RX3, "told", "(I)I"⟩
abbrev cX3_digest : ByteArray := prog_5_method_54_code
def yX3_digest : MethodName := ⟨RX3, "digest", "()J"⟩
def RJ9 : String := "java/lang/Math"
abbrev cJ9_floorMod_7cf53 : ByteArray := prog_6_method_50_code
def yJ9_floorMod_7cf53 : MethodName := ⟨RJ9, "floorMod", "(II)I"⟩
abbrev cJ9_max_7cf53 : ByteArray := prog_6_method_65_code
def yJ9_max_7cf53 : MethodName := ⟨RJ9, "max", "(II)I"⟩
abbrev cJ9_min_7cf53 : ByteArray := prog_6_method_69_code
def yJ9_min_7cf53 : MethodName := ⟨RJ9, "min", "(II)I"⟩
def RL : String := "StickyRoutesLaw"
abbrev cls_ : List vw_C := [(RX0, TX0, 13), (RX1, TX1, 7), (RX2, TX2, 9), (RX3, TX3, 13)]
theorem inwX0 : u_ws RX0 TX0 13 = ([103, 105, 107, 109, 111, 113, 115, 117, 119, 121, 123, 125, 127] : List Nat).filterMap (fun i => lw_tbl[i]?) := by decide +kernel
theorem inlX0 : ∀ w ∈ u_ws RX0 TX0 13, w ∈ lw_tbl := fun w h => by rw [inwX0] at h; obtain ⟨i, -, hi⟩ := List.mem_filterMap.mp h; exact List.mem_of_getElem? hi
theorem inwX1 : u_ws RX1 TX1 7 = ([148, 150, 152, 154, 156, 158, 160] : List Nat).filterMap (fun i => lw_tbl[i]?) := by decide +kernel
theorem inlX1 : ∀ w ∈ u_ws RX1 TX1 7, w ∈ lw_tbl := fun w h => by rw [inwX1] at h; obtain ⟨i, -, hi⟩ := List.mem_filterMap.mp h; exact List.mem_of_getElem? hi
theorem inwX2 : u_ws RX2 TX2 9 = ([172, 174, 176, 178, 180, 182, 184, 186, 188] : List Nat).filterMap (fun i => lw_tbl[i]?) := by decide +kernel
theorem inlX2 : ∀ w ∈ u_ws RX2 TX2 9, w ∈ lw_tbl := fun w h => by rw [inwX2] at h; obtain ⟨i, -, hi⟩ := List.mem_filterMap.mp h; exact List.mem_of_getElem? hi
theorem inwX3 : u_ws RX3 TX3 13 = ([506, 508, 510, 512, 514, 516, 518, 520, 522, 524, 526, 528, 530] : List Nat).filterMap (fun i => lw_tbl[i]?) := by decide +kernel
theorem inlX3 : ∀ w ∈ u_ws RX3 TX3 13, w ∈ lw_tbl := fun w h => by rw [inwX3] at h; obtain ⟨i, -, hi⟩ := List.mem_filterMap.mp h; exact List.mem_of_getElem? hi
def FLk : List (String × Nat × Nat × Nat) := [(RX2, 10, 2, 0), (RX2, 16, 2, 1), (RX2, 19, 2, 2), (RX2, 26, 2, 3), (RX2, 41, 0, 0), (RX2, 53, 0, 5), (RX2, 57, 0, 6), (RX2, 68, 0, 1), (RX2, 71, 0, 11), (RX2, 75, 0, 2), (RX2, 84, 0, 8), (RX2, 90, 0, 4), (RX2, 100, 0, 12), (RX2, 106, 0, 10), (RX2, 109, 0, 9), (RX2, 139, 1, 2), (RX2, 145, 1, 3), (RX2, 148, 1, 1), (RX2, 155, 2, 4), (RX2, 158, 2, 5), (RX2, 165, 2, 6), (RX2, 168, 2, 7), (RX2, 171, 2, 8), (RX2, 174, 0, 3), (RX0, 11, 0, 5), (RX0, 15, 0, 6), (RX0, 18, 0, 7), (RX0, 21, 0, 8), (RX0, 24, 0, 9), (RX0, 27, 0, 10), (RX0, 30, 0, 11), (RX0, 33, 0, 12), (RX0, 40, 0, 0), (RX0, 44, 0, 1), (RX0, 47, 0, 2), (RX0, 50, 0, 3), (RX0, 53, 0, 4), (RX1, 11, 1, 0), (RX1, 15, 1, 1), (RX1, 18, 1, 2), (RX1, 22, 1, 4), (RX1, 25, 1, 5), (RX1, 28, 1, 6), (RX1, 31, 1, 3), (RX3, 7, 3, 0), (RX3, 13, 3, 1), (RX3, 16, 3, 2), (RX3, 19, 3, 4), (RX3, 22, 3, 8), (RX3, 29, 3, 10), (RX3, 33, 3, 11), (RX3, 44, 3, 3), (RX3, 95, 3, 12), (RX3, 120, 3, 5), (RX3, 123, 3, 6), (RX3, 126, 3, 7), (RX3, 138, 3, 9)]
def FLw : List Nat := [163, 164, 165, 166, 78, 89, 91, 81, 100, 83, 94, 87, 102, 98, 96, 142, 144, 140, 167, 168, 169, 170, 171, 85, 88, 90, 92, 93, 95, 97, 99, 101, 79, 80, 82, 84, 86, 138, 139, 141, 145, 146, 147, 143, 493, 494, 495, 497, 501, 503, 504, 496, 505, 498, 499, 500, 502]
def CIk : List (String × Nat × Nat) := [(RX2, 74, 999999), (RX2, 125, 1000000), (RX0, 110, 65536), (RX3, 62, 999999), (RX3, 79, 65536)]
def CIw : List Nat := [242, 381, 293, 579, 627]
def CLk : List (String × Nat × Nat) := [(RX2, 177, 2129), (RX2, 179, 31), (RX0, 101, 1103515245), (RX0, 103, 12345), (RX0, 105, 2147483648), (RX0, 144, 31), (RX3, 70, 1103515245), (RX3, 72, 12345), (RX3, 74, 2147483648), (RX3, 150, 2129), (RX3, 152, 31)]
def CLw : List Nat := [467, 468, 290, 291, 292, 474, 624, 625, 626, 739, 740]
